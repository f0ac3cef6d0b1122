section
/-- a private method of a class that the tables say can be made, by its rows of tables_1 -/
def lw_okq (q : MethodName × Nat) : Prop := (q.1.cls ≠ "java/lang/invoke/MethodHandle" ∧ q.1.cls ≠ "java/lang/invoke/VarHandle") ∧ Cond.instantiable q.1.cls q.2 ∈ tables_1 ∧ Cond.privateMethod q.1 ∈ tables_1 ∧ Cond.instanceMethod q.1 ∈ tables_1
theorem lw_p0 : lw_okq (⟨"SaleRounds$Reader", "advance", "()V"⟩, 9) := ⟨⟨by decide +kernel, by decide +kernel⟩, List.mem_of_getElem? (i := 29) (by decide +kernel), List.mem_of_getElem? (i := 375) (by decide +kernel), List.mem_of_getElem? (i := 376) (by decide +kernel)⟩
theorem lw_p1 : lw_okq (⟨"SaleRounds$Reader", "takeWord", "()V"⟩, 9) := ⟨⟨by decide +kernel, by decide +kernel⟩, List.mem_of_getElem? (i := 29) (by decide +kernel), List.mem_of_getElem? (i := 382) (by decide +kernel), List.mem_of_getElem? (i := 383) (by decide +kernel)⟩
theorem lw_p2 : lw_okq (⟨"SaleRounds$Reader", "takeNumber", "()V"⟩, 9) := ⟨⟨by decide +kernel, by decide +kernel⟩, List.mem_of_getElem? (i := 29) (by decide +kernel), List.mem_of_getElem? (i := 389) (by decide +kernel), List.mem_of_getElem? (i := 390) (by decide +kernel)⟩
theorem lw_p3 : lw_okq (⟨"SaleRounds$Reader", "readLand", "(LSaleRounds$Book;)Z"⟩, 9) := ⟨⟨by decide +kernel, by decide +kernel⟩, List.mem_of_getElem? (i := 29) (by decide +kernel), List.mem_of_getElem? (i := 394) (by decide +kernel), List.mem_of_getElem? (i := 395) (by decide +kernel)⟩
theorem lw_p4 : lw_okq (⟨"SaleRounds$Reader", "newName", "(LSaleRounds$Names;I)I"⟩, 9) := ⟨⟨by decide +kernel, by decide +kernel⟩, List.mem_of_getElem? (i := 29) (by decide +kernel), List.mem_of_getElem? (i := 398) (by decide +kernel), List.mem_of_getElem? (i := 399) (by decide +kernel)⟩
theorem lw_p5 : lw_okq (⟨"SaleRounds$Reader", "fail", "(I)Z"⟩, 9) := ⟨⟨by decide +kernel, by decide +kernel⟩, List.mem_of_getElem? (i := 29) (by decide +kernel), List.mem_of_getElem? (i := 402) (by decide +kernel), List.mem_of_getElem? (i := 403) (by decide +kernel)⟩
theorem lw_p6 : lw_okq (⟨"SaleRounds$Reader", "numberWithin", "(II)I"⟩, 9) := ⟨⟨by decide +kernel, by decide +kernel⟩, List.mem_of_getElem? (i := 29) (by decide +kernel), List.mem_of_getElem? (i := 413) (by decide +kernel), List.mem_of_getElem? (i := 414) (by decide +kernel)⟩
theorem lw_p7 : lw_okq (⟨"SaleRounds$Reader", "lineEnds", "()Z"⟩, 9) := ⟨⟨by decide +kernel, by decide +kernel⟩, List.mem_of_getElem? (i := 29) (by decide +kernel), List.mem_of_getElem? (i := 424) (by decide +kernel), List.mem_of_getElem? (i := 425) (by decide +kernel)⟩
theorem lw_p8 : lw_okq (⟨"SaleRounds$Reader", "readGood", "(LSaleRounds$Book;)Z"⟩, 9) := ⟨⟨by decide +kernel, by decide +kernel⟩, List.mem_of_getElem? (i := 29) (by decide +kernel), List.mem_of_getElem? (i := 428) (by decide +kernel), List.mem_of_getElem? (i := 429) (by decide +kernel)⟩
theorem lw_p9 : lw_okq (⟨"SaleRounds$Reader", "readFirm", "(LSaleRounds$Book;)Z"⟩, 9) := ⟨⟨by decide +kernel, by decide +kernel⟩, List.mem_of_getElem? (i := 29) (by decide +kernel), List.mem_of_getElem? (i := 432) (by decide +kernel), List.mem_of_getElem? (i := 433) (by decide +kernel)⟩
theorem lw_p10 : lw_okq (⟨"SaleRounds$Reader", "toldName", "(LSaleRounds$Names;)I"⟩, 9) := ⟨⟨by decide +kernel, by decide +kernel⟩, List.mem_of_getElem? (i := 29) (by decide +kernel), List.mem_of_getElem? (i := 436) (by decide +kernel), List.mem_of_getElem? (i := 437) (by decide +kernel)⟩
theorem lw_p11 : lw_okq (⟨"SaleRounds$Reader", "readTie", "(LSaleRounds$Book;I)Z"⟩, 9) := ⟨⟨by decide +kernel, by decide +kernel⟩, List.mem_of_getElem? (i := 29) (by decide +kernel), List.mem_of_getElem? (i := 445) (by decide +kernel), List.mem_of_getElem? (i := 446) (by decide +kernel)⟩
theorem lw_p12 : lw_okq (⟨"SaleRounds$Reader", "readSale", "(LSaleRounds$Book;)Z"⟩, 9) := ⟨⟨by decide +kernel, by decide +kernel⟩, List.mem_of_getElem? (i := 29) (by decide +kernel), List.mem_of_getElem? (i := 451) (by decide +kernel), List.mem_of_getElem? (i := 452) (by decide +kernel)⟩
theorem lw_p13 : lw_okq (⟨"SaleRounds$Reader", "readDay", "(I)I"⟩, 9) := ⟨⟨by decide +kernel, by decide +kernel⟩, List.mem_of_getElem? (i := 29) (by decide +kernel), List.mem_of_getElem? (i := 462) (by decide +kernel), List.mem_of_getElem? (i := 463) (by decide +kernel)⟩
theorem lw_p14 : lw_okq (⟨"SaleRounds$Reader", "readMark", "()I"⟩, 9) := ⟨⟨by decide +kernel, by decide +kernel⟩, List.mem_of_getElem? (i := 29) (by decide +kernel), List.mem_of_getElem? (i := 467) (by decide +kernel), List.mem_of_getElem? (i := 468) (by decide +kernel)⟩
theorem lw_p15 : lw_okq (⟨"SaleRounds$Reader", "readPaid", "(LSaleRounds$Book;)Z"⟩, 9) := ⟨⟨by decide +kernel, by decide +kernel⟩, List.mem_of_getElem? (i := 29) (by decide +kernel), List.mem_of_getElem? (i := 476) (by decide +kernel), List.mem_of_getElem? (i := 477) (by decide +kernel)⟩
def lw_privs_1 : List (MethodName × Nat) := [(⟨"SaleRounds$Reader", "advance", "()V"⟩, 9), (⟨"SaleRounds$Reader", "takeWord", "()V"⟩, 9), (⟨"SaleRounds$Reader", "takeNumber", "()V"⟩, 9), (⟨"SaleRounds$Reader", "readLand", "(LSaleRounds$Book;)Z"⟩, 9), (⟨"SaleRounds$Reader", "newName", "(LSaleRounds$Names;I)I"⟩, 9), (⟨"SaleRounds$Reader", "fail", "(I)Z"⟩, 9), (⟨"SaleRounds$Reader", "numberWithin", "(II)I"⟩, 9), (⟨"SaleRounds$Reader", "lineEnds", "()Z"⟩, 9), (⟨"SaleRounds$Reader", "readGood", "(LSaleRounds$Book;)Z"⟩, 9), (⟨"SaleRounds$Reader", "readFirm", "(LSaleRounds$Book;)Z"⟩, 9), (⟨"SaleRounds$Reader", "toldName", "(LSaleRounds$Names;)I"⟩, 9), (⟨"SaleRounds$Reader", "readTie", "(LSaleRounds$Book;I)Z"⟩, 9), (⟨"SaleRounds$Reader", "readSale", "(LSaleRounds$Book;)Z"⟩, 9), (⟨"SaleRounds$Reader", "readDay", "(I)I"⟩, 9), (⟨"SaleRounds$Reader", "readMark", "()I"⟩, 9), (⟨"SaleRounds$Reader", "readPaid", "(LSaleRounds$Book;)Z"⟩, 9)]
theorem lw_r1 : ∀ q ∈ lw_privs_1, lw_okq q := List.forall_mem_cons.mpr ⟨lw_p0, List.forall_mem_cons.mpr ⟨lw_p1, List.forall_mem_cons.mpr ⟨lw_p2, List.forall_mem_cons.mpr ⟨lw_p3, List.forall_mem_cons.mpr ⟨lw_p4, List.forall_mem_cons.mpr ⟨lw_p5, List.forall_mem_cons.mpr ⟨lw_p6, List.forall_mem_cons.mpr ⟨lw_p7, List.forall_mem_cons.mpr ⟨lw_p8, List.forall_mem_cons.mpr ⟨lw_p9, List.forall_mem_cons.mpr ⟨lw_p10, List.forall_mem_cons.mpr ⟨lw_p11, List.forall_mem_cons.mpr ⟨lw_p12, List.forall_mem_cons.mpr ⟨lw_p13, List.forall_mem_cons.mpr ⟨lw_p14, List.forall_mem_cons.mpr ⟨lw_p15, fun _ h => absurd h List.not_mem_nil⟩⟩⟩⟩⟩⟩⟩⟩⟩⟩⟩⟩⟩⟩⟩⟩
theorem lw_p16 : lw_okq (⟨"SaleRounds$Book", "areJoined", "(II)Z"⟩, 13) := ⟨⟨by decide +kernel, by decide +kernel⟩, List.mem_of_getElem? (i := 169) (by decide +kernel), List.mem_of_getElem? (i := 485) (by decide +kernel), List.mem_of_getElem? (i := 486) (by decide +kernel)⟩
theorem lw_p17 : lw_okq (⟨"SaleRounds$Book", "mergeParties", "(II)V"⟩, 13) := ⟨⟨by decide +kernel, by decide +kernel⟩, List.mem_of_getElem? (i := 169) (by decide +kernel), List.mem_of_getElem? (i := 489) (by decide +kernel), List.mem_of_getElem? (i := 490) (by decide +kernel)⟩
theorem lw_p18 : lw_okq (⟨"SaleRounds$Book", "tally", "(I)V"⟩, 13) := ⟨⟨by decide +kernel, by decide +kernel⟩, List.mem_of_getElem? (i := 169) (by decide +kernel), List.mem_of_getElem? (i := 520) (by decide +kernel), List.mem_of_getElem? (i := 521) (by decide +kernel)⟩
theorem lw_p19 : lw_okq (⟨"SaleRounds$Book", "taxEach", "(II)I"⟩, 13) := ⟨⟨by decide +kernel, by decide +kernel⟩, List.mem_of_getElem? (i := 169) (by decide +kernel), List.mem_of_getElem? (i := 528) (by decide +kernel), List.mem_of_getElem? (i := 529) (by decide +kernel)⟩
theorem lw_p20 : lw_okq (⟨"SaleRounds", "gather", "(III)I"⟩, 11) := ⟨⟨by decide +kernel, by decide +kernel⟩, List.mem_of_getElem? (i := 21) (by decide +kernel), List.mem_of_getElem? (i := 556) (by decide +kernel), List.mem_of_getElem? (i := 557) (by decide +kernel)⟩
theorem lw_p21 : lw_okq (⟨"SaleRounds$Finder", "linkSales", "()V"⟩, 17) := ⟨⟨by decide +kernel, by decide +kernel⟩, List.mem_of_getElem? (i := 67) (by decide +kernel), List.mem_of_getElem? (i := 572) (by decide +kernel), List.mem_of_getElem? (i := 573) (by decide +kernel)⟩
theorem lw_p22 : lw_okq (⟨"SaleRounds$Finder", "measure", "(I)V"⟩, 17) := ⟨⟨by decide +kernel, by decide +kernel⟩, List.mem_of_getElem? (i := 67) (by decide +kernel), List.mem_of_getElem? (i := 576) (by decide +kernel), List.mem_of_getElem? (i := 577) (by decide +kernel)⟩
theorem lw_p23 : lw_okq (⟨"SaleRounds$Finder", "extend", "(JIII)V"⟩, 17) := ⟨⟨by decide +kernel, by decide +kernel⟩, List.mem_of_getElem? (i := 67) (by decide +kernel), List.mem_of_getElem? (i := 580) (by decide +kernel), List.mem_of_getElem? (i := 581) (by decide +kernel)⟩
theorem lw_p24 : lw_okq (⟨"SaleRounds$Finder", "keep", "(JI)V"⟩, 17) := ⟨⟨by decide +kernel, by decide +kernel⟩, List.mem_of_getElem? (i := 67) (by decide +kernel), List.mem_of_getElem? (i := 584) (by decide +kernel), List.mem_of_getElem? (i := 585) (by decide +kernel)⟩
theorem lw_p25 : lw_okq (⟨"SaleRounds$Sales", "alike", "(III)Z"⟩, 9) := ⟨⟨by decide +kernel, by decide +kernel⟩, List.mem_of_getElem? (i := 191) (by decide +kernel), List.mem_of_getElem? (i := 623) (by decide +kernel), List.mem_of_getElem? (i := 624) (by decide +kernel)⟩
theorem lw_p26 : lw_okq (⟨"SaleRounds$Streams", "load", "(LSaleRounds$Sales;II)V"⟩, 11) := ⟨⟨by decide +kernel, by decide +kernel⟩, List.mem_of_getElem? (i := 129) (by decide +kernel), List.mem_of_getElem? (i := 639) (by decide +kernel), List.mem_of_getElem? (i := 640) (by decide +kernel)⟩
theorem lw_p27 : lw_okq (⟨"SaleRounds$Streams", "seekHome", "()I"⟩, 11) := ⟨⟨by decide +kernel, by decide +kernel⟩, List.mem_of_getElem? (i := 129) (by decide +kernel), List.mem_of_getElem? (i := 644) (by decide +kernel), List.mem_of_getElem? (i := 645) (by decide +kernel)⟩
theorem lw_p28 : lw_okq (⟨"SaleRounds$Streams", "visit", "(II)V"⟩, 11) := ⟨⟨by decide +kernel, by decide +kernel⟩, List.mem_of_getElem? (i := 129) (by decide +kernel), List.mem_of_getElem? (i := 648) (by decide +kernel), List.mem_of_getElem? (i := 649) (by decide +kernel)⟩
theorem lw_p29 : lw_okq (⟨"SaleRounds$Streams", "spreadIn", "(I)V"⟩, 11) := ⟨⟨by decide +kernel, by decide +kernel⟩, List.mem_of_getElem? (i := 129) (by decide +kernel), List.mem_of_getElem? (i := 652) (by decide +kernel), List.mem_of_getElem? (i := 653) (by decide +kernel)⟩
theorem lw_p30 : lw_okq (⟨"SaleRounds$Streams", "spreadOut", "(I)V"⟩, 11) := ⟨⟨by decide +kernel, by decide +kernel⟩, List.mem_of_getElem? (i := 129) (by decide +kernel), List.mem_of_getElem? (i := 656) (by decide +kernel), List.mem_of_getElem? (i := 657) (by decide +kernel)⟩
theorem lw_p31 : lw_okq (⟨"SaleRounds$Streams", "narrowest", "(I)I"⟩, 11) := ⟨⟨by decide +kernel, by decide +kernel⟩, List.mem_of_getElem? (i := 129) (by decide +kernel), List.mem_of_getElem? (i := 660) (by decide +kernel), List.mem_of_getElem? (i := 661) (by decide +kernel)⟩
def lw_privs_2 : List (MethodName × Nat) := [(⟨"SaleRounds$Book", "areJoined", "(II)Z"⟩, 13), (⟨"SaleRounds$Book", "mergeParties", "(II)V"⟩, 13), (⟨"SaleRounds$Book", "tally", "(I)V"⟩, 13), (⟨"SaleRounds$Book", "taxEach", "(II)I"⟩, 13), (⟨"SaleRounds", "gather", "(III)I"⟩, 11), (⟨"SaleRounds$Finder", "linkSales", "()V"⟩, 17), (⟨"SaleRounds$Finder", "measure", "(I)V"⟩, 17), (⟨"SaleRounds$Finder", "extend", "(JIII)V"⟩, 17), (⟨"SaleRounds$Finder", "keep", "(JI)V"⟩, 17), (⟨"SaleRounds$Sales", "alike", "(III)Z"⟩, 9), (⟨"SaleRounds$Streams", "load", "(LSaleRounds$Sales;II)V"⟩, 11), (⟨"SaleRounds$Streams", "seekHome", "()I"⟩, 11), (⟨"SaleRounds$Streams", "visit", "(II)V"⟩, 11), (⟨"SaleRounds$Streams", "spreadIn", "(I)V"⟩, 11), (⟨"SaleRounds$Streams", "spreadOut", "(I)V"⟩, 11), (⟨"SaleRounds$Streams", "narrowest", "(I)I"⟩, 11)]
theorem lw_r2 : ∀ q ∈ lw_privs_2, lw_okq q := List.forall_mem_cons.mpr ⟨lw_p16, List.forall_mem_cons.mpr ⟨lw_p17, List.forall_mem_cons.mpr ⟨lw_p18, List.forall_mem_cons.mpr ⟨lw_p19, List.forall_mem_cons.mpr ⟨lw_p20, List.forall_mem_cons.mpr ⟨lw_p21, List.forall_mem_cons.mpr ⟨lw_p22, List.forall_mem_cons.mpr ⟨lw_p23, List.forall_mem_cons.mpr ⟨lw_p24, List.forall_mem_cons.mpr ⟨lw_p25, List.forall_mem_cons.mpr ⟨lw_p26, List.forall_mem_cons.mpr ⟨lw_p27, List.forall_mem_cons.mpr ⟨lw_p28, List.forall_mem_cons.mpr ⟨lw_p29, List.forall_mem_cons.mpr ⟨lw_p30, List.forall_mem_cons.mpr ⟨lw_p31, fun _ h => absurd h List.not_mem_nil⟩⟩⟩⟩⟩⟩⟩⟩⟩⟩⟩⟩⟩⟩⟩⟩
theorem lw_p32 : lw_okq (⟨"SaleRounds$Streams", "space", "(II)I"⟩, 11) := ⟨⟨by decide +kernel, by decide +kernel⟩, List.mem_of_getElem? (i := 129) (by decide +kernel), List.mem_of_getElem? (i := 664) (by decide +kernel), List.mem_of_getElem? (i := 665) (by decide +kernel)⟩
theorem lw_p33 : lw_okq (⟨"SaleRounds$Streams", "send", "(II)V"⟩, 11) := ⟨⟨by decide +kernel, by decide +kernel⟩, List.mem_of_getElem? (i := 129) (by decide +kernel), List.mem_of_getElem? (i := 669) (by decide +kernel), List.mem_of_getElem? (i := 670) (by decide +kernel)⟩
theorem lw_p34 : lw_okq (⟨"SaleRounds$Streams", "addBetween", "(III)V"⟩, 11) := ⟨⟨by decide +kernel, by decide +kernel⟩, List.mem_of_getElem? (i := 129) (by decide +kernel), List.mem_of_getElem? (i := 673) (by decide +kernel), List.mem_of_getElem? (i := 674) (by decide +kernel)⟩
theorem lw_p35 : lw_okq (⟨"SaleRounds", "signBits", "(III)I"⟩, 11) := ⟨⟨by decide +kernel, by decide +kernel⟩, List.mem_of_getElem? (i := 21) (by decide +kernel), List.mem_of_getElem? (i := 695) (by decide +kernel), List.mem_of_getElem? (i := 696) (by decide +kernel)⟩
theorem lw_p36 : lw_okq (⟨"SaleRounds$Sales", "boughtDearer", "(II)Z"⟩, 9) := ⟨⟨by decide +kernel, by decide +kernel⟩, List.mem_of_getElem? (i := 191) (by decide +kernel), List.mem_of_getElem? (i := 703) (by decide +kernel), List.mem_of_getElem? (i := 704) (by decide +kernel)⟩
theorem lw_p37 : lw_okq (⟨"SaleRounds", "roundsWith", "(II)I"⟩, 11) := ⟨⟨by decide +kernel, by decide +kernel⟩, List.mem_of_getElem? (i := 21) (by decide +kernel), List.mem_of_getElem? (i := 715) (by decide +kernel), List.mem_of_getElem? (i := 716) (by decide +kernel)⟩
theorem lw_p38 : lw_okq (⟨"SaleRounds$Sales", "nextOf", "(II)I"⟩, 9) := ⟨⟨by decide +kernel, by decide +kernel⟩, List.mem_of_getElem? (i := 191) (by decide +kernel), List.mem_of_getElem? (i := 739) (by decide +kernel), List.mem_of_getElem? (i := 740) (by decide +kernel)⟩
theorem lw_p39 : lw_okq (⟨"SaleRounds$Sales", "isBefore", "(II)Z"⟩, 9) := ⟨⟨by decide +kernel, by decide +kernel⟩, List.mem_of_getElem? (i := 191) (by decide +kernel), List.mem_of_getElem? (i := 743) (by decide +kernel), List.mem_of_getElem? (i := 744) (by decide +kernel)⟩
theorem lw_p40 : lw_okq (⟨"SaleRounds", "keepWorthy", "(I)I"⟩, 11) := ⟨⟨by decide +kernel, by decide +kernel⟩, List.mem_of_getElem? (i := 21) (by decide +kernel), List.mem_of_getElem? (i := 764) (by decide +kernel), List.mem_of_getElem? (i := 765) (by decide +kernel)⟩
theorem lw_p41 : lw_okq (⟨"SaleRounds", "leftIsAtMost", "(IIJ)Z"⟩, 11) := ⟨⟨by decide +kernel, by decide +kernel⟩, List.mem_of_getElem? (i := 21) (by decide +kernel), List.mem_of_getElem? (i := 768) (by decide +kernel), List.mem_of_getElem? (i := 769) (by decide +kernel)⟩
theorem lw_p42 : lw_okq (⟨"SaleRounds", "weighLands", "(I)V"⟩, 11) := ⟨⟨by decide +kernel, by decide +kernel⟩, List.mem_of_getElem? (i := 21) (by decide +kernel), List.mem_of_getElem? (i := 793) (by decide +kernel), List.mem_of_getElem? (i := 794) (by decide +kernel)⟩
theorem lw_p43 : lw_okq (⟨"SaleRounds", "bestLands", "(I)I"⟩, 11) := ⟨⟨by decide +kernel, by decide +kernel⟩, List.mem_of_getElem? (i := 21) (by decide +kernel), List.mem_of_getElem? (i := 798) (by decide +kernel), List.mem_of_getElem? (i := 799) (by decide +kernel)⟩
theorem lw_p44 : lw_okq (⟨"SaleRounds", "takesOutside", "(I)J"⟩, 11) := ⟨⟨by decide +kernel, by decide +kernel⟩, List.mem_of_getElem? (i := 21) (by decide +kernel), List.mem_of_getElem? (i := 802) (by decide +kernel), List.mem_of_getElem? (i := 803) (by decide +kernel)⟩
theorem lw_p45 : lw_okq (⟨"SaleRounds", "burdenInside", "(I)I"⟩, 11) := ⟨⟨by decide +kernel, by decide +kernel⟩, List.mem_of_getElem? (i := 21) (by decide +kernel), List.mem_of_getElem? (i := 806) (by decide +kernel), List.mem_of_getElem? (i := 807) (by decide +kernel)⟩
theorem lw_p46 : lw_okq (⟨"java/lang/Throwable", "fillInStackTrace", "(I)Ljava/lang/Throwable;"⟩, 6) := ⟨⟨by decide +kernel, by decide +kernel⟩, List.mem_of_getElem? (i := 860) (by decide +kernel), List.mem_of_getElem? (i := 858) (by decide +kernel), List.mem_of_getElem? (i := 859) (by decide +kernel)⟩
theorem lw_p47 : lw_okq (⟨"SaleRoundsModel", "next", "()V"⟩, 56) := ⟨⟨by decide +kernel, by decide +kernel⟩, List.mem_of_getElem? (i := 906) (by decide +kernel), List.mem_of_getElem? (i := 1089) (by decide +kernel), List.mem_of_getElem? (i := 1090) (by decide +kernel)⟩
def lw_privs_3 : List (MethodName × Nat) := [(⟨"SaleRounds$Streams", "space", "(II)I"⟩, 11), (⟨"SaleRounds$Streams", "send", "(II)V"⟩, 11), (⟨"SaleRounds$Streams", "addBetween", "(III)V"⟩, 11), (⟨"SaleRounds", "signBits", "(III)I"⟩, 11), (⟨"SaleRounds$Sales", "boughtDearer", "(II)Z"⟩, 9), (⟨"SaleRounds", "roundsWith", "(II)I"⟩, 11), (⟨"SaleRounds$Sales", "nextOf", "(II)I"⟩, 9), (⟨"SaleRounds$Sales", "isBefore", "(II)Z"⟩, 9), (⟨"SaleRounds", "keepWorthy", "(I)I"⟩, 11), (⟨"SaleRounds", "leftIsAtMost", "(IIJ)Z"⟩, 11), (⟨"SaleRounds", "weighLands", "(I)V"⟩, 11), (⟨"SaleRounds", "bestLands", "(I)I"⟩, 11), (⟨"SaleRounds", "takesOutside", "(I)J"⟩, 11), (⟨"SaleRounds", "burdenInside", "(I)I"⟩, 11), (⟨"java/lang/Throwable", "fillInStackTrace", "(I)Ljava/lang/Throwable;"⟩, 6), (⟨"SaleRoundsModel", "next", "()V"⟩, 56)]
theorem lw_r3 : ∀ q ∈ lw_privs_3, lw_okq q := List.forall_mem_cons.mpr ⟨lw_p32, List.forall_mem_cons.mpr ⟨lw_p33, List.forall_mem_cons.mpr ⟨lw_p34, List.forall_mem_cons.mpr ⟨lw_p35, List.forall_mem_cons.mpr ⟨lw_p36, List.forall_mem_cons.mpr ⟨lw_p37, List.forall_mem_cons.mpr ⟨lw_p38, List.forall_mem_cons.mpr ⟨lw_p39, List.forall_mem_cons.mpr ⟨lw_p40, List.forall_mem_cons.mpr ⟨lw_p41, List.forall_mem_cons.mpr ⟨lw_p42, List.forall_mem_cons.mpr ⟨lw_p43, List.forall_mem_cons.mpr ⟨lw_p44, List.forall_mem_cons.mpr ⟨lw_p45, List.forall_mem_cons.mpr ⟨lw_p46, List.forall_mem_cons.mpr ⟨lw_p47, fun _ h => absurd h List.not_mem_nil⟩⟩⟩⟩⟩⟩⟩⟩⟩⟩⟩⟩⟩⟩⟩⟩
theorem lw_p48 : lw_okq (⟨"SaleRoundsModel", "here", "()I"⟩, 56) := ⟨⟨by decide +kernel, by decide +kernel⟩, List.mem_of_getElem? (i := 906) (by decide +kernel), List.mem_of_getElem? (i := 1093) (by decide +kernel), List.mem_of_getElem? (i := 1094) (by decide +kernel)⟩
theorem lw_p49 : lw_okq (⟨"SaleRoundsModel", "word", "()I"⟩, 56) := ⟨⟨by decide +kernel, by decide +kernel⟩, List.mem_of_getElem? (i := 906) (by decide +kernel), List.mem_of_getElem? (i := 1100) (by decide +kernel), List.mem_of_getElem? (i := 1101) (by decide +kernel)⟩
theorem lw_p50 : lw_okq (⟨"SaleRoundsModel", "name", "()V"⟩, 56) := ⟨⟨by decide +kernel, by decide +kernel⟩, List.mem_of_getElem? (i := 906) (by decide +kernel), List.mem_of_getElem? (i := 1153) (by decide +kernel), List.mem_of_getElem? (i := 1154) (by decide +kernel)⟩
theorem lw_p51 : lw_okq (⟨"SaleRoundsModel", "line", "()V"⟩, 56) := ⟨⟨by decide +kernel, by decide +kernel⟩, List.mem_of_getElem? (i := 906) (by decide +kernel), List.mem_of_getElem? (i := 1161) (by decide +kernel), List.mem_of_getElem? (i := 1162) (by decide +kernel)⟩
theorem lw_p52 : lw_okq (⟨"SaleRoundsModel", "wrong", "(I)V"⟩, 56) := ⟨⟨by decide +kernel, by decide +kernel⟩, List.mem_of_getElem? (i := 906) (by decide +kernel), List.mem_of_getElem? (i := 1165) (by decide +kernel), List.mem_of_getElem? (i := 1166) (by decide +kernel)⟩
theorem lw_p53 : lw_okq (⟨"SaleRoundsModel", "fresh", "([III)I"⟩, 56) := ⟨⟨by decide +kernel, by decide +kernel⟩, List.mem_of_getElem? (i := 906) (by decide +kernel), List.mem_of_getElem? (i := 1169) (by decide +kernel), List.mem_of_getElem? (i := 1170) (by decide +kernel)⟩
theorem lw_p54 : lw_okq (⟨"SaleRoundsModel", "numeral", "(II)I"⟩, 56) := ⟨⟨by decide +kernel, by decide +kernel⟩, List.mem_of_getElem? (i := 906) (by decide +kernel), List.mem_of_getElem? (i := 1176) (by decide +kernel), List.mem_of_getElem? (i := 1177) (by decide +kernel)⟩
theorem lw_p55 : lw_okq (⟨"SaleRoundsModel", "firmLine", "(I)V"⟩, 56) := ⟨⟨by decide +kernel, by decide +kernel⟩, List.mem_of_getElem? (i := 906) (by decide +kernel), List.mem_of_getElem? (i := 1180) (by decide +kernel), List.mem_of_getElem? (i := 1181) (by decide +kernel)⟩
theorem lw_p56 : lw_okq (⟨"SaleRoundsModel", "told", "([III)I"⟩, 56) := ⟨⟨by decide +kernel, by decide +kernel⟩, List.mem_of_getElem? (i := 906) (by decide +kernel), List.mem_of_getElem? (i := 1184) (by decide +kernel), List.mem_of_getElem? (i := 1185) (by decide +kernel)⟩
theorem lw_p57 : lw_okq (⟨"SaleRoundsModel", "goOn", "()V"⟩, 56) := ⟨⟨by decide +kernel, by decide +kernel⟩, List.mem_of_getElem? (i := 906) (by decide +kernel), List.mem_of_getElem? (i := 1188) (by decide +kernel), List.mem_of_getElem? (i := 1189) (by decide +kernel)⟩
theorem lw_p58 : lw_okq (⟨"SaleRoundsModel", "isWord", "(I)Z"⟩, 56) := ⟨⟨by decide +kernel, by decide +kernel⟩, List.mem_of_getElem? (i := 906) (by decide +kernel), List.mem_of_getElem? (i := 1192) (by decide +kernel), List.mem_of_getElem? (i := 1193) (by decide +kernel)⟩
theorem lw_p59 : lw_okq (⟨"SaleRoundsModel", "sale", "(I)V"⟩, 56) := ⟨⟨by decide +kernel, by decide +kernel⟩, List.mem_of_getElem? (i := 906) (by decide +kernel), List.mem_of_getElem? (i := 1196) (by decide +kernel), List.mem_of_getElem? (i := 1197) (by decide +kernel)⟩
theorem lw_p60 : lw_okq (⟨"SaleRoundsModel", "paid", "()V"⟩, 56) := ⟨⟨by decide +kernel, by decide +kernel⟩, List.mem_of_getElem? (i := 906) (by decide +kernel), List.mem_of_getElem? (i := 1200) (by decide +kernel), List.mem_of_getElem? (i := 1201) (by decide +kernel)⟩
theorem lw_p61 : lw_okq (⟨"SaleRoundsModel", "lays", "()V"⟩, 56) := ⟨⟨by decide +kernel, by decide +kernel⟩, List.mem_of_getElem? (i := 906) (by decide +kernel), List.mem_of_getElem? (i := 1204) (by decide +kernel), List.mem_of_getElem? (i := 1205) (by decide +kernel)⟩
theorem lw_p62 : lw_okq (⟨"SaleRoundsModel", "isSale", "(I)Z"⟩, 56) := ⟨⟨by decide +kernel, by decide +kernel⟩, List.mem_of_getElem? (i := 906) (by decide +kernel), List.mem_of_getElem? (i := 1220) (by decide +kernel), List.mem_of_getElem? (i := 1221) (by decide +kernel)⟩
theorem lw_p63 : lw_okq (⟨"SaleRoundsModel", "taxOf", "(II)I"⟩, 56) := ⟨⟨by decide +kernel, by decide +kernel⟩, List.mem_of_getElem? (i := 906) (by decide +kernel), List.mem_of_getElem? (i := 1224) (by decide +kernel), List.mem_of_getElem? (i := 1225) (by decide +kernel)⟩
def lw_privs_4 : List (MethodName × Nat) := [(⟨"SaleRoundsModel", "here", "()I"⟩, 56), (⟨"SaleRoundsModel", "word", "()I"⟩, 56), (⟨"SaleRoundsModel", "name", "()V"⟩, 56), (⟨"SaleRoundsModel", "line", "()V"⟩, 56), (⟨"SaleRoundsModel", "wrong", "(I)V"⟩, 56), (⟨"SaleRoundsModel", "fresh", "([III)I"⟩, 56), (⟨"SaleRoundsModel", "numeral", "(II)I"⟩, 56), (⟨"SaleRoundsModel", "firmLine", "(I)V"⟩, 56), (⟨"SaleRoundsModel", "told", "([III)I"⟩, 56), (⟨"SaleRoundsModel", "goOn", "()V"⟩, 56), (⟨"SaleRoundsModel", "isWord", "(I)Z"⟩, 56), (⟨"SaleRoundsModel", "sale", "(I)V"⟩, 56), (⟨"SaleRoundsModel", "paid", "()V"⟩, 56), (⟨"SaleRoundsModel", "lays", "()V"⟩, 56), (⟨"SaleRoundsModel", "isSale", "(I)Z"⟩, 56), (⟨"SaleRoundsModel", "taxOf", "(II)I"⟩, 56)]
theorem lw_r4 : ∀ q ∈ lw_privs_4, lw_okq q := List.forall_mem_cons.mpr ⟨lw_p48, List.forall_mem_cons.mpr ⟨lw_p49, List.forall_mem_cons.mpr ⟨lw_p50, List.forall_mem_cons.mpr ⟨lw_p51, List.forall_mem_cons.mpr ⟨lw_p52, List.forall_mem_cons.mpr ⟨lw_p53, List.forall_mem_cons.mpr ⟨lw_p54, List.forall_mem_cons.mpr ⟨lw_p55, List.forall_mem_cons.mpr ⟨lw_p56, List.forall_mem_cons.mpr ⟨lw_p57, List.forall_mem_cons.mpr ⟨lw_p58, List.forall_mem_cons.mpr ⟨lw_p59, List.forall_mem_cons.mpr ⟨lw_p60, List.forall_mem_cons.mpr ⟨lw_p61, List.forall_mem_cons.mpr ⟨lw_p62, List.forall_mem_cons.mpr ⟨lw_p63, fun _ h => absurd h List.not_mem_nil⟩⟩⟩⟩⟩⟩⟩⟩⟩⟩⟩⟩⟩⟩⟩⟩
theorem lw_p64 : lw_okq (⟨"SaleRoundsModel", "rate", "(II)I"⟩, 56) := ⟨⟨by decide +kernel, by decide +kernel⟩, List.mem_of_getElem? (i := 906) (by decide +kernel), List.mem_of_getElem? (i := 1228) (by decide +kernel), List.mem_of_getElem? (i := 1229) (by decide +kernel)⟩
theorem lw_p65 : lw_okq (⟨"SaleRoundsModel", "isFirm", "(I)Z"⟩, 56) := ⟨⟨by decide +kernel, by decide +kernel⟩, List.mem_of_getElem? (i := 906) (by decide +kernel), List.mem_of_getElem? (i := 1236) (by decide +kernel), List.mem_of_getElem? (i := 1237) (by decide +kernel)⟩
theorem lw_p66 : lw_okq (⟨"SaleRoundsModel", "parties", "()V"⟩, 56) := ⟨⟨by decide +kernel, by decide +kernel⟩, List.mem_of_getElem? (i := 906) (by decide +kernel), List.mem_of_getElem? (i := 1241) (by decide +kernel), List.mem_of_getElem? (i := 1242) (by decide +kernel)⟩
theorem lw_p67 : lw_okq (⟨"SaleRoundsModel", "owes", "(II)I"⟩, 56) := ⟨⟨by decide +kernel, by decide +kernel⟩, List.mem_of_getElem? (i := 906) (by decide +kernel), List.mem_of_getElem? (i := 1246) (by decide +kernel), List.mem_of_getElem? (i := 1247) (by decide +kernel)⟩
theorem lw_p68 : lw_okq (⟨"SaleRoundsModel", "isMissing", "(II)Z"⟩, 56) := ⟨⟨by decide +kernel, by decide +kernel⟩, List.mem_of_getElem? (i := 906) (by decide +kernel), List.mem_of_getElem? (i := 1250) (by decide +kernel), List.mem_of_getElem? (i := 1251) (by decide +kernel)⟩
theorem lw_p69 : lw_okq (⟨"SaleRoundsModel", "seeksNow", "(III)V"⟩, 56) := ⟨⟨by decide +kernel, by decide +kernel⟩, List.mem_of_getElem? (i := 906) (by decide +kernel), List.mem_of_getElem? (i := 1273) (by decide +kernel), List.mem_of_getElem? (i := 1274) (by decide +kernel)⟩
theorem lw_p70 : lw_okq (⟨"SaleRoundsModel", "seeks", "(III)V"⟩, 56) := ⟨⟨by decide +kernel, by decide +kernel⟩, List.mem_of_getElem? (i := 906) (by decide +kernel), List.mem_of_getElem? (i := 1277) (by decide +kernel), List.mem_of_getElem? (i := 1278) (by decide +kernel)⟩
theorem lw_p71 : lw_okq (⟨"SaleRoundsModel", "isStopped", "(I)Z"⟩, 56) := ⟨⟨by decide +kernel, by decide +kernel⟩, List.mem_of_getElem? (i := 906) (by decide +kernel), List.mem_of_getElem? (i := 1281) (by decide +kernel), List.mem_of_getElem? (i := 1282) (by decide +kernel)⟩
theorem lw_p72 : lw_okq (⟨"SaleRoundsModel", "grows", "(I)V"⟩, 56) := ⟨⟨by decide +kernel, by decide +kernel⟩, List.mem_of_getElem? (i := 906) (by decide +kernel), List.mem_of_getElem? (i := 1285) (by decide +kernel), List.mem_of_getElem? (i := 1286) (by decide +kernel)⟩
theorem lw_p73 : lw_okq (⟨"SaleRoundsModel", "fits", "(II)Z"⟩, 56) := ⟨⟨by decide +kernel, by decide +kernel⟩, List.mem_of_getElem? (i := 906) (by decide +kernel), List.mem_of_getElem? (i := 1289) (by decide +kernel), List.mem_of_getElem? (i := 1290) (by decide +kernel)⟩
theorem lw_p74 : lw_okq (⟨"SaleRoundsModel", "carries", "(I)I"⟩, 56) := ⟨⟨by decide +kernel, by decide +kernel⟩, List.mem_of_getElem? (i := 906) (by decide +kernel), List.mem_of_getElem? (i := 1297) (by decide +kernel), List.mem_of_getElem? (i := 1298) (by decide +kernel)⟩
theorem lw_p75 : lw_okq (⟨"SaleRoundsModel", "takesOf", "(III)I"⟩, 56) := ⟨⟨by decide +kernel, by decide +kernel⟩, List.mem_of_getElem? (i := 906) (by decide +kernel), List.mem_of_getElem? (i := 1301) (by decide +kernel), List.mem_of_getElem? (i := 1302) (by decide +kernel)⟩
theorem lw_p76 : lw_okq (⟨"SaleRoundsModel", "firmsOf", "(I)I"⟩, 56) := ⟨⟨by decide +kernel, by decide +kernel⟩, List.mem_of_getElem? (i := 906) (by decide +kernel), List.mem_of_getElem? (i := 1306) (by decide +kernel), List.mem_of_getElem? (i := 1307) (by decide +kernel)⟩
theorem lw_p77 : lw_okq (⟨"SaleRoundsModel", "allTakes", "(III)J"⟩, 56) := ⟨⟨by decide +kernel, by decide +kernel⟩, List.mem_of_getElem? (i := 906) (by decide +kernel), List.mem_of_getElem? (i := 1321) (by decide +kernel), List.mem_of_getElem? (i := 1322) (by decide +kernel)⟩
theorem lw_p78 : lw_okq (⟨"SaleRoundsModel", "flowBy", "(II)I"⟩, 56) := ⟨⟨by decide +kernel, by decide +kernel⟩, List.mem_of_getElem? (i := 906) (by decide +kernel), List.mem_of_getElem? (i := 1329) (by decide +kernel), List.mem_of_getElem? (i := 1330) (by decide +kernel)⟩
theorem lw_p79 : lw_okq (⟨"SaleRoundsModel", "counts", "(II)Z"⟩, 56) := ⟨⟨by decide +kernel, by decide +kernel⟩, List.mem_of_getElem? (i := 906) (by decide +kernel), List.mem_of_getElem? (i := 1333) (by decide +kernel), List.mem_of_getElem? (i := 1334) (by decide +kernel)⟩
def lw_privs_5 : List (MethodName × Nat) := [(⟨"SaleRoundsModel", "rate", "(II)I"⟩, 56), (⟨"SaleRoundsModel", "isFirm", "(I)Z"⟩, 56), (⟨"SaleRoundsModel", "parties", "()V"⟩, 56), (⟨"SaleRoundsModel", "owes", "(II)I"⟩, 56), (⟨"SaleRoundsModel", "isMissing", "(II)Z"⟩, 56), (⟨"SaleRoundsModel", "seeksNow", "(III)V"⟩, 56), (⟨"SaleRoundsModel", "seeks", "(III)V"⟩, 56), (⟨"SaleRoundsModel", "isStopped", "(I)Z"⟩, 56), (⟨"SaleRoundsModel", "grows", "(I)V"⟩, 56), (⟨"SaleRoundsModel", "fits", "(II)Z"⟩, 56), (⟨"SaleRoundsModel", "carries", "(I)I"⟩, 56), (⟨"SaleRoundsModel", "takesOf", "(III)I"⟩, 56), (⟨"SaleRoundsModel", "firmsOf", "(I)I"⟩, 56), (⟨"SaleRoundsModel", "allTakes", "(III)J"⟩, 56), (⟨"SaleRoundsModel", "flowBy", "(II)I"⟩, 56), (⟨"SaleRoundsModel", "counts", "(II)Z"⟩, 56)]
theorem lw_r5 : ∀ q ∈ lw_privs_5, lw_okq q := List.forall_mem_cons.mpr ⟨lw_p64, List.forall_mem_cons.mpr ⟨lw_p65, List.forall_mem_cons.mpr ⟨lw_p66, List.forall_mem_cons.mpr ⟨lw_p67, List.forall_mem_cons.mpr ⟨lw_p68, List.forall_mem_cons.mpr ⟨lw_p69, List.forall_mem_cons.mpr ⟨lw_p70, List.forall_mem_cons.mpr ⟨lw_p71, List.forall_mem_cons.mpr ⟨lw_p72, List.forall_mem_cons.mpr ⟨lw_p73, List.forall_mem_cons.mpr ⟨lw_p74, List.forall_mem_cons.mpr ⟨lw_p75, List.forall_mem_cons.mpr ⟨lw_p76, List.forall_mem_cons.mpr ⟨lw_p77, List.forall_mem_cons.mpr ⟨lw_p78, List.forall_mem_cons.mpr ⟨lw_p79, fun _ h => absurd h List.not_mem_nil⟩⟩⟩⟩⟩⟩⟩⟩⟩⟩⟩⟩⟩⟩⟩⟩
theorem lw_p80 : lw_okq (⟨"SaleRoundsModel", "mayHand", "(III)Z"⟩, 56) := ⟨⟨by decide +kernel, by decide +kernel⟩, List.mem_of_getElem? (i := 906) (by decide +kernel), List.mem_of_getElem? (i := 1337) (by decide +kernel), List.mem_of_getElem? (i := 1338) (by decide +kernel)⟩
theorem lw_p81 : lw_okq (⟨"SaleRoundsModel", "reaches", "()Z"⟩, 56) := ⟨⟨by decide +kernel, by decide +kernel⟩, List.mem_of_getElem? (i := 906) (by decide +kernel), List.mem_of_getElem? (i := 1341) (by decide +kernel), List.mem_of_getElem? (i := 1342) (by decide +kernel)⟩
theorem lw_p82 : lw_okq (⟨"SaleRoundsModel", "signsOf", "(I)I"⟩, 56) := ⟨⟨by decide +kernel, by decide +kernel⟩, List.mem_of_getElem? (i := 906) (by decide +kernel), List.mem_of_getElem? (i := 1355) (by decide +kernel), List.mem_of_getElem? (i := 1356) (by decide +kernel)⟩
theorem lw_p83 : lw_okq (⟨"SaleRoundsModel", "soldUnder", "(I)Z"⟩, 56) := ⟨⟨by decide +kernel, by decide +kernel⟩, List.mem_of_getElem? (i := 906) (by decide +kernel), List.mem_of_getElem? (i := 1359) (by decide +kernel), List.mem_of_getElem? (i := 1360) (by decide +kernel)⟩
theorem lw_p84 : lw_okq (⟨"SaleRoundsModel", "boughtOfSuch", "(I)Z"⟩, 56) := ⟨⟨by decide +kernel, by decide +kernel⟩, List.mem_of_getElem? (i := 906) (by decide +kernel), List.mem_of_getElem? (i := 1363) (by decide +kernel), List.mem_of_getElem? (i := 1364) (by decide +kernel)⟩
theorem lw_p85 : lw_okq (⟨"SaleRoundsModel", "boughtFromMissing", "(I)Z"⟩, 56) := ⟨⟨by decide +kernel, by decide +kernel⟩, List.mem_of_getElem? (i := 906) (by decide +kernel), List.mem_of_getElem? (i := 1367) (by decide +kernel), List.mem_of_getElem? (i := 1368) (by decide +kernel)⟩
theorem lw_p86 : lw_okq (⟨"SaleRoundsModel", "roundsWith", "(I)I"⟩, 56) := ⟨⟨by decide +kernel, by decide +kernel⟩, List.mem_of_getElem? (i := 906) (by decide +kernel), List.mem_of_getElem? (i := 1371) (by decide +kernel), List.mem_of_getElem? (i := 1372) (by decide +kernel)⟩
theorem lw_p87 : lw_okq (⟨"SaleRoundsModel", "hasMissing", "(I)Z"⟩, 56) := ⟨⟨by decide +kernel, by decide +kernel⟩, List.mem_of_getElem? (i := 906) (by decide +kernel), List.mem_of_getElem? (i := 1375) (by decide +kernel), List.mem_of_getElem? (i := 1376) (by decide +kernel)⟩
theorem lw_p88 : lw_okq (⟨"SaleRoundsModel", "burdenOf", "(I)I"⟩, 56) := ⟨⟨by decide +kernel, by decide +kernel⟩, List.mem_of_getElem? (i := 906) (by decide +kernel), List.mem_of_getElem? (i := 1410) (by decide +kernel), List.mem_of_getElem? (i := 1411) (by decide +kernel)⟩
def lw_privs_6 : List (MethodName × Nat) := [(⟨"SaleRoundsModel", "mayHand", "(III)Z"⟩, 56), (⟨"SaleRoundsModel", "reaches", "()Z"⟩, 56), (⟨"SaleRoundsModel", "signsOf", "(I)I"⟩, 56), (⟨"SaleRoundsModel", "soldUnder", "(I)Z"⟩, 56), (⟨"SaleRoundsModel", "boughtOfSuch", "(I)Z"⟩, 56), (⟨"SaleRoundsModel", "boughtFromMissing", "(I)Z"⟩, 56), (⟨"SaleRoundsModel", "roundsWith", "(I)I"⟩, 56), (⟨"SaleRoundsModel", "hasMissing", "(I)Z"⟩, 56), (⟨"SaleRoundsModel", "burdenOf", "(I)I"⟩, 56)]
theorem lw_r6 : ∀ q ∈ lw_privs_6, lw_okq q := List.forall_mem_cons.mpr ⟨lw_p80, List.forall_mem_cons.mpr ⟨lw_p81, List.forall_mem_cons.mpr ⟨lw_p82, List.forall_mem_cons.mpr ⟨lw_p83, List.forall_mem_cons.mpr ⟨lw_p84, List.forall_mem_cons.mpr ⟨lw_p85, List.forall_mem_cons.mpr ⟨lw_p86, List.forall_mem_cons.mpr ⟨lw_p87, List.forall_mem_cons.mpr ⟨lw_p88, fun _ h => absurd h List.not_mem_nil⟩⟩⟩⟩⟩⟩⟩⟩⟩
def lw_privs : List (MethodName × Nat) := lw_privs_1 ++ (lw_privs_2 ++ (lw_privs_3 ++ (lw_privs_4 ++ (lw_privs_5 ++ (lw_privs_6)))))
def lw_tbl : List Cond := k2_sels lw_privs ++ tables_1
theorem lw_privs_ok : ∀ q ∈ lw_privs, lw_okq q := by
  show ∀ q ∈ lw_privs_1 ++ (lw_privs_2 ++ (lw_privs_3 ++ (lw_privs_4 ++ (lw_privs_5 ++ (lw_privs_6))))), lw_okq q
  exact List.forall_mem_append.mpr ⟨lw_r1, List.forall_mem_append.mpr ⟨lw_r2, List.forall_mem_append.mpr ⟨lw_r3, List.forall_mem_append.mpr ⟨lw_r4, List.forall_mem_append.mpr ⟨lw_r5, lw_r6⟩⟩⟩⟩⟩
end
section
def RX0 : String := "SaleRounds$Book"
def TX0 : u_T := fun k => match k with
  | 0 => ("SaleRounds$Book", "lands", "LSaleRounds$Names;", true)
  | 1 => ("SaleRounds$Book", "goods", "LSaleRounds$Names;", true)
  | 2 => ("SaleRounds$Book", "firms", "LSaleRounds$Names;", true)
  | 3 => ("SaleRounds$Book", "sales", "LSaleRounds$Sales;", true)
  | 4 => ("SaleRounds$Book", "tax", "[I", true)
  | 5 => ("SaleRounds$Book", "land", "[I", true)
  | 6 => ("SaleRounds$Book", "since", "[I", true)
  | 7 => ("SaleRounds$Book", "hand", "[I", true)
  | 8 => ("SaleRounds$Book", "room", "[I", true)
  | 9 => ("SaleRounds$Book", "paid", "[I", true)
  | 10 => ("SaleRounds$Book", "paidTold", "[Z", true)
  | 11 => ("SaleRounds$Book", "party", "[I", true)
  | _ => ("SaleRounds$Book", "owes", "[I", true)
def tyX0 : Nat → FieldType := fun k => match k with
  | 0 => .object "SaleRounds$Names"
  | 1 => .object "SaleRounds$Names"
  | 2 => .object "SaleRounds$Names"
  | 3 => .object "SaleRounds$Sales"
  | 4 => .array .int
  | 5 => .array .int
  | 6 => .array .int
  | 7 => .array .int
  | 8 => .array .int
  | 9 => .array .int
  | 10 => .array .boolean
  | 11 => .array .int
  | _ => .array .int
theorem nmX0 : ∀ a, a < 13 → ∀ b, b < 13 → a ≠ b → (TX0 a).2.1 ≠ (TX0 b).2.1 := by decide +kernel
theorem tyX0_ok : ∀ k, k < 13 → parseFieldDescriptor (TX0 k).2.2.1 = some (tyX0 k) := by decide +kernel
abbrev cX0_init : ByteArray := prog_2_method_1_code
def yX0_init : MethodName := ⟨RX0, "<init>", "()V"⟩
abbrev cX0_clear : ByteArray := prog_2_method_2_code
def yX0_clear : MethodName := ⟨RX0, "clear", "()V"⟩
abbrev cX0_addFirm : ByteArray := prog_2_method_3_code
def yX0_addFirm : MethodName := ⟨RX0, "addFirm", "(III)I"⟩
abbrev cX0_sinceBoth : ByteArray := prog_2_method_4_code
def yX0_sinceBoth : MethodName := ⟨RX0, "sinceBoth", "(II)I"⟩
abbrev cX0_joinParties : ByteArray := prog_2_method_5_code
def yX0_joinParties : MethodName := ⟨RX0, "joinParties", "()V"⟩
abbrev cX0_areJoined : ByteArray := prog_2_method_6_code
def yX0_areJoined : MethodName := ⟨RX0, "areJoined", "(II)Z"⟩
abbrev cX0_mergeParties : ByteArray := prog_2_method_7_code
def yX0_mergeParties : MethodName := ⟨RX0, "mergeParties", "(II)V"⟩
abbrev cX0_partners : ByteArray := prog_2_method_8_code
def yX0_partners : MethodName := ⟨RX0, "partners", "(I)I"⟩
abbrev cX0_firmsIn : ByteArray := prog_2_method_9_code
def yX0_firmsIn : MethodName := ⟨RX0, "firmsIn", "(I)I"⟩
abbrev cX0_taxEach : ByteArray := prog_2_method_10_code
def yX0_taxEach : MethodName := ⟨RX0, "taxEach", "(II)I"⟩
abbrev cX0_taxOf : ByteArray := prog_2_method_11_code
def yX0_taxOf : MethodName := ⟨RX0, "taxOf", "(II)I"⟩
abbrev cX0_tally : ByteArray := prog_2_method_12_code
def yX0_tally : MethodName := ⟨RX0, "tally", "(I)V"⟩
abbrev cX0_owed : ByteArray := prog_2_method_13_code
def yX0_owed : MethodName := ⟨RX0, "owed", "(II)I"⟩
abbrev cX0_missing : ByteArray := prog_2_method_14_code
def yX0_missing : MethodName := ⟨RX0, "missing", "(I)I"⟩
abbrev cX0_honestSales : ByteArray := prog_2_method_15_code
def yX0_honestSales : MethodName := ⟨RX0, "honestSales", "(II)I"⟩
abbrev cX0_firmsOf : ByteArray := prog_2_method_16_code
def yX0_firmsOf : MethodName := ⟨RX0, "firmsOf", "(JI)I"⟩
abbrev cX0_carriedBy : ByteArray := prog_2_method_17_code
def yX0_carriedBy : MethodName := ⟨RX0, "carriedBy", "(JI)I"⟩
abbrev cX0_takenBy : ByteArray := prog_2_method_18_code
def yX0_takenBy : MethodName := ⟨RX0, "takenBy", "(JIII)I"⟩
def RX1 : String := "SaleRounds$Finder"
def TX1 : u_T := fun k => match k with
  | 0 => ("SaleRounds$Finder", "rows", "[J", true)
  | 1 => ("SaleRounds$Finder", "lengths", "[I", true)
  | 2 => ("SaleRounds$Finder", "from", "[I", true)
  | 3 => ("SaleRounds$Finder", "to", "[I", true)
  | 4 => ("SaleRounds$Finder", "day", "[I", true)
  | 5 => ("SaleRounds$Finder", "kind", "[I", true)
  | 6 => ("SaleRounds$Finder", "follow", "[J", true)
  | 7 => ("SaleRounds$Finder", "near", "[J", true)
  | 8 => ("SaleRounds$Finder", "size", "I", false)
  | 9 => ("SaleRounds$Finder", "found", "I", false)
  | 10 => ("SaleRounds$Finder", "longest", "I", false)
  | 11 => ("SaleRounds$Finder", "home", "I", false)
  | 12 => ("SaleRounds$Finder", "latest", "I", false)
  | 13 => ("SaleRounds$Finder", "fresh", "Z", false)
  | 14 => ("SaleRounds$Finder", "knownWay", "I", false)
  | 15 => ("SaleRounds$Finder", "knownDays", "I", false)
  | _ => ("SaleRounds$Finder", "knownStopped", "I", false)
def tyX1 : Nat → FieldType := fun k => match k with
  | 0 => .array .long
  | 1 => .array .int
  | 2 => .array .int
  | 3 => .array .int
  | 4 => .array .int
  | 5 => .array .int
  | 6 => .array .long
  | 7 => .array .long
  | 8 => .int
  | 9 => .int
  | 10 => .int
  | 11 => .int
  | 12 => .int
  | 13 => .boolean
  | 14 => .int
  | 15 => .int
  | _ => .int
theorem nmX1 : ∀ a, a < 17 → ∀ b, b < 17 → a ≠ b → (TX1 a).2.1 ≠ (TX1 b).2.1 := by decide +kernel
theorem tyX1_ok : ∀ k, k < 17 → parseFieldDescriptor (TX1 k).2.2.1 = some (tyX1 k) := by decide +kernel
abbrev cX1_init : ByteArray := prog_3_method_1_code
def yX1_init : MethodName := ⟨RX1, "<init>", "()V"⟩
abbrev cX1_forget : ByteArray := prog_3_method_2_code
def yX1_forget : MethodName := ⟨RX1, "forget", "()V"⟩
abbrev cX1_find : ByteArray := prog_3_method_3_code
def yX1_find : MethodName := ⟨RX1, "find", "(LSaleRounds$Sales;IIII)I"⟩
abbrev cX1_load : ByteArray := prog_3_method_4_code
def yX1_load : MethodName := ⟨RX1, "load", "(LSaleRounds$Sales;II)V"⟩
abbrev cX1_shuffle : ByteArray := prog_3_method_5_code
def yX1_shuffle : MethodName := ⟨RX1, "shuffle", "(J)J"⟩
abbrev cX1_search : ByteArray := prog_3_method_6_code
def yX1_search : MethodName := ⟨RX1, "search", "(II)I"⟩
abbrev cX1_linkSales : ByteArray := prog_3_method_7_code
def yX1_linkSales : MethodName := ⟨RX1, "linkSales", "()V"⟩
abbrev cX1_measure : ByteArray := prog_3_method_8_code
def yX1_measure : MethodName := ⟨RX1, "measure", "(I)V"⟩
abbrev cX1_extend : ByteArray := prog_3_method_9_code
def yX1_extend : MethodName := ⟨RX1, "extend", "(JIII)V"⟩
abbrev cX1_keep : ByteArray := prog_3_method_10_code
def yX1_keep : MethodName := ⟨RX1, "keep", "(JI)V"⟩
def RX2 : String := "SaleRounds$Names"
def TX2 : u_T := fun k => match k with
  | 0 => ("SaleRounds$Names", "letters", "[I", true)
  | _ => ("SaleRounds$Names", "size", "I", false)
def tyX2 : Nat → FieldType := fun k => match k with
  | 0 => .array .int
  | _ => .int
theorem nmX2 : ∀ a, a < 2 → ∀ b, b < 2 → a ≠ b → (TX2 a).2.1 ≠ (TX2 b).2.1 := by decide +kernel
theorem tyX2_ok : ∀ k, k < 2 → parseFieldDescriptor (TX2 k).2.2.1 = some (tyX2 k) := by decide +kernel
abbrev cX2_init : ByteArray := prog_4_method_1_code
def yX2_init : MethodName := ⟨RX2, "<init>", "()V"⟩
abbrev cX2_has : ByteArray := prog_4_method_2_code
def yX2_has : MethodName := ⟨RX2, "has", "(I)Z"⟩
abbrev cX2_find : ByteArray := prog_4_method_3_code
def yX2_find : MethodName := ⟨RX2, "find", "(I)I"⟩
abbrev cX2_add : ByteArray := prog_4_method_4_code
def yX2_add : MethodName := ⟨RX2, "add", "(I)I"⟩
def RX3 : String := "SaleRounds$Reader"
def TX3 : u_T := fun k => match k with
  | 0 => ("SaleRounds$Reader", "bytes", "[B", true)
  | 1 => ("SaleRounds$Reader", "size", "I", false)
  | 2 => ("SaleRounds$Reader", "fault", "I", false)
  | 3 => ("SaleRounds$Reader", "faultPlace", "I", false)
  | 4 => ("SaleRounds$Reader", "end", "I", false)
  | 5 => ("SaleRounds$Reader", "place", "I", false)
  | 6 => ("SaleRounds$Reader", "kind", "I", false)
  | 7 => ("SaleRounds$Reader", "start", "I", false)
  | _ => ("SaleRounds$Reader", "value", "I", false)
def tyX3 : Nat → FieldType := fun k => match k with
  | 0 => .array .byte
  | 1 => .int
  | 2 => .int
  | 3 => .int
  | 4 => .int
  | 5 => .int
  | 6 => .int
  | 7 => .int
  | _ => .int
theorem nmX3 : ∀ a, a < 9 → ∀ b, b < 9 → a ≠ b → (TX3 a).2.1 ≠ (TX3 b).2.1 := by decide +kernel
theorem tyX3_ok : ∀ k, k < 9 → parseFieldDescriptor (TX3 k).2.2.1 = some (tyX3 k) := by decide +kernel
abbrev cX3_init : ByteArray := prog_5_method_1_code
def yX3_init : MethodName := ⟨RX3, "<init>", "()V"⟩
abbrev cX3_hasSpace : ByteArray := prog_5_method_2_code
def yX3_hasSpace : MethodName := ⟨RX3, "hasSpace", "(I)Z"⟩
abbrev cX3_push : ByteArray := prog_5_method_3_code
def yX3_push : MethodName := ⟨RX3, "push", "(I)V"⟩
abbrev cX3_read : ByteArray := prog_5_method_4_code
def yX3_read : MethodName := ⟨RX3, "read", "(ILSaleRounds$Book;)I"⟩
abbrev cX3_readLand : ByteArray := prog_5_method_5_code
def yX3_readLand : MethodName := ⟨RX3, "readLand", "(LSaleRounds$Book;)Z"⟩
abbrev cX3_readGood : ByteArray := prog_5_method_6_code
def yX3_readGood : MethodName := ⟨RX3, "readGood", "(LSaleRounds$Book;)Z"⟩
abbrev cX3_readFirm : ByteArray := prog_5_method_7_code
def yX3_readFirm : MethodName := ⟨RX3, "readFirm", "(LSaleRounds$Book;)Z"⟩
abbrev cX3_readTie : ByteArray := prog_5_method_8_code
def yX3_readTie : MethodName := ⟨RX3, "readTie", "(LSaleRounds$Book;I)Z"⟩
abbrev cX3_readSale : ByteArray := prog_5_method_9_code
def yX3_readSale : MethodName := ⟨RX3, "readSale", "(LSaleRounds$Book;)Z"⟩
abbrev cX3_readDay : ByteArray := prog_5_method_10_code
def yX3_readDay : MethodName := ⟨RX3, "readDay", "(I)I"⟩
abbrev cX3_readMark : ByteArray := prog_5_method_11_code
def yX3_readMark : MethodName := ⟨RX3, "readMark", "()I"⟩
abbrev cX3_readPaid : ByteArray := prog_5_method_12_code
def yX3_readPaid : MethodName := ⟨RX3, "readPaid", "(LSaleRounds$Book;)Z"⟩
abbrev cX3_newName : ByteArray := prog_5_method_13_code
def yX3_newName : MethodName := ⟨RX3, "newName", "(LSaleRounds$Names;I)I"⟩
abbrev cX3_toldName : ByteArray := prog_5_method_14_code
def yX3_toldName : MethodName := ⟨RX3, "toldName", "(LSaleRounds$Names;)I"⟩
abbrev cX3_numberWithin : ByteArray := prog_5_method_15_code
def yX3_numberWithin : MethodName := ⟨RX3, "numberWithin", "(II)I"⟩
abbrev cX3_lineEnds : ByteArray := prog_5_method_16_code
def yX3_lineEnds : MethodName := ⟨RX3, "lineEnds", "()Z"⟩
abbrev cX3_fail : ByteArray := prog_5_method_17_code
def yX3_fail : MethodName := ⟨RX3, "fail", "(I)Z"⟩
abbrev cX3_isOfLanguage : ByteArray := prog_5_method_18_code
def yX3_isOfLanguage : MethodName := ⟨RX3, "isOfLanguage", "(I)Z"⟩
abbrev cX3_advance : ByteArray := prog_5_method_19_code
def yX3_advance : MethodName := ⟨RX3, "advance", "()V"⟩
abbrev cX3_takeWord : ByteArray := prog_5_method_20_code
def yX3_takeWord : MethodName := ⟨RX3, "takeWord", "()V"⟩
abbrev cX3_takeNumber : ByteArray := prog_5_method_21_code
def yX3_takeNumber : MethodName := ⟨RX3, "takeNumber", "()V"⟩
abbrev cX3_isLetter : ByteArray := prog_5_method_22_code
def yX3_isLetter : MethodName := ⟨RX3, "isLetter", "(I)Z"⟩
abbrev cX3_isDigit : ByteArray := prog_5_method_23_code
def yX3_isDigit : MethodName := ⟨RX3, "isDigit", "(I)Z"⟩
def RX4 : String := "SaleRounds$Sales"
def TX4 : u_T := fun k => match k with
  | 0 => ("SaleRounds$Sales", "from", "[I", true)
  | 1 => ("SaleRounds$Sales", "to", "[I", true)
  | 2 => ("SaleRounds$Sales", "number", "[I", true)
  | 3 => ("SaleRounds$Sales", "good", "[I", true)
  | 4 => ("SaleRounds$Sales", "price", "[I", true)
  | 5 => ("SaleRounds$Sales", "day", "[I", true)
  | 6 => ("SaleRounds$Sales", "mark", "[I", true)
  | 7 => ("SaleRounds$Sales", "size", "I", false)
  | _ => ("SaleRounds$Sales", "told", "I", false)
def tyX4 : Nat → FieldType := fun k => match k with
  | 0 => .array .int
  | 1 => .array .int
  | 2 => .array .int
  | 3 => .array .int
  | 4 => .array .int
  | 5 => .array .int
  | 6 => .array .int
  | 7 => .int
  | _ => .int
theorem nmX4 : ∀ a, a < 9 → ∀ b, b < 9 → a ≠ b → (TX4 a).2.1 ≠ (TX4 b).2.1 := by decide +kernel
theorem tyX4_ok : ∀ k, k < 9 → parseFieldDescriptor (TX4 k).2.2.1 = some (tyX4 k) := by decide +kernel
abbrev cX4_init : ByteArray := prog_6_method_1_code
def yX4_init : MethodName := ⟨RX4, "<init>", "()V"⟩
abbrev cX4_has : ByteArray := prog_6_method_2_code
def yX4_has : MethodName := ⟨RX4, "has", "(I)Z"⟩
abbrev cX4_add : ByteArray := prog_6_method_3_code
def yX4_add : MethodName := ⟨RX4, "add", "(IIIIIII)Z"⟩
abbrev cX4_goRound : ByteArray := prog_6_method_4_code
def yX4_goRound : MethodName := ⟨RX4, "goRound", "(IIJI)Z"⟩
abbrev cX4_alike : ByteArray := prog_6_method_5_code
def yX4_alike : MethodName := ⟨RX4, "alike", "(III)Z"⟩
abbrev cX4_soldBelow : ByteArray := prog_6_method_6_code
def yX4_soldBelow : MethodName := ⟨RX4, "soldBelow", "(I)Z"⟩
abbrev cX4_boughtDearer : ByteArray := prog_6_method_7_code
def yX4_boughtDearer : MethodName := ⟨RX4, "boughtDearer", "(II)Z"⟩
abbrev cX4_buyersFrom : ByteArray := prog_6_method_8_code
def yX4_buyersFrom : MethodName := ⟨RX4, "buyersFrom", "(I)I"⟩
abbrev cX4_boughtOnlyFrom : ByteArray := prog_6_method_9_code
def yX4_boughtOnlyFrom : MethodName := ⟨RX4, "boughtOnlyFrom", "(II)Z"⟩
abbrev cX4_gapsOf : ByteArray := prog_6_method_10_code
def yX4_gapsOf : MethodName := ⟨RX4, "gapsOf", "(I)I"⟩
abbrev cX4_nextOf : ByteArray := prog_6_method_11_code
def yX4_nextOf : MethodName := ⟨RX4, "nextOf", "(II)I"⟩
abbrev cX4_isBefore : ByteArray := prog_6_method_12_code
def yX4_isBefore : MethodName := ⟨RX4, "isBefore", "(II)Z"⟩
def RX5 : String := "SaleRounds$Streams"
def TX5 : u_T := fun k => match k with
  | 0 => ("SaleRounds$Streams", "from", "[I", true)
  | 1 => ("SaleRounds$Streams", "to", "[I", true)
  | 2 => ("SaleRounds$Streams", "day", "[I", true)
  | 3 => ("SaleRounds$Streams", "number", "[I", true)
  | 4 => ("SaleRounds$Streams", "carried", "[I", true)
  | 5 => ("SaleRounds$Streams", "handed", "[I", true)
  | 6 => ("SaleRounds$Streams", "cameFrom", "[I", true)
  | 7 => ("SaleRounds$Streams", "queue", "[I", true)
  | 8 => ("SaleRounds$Streams", "size", "I", false)
  | 9 => ("SaleRounds$Streams", "queued", "I", false)
  | _ => ("SaleRounds$Streams", "home", "I", false)
def tyX5 : Nat → FieldType := fun k => match k with
  | 0 => .array .int
  | 1 => .array .int
  | 2 => .array .int
  | 3 => .array .int
  | 4 => .array .int
  | 5 => .array .int
  | 6 => .array .int
  | 7 => .array .int
  | 8 => .int
  | 9 => .int
  | _ => .int
theorem nmX5 : ∀ a, a < 11 → ∀ b, b < 11 → a ≠ b → (TX5 a).2.1 ≠ (TX5 b).2.1 := by decide +kernel
theorem tyX5_ok : ∀ k, k < 11 → parseFieldDescriptor (TX5 k).2.2.1 = some (tyX5 k) := by decide +kernel
abbrev cX5_init : ByteArray := prog_7_method_1_code
def yX5_init : MethodName := ⟨RX5, "<init>", "()V"⟩
abbrev cX5_most : ByteArray := prog_7_method_2_code
def yX5_most : MethodName := ⟨RX5, "most", "(LSaleRounds$Sales;III)I"⟩
abbrev cX5_load : ByteArray := prog_7_method_3_code
def yX5_load : MethodName := ⟨RX5, "load", "(LSaleRounds$Sales;II)V"⟩
abbrev cX5_seekHome : ByteArray := prog_7_method_4_code
def yX5_seekHome : MethodName := ⟨RX5, "seekHome", "()I"⟩
abbrev cX5_visit : ByteArray := prog_7_method_5_code
def yX5_visit : MethodName := ⟨RX5, "visit", "(II)V"⟩
abbrev cX5_spreadIn : ByteArray := prog_7_method_6_code
def yX5_spreadIn : MethodName := ⟨RX5, "spreadIn", "(I)V"⟩
abbrev cX5_spreadOut : ByteArray := prog_7_method_7_code
def yX5_spreadOut : MethodName := ⟨RX5, "spreadOut", "(I)V"⟩
abbrev cX5_narrowest : ByteArray := prog_7_method_8_code
def yX5_narrowest : MethodName := ⟨RX5, "narrowest", "(I)I"⟩
abbrev cX5_space : ByteArray := prog_7_method_9_code
def yX5_space : MethodName := ⟨RX5, "space", "(II)I"⟩
abbrev cX5_send : ByteArray := prog_7_method_10_code
def yX5_send : MethodName := ⟨RX5, "send", "(II)V"⟩
abbrev cX5_addBetween : ByteArray := prog_7_method_11_code
def yX5_addBetween : MethodName := ⟨RX5, "addBetween", "(III)V"⟩
def RX6 : String := "SaleRounds"
def TX6 : u_T := fun k => match k with
  | 0 => ("SaleRounds", "reader", "LSaleRounds$Reader;", true)
  | 1 => ("SaleRounds", "finder", "LSaleRounds$Finder;", true)
  | 2 => ("SaleRounds", "streams", "LSaleRounds$Streams;", true)
  | 3 => ("SaleRounds", "now", "LSaleRounds$Book;", false)
  | 4 => ("SaleRounds", "spare", "LSaleRounds$Book;", false)
  | 5 => ("SaleRounds", "stopped", "I", false)
  | 6 => ("SaleRounds", "ruled", "I", false)
  | 7 => ("SaleRounds", "members", "[I", true)
  | 8 => ("SaleRounds", "worths", "[I", true)
  | 9 => ("SaleRounds", "landTakes", "[J", true)
  | _ => ("SaleRounds", "landBurden", "[I", true)
def tyX6 : Nat → FieldType := fun k => match k with
  | 0 => .object "SaleRounds$Reader"
  | 1 => .object "SaleRounds$Finder"
  | 2 => .object "SaleRounds$Streams"
  | 3 => .object "SaleRounds$Book"
  | 4 => .object "SaleRounds$Book"
  | 5 => .int
  | 6 => .int
  | 7 => .array .int
  | 8 => .array .int
  | 9 => .array .long
  | _ => .array .int
theorem nmX6 : ∀ a, a < 11 → ∀ b, b < 11 → a ≠ b → (TX6 a).2.1 ≠ (TX6 b).2.1 := by decide +kernel
theorem tyX6_ok : ∀ k, k < 11 → parseFieldDescriptor (TX6 k).2.2.1 = some (tyX6 k) := by decide +kernel
abbrev cX6_init : ByteArray := prog_1_method_1_code
def yX6_init : MethodName := ⟨RX6, "<init>", "()V"⟩
abbrev cX6_feed : ByteArray := prog_1_method_2_code
def yX6_feed : MethodName := ⟨RX6, "feed", "(IIIII)I"⟩
abbrev cX6_book : ByteArray := prog_1_method_3_code
def yX6_book : MethodName := ⟨RX6, "book", "(I)I"⟩
abbrev cX6_fault : ByteArray := prog_1_method_4_code
def yX6_fault : MethodName := ⟨RX6, "fault", "(I)I"⟩
abbrev cX6_named : ByteArray := prog_1_method_5_code
def yX6_named : MethodName := ⟨RX6, "named", "(II)I"⟩
abbrev cX6_look : ByteArray := prog_1_method_6_code
def yX6_look : MethodName := ⟨RX6, "look", "(II)I"⟩
abbrev cX6_firm : ByteArray := prog_1_method_7_code
def yX6_firm : MethodName := ⟨RX6, "firm", "(II)I"⟩
abbrev cX6_sell : ByteArray := prog_1_method_8_code
def yX6_sell : MethodName := ⟨RX6, "sell", "(IIIIIII)I"⟩
abbrev cX6_undo : ByteArray := prog_1_method_9_code
def yX6_undo : MethodName := ⟨RX6, "undo", "()I"⟩
abbrev cX6_pay : ByteArray := prog_1_method_10_code
def yX6_pay : MethodName := ⟨RX6, "pay", "(II)I"⟩
abbrev cX6_rounds : ByteArray := prog_1_method_11_code
def yX6_rounds : MethodName := ⟨RX6, "rounds", "(III)I"⟩
abbrev cX6_round : ByteArray := prog_1_method_12_code
def yX6_round : MethodName := ⟨RX6, "round", "(IIIII)I"⟩
abbrev cX6_judge : ByteArray := prog_1_method_13_code
def yX6_judge : MethodName := ⟨RX6, "judge", "(IIJ)I"⟩
abbrev cX6_takes : ByteArray := prog_1_method_14_code
def yX6_takes : MethodName := ⟨RX6, "takes", "(III)J"⟩
abbrev cX6_flow : ByteArray := prog_1_method_15_code
def yX6_flow : MethodName := ⟨RX6, "flow", "(II)I"⟩
abbrev cX6_luck : ByteArray := prog_1_method_16_code
def yX6_luck : MethodName := ⟨RX6, "luck", "(IIIII)I"⟩
abbrev cX6_signs : ByteArray := prog_1_method_17_code
def yX6_signs : MethodName := ⟨RX6, "signs", "(IIII)I"⟩
abbrev cX6_knew : ByteArray := prog_1_method_18_code
def yX6_knew : MethodName := ⟨RX6, "knew", "(IIIII)I"⟩
abbrev cX6_hands : ByteArray := prog_1_method_19_code
def yX6_hands : MethodName := ⟨RX6, "hands", "()I"⟩
abbrev cX6_lacking : ByteArray := prog_1_method_20_code
def yX6_lacking : MethodName := ⟨RX6, "lacking", "(I)I"⟩
abbrev cX6_stop : ByteArray := prog_1_method_21_code
def yX6_stop : MethodName := ⟨RX6, "stop", "(I)I"⟩
abbrev cX6_fewest : ByteArray := prog_1_method_22_code
def yX6_fewest : MethodName := ⟨RX6, "fewest", "(IIIJ)I"⟩
abbrev cX6_rule : ByteArray := prog_1_method_23_code
def yX6_rule : MethodName := ⟨RX6, "rule", "(I)I"⟩
abbrev cX6_burden : ByteArray := prog_1_method_24_code
def yX6_burden : MethodName := ⟨RX6, "burden", "(I)I"⟩
abbrev cX6_starve : ByteArray := prog_1_method_25_code
def yX6_starve : MethodName := ⟨RX6, "starve", "(IIIII)J"⟩
abbrev cX6_count : ByteArray := prog_1_method_26_code
def yX6_count : MethodName := ⟨RX6, "count", "(I)I"⟩
abbrev cX6_within : ByteArray := prog_1_method_27_code
def yX6_within : MethodName := ⟨RX6, "within", "(III)Z"⟩
abbrev cX6_areBits : ByteArray := prog_1_method_28_code
def yX6_areBits : MethodName := ⟨RX6, "areBits", "(II)Z"⟩
abbrev cX6_saleAt : ByteArray := prog_1_method_29_code
def yX6_saleAt : MethodName := ⟨RX6, "saleAt", "(JI)I"⟩
abbrev cX6_gather : ByteArray := prog_1_method_30_code
def yX6_gather : MethodName := ⟨RX6, "gather", "(III)I"⟩
abbrev cX6_signBits : ByteArray := prog_1_method_31_code
def yX6_signBits : MethodName := ⟨RX6, "signBits", "(III)I"⟩
abbrev cX6_roundsWith : ByteArray := prog_1_method_32_code
def yX6_roundsWith : MethodName := ⟨RX6, "roundsWith", "(II)I"⟩
abbrev cX6_keepWorthy : ByteArray := prog_1_method_33_code
def yX6_keepWorthy : MethodName := ⟨RX6, "keepWorthy", "(I)I"⟩
abbrev cX6_leftIsAtMost : ByteArray := prog_1_method_34_code
def yX6_leftIsAtMost : MethodName := ⟨RX6, "leftIsAtMost", "(IIJ)Z"⟩
abbrev cX6_weighLands : ByteArray := prog_1_method_35_code
def yX6_weighLands : MethodName := ⟨RX6, "weighLands", "(I)V"⟩
abbrev cX6_bestLands : ByteArray := prog_1_method_36_code
def yX6_bestLands : MethodName := ⟨RX6, "bestLands", "(I)I"⟩
abbrev cX6_takesOutside : ByteArray := prog_1_method_37_code
def yX6_takesOutside : MethodName := ⟨RX6, "takesOutside", "(I)J"⟩
abbrev cX6_burdenInside : ByteArray := prog_1_method_38_code
def yX6_burdenInside : MethodName := ⟨RX6, "burdenInside", "(I)I"⟩
def RX7 : String := "SaleRoundsModel"
def TX7 : u_T := fun k => match k with
  | 0 => ("SaleRoundsModel", "thrown", "I", false)
  | 1 => ("SaleRoundsModel", "tape", "[I", true)
  | 2 => ("SaleRoundsModel", "taped", "I", false)
  | 3 => ("SaleRoundsModel", "lands", "I", false)
  | 4 => ("SaleRoundsModel", "goods", "I", false)
  | 5 => ("SaleRoundsModel", "firms", "I", false)
  | 6 => ("SaleRoundsModel", "sales", "I", false)
  | 7 => ("SaleRoundsModel", "booked", "I", false)
  | 8 => ("SaleRoundsModel", "landName", "[I", true)
  | 9 => ("SaleRoundsModel", "tax", "[I", true)
  | 10 => ("SaleRoundsModel", "goodName", "[I", true)
  | 11 => ("SaleRoundsModel", "firmName", "[I", true)
  | 12 => ("SaleRoundsModel", "landOf", "[I", true)
  | 13 => ("SaleRoundsModel", "since", "[I", true)
  | 14 => ("SaleRoundsModel", "hand", "[I", true)
  | 15 => ("SaleRoundsModel", "room", "[I", true)
  | 16 => ("SaleRoundsModel", "paid", "[I", true)
  | 17 => ("SaleRoundsModel", "isPaid", "[Z", true)
  | 18 => ("SaleRoundsModel", "from", "[I", true)
  | 19 => ("SaleRoundsModel", "to", "[I", true)
  | 20 => ("SaleRoundsModel", "number", "[I", true)
  | 21 => ("SaleRoundsModel", "good", "[I", true)
  | 22 => ("SaleRoundsModel", "price", "[I", true)
  | 23 => ("SaleRoundsModel", "day", "[I", true)
  | 24 => ("SaleRoundsModel", "mark", "[I", true)
  | 25 => ("SaleRoundsModel", "landsNew", "I", false)
  | 26 => ("SaleRoundsModel", "goodsNew", "I", false)
  | 27 => ("SaleRoundsModel", "firmsNew", "I", false)
  | 28 => ("SaleRoundsModel", "salesNew", "I", false)
  | 29 => ("SaleRoundsModel", "lines", "I", false)
  | 30 => ("SaleRoundsModel", "size", "I", false)
  | 31 => ("SaleRoundsModel", "at", "I", false)
  | 32 => ("SaleRoundsModel", "place", "I", false)
  | 33 => ("SaleRoundsModel", "sort", "I", false)
  | 34 => ("SaleRoundsModel", "value", "I", false)
  | 35 => ("SaleRoundsModel", "fault", "I", false)
  | 36 => ("SaleRoundsModel", "faultPlace", "I", false)
  | 37 => ("SaleRoundsModel", "lastFault", "I", false)
  | 38 => ("SaleRoundsModel", "lastPlace", "I", false)
  | 39 => ("SaleRoundsModel", "stopped", "I", false)
  | 40 => ("SaleRoundsModel", "ruled", "I", false)
  | 41 => ("SaleRoundsModel", "least", "[I", true)
  | 42 => ("SaleRoundsModel", "rounds", "I", false)
  | 43 => ("SaleRoundsModel", "rowSale", "[I", true)
  | 44 => ("SaleRoundsModel", "rowMany", "[I", true)
  | 45 => ("SaleRoundsModel", "row", "[I", true)
  | 46 => ("SaleRoundsModel", "goes", "[I", true)
  | 47 => ("SaleRoundsModel", "isSpent", "Z", false)
  | 48 => ("SaleRoundsModel", "byWay", "I", false)
  | 49 => ("SaleRoundsModel", "most", "I", false)
  | 50 => ("SaleRoundsModel", "within", "I", false)
  | 51 => ("SaleRoundsModel", "left", "[I", true)
  | 52 => ("SaleRoundsModel", "cameBy", "[I", true)
  | 53 => ("SaleRoundsModel", "line", "[I", true)
  | 54 => ("SaleRoundsModel", "roundTakes", "[J", true)
  | _ => ("SaleRoundsModel", "roundFirms", "[I", true)
def tyX7 : Nat → FieldType := fun k => match k with
  | 0 => .int
  | 1 => .array .int
  | 2 => .int
  | 3 => .int
  | 4 => .int
  | 5 => .int
  | 6 => .int
  | 7 => .int
  | 8 => .array .int
  | 9 => .array .int
  | 10 => .array .int
  | 11 => .array .int
  | 12 => .array .int
  | 13 => .array .int
  | 14 => .array .int
  | 15 => .array .int
  | 16 => .array .int
  | 17 => .array .boolean
  | 18 => .array .int
  | 19 => .array .int
  | 20 => .array .int
  | 21 => .array .int
  | 22 => .array .int
  | 23 => .array .int
  | 24 => .array .int
  | 25 => .int
  | 26 => .int
  | 27 => .int
  | 28 => .int
  | 29 => .int
  | 30 => .int
  | 31 => .int
  | 32 => .int
  | 33 => .int
  | 34 => .int
  | 35 => .int
  | 36 => .int
  | 37 => .int
  | 38 => .int
  | 39 => .int
  | 40 => .int
  | 41 => .array .int
  | 42 => .int
  | 43 => .array .int
  | 44 => .array .int
  | 45 => .array .int
  | 46 => .array .int
  | 47 => .boolean
  | 48 => .int
  | 49 => .int
  | 50 => .int
  | 51 => .array .int
  | 52 => .array .int
  | 53 => .array .int
  | 54 => .array .long
  | _ => .array .int
theorem nmX7 : ∀ a, a < 56 → ∀ b, b < 56 → a ≠ b → (TX7 a).2.1 ≠ (TX7 b).2.1 := by decide +kernel
theorem tyX7_ok : ∀ k, k < 56 → parseFieldDescriptor (TX7 k).2.2.1 = some (tyX7 k) := by decide +kernel
abbrev cX7_init : ByteArray := prog_9_method_1_code
def yX7_init : MethodName := ⟨RX7, "<init>", "()V"⟩
abbrev cX7_feed : ByteArray := prog_9_method_3_code
def yX7_feed : MethodName := ⟨RX7, "feed", "(IIIII)I"⟩
abbrev cX7_here : ByteArray := prog_9_method_4_code
def yX7_here : MethodName := ⟨RX7, "here", "()I"⟩
abbrev cX7_isSmall : ByteArray := prog_9_method_5_code
def yX7_isSmall : MethodName := ⟨RX7, "isSmall", "(I)Z"⟩
abbrev cX7_isDigit : ByteArray := prog_9_method_6_code
def yX7_isDigit : MethodName := ⟨RX7, "isDigit", "(I)Z"⟩
abbrev cX7_next : ByteArray := prog_9_method_7_code
def yX7_next : MethodName := ⟨RX7, "next", "()V"⟩
abbrev cX7_word : ByteArray := prog_9_method_8_code
def yX7_word : MethodName := ⟨RX7, "word", "()I"⟩
abbrev cX7_name : ByteArray := prog_9_method_9_code
def yX7_name : MethodName := ⟨RX7, "name", "()V"⟩
abbrev cX7_wrong : ByteArray := prog_9_method_10_code
def yX7_wrong : MethodName := ⟨RX7, "wrong", "(I)V"⟩
abbrev cX7_isWord : ByteArray := prog_9_method_11_code
def yX7_isWord : MethodName := ⟨RX7, "isWord", "(I)Z"⟩
abbrev cX7_numeral : ByteArray := prog_9_method_12_code
def yX7_numeral : MethodName := ⟨RX7, "numeral", "(II)I"⟩
abbrev cX7_found : ByteArray := prog_9_method_13_code
def yX7_found : MethodName := ⟨RX7, "found", "([IIII)I"⟩
abbrev cX7_fresh : ByteArray := prog_9_method_14_code
def yX7_fresh : MethodName := ⟨RX7, "fresh", "([III)I"⟩
abbrev cX7_told : ByteArray := prog_9_method_15_code
def yX7_told : MethodName := ⟨RX7, "told", "([III)I"⟩
abbrev cX7_goOn : ByteArray := prog_9_method_16_code
def yX7_goOn : MethodName := ⟨RX7, "goOn", "()V"⟩
abbrev cX7_line : ByteArray := prog_9_method_17_code
def yX7_line : MethodName := ⟨RX7, "line", "()V"⟩
abbrev cX7_firmLine : ByteArray := prog_9_method_18_code
def yX7_firmLine : MethodName := ⟨RX7, "firmLine", "(I)V"⟩
abbrev cX7_sale : ByteArray := prog_9_method_19_code
def yX7_sale : MethodName := ⟨RX7, "sale", "(I)V"⟩
abbrev cX7_paid : ByteArray := prog_9_method_20_code
def yX7_paid : MethodName := ⟨RX7, "paid", "()V"⟩
abbrev cX7_book : ByteArray := prog_9_method_21_code
def yX7_book : MethodName := ⟨RX7, "book", "(I)I"⟩
abbrev cX7_lays : ByteArray := prog_9_method_22_code
def yX7_lays : MethodName := ⟨RX7, "lays", "()V"⟩
abbrev cX7_fault : ByteArray := prog_9_method_23_code
def yX7_fault : MethodName := ⟨RX7, "fault", "(I)I"⟩
abbrev cX7_named : ByteArray := prog_9_method_24_code
def yX7_named : MethodName := ⟨RX7, "named", "(II)I"⟩
abbrev cX7_isFirm : ByteArray := prog_9_method_25_code
def yX7_isFirm : MethodName := ⟨RX7, "isFirm", "(I)Z"⟩
abbrev cX7_isSale : ByteArray := prog_9_method_26_code
def yX7_isSale : MethodName := ⟨RX7, "isSale", "(I)Z"⟩
abbrev cX7_rate : ByteArray := prog_9_method_27_code
def yX7_rate : MethodName := ⟨RX7, "rate", "(II)I"⟩
abbrev cX7_taxOf : ByteArray := prog_9_method_28_code
def yX7_taxOf : MethodName := ⟨RX7, "taxOf", "(II)I"⟩
abbrev cX7_owes : ByteArray := prog_9_method_29_code
def yX7_owes : MethodName := ⟨RX7, "owes", "(II)I"⟩
abbrev cX7_isMissing : ByteArray := prog_9_method_30_code
def yX7_isMissing : MethodName := ⟨RX7, "isMissing", "(II)Z"⟩
abbrev cX7_parties : ByteArray := prog_9_method_31_code
def yX7_parties : MethodName := ⟨RX7, "parties", "()V"⟩
abbrev cX7_look : ByteArray := prog_9_method_32_code
def yX7_look : MethodName := ⟨RX7, "look", "(II)I"⟩
abbrev cX7_firm : ByteArray := prog_9_method_33_code
def yX7_firm : MethodName := ⟨RX7, "firm", "(II)I"⟩
abbrev cX7_sell : ByteArray := prog_9_method_34_code
def yX7_sell : MethodName := ⟨RX7, "sell", "(IIIIIII)I"⟩
abbrev cX7_undo : ByteArray := prog_9_method_35_code
def yX7_undo : MethodName := ⟨RX7, "undo", "()I"⟩
abbrev cX7_pay : ByteArray := prog_9_method_36_code
def yX7_pay : MethodName := ⟨RX7, "pay", "(II)I"⟩
abbrev cX7_isAsked : ByteArray := prog_9_method_37_code
def yX7_isAsked : MethodName := ⟨RX7, "isAsked", "(III)Z"⟩
abbrev cX7_isStopped : ByteArray := prog_9_method_38_code
def yX7_isStopped : MethodName := ⟨RX7, "isStopped", "(I)Z"⟩
abbrev cX7_fits : ByteArray := prog_9_method_39_code
def yX7_fits : MethodName := ⟨RX7, "fits", "(II)Z"⟩
abbrev cX7_grows : ByteArray := prog_9_method_40_code
def yX7_grows : MethodName := ⟨RX7, "grows", "(I)V"⟩
abbrev cX7_seeks : ByteArray := prog_9_method_41_code
def yX7_seeks : MethodName := ⟨RX7, "seeks", "(III)V"⟩
abbrev cX7_seeksNow : ByteArray := prog_9_method_42_code
def yX7_seeksNow : MethodName := ⟨RX7, "seeksNow", "(III)V"⟩
abbrev cX7_rounds : ByteArray := prog_9_method_43_code
def yX7_rounds : MethodName := ⟨RX7, "rounds", "(III)I"⟩
abbrev cX7_carries : ByteArray := prog_9_method_44_code
def yX7_carries : MethodName := ⟨RX7, "carries", "(I)I"⟩
abbrev cX7_firmsOf : ByteArray := prog_9_method_45_code
def yX7_firmsOf : MethodName := ⟨RX7, "firmsOf", "(I)I"⟩
abbrev cX7_takesOf : ByteArray := prog_9_method_46_code
def yX7_takesOf : MethodName := ⟨RX7, "takesOf", "(III)I"⟩
abbrev cX7_round : ByteArray := prog_9_method_47_code
def yX7_round : MethodName := ⟨RX7, "round", "(IIIII)I"⟩
abbrev cX7_judge : ByteArray := prog_9_method_48_code
def yX7_judge : MethodName := ⟨RX7, "judge", "(IIJ)I"⟩
abbrev cX7_takes : ByteArray := prog_9_method_49_code
def yX7_takes : MethodName := ⟨RX7, "takes", "(III)J"⟩
abbrev cX7_allTakes : ByteArray := prog_9_method_50_code
def yX7_allTakes : MethodName := ⟨RX7, "allTakes", "(III)J"⟩
abbrev cX7_counts : ByteArray := prog_9_method_51_code
def yX7_counts : MethodName := ⟨RX7, "counts", "(II)Z"⟩
abbrev cX7_mayHand : ByteArray := prog_9_method_52_code
def yX7_mayHand : MethodName := ⟨RX7, "mayHand", "(III)Z"⟩
abbrev cX7_flow : ByteArray := prog_9_method_53_code
def yX7_flow : MethodName := ⟨RX7, "flow", "(II)I"⟩
abbrev cX7_flowBy : ByteArray := prog_9_method_54_code
def yX7_flowBy : MethodName := ⟨RX7, "flowBy", "(II)I"⟩
abbrev cX7_reaches : ByteArray := prog_9_method_55_code
def yX7_reaches : MethodName := ⟨RX7, "reaches", "()Z"⟩
abbrev cX7_luck : ByteArray := prog_9_method_56_code
def yX7_luck : MethodName := ⟨RX7, "luck", "(IIIII)I"⟩
abbrev cX7_soldUnder : ByteArray := prog_9_method_57_code
def yX7_soldUnder : MethodName := ⟨RX7, "soldUnder", "(I)Z"⟩
abbrev cX7_boughtFromMissing : ByteArray := prog_9_method_58_code
def yX7_boughtFromMissing : MethodName := ⟨RX7, "boughtFromMissing", "(I)Z"⟩
abbrev cX7_boughtOfSuch : ByteArray := prog_9_method_59_code
def yX7_boughtOfSuch : MethodName := ⟨RX7, "boughtOfSuch", "(I)Z"⟩
abbrev cX7_roundsWith : ByteArray := prog_9_method_60_code
def yX7_roundsWith : MethodName := ⟨RX7, "roundsWith", "(I)I"⟩
abbrev cX7_hasMissing : ByteArray := prog_9_method_61_code
def yX7_hasMissing : MethodName := ⟨RX7, "hasMissing", "(I)Z"⟩
abbrev cX7_signsOf : ByteArray := prog_9_method_62_code
def yX7_signsOf : MethodName := ⟨RX7, "signsOf", "(I)I"⟩
abbrev cX7_signs : ByteArray := prog_9_method_63_code
def yX7_signs : MethodName := ⟨RX7, "signs", "(IIII)I"⟩
abbrev cX7_knew : ByteArray := prog_9_method_64_code
def yX7_knew : MethodName := ⟨RX7, "knew", "(IIIII)I"⟩
abbrev cX7_hands : ByteArray := prog_9_method_65_code
def yX7_hands : MethodName := ⟨RX7, "hands", "()I"⟩
abbrev cX7_lacking : ByteArray := prog_9_method_66_code
def yX7_lacking : MethodName := ⟨RX7, "lacking", "(I)I"⟩
abbrev cX7_bits : ByteArray := prog_9_method_67_code
def yX7_bits : MethodName := ⟨RX7, "bits", "(I)I"⟩
abbrev cX7_stop : ByteArray := prog_9_method_68_code
def yX7_stop : MethodName := ⟨RX7, "stop", "(I)I"⟩
abbrev cX7_fewest : ByteArray := prog_9_method_69_code
def yX7_fewest : MethodName := ⟨RX7, "fewest", "(IIIJ)I"⟩
abbrev cX7_rule : ByteArray := prog_9_method_70_code
def yX7_rule : MethodName := ⟨RX7, "rule", "(I)I"⟩
abbrev cX7_burdenOf : ByteArray := prog_9_method_71_code
def yX7_burdenOf : MethodName := ⟨RX7, "burdenOf", "(I)I"⟩
abbrev cX7_burden : ByteArray := prog_9_method_72_code
def yX7_burden : MethodName := ⟨RX7, "burden", "(I)I"⟩
abbrev cX7_starve : ByteArray := prog_9_method_73_code
def yX7_starve : MethodName := ⟨RX7, "starve", "(IIIII)J"⟩
abbrev cX7_count : ByteArray := prog_9_method_74_code
def yX7_count : MethodName := ⟨RX7, "count", "(I)I"⟩
def RJ6 : String := "java/lang/Integer"
abbrev cJ6_bitCount_0f7a4 : ByteArray := prog_15_method_49_code
def yJ6_bitCount_0f7a4 : MethodName := ⟨RJ6, "bitCount", "(I)I"⟩
def RJ9 : String := "java/lang/Math"
abbrev cJ9_max_7cf53 : ByteArray := prog_16_method_65_code
def yJ9_max_7cf53 : MethodName := ⟨RJ9, "max", "(II)I"⟩
abbrev cJ9_min_7cf53 : ByteArray := prog_16_method_69_code
def yJ9_min_7cf53 : MethodName := ⟨RJ9, "min", "(II)I"⟩
def RL : String := "SaleRoundsLaw"
abbrev cL_look : ByteArray := method_3_code
def yL_look : MethodName := ⟨RL, "look", "(LSaleRounds;II[J)I"⟩
abbrev cL_law : ByteArray := code
def yL_law : MethodName := ⟨RL, "law", "([I)Z"⟩
/-! the cells: codes, kind + 16 * (number + 256 * length) -/
abbrev kS : Nat := 6
abbrev kR : Nat := 19
abbrev kR_bytes : Nat := 3276842
abbrev kF : Nat := 49
abbrev kF_rows : Nat := 819273
abbrev kF_lengths : Nat := 819288
abbrev kF_from : Nat := 163944
abbrev kF_to : Nat := 163960
abbrev kF_day : Nat := 163976
abbrev kF_kind : Nat := 163992
abbrev kF_follow : Nat := 164009
abbrev kF_near : Nat := 295097
abbrev kT : Nat := 197
abbrev kT_from : Nat := 164056
abbrev kT_to : Nat := 164072
abbrev kT_day : Nat := 164088
abbrev kT_number : Nat := 164104
abbrev kT_carried : Nat := 164120
abbrev kT_handed : Nat := 6553896
abbrev kT_cameFrom : Nat := 327992
abbrev kT_queue : Nat := 328008
abbrev kB1 : Nat := 336
abbrev kB1_lands : Nat := 354
abbrev kB1_lands_letters : Nat := 49528
abbrev kB1_goods : Nat := 386
abbrev kB1_goods_letters : Nat := 49560
abbrev kB1_firms : Nat := 418
abbrev kB1_firms_letters : Nat := 49592
abbrev kB1_sales : Nat := 452
abbrev kB1_sales_from : Nat := 164312
abbrev kB1_sales_to : Nat := 164328
abbrev kB1_sales_number : Nat := 164344
abbrev kB1_sales_good : Nat := 164360
abbrev kB1_sales_price : Nat := 164376
abbrev kB1_sales_day : Nat := 164392
abbrev kB1_sales_mark : Nat := 164408
abbrev kB1_tax : Nat := 21064
abbrev kB1_land : Nat := 49752
abbrev kB1_since : Nat := 49768
abbrev kB1_hand : Nat := 49784
abbrev kB1_room : Nat := 49800
abbrev kB1_paid : Nat := 49816
abbrev kB1_paidTold : Nat := 49835
abbrev kB1_party : Nat := 49848
abbrev kB1_owes : Nat := 49864
abbrev kB2 : Nat := 720
abbrev kB2_lands : Nat := 738
abbrev kB2_lands_letters : Nat := 49912
abbrev kB2_goods : Nat := 770
abbrev kB2_goods_letters : Nat := 49944
abbrev kB2_firms : Nat := 802
abbrev kB2_firms_letters : Nat := 49976
abbrev kB2_sales : Nat := 836
abbrev kB2_sales_from : Nat := 164696
abbrev kB2_sales_to : Nat := 164712
abbrev kB2_sales_number : Nat := 164728
abbrev kB2_sales_good : Nat := 164744
abbrev kB2_sales_price : Nat := 164760
abbrev kB2_sales_day : Nat := 164776
abbrev kB2_sales_mark : Nat := 164792
abbrev kB2_tax : Nat := 21448
abbrev kB2_land : Nat := 50136
abbrev kB2_since : Nat := 50152
abbrev kB2_hand : Nat := 50168
abbrev kB2_room : Nat := 50184
abbrev kB2_paid : Nat := 50200
abbrev kB2_paidTold : Nat := 50219
abbrev kB2_party : Nat := 50232
abbrev kB2_owes : Nat := 50248
abbrev kS_members : Nat := 820312
abbrev kS_worths : Nat := 820328
abbrev kS_landTakes : Nat := 21625
abbrev kS_landBurden : Nat := 21640
abbrev kM : Nat := 1175
abbrev kM_tape : Nat := 3277992
abbrev kM_landName : Nat := 42168
abbrev kM_tax : Nat := 42184
abbrev kM_goodName : Nat := 34008
abbrev kM_firmName : Nat := 99560
abbrev kM_landOf : Nat := 99576
abbrev kM_since : Nat := 99592
abbrev kM_hand : Nat := 99608
abbrev kM_room : Nat := 99624
abbrev kM_paid : Nat := 99640
abbrev kM_isPaid : Nat := 99659
abbrev kM_from : Nat := 329048
abbrev kM_to : Nat := 329064
abbrev kM_number : Nat := 329080
abbrev kM_good : Nat := 329096
abbrev kM_price : Nat := 329112
abbrev kM_day : Nat := 329128
abbrev kM_mark : Nat := 329144
abbrev kM_least : Nat := 50632
abbrev kM_rowSale : Nat := 4916696
abbrev kM_rowMany : Nat := 820712
abbrev kM_row : Nat := 26104
abbrev kM_goes : Nat := 165384
abbrev kM_left : Nat := 27543064
abbrev kM_cameBy : Nat := 337448
abbrev kM_line : Nat := 337464
abbrev kM_roundTakes : Nat := 820809
abbrev kM_roundFirms : Nat := 820824
abbrev kOut : Nat := 5737
def cellsL : List Nat := [6, 19, 3276842, 49, 819273, 819288, 163944, 163960, 163976, 163992, 164009, 295097, 197, 164056, 164072, 164088, 164104, 164120, 6553896, 327992, 328008, 336, 354, 49528, 386, 49560, 418, 49592, 452, 164312, 164328, 164344, 164360, 164376, 164392, 164408, 21064, 49752, 49768, 49784, 49800, 49816, 49835, 49848, 49864, 720, 738, 49912, 770, 49944, 802, 49976, 836, 164696, 164712, 164728, 164744, 164760, 164776, 164792, 21448, 50136, 50152, 50168, 50184, 50200, 50219, 50232, 50248, 820312, 820328, 21625, 21640, 1175, 3277992, 42168, 42184, 34008, 99560, 99576, 99592, 99608, 99624, 99640, 99659, 329048, 329064, 329080, 329096, 329112, 329128, 329144, 50632, 4916696, 820712, 26104, 165384, 27543064, 337448, 337464, 820809, 820824, 5737]
def fk : Nat → List Nat := fun ci => match ci with
  | 0 => [1, 1, 1, 1, 1, 1, 1, 1, 1, 1, 1, 1, 1]
  | 1 => [1, 1, 1, 1, 1, 1, 1, 1, 0, 0, 0, 0, 0, 4, 0, 0, 0]
  | 2 => [1, 0]
  | 3 => [1, 0, 0, 0, 0, 0, 0, 0, 0]
  | 4 => [1, 1, 1, 1, 1, 1, 1, 0, 0]
  | 5 => [1, 1, 1, 1, 1, 1, 1, 1, 0, 0, 0]
  | 6 => [1, 1, 1, 2, 3, 0, 0, 1, 1, 1, 1]
  | 7 => [0, 1, 0, 0, 0, 0, 0, 0, 1, 1, 1, 1, 1, 1, 1, 1, 1, 1, 1, 1, 1, 1, 1, 1, 1, 0, 0, 0, 0, 0, 0, 0, 0, 0, 0, 0, 0, 0, 0, 0, 0, 1, 0, 1, 1, 1, 1, 4, 0, 0, 0, 1, 1, 1, 1, 1]
  | _ => []
def rfL : List (Nat × Nat × Nat) := [(19, 0, 3276842), (6, 0, 19), (49, 0, 819273), (49, 1, 819288), (49, 2, 163944), (49, 3, 163960), (49, 4, 163976), (49, 5, 163992), (49, 6, 164009), (49, 7, 295097), (6, 1, 49), (197, 0, 164056), (197, 1, 164072), (197, 2, 164088), (197, 3, 164104), (197, 4, 164120), (197, 5, 6553896), (197, 6, 327992), (197, 7, 328008), (6, 2, 197), (354, 0, 49528), (336, 0, 354), (386, 0, 49560), (336, 1, 386), (418, 0, 49592), (336, 2, 418), (452, 0, 164312), (452, 1, 164328), (452, 2, 164344), (452, 3, 164360), (452, 4, 164376), (452, 5, 164392), (452, 6, 164408), (336, 3, 452), (336, 4, 21064), (336, 5, 49752), (336, 6, 49768), (336, 7, 49784), (336, 8, 49800), (336, 9, 49816), (336, 10, 49835), (336, 11, 49848), (336, 12, 49864), (738, 0, 49912), (720, 0, 738), (770, 0, 49944), (720, 1, 770), (802, 0, 49976), (720, 2, 802), (836, 0, 164696), (836, 1, 164712), (836, 2, 164728), (836, 3, 164744), (836, 4, 164760), (836, 5, 164776), (836, 6, 164792), (720, 3, 836), (720, 4, 21448), (720, 5, 50136), (720, 6, 50152), (720, 7, 50168), (720, 8, 50184), (720, 9, 50200), (720, 10, 50219), (720, 11, 50232), (720, 12, 50248), (6, 7, 820312), (6, 8, 820328), (6, 9, 21625), (6, 10, 21640), (1175, 1, 3277992), (1175, 8, 42168), (1175, 9, 42184), (1175, 10, 34008), (1175, 11, 99560), (1175, 12, 99576), (1175, 13, 99592), (1175, 14, 99608), (1175, 15, 99624), (1175, 16, 99640), (1175, 17, 99659), (1175, 18, 329048), (1175, 19, 329064), (1175, 20, 329080), (1175, 21, 329096), (1175, 22, 329112), (1175, 23, 329128), (1175, 24, 329144), (1175, 41, 50632), (1175, 43, 4916696), (1175, 44, 820712), (1175, 45, 26104), (1175, 46, 165384), (1175, 51, 27543064), (1175, 52, 337448), (1175, 53, 337464), (1175, 54, 820809), (1175, 55, 820824)]
def rfG : List (Nat × Nat × Nat) → Nat → Nat → Nat
  | [], _, _ => 0
  | (b, j, t) :: r, a, k => match Nat.beq b a && Nat.beq j k with
    | true => t
    | false => rfG r a k
def rfT (a k : Nat) : Nat := rfG rfL a k
abbrev classes : List vw_C := [(RX0, TX0, 13), (RX1, TX1, 17), (RX2, TX2, 2), (RX3, TX3, 9), (RX4, TX4, 9), (RX5, TX5, 11), (RX6, TX6, 11), (RX7, TX7, 56)]
/-- the good words of the tables -/
def wsG : List Cond := lw_tbl.filter goodWord
theorem tw (i : Nat) {w : Cond} (h : lw_tbl[i]? = some w) (g : goodWord w = true) : w ∈ wsG := List.mem_filter.mpr ⟨List.mem_of_getElem? h, g⟩
theorem twL {ws : List Cond} (ps : List Nat) (hp : ws = ps.filterMap (fun i => lw_tbl[i]?)) (h : ws.all goodWord = true) : ∀ w ∈ ws, w ∈ wsG := by
  intro w hw
  have h1 := List.all_eq_true.mp h w hw
  rw [hp] at hw
  obtain ⟨i, -, hi⟩ := List.mem_filterMap.mp hw
  exact tw i hi h1
theorem tw1 (i : Nat) {w : Cond} (h : tables_1_1[i]? = some w) (g : goodWord w = true) : w ∈ wsG := List.mem_filter.mpr ⟨List.mem_append_right _ (List.mem_append_left _ (List.mem_of_getElem? h)), g⟩
theorem tw2 (i : Nat) {w : Cond} (h : tables_1_2[i]? = some w) (g : goodWord w = true) : w ∈ wsG := List.mem_filter.mpr ⟨List.mem_append_right _ (List.mem_append_right _ (List.mem_append_left _ (List.mem_of_getElem? h))), g⟩
theorem tw3 (i : Nat) {w : Cond} (h : tables_1_3[i]? = some w) (g : goodWord w = true) : w ∈ wsG := List.mem_filter.mpr ⟨List.mem_append_right _ (List.mem_append_right _ (List.mem_append_right _ (List.mem_append_left _ (List.mem_of_getElem? h)))), g⟩
theorem tw4 (i : Nat) {w : Cond} (h : tables_1_4[i]? = some w) (g : goodWord w = true) : w ∈ wsG := List.mem_filter.mpr ⟨List.mem_append_right _ (List.mem_append_right _ (List.mem_append_right _ (List.mem_append_right _ (List.mem_append_left _ (List.mem_of_getElem? h))))), g⟩
theorem tw5 (i : Nat) {w : Cond} (h : tables_1_5[i]? = some w) (g : goodWord w = true) : w ∈ wsG := List.mem_filter.mpr ⟨List.mem_append_right _ (List.mem_append_right _ (List.mem_append_right _ (List.mem_append_right _ (List.mem_append_right _ (List.mem_append_left _ (List.mem_of_getElem? h)))))), g⟩
theorem tw6 (i : Nat) {w : Cond} (h : tables_1_6[i]? = some w) (g : goodWord w = true) : w ∈ wsG := List.mem_filter.mpr ⟨List.mem_append_right _ (List.mem_append_right _ (List.mem_append_right _ (List.mem_append_right _ (List.mem_append_right _ (List.mem_append_right _ (List.mem_of_getElem? h)))))), g⟩
theorem twS (i : Nat) {w : Cond} (h : (k2_sels lw_privs)[i]? = some w) (g : goodWord w = true) : w ∈ wsG := List.mem_filter.mpr ⟨List.mem_append_left _ (List.mem_of_getElem? h), g⟩
theorem goodG {ws : List Cond} (h : ∀ w ∈ ws, w ∈ wsG) : GoodIn wsG ws := fun w hw => ⟨h w hw, good_of_word (List.mem_filter.mp (h w hw)).2⟩
set_option maxRecDepth 20000 in
theorem iwX0 : ∀ w ∈ u_ws RX0 TX0 13, w ∈ wsG := twL [373, 375, 377, 379, 381, 383, 385, 387, 389, 391, 393, 395, 397] (by decide +kernel) (by decide +kernel)
set_option maxRecDepth 20000 in
theorem iwX1 : ∀ w ∈ u_ws RX1 TX1 17, w ∈ wsG := twL [180, 182, 184, 186, 188, 190, 192, 194, 196, 198, 200, 202, 204, 206, 208, 210, 212] (by decide +kernel) (by decide +kernel)
set_option maxRecDepth 20000 in
theorem iwX2 : ∀ w ∈ u_ws RX2 TX2 2, w ∈ wsG := twL [274, 276] (by decide +kernel) (by decide +kernel)
set_option maxRecDepth 20000 in
theorem iwX3 : ∀ w ∈ u_ws RX3 TX3 9, w ∈ wsG := twL [135, 137, 139, 141, 143, 145, 147, 149, 151] (by decide +kernel) (by decide +kernel)
set_option maxRecDepth 20000 in
theorem iwX4 : ∀ w ∈ u_ws RX4 TX4 9, w ∈ wsG := twL [322, 324, 326, 328, 330, 332, 334, 336, 338] (by decide +kernel) (by decide +kernel)
set_option maxRecDepth 20000 in
theorem iwX5 : ∀ w ∈ u_ws RX5 TX5 11, w ∈ wsG := twL [234, 236, 238, 240, 242, 244, 246, 248, 250, 252, 254] (by decide +kernel) (by decide +kernel)
set_option maxRecDepth 20000 in
theorem iwX6 : ∀ w ∈ u_ws RX6 TX6 11, w ∈ wsG := twL [412, 414, 416, 418, 420, 422, 424, 426, 428, 430, 432] (by decide +kernel) (by decide +kernel)
set_option maxRecDepth 20000 in
theorem iwX7 : ∀ w ∈ u_ws RX7 TX7 56, w ∈ wsG := twL [1056, 1058, 1060, 1062, 1064, 1066, 1068, 1070, 1072, 1074, 1076, 1078, 1080, 1082, 1084, 1086, 1088, 1090, 1092, 1094, 1096, 1098, 1100, 1102, 1104, 1106, 1108, 1110, 1112, 1114, 1116, 1118, 1120, 1122, 1124, 1126, 1128, 1130, 1132, 1134, 1136, 1138, 1140, 1142, 1144, 1146, 1148, 1150, 1152, 1154, 1156, 1158, 1160, 1162, 1164, 1166] (by decide +kernel) (by decide +kernel)
end
section
/-! THE PURE MACHINE: memory, locals, the relation to the heap -/
abbrev MM : Type := (Nat → Nat → Int32) × (Nat → Nat → Int64) × (Nat × Nat)
def gI (m : MM) (a i : Nat) : Int32 := m.1 a i
def gJ (m : MM) (a i : Nat) : Int64 := m.2.1 a i
def sI (m : MM) (a i : Nat) (v : Int32) : MM := (fun b j => if b = a then (if j = i then v else m.1 b j) else m.1 b j, m.2)
def sJ (m : MM) (a i : Nat) (v : Int64) : MM := (m.1, fun b j => if b = a then (if j = i then v else m.2.1 b j) else m.2.1 b j, m.2.2)
def sNw (m : MM) (b : Nat) : MM := (m.1, m.2.1, (b, m.2.2.2))
def sSp (m : MM) (b : Nat) : MM := (m.1, m.2.1, (m.2.2.1, b))
/-- environment of a walk: the depth of calls that is left, the script's length and ints -/
abbrev EE : Type := Nat × Nat × (Nat → Int32)
/-- a method: name, bytes, locals, answer's type, own class -/
abbrev MI : Type := MethodName × ByteArray × Nat × Option FieldType × String
/-- locals by place; .null: nothing known -/
def gl : Nat → List Value → Value
  | _, [] => .null
  | 0, v :: _ => v
  | n + 1, _ :: r => gl n r
def kl : Value → Value
  | .long _ => .null
  | .double _ => .null
  | v => v
def sl1 : Nat → Value → List Value → List Value
  | _, _, [] => []
  | 0, v, _ :: r => v :: r
  | n + 1, v, x :: r => (match n with
    | 0 => kl x
    | _ + 1 => x) :: sl1 n v r
def sl0 : Nat → List Value → List Value
  | _, [] => []
  | 0, _ :: r => .null :: r
  | n + 1, x :: r => x :: sl0 n r
def sl2 (i : Nat) (v : Value) (ls : List Value) : List Value := sl1 i v (sl0 (i + 1) ls)
/-- the list is brought to its plain form before one goes on -/
def fl : List Value → (List Value → Prop) → Prop
  | [], k => k []
  | v :: r, k => fl r (fun r' => k (v :: r'))
theorem fl_eq : ∀ (l : List Value) (k : List Value → Prop), fl l k = k l
  | [], _ => rfl
  | v :: r, k => fl_eq r (fun r' => k (v :: r'))
def pad : Nat → List Value → List Value
  | 0, _ => []
  | n + 1, [] => .null :: pad n []
  | n + 1, v :: r => v :: pad n r
def enl : List Value → List Value
  | [] => []
  | v :: r => match v with
    | .long x => .long x :: .null :: enl r
    | .double x => .double x :: .null :: enl r
    | w => w :: enl r
def tv (ad : Nat → Nat) (b : Nat) : Value → Value
  | .ref a => .ref (ad a)
  | .retAddr _ => .ref b
  | v => v
def vld (v : Value) : Prop := match v with
  | .ref a => a ∈ cellsL
  | _ => True
theorem gl_sl1 : ∀ (ls : List Value) (i j : Nat) (v : Value), gl j (sl1 i v ls) = .null ∨ (j = i ∧ gl j (sl1 i v ls) = v) ∨ (j ≠ i ∧ j + 1 ≠ i ∧ gl j (sl1 i v ls) = gl j ls) ∨ (j + 1 = i ∧ gl j (sl1 i v ls) = kl (gl j ls))
  | [], i, j, v => Or.inl (by cases i <;> cases j <;> rfl)
  | x :: r, 0, 0, v => Or.inr (Or.inl ⟨rfl, rfl⟩)
  | x :: r, 0, j + 1, v => Or.inr (Or.inr (Or.inl ⟨by omega, by omega, rfl⟩))
  | x :: r, 1, 0, v => Or.inr (Or.inr (Or.inr ⟨rfl, rfl⟩))
  | x :: r, i + 2, 0, v => Or.inr (Or.inr (Or.inl ⟨by omega, by omega, rfl⟩))
  | x :: r, i + 1, j + 1, v => by
    have e1 : gl (j + 1) (sl1 (i + 1) v (x :: r)) = gl j (sl1 i v r) := rfl
    have e2 : gl (j + 1) (x :: r) = gl j r := rfl
    rw [e1, e2]
    rcases gl_sl1 r i j v with h | ⟨h1, h2⟩ | ⟨h1, h2, h3⟩ | ⟨h1, h2⟩
    · exact Or.inl h
    · exact Or.inr (Or.inl ⟨by omega, h2⟩)
    · exact Or.inr (Or.inr (Or.inl ⟨by omega, by omega, h3⟩))
    · exact Or.inr (Or.inr (Or.inr ⟨by omega, h2⟩))
theorem gl_sl0 : ∀ (ls : List Value) (i j : Nat), gl j (sl0 i ls) = .null ∨ (j ≠ i ∧ gl j (sl0 i ls) = gl j ls)
  | [], i, j => Or.inl (by cases i <;> cases j <;> rfl)
  | x :: r, 0, 0 => Or.inl rfl
  | x :: r, 0, j + 1 => Or.inr ⟨by omega, rfl⟩
  | x :: r, i + 1, 0 => Or.inr ⟨by omega, rfl⟩
  | x :: r, i + 1, j + 1 => by
    have e1 : gl (j + 1) (sl0 (i + 1) (x :: r)) = gl j (sl0 i r) := rfl
    have e2 : gl (j + 1) (x :: r) = gl j r := rfl
    rw [e1, e2]
    rcases gl_sl0 r i j with h | ⟨h1, h2⟩
    · exact Or.inl h
    · exact Or.inr ⟨by omega, h2⟩
theorem kl_cat {v : Value} (h : kl v ≠ .null) : kl v = v ∧ v.category = 1 := by
  cases v <;> first | exact ⟨rfl, rfl⟩ | exact absurd rfl h
theorem tv_cat (ad : Nat → Nat) (b : Nat) (v : Value) : (tv ad b v).category = v.category := by cases v <;> rfl
/-- the locals of a frame hold what is listed -/
def LsOk (ad : Nat → Nat) (b nL : Nat) (ls : List Value) (la : Array Slot) : Prop := la.size = nL ∧ lv_wf la ∧ ∀ j : Nat, gl j ls ≠ .null → la[j]? = some (.val (tv ad b (gl j ls)))
def lsE (ad : Nat → Nat) (b nL : Nat) (ls : List Value) : List (Nat × Value) := (List.range nL).filterMap (fun j => if gl j ls = .null then none else some (j, tv ad b (gl j ls)))
theorem lsE_in {ad : Nat → Nat} {b nL : Nat} {ls : List Value} {q : Nat × Value} : q ∈ lsE ad b nL ls ↔ q.1 < nL ∧ gl q.1 ls ≠ .null ∧ q.2 = tv ad b (gl q.1 ls) := by
  obtain ⟨j, v⟩ := q
  simp only [lsE, List.mem_filterMap, List.mem_range]
  constructor
  · rintro ⟨k, hk, h⟩
    split at h
    · cases h
    · rename_i hn
      cases h
      exact ⟨hk, hn, rfl⟩
  · rintro ⟨h1, h2, h3⟩
    exact ⟨j, h1, by rw [if_neg h2, h3]⟩
theorem LsOk.has {ad : Nat → Nat} {b nL : Nat} {ls : List Value} {la : Array Slot} (h : LsOk ad b nL ls la) : lv_has la nL (lsE ad b nL ls) := by
  refine ⟨h.1, h.2.1, fun q hq => ?_⟩
  obtain ⟨h1, h2, h3⟩ := lsE_in.mp hq
  rw [h3]
  exact h.2.2 _ h2
theorem LsOk.lt {ad : Nat → Nat} {b nL : Nat} {ls : List Value} {la : Array Slot} (h : LsOk ad b nL ls la) {j : Nat} (hj : gl j ls ≠ .null) : j < nL := by
  rw [← h.1]
  exact lv_lt (h.2.2 j hj)
theorem LsOk.st1 {ad : Nat → Nat} {b nL i : Nat} {ls : List Value} {la la' : Array Slot} {v : Value} (h : LsOk ad b nL ls la) (hc : v.category = 1)
    (h' : lv_has la' nL ((i, tv ad b v) :: (lsE ad b nL ls).filter (fun q => !(q.1 == i) && !(q.1 + 1 == i && q.2.category == 2)))) : LsOk ad b nL (sl1 i v ls) la' := by
  refine ⟨h'.1, h'.2.1, fun j hj => ?_⟩
  rcases gl_sl1 ls i j v with e | ⟨e1, e2⟩ | ⟨e1, e2, e3⟩ | ⟨e1, e2⟩
  · exact absurd e hj
  · rw [e2, e1]
    exact h'.2.2 (i, tv ad b v) List.mem_cons_self
  · rw [e3] at hj ⊢
    refine h'.2.2 (j, tv ad b (gl j ls)) (List.mem_cons_of_mem _ (List.mem_filter.mpr ⟨lsE_in.mpr ⟨h.lt hj, hj, rfl⟩, ?_⟩))
    simp [e1, e2]
  · rw [e2] at hj ⊢
    obtain ⟨k1, k2⟩ := kl_cat hj
    rw [k1] at hj ⊢
    refine h'.2.2 (j, tv ad b (gl j ls)) (List.mem_cons_of_mem _ (List.mem_filter.mpr ⟨lsE_in.mpr ⟨h.lt hj, hj, rfl⟩, ?_⟩))
    have : j ≠ i := by omega
    simp [this, tv_cat, k2]
theorem LsOk.st2 {ad : Nat → Nat} {b nL i : Nat} {ls : List Value} {la la' : Array Slot} {v : Value} (h : LsOk ad b nL ls la)
    (h' : lv_has la' nL ((i, tv ad b v) :: (lsE ad b nL ls).filter (fun q => !(q.1 == i) && (!(q.1 == i + 1) && !(q.1 + 1 == i && q.2.category == 2))))) : LsOk ad b nL (sl2 i v ls) la' := by
  refine ⟨h'.1, h'.2.1, fun j hj => ?_⟩
  unfold sl2 at hj ⊢
  rcases gl_sl1 (sl0 (i + 1) ls) i j v with e | ⟨e1, e2⟩ | ⟨e1, e2, e3⟩ | ⟨e1, e2⟩
  · exact absurd e hj
  · rw [e2, e1]
    exact h'.2.2 (i, tv ad b v) List.mem_cons_self
  · rw [e3] at hj ⊢
    rcases gl_sl0 ls (i + 1) j with e | ⟨f1, f2⟩
    · exact absurd e hj
    · rw [f2] at hj ⊢
      refine h'.2.2 (j, tv ad b (gl j ls)) (List.mem_cons_of_mem _ (List.mem_filter.mpr ⟨lsE_in.mpr ⟨h.lt hj, hj, rfl⟩, ?_⟩))
      simp [e1, e2, f1]
  · rw [e2] at hj ⊢
    obtain ⟨k1, k2⟩ := kl_cat hj
    rw [k1] at hj ⊢
    rcases gl_sl0 ls (i + 1) j with e | ⟨f1, f2⟩
    · exact absurd e hj
    · rw [f2] at hj k2 ⊢
      refine h'.2.2 (j, tv ad b (gl j ls)) (List.mem_cons_of_mem _ (List.mem_filter.mpr ⟨lsE_in.mpr ⟨h.lt hj, hj, rfl⟩, ?_⟩))
      have : j ≠ i := by omega
      simp [this, f1, tv_cat, k2]
theorem vld_sl1 {ls : List Value} {i : Nat} {v : Value} (h : ∀ j, vld (gl j ls)) (hv : vld v) : ∀ j, vld (gl j (sl1 i v ls)) := by
  intro j
  rcases gl_sl1 ls i j v with e | ⟨e1, e2⟩ | ⟨e1, e2, e3⟩ | ⟨e1, e2⟩
  · rw [e]; trivial
  · rw [e2]; exact hv
  · rw [e3]; exact h j
  · rw [e2]
    have := h j
    cases hg : gl j ls <;> rw [hg] at this <;> first | exact this | trivial
theorem vld_sl2 {ls : List Value} {i : Nat} {v : Value} (h : ∀ j, vld (gl j ls)) (hv : vld v) : ∀ j, vld (gl j (sl2 i v ls)) := by
  refine vld_sl1 (fun j => ?_) hv
  rcases gl_sl0 ls (i + 1) j with e | ⟨f1, f2⟩
  · rw [e]; trivial
  · rw [f2]; exact h j
/-! the world -/
def rf (m : MM) (a k kd : Nat) : Nat := match kd with
  | 2 => m.2.2.1
  | 3 => m.2.2.2
  | _ => rfT a k
def fieldV (ad : Nat → Nat) (m : MM) (a k kd : Nat) : Value := if kd = 0 ∨ kd = 4 then .int (gI m a k) else .ref (ad (rf m a k kd))
def mapF (ad : Nat → Nat) (m : MM) (a : Nat) : Nat → List Nat → List Value
  | _, [] => []
  | k, kd :: r => fieldV ad m a k kd :: mapF ad m a (k + 1) r
theorem mapF_len (ad : Nat → Nat) (m : MM) (a : Nat) : ∀ (l : List Nat) (k : Nat), (mapF ad m a k l).length = l.length
  | [], _ => rfl
  | _ :: r, k => congrArg (· + 1) (mapF_len ad m a r (k + 1))
theorem mapF_get (ad : Nat → Nat) (m : MM) (a : Nat) : ∀ (l : List Nat) (k j : Nat), (mapF ad m a k l)[j]? = l[j]?.map (fun kd => fieldV ad m a (k + j) kd)
  | [], k, j => by simp [mapF]
  | kd :: r, k, 0 => rfl
  | kd :: r, k, j + 1 => by
    have e : (mapF ad m a k (kd :: r))[j + 1]? = (mapF ad m a (k + 1) r)[j]? := rfl
    rw [e, mapF_get ad m a r (k + 1) j]
    have : k + 1 + j = k + (j + 1) := by omega
    rw [this]
    rfl
def cellE (ad : Nat → Nat) (dA : Nat → ClassId) (m : MM) (a : Nat) : va_E :=
  if a % 16 < 8 then .inr (a % 16, mapF ad m a 0 (fk (a % 16)))
  else if a % 16 = 9 then .inl (dA (a % 16), a / 4096, .inr (.inl (fun i => gJ m a i)))
  else .inl (dA (a % 16), a / 4096, .inl (fun i => gI m a i))
def wsM (ad : Nat → Nat) (dA : Nat → ClassId) (m : MM) : va_W := cellsL.map (fun a => (ad a, cellE ad dA m a))
def tysL (dA : Nat → ClassId) : List (ClassId × FieldType) := [(dA 8, .int), (dA 9, .long), (dA 10, .byte), (dA 11, .boolean)]
def okB (m : MM) : Prop := m.2.2.1 ∈ cellsL ∧ m.2.2.2 ∈ cellsL
theorem cells_nd : va_nd cellsL = true := by decide +kernel
theorem wsM_at {ad : Nat → Nat} {dA : Nat → ClassId} {a : Nat} (h : a ∈ cellsL) (m : MM) : ∃ q0 : Nat, cellsL[q0]? = some a ∧ (wsM ad dA m)[q0]? = some (ad a, cellE ad dA m a) := by
  obtain ⟨q0, hq⟩ := List.getElem?_of_mem h
  exact ⟨q0, hq, by rw [wsM, List.getElem?_map, hq]; rfl⟩
theorem wsM_set {ad : Nat → Nat} {dA : Nat → ClassId} {a q0 : Nat} {m m' : MM} {e : va_E} (hq : cellsL[q0]? = some a) (ho : ∀ b, b ∈ cellsL → b ≠ a → cellE ad dA m' b = cellE ad dA m b) (he : cellE ad dA m' a = e) :
    (wsM ad dA m).set q0 (ad a, e) = wsM ad dA m' := by
  apply List.ext_getElem?
  intro j
  have hl : q0 < cellsL.length := (List.getElem?_eq_some_iff.mp hq).1
  by_cases hj : j = q0
  · subst hj
    rw [List.getElem?_set_self (by rw [wsM, List.length_map]; exact hl), wsM, List.getElem?_map, hq, ← he]
    rfl
  · rw [List.getElem?_set_ne (Ne.symm hj), wsM, wsM, List.getElem?_map, List.getElem?_map]
    cases hc : cellsL[j]? with
    | none => rfl
    | some b =>
      have hb : b ≠ a := by
        intro q
        subst q
        exact hj (va_nd_inj cellsL cells_nd j q0 b hc hq)
      show some (ad b, cellE ad dA m b) = some (ad b, cellE ad dA m' b)
      rw [ho b (List.mem_of_getElem? hc) hb]
theorem wsM_D {A : Nat → Prop} {ad : Nat → Nat} {dA : Nat → ClassId} {m : MM} (m' : MM) (h : va_D A (wsM ad dA m)) : va_D A (wsM ad dA m') := by
  have key : ∀ (k : Nat) (q : Nat × va_E), (wsM ad dA m')[k]? = some q → ∃ q0, (wsM ad dA m)[k]? = some q0 ∧ q0.1 = q.1 := by
    intro k q hk
    rw [wsM, List.getElem?_map] at hk
    rw [wsM, List.getElem?_map]
    cases hc : cellsL[k]? with
    | none => rw [hc] at hk; cases hk
    | some b =>
      rw [hc] at hk
      cases hk
      exact ⟨_, rfl, rfl⟩
  refine ⟨fun i j x y hi hj hxy => ?_, fun k q hk => ?_⟩
  · obtain ⟨x0, h1, h2⟩ := key i x hi
    obtain ⟨y0, h3, h4⟩ := key j y hj
    exact h.1 i j x0 y0 h1 h3 (h2.trans (hxy.trans h4.symm))
  · obtain ⟨q0, h1, h2⟩ := key k q hk
    rw [← h2]
    exact h.2 k q0 h1
def Rel (dC : Nat → ClassId) (dI : Nat → Nat → Nat) (dA : Nat → ClassId) (ad : Nat → Nat) (A : Nat → Prop) (m : MM) (H : Heap) : Prop :=
  va_P (dC, dI) classes (wsM ad dA m) H ∧ va_D A (wsM ad dA m) ∧ okB m
/-- links of methods among nest mates -/
abbrev nsT : Type := String × Nat × MethodName × String
def nsL : List nsT := [("SaleRounds$Reader", 162, yX6_within, "SaleRounds"), ("SaleRounds$Book", 114, yX6_saleAt, "SaleRounds"), ("SaleRounds$Sales", 40, yX6_saleAt, "SaleRounds")]
/-- the model's words, as the launch lays them; kV: the places of text and bytes -/
def lenW : List Nat := [44]
def bytW : List (List Int32) := [[108, 97, 110, 100, 32, 103, 111, 111, 100, 32, 102, 105, 114, 109, 32, 115, 97, 108, 101, 32, 112, 97, 105, 100, 32, 104, 97, 110, 100, 32, 114, 111, 111, 109, 32, 100, 97, 121, 32, 109, 97, 114, 107, 32]]
def StK (A : Nat → Prop) (kV : (Nat → Nat) × (Nat → Nat)) (U : State) (H : Heap) : Prop :=
  vk_R "SaleRoundsModel" 141 "land good firm sale paid hand room day mark " (kV.1 0) U ∧ va_Z "java/lang/String" "COMPACT_STRINGS" "Z" (.int 1) A U H ∧ va_Zq "jdk/internal/util/Preconditions" "SIOOBE_FORMATTER" "Ljava/util/function/BiFunction;" A U H ∧ vk_S 1 lenW bytW kV.1 kV.2 A U H
def StE (A : Nat → Prop) (U : State) (H : Heap) : Prop := ∃ kV, StK A kV U H
theorem StK.to {A A' : Nat → Prop} {kV : (Nat → Nat) × (Nat → Nat)} {s U : State} {H H' : Heap} (h : StK A kV s H) (hk : ∀ q : Nat, q < H.size → ¬ A q → H'[q]? = H[q]?) (hA : ∀ q, A' q → A q) (hW : s.WarmedH U.vm) : StK A' kV U H' :=
  ⟨vk_R.warm hW h.1, va_Z.moved hW.alike ((h.2.1.kept hk).narrow hA), va_Zq.moved hW.alike ((h.2.2.1.kept hk).narrow hA), vk_S.moved hW.alike ((h.2.2.2.kept hk).narrow hA)⟩
theorem StK.blind {A : Nat → Prop} {kV : (Nat → Nat) × (Nat → Nat)} {U : State} {g : JFrame} {mk : MethodId} {a : Array Value} {H : Heap} (h : StK A kV U H) : StK A kV (U.calling g mk a) H :=
  ⟨vk_R.same (u := U) (U := U.calling g mk a) rfl h.1, va_Z.moved (u := U) (U := U.calling g mk a) (Vm.Alike.refl U.vm) h.2.1, va_Zq.moved (u := U) (U := U.calling g mk a) (Vm.Alike.refl U.vm) h.2.2.1, vk_S.moved (u := U) (U := U.calling g mk a) (Vm.Alike.refl U.vm) h.2.2.2⟩
def Cx (E : EE) (μ : MI) (p : Program) (R : Room) (s : State) (mid : MethodId) (args : Array Value) (c : Code) (dC : Nat → ClassId) (dI : Nat → Nat → Nat) (dA : Nat → ClassId) (A : Nat → Prop) (C0 S0 b : Nat) : Prop :=
  p.tables.exec = Jvm.exec ∧ c.code = μ.2.1 ∧ c.maxLocals = μ.2.2.1 ∧ s.vm.findClass μ.2.2.2.2 = some mid.cls ∧ (∀ w ∈ wsG, w.before args s = true) ∧ (∀ q ∈ nsL, va_Nw (.methodLinkNest q.1 q.2.1 q.2.2.1 q.2.2.2) s) ∧
  va_K (dC, dI) classes (tysL dA) s ∧ (∀ q, s.heap.size ≤ q → A q) ∧ (E.1 + 4 ≤ R.frames ∧ 64 * E.1 + 256 ≤ R.locals ∧ C0 ≤ R.cells ∧ S0 ≤ R.slots) ∧ (μ.2.2.2.2 = "SaleRoundsLaw" → va_X b E.2.1 E.2.2 s s.heap ∧ b < s.heap.size ∧ ¬ A b) ∧ StE A s s.heap
abbrev QQ : Type := Option Value → MM → Prop
/-- how a method may end -/
def RD (μ : MI) (pc : Nat) (r : Option Value) : Prop :=
  (∃ v, r = some (.int v) ∧ decode μ.2.1 pc = .ok (.ireturn, 1) ∧ (μ.2.2.2.1 = some .int ∨ (μ.2.2.2.1 = some .boolean ∧ (v = 0 ∨ v = 1)))) ∨
  (∃ v, r = some (.long v) ∧ decode μ.2.1 pc = .ok (.lreturn, 1) ∧ μ.2.2.2.1 = some .long) ∨ (r = none ∧ decode μ.2.1 pc = .ok (.return_, 1) ∧ μ.2.2.2.1 = none)
def Rt (μ : MI) (P : QQ) (p : Program) (l : Launch) (e : Env) (R : Room) (s : State) (mid : MethodId) (args : Array Value) (below : List Frame) (meth : Method) (c : Code) (dC : Nat → ClassId) (dI : Nat → Nat → Nat) (dA : Nat → ClassId) (ad : Nat → Nat) (A : Nat → Prop) (C0 S0 : Nat) (Qf : State → Prop) : Prop :=
  ∀ (r : Option Value) (m : MM) (H : Heap) (locs : List Loc) (la : Array Slot) (pc : Nat), P r m → RD μ pc r → Rel dC dI dA ad A m H → va_S A s.heap H locs → W p l e R s mid args below meth c H locs C0 S0 Qf (F0 mid pc la r.toList)
/-- from here the machine, in this context, comes to Qf -/
def AtC (μ : MI) (p : Program) (l : Launch) (e : Env) (R : Room) (s : State) (mid : MethodId) (args : Array Value) (below : List Frame) (meth : Method) (c : Code) (dC : Nat → ClassId) (dI : Nat → Nat → Nat) (dA : Nat → ClassId) (ad : Nat → Nat) (b : Nat) (A : Nat → Prop) (C0 S0 : Nat) (Qf : State → Prop) (pc : Nat) (ls st : List Value) (m : MM) : Prop :=
  ∀ (H : Heap) (locs : List Loc) (la : Array Slot), (∀ j, vld (gl j ls)) → (∀ v ∈ st, vld v) → Rel dC dI dA ad A m H → va_S A s.heap H locs → LsOk ad b μ.2.2.1 ls la →
    W p l e R s mid args below meth c H locs C0 S0 Qf (F0 mid pc la (st.map (tv ad b)))
/-- from here the method comes to its end with P -/
def At (E : EE) (μ : MI) (P : QQ) (pc : Nat) (ls st : List Value) (m : MM) : Prop :=
  ∀ (p : Program) (l : Launch) (e : Env) (R : Room) (s : State) (mid : MethodId) (args : Array Value) (below : List Frame) (meth : Method) (c : Code) (dC : Nat → ClassId) (dI : Nat → Nat → Nat) (dA : Nat → ClassId) (ad : Nat → Nat) (b : Nat) (A : Nat → Prop) (C0 S0 : Nat) (Qf : State → Prop),
    Cx E μ p R s mid args c dC dI dA A C0 S0 b → Rt μ P p l e R s mid args below meth c dC dI dA ad A C0 S0 Qf → AtC μ p l e R s mid args below meth c dC dI dA ad b A C0 S0 Qf pc ls st m
/-! operations -/
abbrev NX : Type := List Value → List Value → MM → Prop
abbrev OP : Type := EE → QQ → NX → (Nat → NX) → NX
def OpOk (μ : MI) (len pc : Nat) (op : OP) : Prop := ∀ (E : EE) (P : QQ) (p : Program) (l : Launch) (e : Env) (R : Room) (s : State) (mid : MethodId) (args : Array Value) (below : List Frame) (meth : Method) (c : Code) (dC : Nat → ClassId) (dI : Nat → Nat → Nat) (dA : Nat → ClassId) (ad : Nat → Nat) (b : Nat) (A : Nat → Prop) (C0 S0 : Nat) (Qf : State → Prop),
  Cx E μ p R s mid args c dC dI dA A C0 S0 b → Rt μ P p l e R s mid args below meth c dC dI dA ad A C0 S0 Qf → ∀ (nx : NX) (jp : Nat → NX) (ls st : List Value) (m : MM),
  (∀ ls st m, nx ls st m → AtC μ p l e R s mid args below meth c dC dI dA ad b A C0 S0 Qf (pc + len) ls st m) → (∀ t ls st m, jp t ls st m → AtC μ p l e R s mid args below meth c dC dI dA ad b A C0 S0 Qf t ls st m) → op E P nx jp ls st m → AtC μ p l e R s mid args below meth c dC dI dA ad b A C0 S0 Qf pc ls st m
def oIc (v : Int32) : OP := fun _ _ nx _ ls st m => nx ls (.int v :: st) m
def oJc (v : Int64) : OP := fun _ _ nx _ ls st m => nx ls (.long v :: st) m
def oIl (i : Nat) : OP := fun _ _ nx _ ls st m => match gl i ls with
  | .int x => nx ls (.int x :: st) m
  | _ => False
def oJl (i : Nat) : OP := fun _ _ nx _ ls st m => match gl i ls with
  | .long x => nx ls (.long x :: st) m
  | _ => False
def oAl (i : Nat) : OP := fun _ _ nx _ ls st m => match gl i ls with
  | .ref x => nx ls (.ref x :: st) m
  | .retAddr x => nx ls (.retAddr x :: st) m
  | _ => False
def oIs (i : Nat) : OP := fun _ _ nx _ ls st m => match st with
  | .int x :: r => fl (sl1 i (.int x) ls) (fun ls' => nx ls' r m)
  | _ => False
def oJs (i : Nat) : OP := fun _ _ nx _ ls st m => match st with
  | .long x :: r => fl (sl2 i (.long x) ls) (fun ls' => nx ls' r m)
  | _ => False
def oAs (i : Nat) : OP := fun _ _ nx _ ls st m => match st with
  | .ref x :: r => fl (sl1 i (.ref x) ls) (fun ls' => nx ls' r m)
  | _ => False
def oInc (i : Nat) (v : Int32) : OP := fun _ _ nx _ ls st m => match gl i ls with
  | .int x => fl (sl1 i (.int (x + v)) ls) (fun ls' => nx ls' st m)
  | _ => False
section OpsA
variable {μ : MI} {pc : Nat}
theorem okIc1 {n : Int} {v : Int32} (hd : decode μ.2.1 pc = .ok (.iconst n, 1)) (hv : Int32.ofInt n = v) : OpOk μ 1 pc (oIc v) := by
  intro E P p l e R s mid args below meth c dC dI dA ad b A C0 S0 Qf hC hR nx jp ls st m hn hj h H locs la hl hs hE hS hL
  exact lv_iconst hC.1 hC.2.1 hd hv (hn _ _ _ h H locs la hl (List.forall_mem_cons.mpr ⟨trivial, hs⟩) hE hS hL)
theorem okIc2 {n : Int} {v : Int32} (hd : decode μ.2.1 pc = .ok (.bipush n, 2)) (hv : (Int8.ofInt n).toInt32 = v) : OpOk μ 2 pc (oIc v) := by
  intro E P p l e R s mid args below meth c dC dI dA ad b A C0 S0 Qf hC hR nx jp ls st m hn hj h H locs la hl hs hE hS hL
  exact lv_bipush hC.1 hC.2.1 hd hv (hn _ _ _ h H locs la hl (List.forall_mem_cons.mpr ⟨trivial, hs⟩) hE hS hL)
theorem okIc3 {n : Int} {v : Int32} (hd : decode μ.2.1 pc = .ok (.sipush n, 3)) (hv : (Int16.ofInt n).toInt32 = v) : OpOk μ 3 pc (oIc v) := by
  intro E P p l e R s mid args below meth c dC dI dA ad b A C0 S0 Qf hC hR nx jp ls st m hn hj h H locs la hl hs hE hS hL
  exact lv_sipush hC.1 hC.2.1 hd hv (hn _ _ _ h H locs la hl (List.forall_mem_cons.mpr ⟨trivial, hs⟩) hE hS hL)
theorem okIcL {k : Nat} {v : Int32} (hd : decode μ.2.1 pc = .ok (.ldc k, 2)) (hw : Jvm.Cond.constant μ.2.2.2.2 k v ∈ wsG) : OpOk μ 2 pc (oIc v) := by
  intro E P p l e R s mid args below meth c dC dI dA ad b A C0 S0 Qf hC hR nx jp ls st m hn hj h H locs la hl hs hE hS hL
  exact lv_ldc hC.1 hC.2.1 hC.2.2.2.1 (hC.2.2.2.2.1 _ hw) hd (hn _ _ _ h H locs la hl (List.forall_mem_cons.mpr ⟨trivial, hs⟩) hE hS hL)
theorem okIcW {k : Nat} {v : Int32} (hd : decode μ.2.1 pc = .ok (.ldc_w k, 3)) (hw : Jvm.Cond.constant μ.2.2.2.2 k v ∈ wsG) : OpOk μ 3 pc (oIc v) := by
  intro E P p l e R s mid args below meth c dC dI dA ad b A C0 S0 Qf hC hR nx jp ls st m hn hj h H locs la hl hs hE hS hL
  exact lv_ldcw hC.1 hC.2.1 hC.2.2.2.1 (hC.2.2.2.2.1 _ hw) hd (hn _ _ _ h H locs la hl (List.forall_mem_cons.mpr ⟨trivial, hs⟩) hE hS hL)
theorem okJc1 {n : Fin 2} {v : Int64} (hd : decode μ.2.1 pc = .ok (.lconst n, 1)) (hv : Int64.ofNat (n : Nat) = v) : OpOk μ 1 pc (oJc v) := by
  intro E P p l e R s mid args below meth c dC dI dA ad b A C0 S0 Qf hC hR nx jp ls st m hn hj h H locs la hl hs hE hS hL
  exact lv_lconst hC.1 hC.2.1 hd hv (hn _ _ _ h H locs la hl (List.forall_mem_cons.mpr ⟨trivial, hs⟩) hE hS hL)
theorem okJcL {k : Nat} {v : Int64} (hd : decode μ.2.1 pc = .ok (.ldc2_w k, 3)) (hw : Jvm.Cond.constantLong μ.2.2.2.2 k v ∈ wsG) : OpOk μ 3 pc (oJc v) := by
  intro E P p l e R s mid args below meth c dC dI dA ad b A C0 S0 Qf hC hR nx jp ls st m hn hj h H locs la hl hs hE hS hL
  exact lv_ldc2 hC.1 hC.2.1 hC.2.2.2.1 (hC.2.2.2.2.1 _ hw) hd (hn _ _ _ h H locs la hl (List.forall_mem_cons.mpr ⟨trivial, hs⟩) hE hS hL)
theorem ls_at {ad : Nat → Nat} {b nL i : Nat} {ls : List Value} {la : Array Slot} {v : Value} (h : LsOk ad b nL ls la) (hg : gl i ls = v) (hv : v ≠ .null) : la[i]? = some (.val (tv ad b v)) := by
  subst hg
  exact h.2.2 i hv
theorem okIl1 {k : Fin 4} {i : Nat} (hd : decode μ.2.1 pc = .ok (.iload_n k, 1)) (hi : (k : Nat) = i) : OpOk μ 1 pc (oIl i) := by
  intro E P p l e R s mid args below meth c dC dI dA ad b A C0 S0 Qf hC hR nx jp ls st m hn hj h H locs la hl hs hE hS hL
  unfold oIl at h
  split at h
  · rename_i x hg
    exact lv_iload_n hC.1 hC.2.1 hd hi (ls_at hL hg (by simp)) (hn _ _ _ h H locs la hl (List.forall_mem_cons.mpr ⟨trivial, hs⟩) hE hS hL)
  · exact h.elim
theorem okIl2 {i : Nat} (hd : decode μ.2.1 pc = .ok (.iload i, 2)) : OpOk μ 2 pc (oIl i) := by
  intro E P p l e R s mid args below meth c dC dI dA ad b A C0 S0 Qf hC hR nx jp ls st m hn hj h H locs la hl hs hE hS hL
  unfold oIl at h
  split at h
  · rename_i x hg
    exact lv_iload hC.1 hC.2.1 hd (ls_at hL hg (by simp)) (hn _ _ _ h H locs la hl (List.forall_mem_cons.mpr ⟨trivial, hs⟩) hE hS hL)
  · exact h.elim
theorem okJl1 {k : Fin 4} {i : Nat} (hd : decode μ.2.1 pc = .ok (.lload_n k, 1)) (hi : (k : Nat) = i) : OpOk μ 1 pc (oJl i) := by
  intro E P p l e R s mid args below meth c dC dI dA ad b A C0 S0 Qf hC hR nx jp ls st m hn hj h H locs la hl hs hE hS hL
  unfold oJl at h
  split at h
  · rename_i x hg
    exact lv_lload_n hC.1 hC.2.1 hd hi (ls_at hL hg (by simp)) (hn _ _ _ h H locs la hl (List.forall_mem_cons.mpr ⟨trivial, hs⟩) hE hS hL)
  · exact h.elim
theorem okJl2 {i : Nat} (hd : decode μ.2.1 pc = .ok (.lload i, 2)) : OpOk μ 2 pc (oJl i) := by
  intro E P p l e R s mid args below meth c dC dI dA ad b A C0 S0 Qf hC hR nx jp ls st m hn hj h H locs la hl hs hE hS hL
  unfold oJl at h
  split at h
  · rename_i x hg
    exact lv_lload hC.1 hC.2.1 hd (ls_at hL hg (by simp)) (hn _ _ _ h H locs la hl (List.forall_mem_cons.mpr ⟨trivial, hs⟩) hE hS hL)
  · exact h.elim
theorem okAl1 {k : Fin 4} {i : Nat} (hd : decode μ.2.1 pc = .ok (.aload_n k, 1)) (hi : (k : Nat) = i) : OpOk μ 1 pc (oAl i) := by
  intro E P p l e R s mid args below meth c dC dI dA ad b A C0 S0 Qf hC hR nx jp ls st m hn hj h H locs la hl hs hE hS hL
  unfold oAl at h
  split at h
  · rename_i x hg
    exact lv_aload_n hC.1 hC.2.1 hd hi (ls_at hL hg (by simp)) (hn _ _ _ h H locs la hl (List.forall_mem_cons.mpr ⟨by rw [← hg]; exact hl i, hs⟩) hE hS hL)
  · rename_i x hg
    exact lv_aload_n hC.1 hC.2.1 hd hi (ls_at hL hg (by simp)) (hn _ _ _ h H locs la hl (List.forall_mem_cons.mpr ⟨trivial, hs⟩) hE hS hL)
  · exact h.elim
theorem okAl2 {i : Nat} (hd : decode μ.2.1 pc = .ok (.aload i, 2)) : OpOk μ 2 pc (oAl i) := by
  intro E P p l e R s mid args below meth c dC dI dA ad b A C0 S0 Qf hC hR nx jp ls st m hn hj h H locs la hl hs hE hS hL
  unfold oAl at h
  split at h
  · rename_i x hg
    exact lv_aload hC.1 hC.2.1 hd (ls_at hL hg (by simp)) (hn _ _ _ h H locs la hl (List.forall_mem_cons.mpr ⟨by rw [← hg]; exact hl i, hs⟩) hE hS hL)
  · rename_i x hg
    exact lv_aload hC.1 hC.2.1 hd (ls_at hL hg (by simp)) (hn _ _ _ h H locs la hl (List.forall_mem_cons.mpr ⟨trivial, hs⟩) hE hS hL)
  · exact h.elim
theorem okIs1 {k : Fin 4} {i : Nat} (hd : decode μ.2.1 pc = .ok (.istore_n k, 1)) (hi : (k : Nat) = i) (hlt : i < μ.2.2.1) : OpOk μ 1 pc (oIs i) := by
  intro E P p l e R s mid args below meth c dC dI dA ad b A C0 S0 Qf hC hR nx jp ls st m hn hj h H locs la hl hs hE hS hL
  unfold oIs at h
  split at h
  · rename_i x r
    rw [fl_eq] at h
    exact lv_istore_n hC.1 hC.2.1 hd hi hL.has hlt rfl (fun la' h' => hn _ _ _ h H locs la' (vld_sl1 hl trivial) (List.forall_mem_cons.mp hs).2 hE hS (hL.st1 rfl h'))
  · exact h.elim
theorem okIs2 {i : Nat} (hd : decode μ.2.1 pc = .ok (.istore i, 2)) (hlt : i < μ.2.2.1) : OpOk μ 2 pc (oIs i) := by
  intro E P p l e R s mid args below meth c dC dI dA ad b A C0 S0 Qf hC hR nx jp ls st m hn hj h H locs la hl hs hE hS hL
  unfold oIs at h
  split at h
  · rename_i x r
    rw [fl_eq] at h
    exact lv_istore hC.1 hC.2.1 hd hL.has hlt rfl (fun la' h' => hn _ _ _ h H locs la' (vld_sl1 hl trivial) (List.forall_mem_cons.mp hs).2 hE hS (hL.st1 rfl h'))
  · exact h.elim
theorem okJs1 {k : Fin 4} {i : Nat} (hd : decode μ.2.1 pc = .ok (.lstore_n k, 1)) (hi : (k : Nat) = i) (hlt : i + 1 < μ.2.2.1) : OpOk μ 1 pc (oJs i) := by
  intro E P p l e R s mid args below meth c dC dI dA ad b A C0 S0 Qf hC hR nx jp ls st m hn hj h H locs la hl hs hE hS hL
  unfold oJs at h
  split at h
  · rename_i x r
    rw [fl_eq] at h
    exact lv_lstore_n hC.1 hC.2.1 hd hi hL.has hlt rfl (fun la' h' => hn _ _ _ h H locs la' (vld_sl2 hl trivial) (List.forall_mem_cons.mp hs).2 hE hS (hL.st2 h'))
  · exact h.elim
theorem okJs2 {i : Nat} (hd : decode μ.2.1 pc = .ok (.lstore i, 2)) (hlt : i + 1 < μ.2.2.1) : OpOk μ 2 pc (oJs i) := by
  intro E P p l e R s mid args below meth c dC dI dA ad b A C0 S0 Qf hC hR nx jp ls st m hn hj h H locs la hl hs hE hS hL
  unfold oJs at h
  split at h
  · rename_i x r
    rw [fl_eq] at h
    exact lv_lstore hC.1 hC.2.1 hd hL.has hlt rfl (fun la' h' => hn _ _ _ h H locs la' (vld_sl2 hl trivial) (List.forall_mem_cons.mp hs).2 hE hS (hL.st2 h'))
  · exact h.elim
theorem okAs1 {k : Fin 4} {i : Nat} (hd : decode μ.2.1 pc = .ok (.astore_n k, 1)) (hi : (k : Nat) = i) (hlt : i < μ.2.2.1) : OpOk μ 1 pc (oAs i) := by
  intro E P p l e R s mid args below meth c dC dI dA ad b A C0 S0 Qf hC hR nx jp ls st m hn hj h H locs la hl hs hE hS hL
  unfold oAs at h
  split at h
  · rename_i x r
    rw [fl_eq] at h
    exact lv_astore_n hC.1 hC.2.1 hd hi hL.has hlt rfl (fun la' h' => hn _ _ _ h H locs la' (vld_sl1 hl (List.forall_mem_cons.mp hs).1) (List.forall_mem_cons.mp hs).2 hE hS (hL.st1 (v := .ref x) rfl h'))
  · exact h.elim
theorem okAs2 {i : Nat} (hd : decode μ.2.1 pc = .ok (.astore i, 2)) (hlt : i < μ.2.2.1) : OpOk μ 2 pc (oAs i) := by
  intro E P p l e R s mid args below meth c dC dI dA ad b A C0 S0 Qf hC hR nx jp ls st m hn hj h H locs la hl hs hE hS hL
  unfold oAs at h
  split at h
  · rename_i x r
    rw [fl_eq] at h
    exact lv_astore hC.1 hC.2.1 hd hL.has hlt rfl (fun la' h' => hn _ _ _ h H locs la' (vld_sl1 hl (List.forall_mem_cons.mp hs).1) (List.forall_mem_cons.mp hs).2 hE hS (hL.st1 (v := .ref x) rfl h'))
  · exact h.elim
theorem okInc {i : Nat} {n : Int} {v : Int32} (hd : decode μ.2.1 pc = .ok (.iinc i n, 3)) (hv : Int32.ofInt n = v) : OpOk μ 3 pc (oInc i v) := by
  intro E P p l e R s mid args below meth c dC dI dA ad b A C0 S0 Qf hC hR nx jp ls st m hn hj h H locs la hl hs hE hS hL
  subst hv
  unfold oInc at h
  split at h
  · rename_i x hg
    rw [fl_eq] at h
    have hlt : i < μ.2.2.1 := hL.lt (by rw [hg]; simp)
    have hin : (i, Value.int x) ∈ lsE ad b μ.2.2.1 ls := lsE_in.mpr ⟨hlt, by rw [hg]; simp, by rw [hg]; rfl⟩
    obtain ⟨k, hk⟩ := List.getElem?_of_mem hin
    exact lv_iinc hC.1 hC.2.1 hd hL.has hk rfl hlt rfl (fun la' h' => hn _ _ _ h H locs la' (vld_sl1 hl trivial) hs hE hS (hL.st1 (v := .int (x + Int32.ofInt n)) rfl h'))
  · exact h.elim
end OpsA
end
section
/-! OPERATIONS, second half: arithmetic, branches, fields, arrays, ends, calls -/
section OpsB
variable {μ : MI} {pc : Nat}
def oIadd : OP := fun _ _ nx _ ls st m => match st with
  | .int y :: .int x :: r => nx ls (.int (x + y) :: r) m
  | _ => False
theorem okIadd (hd : decode μ.2.1 pc = .ok (.iadd, 1)) : OpOk μ 1 pc oIadd := by
  intro E P p l e R s mid args below meth c dC dI dA ad b A C0 S0 Qf hC hR nx jp ls st m hn hj h H locs la hl hs hE hS hL
  unfold oIadd at h
  split at h
  · rename_i y x r
    exact lv_iadd hC.1 hC.2.1 hd (hn _ _ _ h H locs la hl (List.forall_mem_cons.mpr ⟨trivial, (List.forall_mem_cons.mp (List.forall_mem_cons.mp hs).2).2⟩) hE hS hL)
  · exact h.elim
def oIsub : OP := fun _ _ nx _ ls st m => match st with
  | .int y :: .int x :: r => nx ls (.int (x - y) :: r) m
  | _ => False
theorem okIsub (hd : decode μ.2.1 pc = .ok (.isub, 1)) : OpOk μ 1 pc oIsub := by
  intro E P p l e R s mid args below meth c dC dI dA ad b A C0 S0 Qf hC hR nx jp ls st m hn hj h H locs la hl hs hE hS hL
  unfold oIsub at h
  split at h
  · rename_i y x r
    exact lv_isub hC.1 hC.2.1 hd (hn _ _ _ h H locs la hl (List.forall_mem_cons.mpr ⟨trivial, (List.forall_mem_cons.mp (List.forall_mem_cons.mp hs).2).2⟩) hE hS hL)
  · exact h.elim
def oImul : OP := fun _ _ nx _ ls st m => match st with
  | .int y :: .int x :: r => nx ls (.int (x * y) :: r) m
  | _ => False
theorem okImul (hd : decode μ.2.1 pc = .ok (.imul, 1)) : OpOk μ 1 pc oImul := by
  intro E P p l e R s mid args below meth c dC dI dA ad b A C0 S0 Qf hC hR nx jp ls st m hn hj h H locs la hl hs hE hS hL
  unfold oImul at h
  split at h
  · rename_i y x r
    exact lv_imul hC.1 hC.2.1 hd (hn _ _ _ h H locs la hl (List.forall_mem_cons.mpr ⟨trivial, (List.forall_mem_cons.mp (List.forall_mem_cons.mp hs).2).2⟩) hE hS hL)
  · exact h.elim
def oIand : OP := fun _ _ nx _ ls st m => match st with
  | .int y :: .int x :: r => nx ls (.int (x &&& y) :: r) m
  | _ => False
theorem okIand (hd : decode μ.2.1 pc = .ok (.iand, 1)) : OpOk μ 1 pc oIand := by
  intro E P p l e R s mid args below meth c dC dI dA ad b A C0 S0 Qf hC hR nx jp ls st m hn hj h H locs la hl hs hE hS hL
  unfold oIand at h
  split at h
  · rename_i y x r
    exact lv_iand hC.1 hC.2.1 hd (hn _ _ _ h H locs la hl (List.forall_mem_cons.mpr ⟨trivial, (List.forall_mem_cons.mp (List.forall_mem_cons.mp hs).2).2⟩) hE hS hL)
  · exact h.elim
def oIor : OP := fun _ _ nx _ ls st m => match st with
  | .int y :: .int x :: r => nx ls (.int (x ||| y) :: r) m
  | _ => False
theorem okIor (hd : decode μ.2.1 pc = .ok (.ior, 1)) : OpOk μ 1 pc oIor := by
  intro E P p l e R s mid args below meth c dC dI dA ad b A C0 S0 Qf hC hR nx jp ls st m hn hj h H locs la hl hs hE hS hL
  unfold oIor at h
  split at h
  · rename_i y x r
    exact lv_ior hC.1 hC.2.1 hd (hn _ _ _ h H locs la hl (List.forall_mem_cons.mpr ⟨trivial, (List.forall_mem_cons.mp (List.forall_mem_cons.mp hs).2).2⟩) hE hS hL)
  · exact h.elim
def oIxor : OP := fun _ _ nx _ ls st m => match st with
  | .int y :: .int x :: r => nx ls (.int (x ^^^ y) :: r) m
  | _ => False
theorem okIxor (hd : decode μ.2.1 pc = .ok (.ixor, 1)) : OpOk μ 1 pc oIxor := by
  intro E P p l e R s mid args below meth c dC dI dA ad b A C0 S0 Qf hC hR nx jp ls st m hn hj h H locs la hl hs hE hS hL
  unfold oIxor at h
  split at h
  · rename_i y x r
    exact lv_ixor hC.1 hC.2.1 hd (hn _ _ _ h H locs la hl (List.forall_mem_cons.mpr ⟨trivial, (List.forall_mem_cons.mp (List.forall_mem_cons.mp hs).2).2⟩) hE hS hL)
  · exact h.elim
def oIshl : OP := fun _ _ nx _ ls st m => match st with
  | .int y :: .int x :: r => nx ls (.int (x <<< (y &&& 31)) :: r) m
  | _ => False
theorem okIshl (hd : decode μ.2.1 pc = .ok (.ishl, 1)) : OpOk μ 1 pc oIshl := by
  intro E P p l e R s mid args below meth c dC dI dA ad b A C0 S0 Qf hC hR nx jp ls st m hn hj h H locs la hl hs hE hS hL
  unfold oIshl at h
  split at h
  · rename_i y x r
    exact lv_ishl hC.1 hC.2.1 hd (hn _ _ _ h H locs la hl (List.forall_mem_cons.mpr ⟨trivial, (List.forall_mem_cons.mp (List.forall_mem_cons.mp hs).2).2⟩) hE hS hL)
  · exact h.elim
def oIshr : OP := fun _ _ nx _ ls st m => match st with
  | .int y :: .int x :: r => nx ls (.int (x >>> (y &&& 31)) :: r) m
  | _ => False
theorem okIshr (hd : decode μ.2.1 pc = .ok (.ishr, 1)) : OpOk μ 1 pc oIshr := by
  intro E P p l e R s mid args below meth c dC dI dA ad b A C0 S0 Qf hC hR nx jp ls st m hn hj h H locs la hl hs hE hS hL
  unfold oIshr at h
  split at h
  · rename_i y x r
    exact lv_ishr hC.1 hC.2.1 hd (hn _ _ _ h H locs la hl (List.forall_mem_cons.mpr ⟨trivial, (List.forall_mem_cons.mp (List.forall_mem_cons.mp hs).2).2⟩) hE hS hL)
  · exact h.elim
def oIushr : OP := fun _ _ nx _ ls st m => match st with
  | .int y :: .int x :: r => nx ls (.int ((x.toUInt32 >>> (y.toUInt32 &&& Int32.toUInt32 31)).toInt32) :: r) m
  | _ => False
theorem okIushr (hd : decode μ.2.1 pc = .ok (.iushr, 1)) : OpOk μ 1 pc oIushr := by
  intro E P p l e R s mid args below meth c dC dI dA ad b A C0 S0 Qf hC hR nx jp ls st m hn hj h H locs la hl hs hE hS hL
  unfold oIushr at h
  split at h
  · rename_i y x r
    exact lv_iushr hC.1 hC.2.1 hd rfl (hn _ _ _ h H locs la hl (List.forall_mem_cons.mpr ⟨trivial, (List.forall_mem_cons.mp (List.forall_mem_cons.mp hs).2).2⟩) hE hS hL)
  · exact h.elim
def oIdiv : OP := fun _ _ nx _ ls st m => match st with
  | .int y :: .int x :: r => (¬ y = 0) ∧ nx ls (.int (x / y) :: r) m
  | _ => False
theorem okIdiv (hd : decode μ.2.1 pc = .ok (.idiv, 1)) : OpOk μ 1 pc oIdiv := by
  intro E P p l e R s mid args below meth c dC dI dA ad b A C0 S0 Qf hC hR nx jp ls st m hn hj h H locs la hl hs hE hS hL
  unfold oIdiv at h
  split at h
  · rename_i y x r
    exact lv_idiv hC.1 hC.2.1 hd h.1 (hn _ _ _ h.2 H locs la hl (List.forall_mem_cons.mpr ⟨trivial, (List.forall_mem_cons.mp (List.forall_mem_cons.mp hs).2).2⟩) hE hS hL)
  · exact h.elim
def oIrem : OP := fun _ _ nx _ ls st m => match st with
  | .int y :: .int x :: r => (¬ y = 0) ∧ nx ls (.int (x - x / y * y) :: r) m
  | _ => False
theorem okIrem (hd : decode μ.2.1 pc = .ok (.irem, 1)) : OpOk μ 1 pc oIrem := by
  intro E P p l e R s mid args below meth c dC dI dA ad b A C0 S0 Qf hC hR nx jp ls st m hn hj h H locs la hl hs hE hS hL
  unfold oIrem at h
  split at h
  · rename_i y x r
    exact lv_irem hC.1 hC.2.1 hd h.1 (hn _ _ _ h.2 H locs la hl (List.forall_mem_cons.mpr ⟨trivial, (List.forall_mem_cons.mp (List.forall_mem_cons.mp hs).2).2⟩) hE hS hL)
  · exact h.elim
def oLadd : OP := fun _ _ nx _ ls st m => match st with
  | .long y :: .long x :: r => nx ls (.long (x + y) :: r) m
  | _ => False
theorem okLadd (hd : decode μ.2.1 pc = .ok (.ladd, 1)) : OpOk μ 1 pc oLadd := by
  intro E P p l e R s mid args below meth c dC dI dA ad b A C0 S0 Qf hC hR nx jp ls st m hn hj h H locs la hl hs hE hS hL
  unfold oLadd at h
  split at h
  · rename_i y x r
    exact lv_ladd hC.1 hC.2.1 hd (hn _ _ _ h H locs la hl (List.forall_mem_cons.mpr ⟨trivial, (List.forall_mem_cons.mp (List.forall_mem_cons.mp hs).2).2⟩) hE hS hL)
  · exact h.elim
def oLsub : OP := fun _ _ nx _ ls st m => match st with
  | .long y :: .long x :: r => nx ls (.long (x - y) :: r) m
  | _ => False
theorem okLsub (hd : decode μ.2.1 pc = .ok (.lsub, 1)) : OpOk μ 1 pc oLsub := by
  intro E P p l e R s mid args below meth c dC dI dA ad b A C0 S0 Qf hC hR nx jp ls st m hn hj h H locs la hl hs hE hS hL
  unfold oLsub at h
  split at h
  · rename_i y x r
    exact lv_lsub hC.1 hC.2.1 hd (hn _ _ _ h H locs la hl (List.forall_mem_cons.mpr ⟨trivial, (List.forall_mem_cons.mp (List.forall_mem_cons.mp hs).2).2⟩) hE hS hL)
  · exact h.elim
def oLmul : OP := fun _ _ nx _ ls st m => match st with
  | .long y :: .long x :: r => nx ls (.long (x * y) :: r) m
  | _ => False
theorem okLmul (hd : decode μ.2.1 pc = .ok (.lmul, 1)) : OpOk μ 1 pc oLmul := by
  intro E P p l e R s mid args below meth c dC dI dA ad b A C0 S0 Qf hC hR nx jp ls st m hn hj h H locs la hl hs hE hS hL
  unfold oLmul at h
  split at h
  · rename_i y x r
    exact lv_lmul hC.1 hC.2.1 hd (hn _ _ _ h H locs la hl (List.forall_mem_cons.mpr ⟨trivial, (List.forall_mem_cons.mp (List.forall_mem_cons.mp hs).2).2⟩) hE hS hL)
  · exact h.elim
def oLand : OP := fun _ _ nx _ ls st m => match st with
  | .long y :: .long x :: r => nx ls (.long (x &&& y) :: r) m
  | _ => False
theorem okLand (hd : decode μ.2.1 pc = .ok (.land, 1)) : OpOk μ 1 pc oLand := by
  intro E P p l e R s mid args below meth c dC dI dA ad b A C0 S0 Qf hC hR nx jp ls st m hn hj h H locs la hl hs hE hS hL
  unfold oLand at h
  split at h
  · rename_i y x r
    exact lv_land hC.1 hC.2.1 hd (hn _ _ _ h H locs la hl (List.forall_mem_cons.mpr ⟨trivial, (List.forall_mem_cons.mp (List.forall_mem_cons.mp hs).2).2⟩) hE hS hL)
  · exact h.elim
def oLor : OP := fun _ _ nx _ ls st m => match st with
  | .long y :: .long x :: r => nx ls (.long (x ||| y) :: r) m
  | _ => False
theorem okLor (hd : decode μ.2.1 pc = .ok (.lor, 1)) : OpOk μ 1 pc oLor := by
  intro E P p l e R s mid args below meth c dC dI dA ad b A C0 S0 Qf hC hR nx jp ls st m hn hj h H locs la hl hs hE hS hL
  unfold oLor at h
  split at h
  · rename_i y x r
    exact lv_lor hC.1 hC.2.1 hd (hn _ _ _ h H locs la hl (List.forall_mem_cons.mpr ⟨trivial, (List.forall_mem_cons.mp (List.forall_mem_cons.mp hs).2).2⟩) hE hS hL)
  · exact h.elim
def oLdiv : OP := fun _ _ nx _ ls st m => match st with
  | .long y :: .long x :: r => (¬ y = 0) ∧ nx ls (.long (x / y) :: r) m
  | _ => False
theorem okLdiv (hd : decode μ.2.1 pc = .ok (.ldiv, 1)) : OpOk μ 1 pc oLdiv := by
  intro E P p l e R s mid args below meth c dC dI dA ad b A C0 S0 Qf hC hR nx jp ls st m hn hj h H locs la hl hs hE hS hL
  unfold oLdiv at h
  split at h
  · rename_i y x r
    exact lv_ldiv hC.1 hC.2.1 hd h.1 (hn _ _ _ h.2 H locs la hl (List.forall_mem_cons.mpr ⟨trivial, (List.forall_mem_cons.mp (List.forall_mem_cons.mp hs).2).2⟩) hE hS hL)
  · exact h.elim
def oLrem : OP := fun _ _ nx _ ls st m => match st with
  | .long y :: .long x :: r => (¬ y = 0) ∧ nx ls (.long (x - x / y * y) :: r) m
  | _ => False
theorem okLrem (hd : decode μ.2.1 pc = .ok (.lrem, 1)) : OpOk μ 1 pc oLrem := by
  intro E P p l e R s mid args below meth c dC dI dA ad b A C0 S0 Qf hC hR nx jp ls st m hn hj h H locs la hl hs hE hS hL
  unfold oLrem at h
  split at h
  · rename_i y x r
    exact lv_lrem hC.1 hC.2.1 hd h.1 (hn _ _ _ h.2 H locs la hl (List.forall_mem_cons.mpr ⟨trivial, (List.forall_mem_cons.mp (List.forall_mem_cons.mp hs).2).2⟩) hE hS hL)
  · exact h.elim
def oLshl : OP := fun _ _ nx _ ls st m => match st with
  | .int y :: .long x :: r => nx ls (.long (x <<< (y.toInt64 &&& 63)) :: r) m
  | _ => False
theorem okLshl (hd : decode μ.2.1 pc = .ok (.lshl, 1)) : OpOk μ 1 pc oLshl := by
  intro E P p l e R s mid args below meth c dC dI dA ad b A C0 S0 Qf hC hR nx jp ls st m hn hj h H locs la hl hs hE hS hL
  unfold oLshl at h
  split at h
  · rename_i y x r
    exact lv_lshl hC.1 hC.2.1 hd rfl (hn _ _ _ h H locs la hl (List.forall_mem_cons.mpr ⟨trivial, (List.forall_mem_cons.mp (List.forall_mem_cons.mp hs).2).2⟩) hE hS hL)
  · exact h.elim
def oLshr : OP := fun _ _ nx _ ls st m => match st with
  | .int y :: .long x :: r => nx ls (.long (x >>> (y.toInt64 &&& 63)) :: r) m
  | _ => False
theorem okLshr (hd : decode μ.2.1 pc = .ok (.lshr, 1)) : OpOk μ 1 pc oLshr := by
  intro E P p l e R s mid args below meth c dC dI dA ad b A C0 S0 Qf hC hR nx jp ls st m hn hj h H locs la hl hs hE hS hL
  unfold oLshr at h
  split at h
  · rename_i y x r
    exact lv_lshr hC.1 hC.2.1 hd rfl (hn _ _ _ h H locs la hl (List.forall_mem_cons.mpr ⟨trivial, (List.forall_mem_cons.mp (List.forall_mem_cons.mp hs).2).2⟩) hE hS hL)
  · exact h.elim
def oLushr : OP := fun _ _ nx _ ls st m => match st with
  | .int y :: .long x :: r => nx ls (.long ((x.toUInt64 >>> (y.toInt64.toUInt64 &&& Int64.toUInt64 63)).toInt64) :: r) m
  | _ => False
theorem okLushr (hd : decode μ.2.1 pc = .ok (.lushr, 1)) : OpOk μ 1 pc oLushr := by
  intro E P p l e R s mid args below meth c dC dI dA ad b A C0 S0 Qf hC hR nx jp ls st m hn hj h H locs la hl hs hE hS hL
  unfold oLushr at h
  split at h
  · rename_i y x r
    exact lv_lushr hC.1 hC.2.1 hd rfl (hn _ _ _ h H locs la hl (List.forall_mem_cons.mpr ⟨trivial, (List.forall_mem_cons.mp (List.forall_mem_cons.mp hs).2).2⟩) hE hS hL)
  · exact h.elim
def oLcmp : OP := fun _ _ nx _ ls st m => match st with
  | .long y :: .long x :: r => nx ls (.int (lg_cmp x y) :: r) m
  | _ => False
theorem okLcmp (hd : decode μ.2.1 pc = .ok (.lcmp, 1)) : OpOk μ 1 pc oLcmp := by
  intro E P p l e R s mid args below meth c dC dI dA ad b A C0 S0 Qf hC hR nx jp ls st m hn hj h H locs la hl hs hE hS hL
  unfold oLcmp at h
  split at h
  · rename_i y x r
    exact W.lcmp hC.1 hC.2.1 hd (hn _ _ _ h H locs la hl (List.forall_mem_cons.mpr ⟨trivial, (List.forall_mem_cons.mp (List.forall_mem_cons.mp hs).2).2⟩) hE hS hL)
  · exact h.elim
def oIneg : OP := fun _ _ nx _ ls st m => match st with
  | .int x :: r => nx ls (.int (0 - x) :: r) m
  | _ => False
theorem okIneg (hd : decode μ.2.1 pc = .ok (.ineg, 1)) : OpOk μ 1 pc oIneg := by
  intro E P p l e R s mid args below meth c dC dI dA ad b A C0 S0 Qf hC hR nx jp ls st m hn hj h H locs la hl hs hE hS hL
  unfold oIneg at h
  split at h
  · rename_i x r
    exact lv_ineg hC.1 hC.2.1 hd (hn _ _ _ h H locs la hl (List.forall_mem_cons.mpr ⟨trivial, (List.forall_mem_cons.mp hs).2⟩) hE hS hL)
  · exact h.elim
def oI2l : OP := fun _ _ nx _ ls st m => match st with
  | .int x :: r => nx ls (.long (x.toInt64) :: r) m
  | _ => False
theorem okI2l (hd : decode μ.2.1 pc = .ok (.i2l, 1)) : OpOk μ 1 pc oI2l := by
  intro E P p l e R s mid args below meth c dC dI dA ad b A C0 S0 Qf hC hR nx jp ls st m hn hj h H locs la hl hs hE hS hL
  unfold oI2l at h
  split at h
  · rename_i x r
    exact lv_i2l hC.1 hC.2.1 hd rfl (hn _ _ _ h H locs la hl (List.forall_mem_cons.mpr ⟨trivial, (List.forall_mem_cons.mp hs).2⟩) hE hS hL)
  · exact h.elim
def oL2i : OP := fun _ _ nx _ ls st m => match st with
  | .long x :: r => nx ls (.int (x.toInt32) :: r) m
  | _ => False
theorem okL2i (hd : decode μ.2.1 pc = .ok (.l2i, 1)) : OpOk μ 1 pc oL2i := by
  intro E P p l e R s mid args below meth c dC dI dA ad b A C0 S0 Qf hC hR nx jp ls st m hn hj h H locs la hl hs hE hS hL
  unfold oL2i at h
  split at h
  · rename_i x r
    exact lv_l2i hC.1 hC.2.1 hd rfl (hn _ _ _ h H locs la hl (List.forall_mem_cons.mpr ⟨trivial, (List.forall_mem_cons.mp hs).2⟩) hE hS hL)
  · exact h.elim
def oI2b : OP := fun _ _ nx _ ls st m => match st with
  | .int x :: r => nx ls (.int (x.toInt8.toInt32) :: r) m
  | _ => False
theorem okI2b (hd : decode μ.2.1 pc = .ok (.i2b, 1)) : OpOk μ 1 pc oI2b := by
  intro E P p l e R s mid args below meth c dC dI dA ad b A C0 S0 Qf hC hR nx jp ls st m hn hj h H locs la hl hs hE hS hL
  unfold oI2b at h
  split at h
  · rename_i x r
    exact lv_i2b hC.1 hC.2.1 hd rfl (hn _ _ _ h H locs la hl (List.forall_mem_cons.mpr ⟨trivial, (List.forall_mem_cons.mp hs).2⟩) hE hS hL)
  · exact h.elim
def oDup : OP := fun _ _ nx _ ls st m => match st with
  | .int x :: r => nx ls (.int x :: .int x :: r) m
  | .ref x :: r => nx ls (.ref x :: .ref x :: r) m
  | _ => False
theorem okDup (hd : decode μ.2.1 pc = .ok (.dup, 1)) : OpOk μ 1 pc oDup := by
  intro E P p l e R s mid args below meth c dC dI dA ad b A C0 S0 Qf hC hR nx jp ls st m hn hj h H locs la hl hs hE hS hL
  unfold oDup at h
  split at h
  · exact lv_dup hC.1 hC.2.1 hd rfl (hn _ _ _ h H locs la hl (List.forall_mem_cons.mpr ⟨trivial, hs⟩) hE hS hL)
  · exact lv_dup hC.1 hC.2.1 hd rfl (hn _ _ _ h H locs la hl (List.forall_mem_cons.mpr ⟨(List.forall_mem_cons.mp hs).1, hs⟩) hE hS hL)
  · exact h.elim
def oDup2 : OP := fun _ _ nx _ ls st m => match st with
  | .int x :: .ref y :: r => nx ls (.int x :: .ref y :: .int x :: .ref y :: r) m
  | _ => False
theorem okDup2 (hd : decode μ.2.1 pc = .ok (.dup2, 1)) : OpOk μ 1 pc oDup2 := by
  intro E P p l e R s mid args below meth c dC dI dA ad b A C0 S0 Qf hC hR nx jp ls st m hn hj h H locs la hl hs hE hS hL
  unfold oDup2 at h
  split at h
  · exact lv_dup2_11 hC.1 hC.2.1 hd rfl rfl (hn _ _ _ h H locs la hl (List.forall_mem_cons.mpr ⟨trivial, List.forall_mem_cons.mpr ⟨(List.forall_mem_cons.mp (List.forall_mem_cons.mp hs).2).1, hs⟩⟩) hE hS hL)
  · exact h.elim
def oPop : OP := fun _ _ nx _ ls st m => match st with
  | .int _ :: r => nx ls r m
  | _ => False
theorem okPop (hd : decode μ.2.1 pc = .ok (.pop, 1)) : OpOk μ 1 pc oPop := by
  intro E P p l e R s mid args below meth c dC dI dA ad b A C0 S0 Qf hC hR nx jp ls st m hn hj h H locs la hl hs hE hS hL
  unfold oPop at h
  split at h
  · exact lv_pop hC.1 hC.2.1 hd rfl (hn _ _ _ h H locs la hl (List.forall_mem_cons.mp hs).2 hE hS hL)
  · exact h.elim
def oPop2 : OP := fun _ _ nx _ ls st m => match st with
  | .long _ :: r => nx ls r m
  | _ => False
theorem okPop2 (hd : decode μ.2.1 pc = .ok (.pop2, 1)) : OpOk μ 1 pc oPop2 := by
  intro E P p l e R s mid args below meth c dC dI dA ad b A C0 S0 Qf hC hR nx jp ls st m hn hj h H locs la hl hs hE hS hL
  unfold oPop2 at h
  split at h
  · exact lv_pop2_2 hC.1 hC.2.1 hd rfl (hn _ _ _ h H locs la hl (List.forall_mem_cons.mp hs).2 hE hS hL)
  · exact h.elim
def oGoto (t : Nat) : OP := fun _ _ _ jp ls st m => jp t ls st m
theorem okGoto {off : Int} {t : Nat} (hd : decode μ.2.1 pc = .ok (.goto off, 3)) (ht : (pc : Int) + off = (t : Int)) : OpOk μ 3 pc (oGoto t) := by
  intro E P p l e R s mid args below meth c dC dI dA ad b A C0 S0 Qf hC hR nx jp ls st m hn hj h H locs la hl hs hE hS hL
  exact lv_goto hC.1 hC.2.1 hd ht (hj _ _ _ _ h H locs la hl hs hE hS hL)
def oIfEq (t : Nat) : OP := fun _ _ nx jp ls st m => match st with
  | .int x :: r => (x = 0 → jp t ls r m) ∧ (¬ (x = 0) → nx ls r m)
  | _ => False
theorem okIfEq {off : Int} {t : Nat} (hd : decode μ.2.1 pc = .ok (.ifCond .eq off, 3)) (ht : (pc : Int) + off = (t : Int)) : OpOk μ 3 pc (oIfEq t) := by
  intro E P p l e R s mid args below meth c dC dI dA ad b A C0 S0 Qf hC hR nx jp ls st m hn hj h H locs la hl hs hE hS hL
  unfold oIfEq at h
  split at h
  · exact lv_if_eq hC.1 hC.2.1 hd ht (fun z => hj _ _ _ _ (h.1 z) H locs la hl (List.forall_mem_cons.mp hs).2 hE hS hL) (fun z => hn _ _ _ (h.2 z) H locs la hl (List.forall_mem_cons.mp hs).2 hE hS hL)
  · exact h.elim
def oCmEq (t : Nat) : OP := fun _ _ nx jp ls st m => match st with
  | .int y :: .int x :: r => (x = y → jp t ls r m) ∧ (¬ (x = y) → nx ls r m)
  | _ => False
theorem okCmEq {off : Int} {t : Nat} (hd : decode μ.2.1 pc = .ok (.if_icmp .eq off, 3)) (ht : (pc : Int) + off = (t : Int)) : OpOk μ 3 pc (oCmEq t) := by
  intro E P p l e R s mid args below meth c dC dI dA ad b A C0 S0 Qf hC hR nx jp ls st m hn hj h H locs la hl hs hE hS hL
  unfold oCmEq at h
  split at h
  · exact lv_icmp_eq hC.1 hC.2.1 hd ht (fun z => hj _ _ _ _ (h.1 z) H locs la hl (List.forall_mem_cons.mp (List.forall_mem_cons.mp hs).2).2 hE hS hL) (fun z => hn _ _ _ (h.2 z) H locs la hl (List.forall_mem_cons.mp (List.forall_mem_cons.mp hs).2).2 hE hS hL)
  · exact h.elim
def oIfNe (t : Nat) : OP := fun _ _ nx jp ls st m => match st with
  | .int x :: r => (¬ x = 0 → jp t ls r m) ∧ (x = 0 → nx ls r m)
  | _ => False
theorem okIfNe {off : Int} {t : Nat} (hd : decode μ.2.1 pc = .ok (.ifCond .ne off, 3)) (ht : (pc : Int) + off = (t : Int)) : OpOk μ 3 pc (oIfNe t) := by
  intro E P p l e R s mid args below meth c dC dI dA ad b A C0 S0 Qf hC hR nx jp ls st m hn hj h H locs la hl hs hE hS hL
  unfold oIfNe at h
  split at h
  · exact lv_if_ne hC.1 hC.2.1 hd ht (fun z => hj _ _ _ _ (h.1 z) H locs la hl (List.forall_mem_cons.mp hs).2 hE hS hL) (fun z => hn _ _ _ (h.2 z) H locs la hl (List.forall_mem_cons.mp hs).2 hE hS hL)
  · exact h.elim
def oCmNe (t : Nat) : OP := fun _ _ nx jp ls st m => match st with
  | .int y :: .int x :: r => (¬ x = y → jp t ls r m) ∧ (x = y → nx ls r m)
  | _ => False
theorem okCmNe {off : Int} {t : Nat} (hd : decode μ.2.1 pc = .ok (.if_icmp .ne off, 3)) (ht : (pc : Int) + off = (t : Int)) : OpOk μ 3 pc (oCmNe t) := by
  intro E P p l e R s mid args below meth c dC dI dA ad b A C0 S0 Qf hC hR nx jp ls st m hn hj h H locs la hl hs hE hS hL
  unfold oCmNe at h
  split at h
  · exact lv_icmp_ne hC.1 hC.2.1 hd ht (fun z => hj _ _ _ _ (h.1 z) H locs la hl (List.forall_mem_cons.mp (List.forall_mem_cons.mp hs).2).2 hE hS hL) (fun z => hn _ _ _ (h.2 z) H locs la hl (List.forall_mem_cons.mp (List.forall_mem_cons.mp hs).2).2 hE hS hL)
  · exact h.elim
def oIfLt (t : Nat) : OP := fun _ _ nx jp ls st m => match st with
  | .int x :: r => (x < 0 → jp t ls r m) ∧ (¬ (x < 0) → nx ls r m)
  | _ => False
theorem okIfLt {off : Int} {t : Nat} (hd : decode μ.2.1 pc = .ok (.ifCond .lt off, 3)) (ht : (pc : Int) + off = (t : Int)) : OpOk μ 3 pc (oIfLt t) := by
  intro E P p l e R s mid args below meth c dC dI dA ad b A C0 S0 Qf hC hR nx jp ls st m hn hj h H locs la hl hs hE hS hL
  unfold oIfLt at h
  split at h
  · exact lv_if_lt hC.1 hC.2.1 hd ht (fun z => hj _ _ _ _ (h.1 z) H locs la hl (List.forall_mem_cons.mp hs).2 hE hS hL) (fun z => hn _ _ _ (h.2 z) H locs la hl (List.forall_mem_cons.mp hs).2 hE hS hL)
  · exact h.elim
def oCmLt (t : Nat) : OP := fun _ _ nx jp ls st m => match st with
  | .int y :: .int x :: r => (x < y → jp t ls r m) ∧ (¬ (x < y) → nx ls r m)
  | _ => False
theorem okCmLt {off : Int} {t : Nat} (hd : decode μ.2.1 pc = .ok (.if_icmp .lt off, 3)) (ht : (pc : Int) + off = (t : Int)) : OpOk μ 3 pc (oCmLt t) := by
  intro E P p l e R s mid args below meth c dC dI dA ad b A C0 S0 Qf hC hR nx jp ls st m hn hj h H locs la hl hs hE hS hL
  unfold oCmLt at h
  split at h
  · exact lv_icmp_lt hC.1 hC.2.1 hd ht (fun z => hj _ _ _ _ (h.1 z) H locs la hl (List.forall_mem_cons.mp (List.forall_mem_cons.mp hs).2).2 hE hS hL) (fun z => hn _ _ _ (h.2 z) H locs la hl (List.forall_mem_cons.mp (List.forall_mem_cons.mp hs).2).2 hE hS hL)
  · exact h.elim
def oIfGe (t : Nat) : OP := fun _ _ nx jp ls st m => match st with
  | .int x :: r => (0 ≤ x → jp t ls r m) ∧ (¬ (0 ≤ x) → nx ls r m)
  | _ => False
theorem okIfGe {off : Int} {t : Nat} (hd : decode μ.2.1 pc = .ok (.ifCond .ge off, 3)) (ht : (pc : Int) + off = (t : Int)) : OpOk μ 3 pc (oIfGe t) := by
  intro E P p l e R s mid args below meth c dC dI dA ad b A C0 S0 Qf hC hR nx jp ls st m hn hj h H locs la hl hs hE hS hL
  unfold oIfGe at h
  split at h
  · exact lv_if_ge hC.1 hC.2.1 hd ht (fun z => hj _ _ _ _ (h.1 z) H locs la hl (List.forall_mem_cons.mp hs).2 hE hS hL) (fun z => hn _ _ _ (h.2 z) H locs la hl (List.forall_mem_cons.mp hs).2 hE hS hL)
  · exact h.elim
def oCmGe (t : Nat) : OP := fun _ _ nx jp ls st m => match st with
  | .int y :: .int x :: r => (y ≤ x → jp t ls r m) ∧ (¬ (y ≤ x) → nx ls r m)
  | _ => False
theorem okCmGe {off : Int} {t : Nat} (hd : decode μ.2.1 pc = .ok (.if_icmp .ge off, 3)) (ht : (pc : Int) + off = (t : Int)) : OpOk μ 3 pc (oCmGe t) := by
  intro E P p l e R s mid args below meth c dC dI dA ad b A C0 S0 Qf hC hR nx jp ls st m hn hj h H locs la hl hs hE hS hL
  unfold oCmGe at h
  split at h
  · exact lv_icmp_ge hC.1 hC.2.1 hd ht (fun z => hj _ _ _ _ (h.1 z) H locs la hl (List.forall_mem_cons.mp (List.forall_mem_cons.mp hs).2).2 hE hS hL) (fun z => hn _ _ _ (h.2 z) H locs la hl (List.forall_mem_cons.mp (List.forall_mem_cons.mp hs).2).2 hE hS hL)
  · exact h.elim
def oIfGt (t : Nat) : OP := fun _ _ nx jp ls st m => match st with
  | .int x :: r => (0 < x → jp t ls r m) ∧ (¬ (0 < x) → nx ls r m)
  | _ => False
theorem okIfGt {off : Int} {t : Nat} (hd : decode μ.2.1 pc = .ok (.ifCond .gt off, 3)) (ht : (pc : Int) + off = (t : Int)) : OpOk μ 3 pc (oIfGt t) := by
  intro E P p l e R s mid args below meth c dC dI dA ad b A C0 S0 Qf hC hR nx jp ls st m hn hj h H locs la hl hs hE hS hL
  unfold oIfGt at h
  split at h
  · exact lv_if_gt hC.1 hC.2.1 hd ht (fun z => hj _ _ _ _ (h.1 z) H locs la hl (List.forall_mem_cons.mp hs).2 hE hS hL) (fun z => hn _ _ _ (h.2 z) H locs la hl (List.forall_mem_cons.mp hs).2 hE hS hL)
  · exact h.elim
def oCmGt (t : Nat) : OP := fun _ _ nx jp ls st m => match st with
  | .int y :: .int x :: r => (y < x → jp t ls r m) ∧ (¬ (y < x) → nx ls r m)
  | _ => False
theorem okCmGt {off : Int} {t : Nat} (hd : decode μ.2.1 pc = .ok (.if_icmp .gt off, 3)) (ht : (pc : Int) + off = (t : Int)) : OpOk μ 3 pc (oCmGt t) := by
  intro E P p l e R s mid args below meth c dC dI dA ad b A C0 S0 Qf hC hR nx jp ls st m hn hj h H locs la hl hs hE hS hL
  unfold oCmGt at h
  split at h
  · exact lv_icmp_gt hC.1 hC.2.1 hd ht (fun z => hj _ _ _ _ (h.1 z) H locs la hl (List.forall_mem_cons.mp (List.forall_mem_cons.mp hs).2).2 hE hS hL) (fun z => hn _ _ _ (h.2 z) H locs la hl (List.forall_mem_cons.mp (List.forall_mem_cons.mp hs).2).2 hE hS hL)
  · exact h.elim
def oIfLe (t : Nat) : OP := fun _ _ nx jp ls st m => match st with
  | .int x :: r => (x ≤ 0 → jp t ls r m) ∧ (¬ (x ≤ 0) → nx ls r m)
  | _ => False
theorem okIfLe {off : Int} {t : Nat} (hd : decode μ.2.1 pc = .ok (.ifCond .le off, 3)) (ht : (pc : Int) + off = (t : Int)) : OpOk μ 3 pc (oIfLe t) := by
  intro E P p l e R s mid args below meth c dC dI dA ad b A C0 S0 Qf hC hR nx jp ls st m hn hj h H locs la hl hs hE hS hL
  unfold oIfLe at h
  split at h
  · exact lv_if_le hC.1 hC.2.1 hd ht (fun z => hj _ _ _ _ (h.1 z) H locs la hl (List.forall_mem_cons.mp hs).2 hE hS hL) (fun z => hn _ _ _ (h.2 z) H locs la hl (List.forall_mem_cons.mp hs).2 hE hS hL)
  · exact h.elim
def oCmLe (t : Nat) : OP := fun _ _ nx jp ls st m => match st with
  | .int y :: .int x :: r => (x ≤ y → jp t ls r m) ∧ (¬ (x ≤ y) → nx ls r m)
  | _ => False
theorem okCmLe {off : Int} {t : Nat} (hd : decode μ.2.1 pc = .ok (.if_icmp .le off, 3)) (ht : (pc : Int) + off = (t : Int)) : OpOk μ 3 pc (oCmLe t) := by
  intro E P p l e R s mid args below meth c dC dI dA ad b A C0 S0 Qf hC hR nx jp ls st m hn hj h H locs la hl hs hE hS hL
  unfold oCmLe at h
  split at h
  · exact lv_icmp_le hC.1 hC.2.1 hd ht (fun z => hj _ _ _ _ (h.1 z) H locs la hl (List.forall_mem_cons.mp (List.forall_mem_cons.mp hs).2).2 hE hS hL) (fun z => hn _ _ _ (h.2 z) H locs la hl (List.forall_mem_cons.mp (List.forall_mem_cons.mp hs).2).2 hE hS hL)
  · exact h.elim
def swP (x : Int32) (jp : Nat → Prop) (dflt : Nat) : List (Int32 × Nat) → Prop
  | [] => jp dflt
  | (k, t) :: r => (x = k → jp t) ∧ (¬ x = k → swP x jp dflt r)
def swS (x : Int32) (dflt : Nat) : List (Int32 × Nat) → Nat
  | [] => dflt
  | (k, t) :: r => if x = k then t else swS x dflt r
theorem swP_go {x : Int32} {jp : Nat → Prop} {dflt : Nat} : ∀ {cs : List (Int32 × Nat)}, swP x jp dflt cs → jp (swS x dflt cs)
  | [], h => h
  | (k, t) :: r, h => by
    by_cases hx : x = k
    · rw [swS, if_pos hx]; exact h.1 hx
    · rw [swS, if_neg hx]; exact swP_go (h.2 hx)
def oSw (cs : List (Int32 × Nat)) (dflt : Nat) : OP := fun _ _ _ jp ls st m => match st with
  | .int x :: r => swP x (fun t => jp t ls r m) dflt cs
  | _ => False
theorem swS_out {x : Int32} {dflt : Nat} : ∀ {cs : List (Int32 × Nat)}, (∀ q ∈ cs, x ≠ q.1) → swS x dflt cs = dflt
  | [], _ => rfl
  | (k, t) :: r, h => by
    rw [swS, if_neg (h (k, t) List.mem_cons_self)]
    exact swS_out (fun q hq => h q (List.mem_cons_of_mem _ hq))
theorem okTsw {dO lo hi : Int} {offs : Array Int} {len : Nat} {cs : List (Int32 × Nat)} {dflt : Nat} (hd : decode μ.2.1 pc = .ok (.tableswitch dO lo hi offs, len))
    (h0 : (pc : Int) + dO = (dflt : Int)) (h1 : ∀ q ∈ cs, lo ≤ q.1.toInt ∧ q.1.toInt ≤ hi) (h2 : hi = lo + (offs.size : Int) - 1 ∧ -2147483648 ≤ lo ∧ hi ≤ 2147483647)
    (h3 : ∀ j, j < offs.size → ∃ off, offs[j]? = some off ∧ (pc : Int) + off = (swS (Int32.ofInt (lo + (j : Int))) dflt cs : Int)) : OpOk μ len pc (oSw cs dflt) := by
  intro E P p l e R s mid args below meth c dC dI dA ad b A C0 S0 Qf hC hR nx jp ls st m hn hj h H locs la hl hs hE hS hL
  unfold oSw at h
  split at h
  · rename_i x r
    have h' := swP_go h
    have hs' := (List.forall_mem_cons.mp hs).2
    by_cases hr : x.toInt < lo ∨ hi < x.toInt
    · rw [swS_out (fun q hq e => by have := h1 q hq; rw [← e] at this; omega)] at h'
      exact lv_tableOut hC.1 hC.2.1 hd hr h0 (hj _ _ _ _ h' H locs la hl hs' hE hS hL)
    · have hb1 : ¬ x.toInt < lo := fun q => hr (Or.inl q)
      have hb2 : ¬ hi < x.toInt := fun q => hr (Or.inr q)
      obtain ⟨off, e1, e2⟩ := h3 (x.toInt - lo).toNat (by omega)
      have e3 : Int32.ofInt (lo + ((x.toInt - lo).toNat : Int)) = x := by
        rw [show lo + ((x.toInt - lo).toNat : Int) = x.toInt by omega]
        exact Int32.ofInt_toInt x
      rw [e3] at e2
      exact lv_tableIn hC.1 hC.2.1 hd hb1 hb2 e1 e2 (hj _ _ _ _ h' H locs la hl hs' hE hS hL)
  · exact h.elim
theorem okLsw_aux {x : Int32} {dO : Int} {dflt : Nat} (h0 : (pc : Int) + dO = (dflt : Int)) : ∀ (ps : List (Int × Int)) (cs : List (Int32 × Nat)), cs.map (fun q => (q.1.toInt, (q.2 : Int))) = ps.map (fun q => (q.1, (pc : Int) + q.2)) →
    (pc : Int) + Op.lookupswitch.offset ps dO x.toInt = (swS x dflt cs : Int)
  | [], [], _ => h0
  | [], _ :: _, h => by simp at h
  | _ :: _, [], h => by simp at h
  | (a, o) :: ps, (k, t) :: cs, h => by
    simp only [List.map_cons, List.cons.injEq, Prod.mk.injEq] at h
    obtain ⟨⟨h1, h2⟩, h3⟩ := h
    by_cases hx : x = k
    · rw [Op.lookupswitch.offset_cons, if_pos (by rw [hx]; exact h1.symm), swS, if_pos hx, h2]
    · rw [lv_osw hx h1, swS, if_neg hx]
      exact okLsw_aux h0 ps cs h3
theorem okLsw {dO : Int} {ps : Array (Int × Int)} {len : Nat} {cs : List (Int32 × Nat)} {dflt : Nat} (hd : decode μ.2.1 pc = .ok (.lookupswitch dO ps, len)) (h0 : (pc : Int) + dO = (dflt : Int))
    (hp : (ps.toList.zip (ps.toList.drop 1)).all (fun (a, next) => a.1 < next.1) = true) (hm : cs.map (fun q => (q.1.toInt, (q.2 : Int))) = ps.toList.map (fun q => (q.1, (pc : Int) + q.2))) : OpOk μ len pc (oSw cs dflt) := by
  intro E P p l e R s mid args below meth c dC dI dA ad b A C0 S0 Qf hC hR nx jp ls st m hn hj h H locs la hl hs hE hS hL
  unfold oSw at h
  split at h
  · rename_i x r
    exact lv_lookup hC.1 hC.2.1 hd hp rfl (okLsw_aux h0 _ _ hm) (hj _ _ _ _ (swP_go h) H locs la hl (List.forall_mem_cons.mp hs).2 hE hS hL)
  · exact h.elim
end OpsB
end
section
/-! fields, arrays, ends, calls -/
def ClsOk (ci : Nat) (C : String) (T : u_T) (N : Nat) (ty0 : Nat → FieldType) : Prop :=
  classes[ci]? = some (C, T, N) ∧ (∀ w ∈ u_ws C T N, w ∈ wsG) ∧ (∀ k, k < N → parseFieldDescriptor (T k).2.2.1 = some (ty0 k)) ∧ (∀ a, a < N → ∀ b, b < N → a ≠ b → (T a).2.1 ≠ (T b).2.1) ∧ (fk ci).length = N ∧ ci < 8
theorem clX0 : ClsOk 0 RX0 TX0 13 tyX0 := ⟨rfl, iwX0, tyX0_ok, nmX0, rfl, by decide⟩
theorem clX1 : ClsOk 1 RX1 TX1 17 tyX1 := ⟨rfl, iwX1, tyX1_ok, nmX1, rfl, by decide⟩
theorem clX2 : ClsOk 2 RX2 TX2 2 tyX2 := ⟨rfl, iwX2, tyX2_ok, nmX2, rfl, by decide⟩
theorem clX3 : ClsOk 3 RX3 TX3 9 tyX3 := ⟨rfl, iwX3, tyX3_ok, nmX3, rfl, by decide⟩
theorem clX4 : ClsOk 4 RX4 TX4 9 tyX4 := ⟨rfl, iwX4, tyX4_ok, nmX4, rfl, by decide⟩
theorem clX5 : ClsOk 5 RX5 TX5 11 tyX5 := ⟨rfl, iwX5, tyX5_ok, nmX5, rfl, by decide⟩
theorem clX6 : ClsOk 6 RX6 TX6 11 tyX6 := ⟨rfl, iwX6, tyX6_ok, nmX6, rfl, by decide⟩
theorem clX7 : ClsOk 7 RX7 TX7 56 tyX7 := ⟨rfl, iwX7, tyX7_ok, nmX7, rfl, by decide⟩
theorem cellE_obj {ad : Nat → Nat} {dA : Nat → ClassId} {m : MM} {a ci : Nat} (h : a % 16 = ci) (hc : ci < 8) : cellE ad dA m a = .inr (ci, mapF ad m a 0 (fk ci)) := by
  unfold cellE
  rw [h, if_pos hc]
theorem cellE_int {ad : Nat → Nat} {dA : Nat → ClassId} {m : MM} {a k : Nat} (h : a % 16 = k) (hc : k = 8 ∨ k = 10 ∨ k = 11) : cellE ad dA m a = .inl (dA k, a / 4096, .inl (fun i => gI m a i)) := by
  unfold cellE
  rw [h, if_neg (by omega), if_neg (by omega)]
theorem cellE_long {ad : Nat → Nat} {dA : Nat → ClassId} {m : MM} {a : Nat} (h : a % 16 = 9) : cellE ad dA m a = .inl (dA 9, a / 4096, .inr (.inl (fun i => gJ m a i))) := by
  unfold cellE
  rw [h, if_neg (by omega), if_pos rfl]
theorem mapF_ext {ad : Nat → Nat} {m m' : MM} {a : Nat} : ∀ (l : List Nat) (k : Nat), (∀ j kd, l[j]? = some kd → fieldV ad m' a (k + j) kd = fieldV ad m a (k + j) kd) → mapF ad m' a k l = mapF ad m a k l
  | [], _, _ => rfl
  | kd :: r, k, h => by
    show fieldV ad m' a k kd :: mapF ad m' a (k + 1) r = fieldV ad m a k kd :: mapF ad m a (k + 1) r
    have e1 : fieldV ad m' a k kd = fieldV ad m a k kd := h 0 kd rfl
    have e2 : mapF ad m' a (k + 1) r = mapF ad m a (k + 1) r := mapF_ext r (k + 1) (fun j kd' hj => by
      have h3 := h (j + 1) kd' hj
      rw [show k + (j + 1) = k + 1 + j by omega] at h3
      exact h3)
    rw [e1, e2]
theorem fieldV_other {ad : Nat → Nat} {m : MM} {a b i k kd : Nat} {v : Int32} (h : b ≠ a ∨ k ≠ i) : fieldV ad (sI m a i v) b k kd = fieldV ad m b k kd := by
  have e : gI (sI m a i v) b k = gI m b k := by
    unfold gI sI
    rcases h with h | h
    · simp [h]
    · by_cases hb : b = a
      · simp [hb, h]
      · simp [hb]
  have e2 : rf (sI m a i v) b k kd = rf m b k kd := rfl
  unfold fieldV
  rw [e, e2]
theorem cellE_sI_other {ad : Nat → Nat} {dA : Nat → ClassId} {m : MM} {a i : Nat} {v : Int32} {b : Nat} (h : b ≠ a) : cellE ad dA (sI m a i v) b = cellE ad dA m b := by
  have e1 : mapF ad (sI m a i v) b 0 (fk (b % 16)) = mapF ad m b 0 (fk (b % 16)) := mapF_ext _ _ (fun j kd _ => fieldV_other (Or.inl h))
  have e2 : (fun j => gJ (sI m a i v) b j) = fun j => gJ m b j := rfl
  have e3 : (fun j => gI (sI m a i v) b j) = fun j => gI m b j := by
    funext j
    unfold gI sI
    simp [h]
  unfold cellE
  rw [e1, e2, e3]
theorem cellE_sJ_other {ad : Nat → Nat} {dA : Nat → ClassId} {m : MM} {a i : Nat} {v : Int64} {b : Nat} (h : b ≠ a) : cellE ad dA (sJ m a i v) b = cellE ad dA m b := by
  have e1 : mapF ad (sJ m a i v) b 0 (fk (b % 16)) = mapF ad m b 0 (fk (b % 16)) := mapF_ext _ _ (fun j kd _ => rfl)
  have e2 : (fun j => gJ (sJ m a i v) b j) = fun j => gJ m b j := by
    funext j
    unfold gJ sJ
    simp [h]
  have e3 : (fun j => gI (sJ m a i v) b j) = fun j => gI m b j := rfl
  unfold cellE
  rw [e1, e2, e3]
theorem mapF_set {ad : Nat → Nat} {m m' : MM} {a k : Nat} {l : List Nat} {v : Value} (hk : ∃ kd, l[k]? = some kd ∧ fieldV ad m' a k kd = v) (ho : ∀ j kd, j ≠ k → l[j]? = some kd → fieldV ad m' a j kd = fieldV ad m a j kd) : (mapF ad m a 0 l).set k v = mapF ad m' a 0 l := by
  obtain ⟨kd, hk1, hk2⟩ := hk
  apply List.ext_getElem?
  intro j
  by_cases hj : j = k
  · subst hj
    rw [List.getElem?_set_self (by rw [mapF_len]; exact (List.getElem?_eq_some_iff.mp hk1).1), mapF_get, hk1]
    simp [hk2]
  · rw [List.getElem?_set_ne (Ne.symm hj), mapF_get, mapF_get]
    cases hc : l[j]? with
    | none => rfl
    | some kd' => simp [ho j kd' hj hc]
section OpsC
variable {μ : MI} {pc : Nat}
/-- an int field (also a boolean one) -/
def oGetI (ci k : Nat) : OP := fun _ _ nx _ ls st m => match st with
  | .ref a :: r => match Nat.beq (a % 16) ci with
    | true => nx ls (.int (gI m a k) :: r) m
    | false => False
  | _ => False
theorem okGetI {ci k N x : Nat} {C : String} {T : u_T} {ty0 : Nat → FieldType} (hc : ClsOk ci C T N ty0) (hd : decode μ.2.1 pc = .ok (.getfield x, 3)) (hk : k < N) (hT : (T k).1 = C) (hw : Cond.fieldLink μ.2.2.2.2 x C (T k).2.1 (T k).2.2.1 ∈ wsG) (hkd : (fk ci)[k]? = some 0 ∨ (fk ci)[k]? = some 4) : OpOk μ 3 pc (oGetI ci k) := by
  intro E P p l e R s mid args below meth c dC dI dA ad b A C0 S0 Qf hC hR nx jp ls st m hn hj h H locs la hl hs hE hS hL
  unfold oGetI at h
  split at h
  · rename_i a r
    split at h
    · rename_i hb
      have ha : a % 16 = ci := Nat.eq_of_beq_eq_true hb
      have hin : a ∈ cellsL := (List.forall_mem_cons.mp hs).1
      obtain ⟨q0, hq1, hq2⟩ := wsM_at (ad := ad) (dA := dA) hin m
      rw [cellE_obj ha hc.2.2.2.2.2] at hq2
      have hv : (mapF ad m a 0 (fk ci))[k]? = some (.int (gI m a k)) := by
        rw [mapF_get, Nat.zero_add]
        rcases hkd with q | q <;> rw [q] <;> rfl
      exact va_get hC.1 hC.2.1 hC.2.2.2.2.1 hc.2.1 hC.2.2.2.1 hC.2.2.2.2.2.2.1 hE.1 q0 hq2 hc.1 k hk (hC.2.2.2.2.1 _ hw) (fun y hy => by rw [hT] at hy; exact hy) hv hd (hn _ _ _ h H locs la hl (List.forall_mem_cons.mpr ⟨trivial, (List.forall_mem_cons.mp hs).2⟩) hE hS hL)
    · exact h.elim
  · exact h.elim
def fnd (a : Nat) : List (Nat × Nat) → Option Nat
  | [] => none
  | (b, t) :: r => match Nat.beq b a with
    | true => some t
    | false => fnd a r
theorem fnd_mem {a t : Nat} : ∀ {l : List (Nat × Nat)}, fnd a l = some t → (a, t) ∈ l
  | [], h => by cases h
  | (b, t') :: r, h => by
    unfold fnd at h
    split at h
    · rename_i hb
      cases h
      rw [Nat.eq_of_beq_eq_true hb]
      exact List.mem_cons_self
    · exact List.mem_cons_of_mem _ (fnd_mem h)
/-- a final reference: by the table of its holders -/
def oGetR (tab : List (Nat × Nat)) : OP := fun _ _ nx _ ls st m => match st with
  | .ref a :: r => match fnd a tab with
    | some t => nx ls (.ref t :: r) m
    | none => False
  | _ => False
theorem okGetR {ci k N x : Nat} {C : String} {T : u_T} {ty0 : Nat → FieldType} {tab : List (Nat × Nat)} (hc : ClsOk ci C T N ty0) (hd : decode μ.2.1 pc = .ok (.getfield x, 3)) (hk : k < N) (hT : (T k).1 = C) (hw : Cond.fieldLink μ.2.2.2.2 x C (T k).2.1 (T k).2.2.1 ∈ wsG) (hkd : (fk ci)[k]? = some 1)
    (ht : ∀ q ∈ tab, q.1 % 16 = ci ∧ rfT q.1 k = q.2 ∧ q.2 ∈ cellsL) : OpOk μ 3 pc (oGetR tab) := by
  intro E P p l e R s mid args below meth c dC dI dA ad b A C0 S0 Qf hC hR nx jp ls st m hn hj h H locs la hl hs hE hS hL
  unfold oGetR at h
  split at h
  · rename_i a r
    split at h
    · rename_i t hf
      obtain ⟨ha, hr, htc⟩ : a % 16 = ci ∧ rfT a k = t ∧ t ∈ cellsL := ht (a, t) (fnd_mem hf)
      have hin : a ∈ cellsL := (List.forall_mem_cons.mp hs).1
      obtain ⟨q0, hq1, hq2⟩ := wsM_at (ad := ad) (dA := dA) hin m
      rw [cellE_obj ha hc.2.2.2.2.2] at hq2
      have hv : (mapF ad m a 0 (fk ci))[k]? = some (.ref (ad t)) := by
        rw [mapF_get, Nat.zero_add, hkd, ← hr]
        rfl
      exact va_get hC.1 hC.2.1 hC.2.2.2.2.1 hc.2.1 hC.2.2.2.1 hC.2.2.2.2.2.2.1 hE.1 q0 hq2 hc.1 k hk (hC.2.2.2.2.1 _ hw) (fun y hy => by rw [hT] at hy; exact hy) hv hd (hn _ _ _ h H locs la hl (List.forall_mem_cons.mpr ⟨htc, (List.forall_mem_cons.mp hs).2⟩) hE hS hL)
    · exact h.elim
  · exact h.elim
def oGetNw : OP := fun _ _ nx _ ls st m => match st with
  | .ref a :: r => match Nat.beq (a % 16) 6 with
    | true => nx ls (.ref m.2.2.1 :: r) m
    | false => False
  | _ => False
def oGetSp : OP := fun _ _ nx _ ls st m => match st with
  | .ref a :: r => match Nat.beq (a % 16) 6 with
    | true => nx ls (.ref m.2.2.2 :: r) m
    | false => False
  | _ => False
theorem okGetNw {x : Nat} (hd : decode μ.2.1 pc = .ok (.getfield x, 3)) (hw : Cond.fieldLink μ.2.2.2.2 x RX6 (TX6 3).2.1 (TX6 3).2.2.1 ∈ wsG) : OpOk μ 3 pc oGetNw := by
  intro E P p l e R s mid args below meth c dC dI dA ad b A C0 S0 Qf hC hR nx jp ls st m hn hj h H locs la hl hs hE hS hL
  unfold oGetNw at h
  split at h
  · rename_i a r
    split at h
    · rename_i hb
      have ha : a % 16 = 6 := Nat.eq_of_beq_eq_true hb
      have hin : a ∈ cellsL := (List.forall_mem_cons.mp hs).1
      obtain ⟨q0, hq1, hq2⟩ := wsM_at (ad := ad) (dA := dA) hin m
      rw [cellE_obj ha (by decide)] at hq2
      exact va_get hC.1 hC.2.1 hC.2.2.2.2.1 clX6.2.1 hC.2.2.2.1 hC.2.2.2.2.2.2.1 hE.1 q0 hq2 clX6.1 3 (by decide) (hC.2.2.2.2.1 _ hw) (fun y hy => hy) (v := .ref (ad m.2.2.1)) rfl hd (hn _ _ _ h H locs la hl (List.forall_mem_cons.mpr ⟨hE.2.2.1, (List.forall_mem_cons.mp hs).2⟩) hE hS hL)
    · exact h.elim
  · exact h.elim
theorem okGetSp {x : Nat} (hd : decode μ.2.1 pc = .ok (.getfield x, 3)) (hw : Cond.fieldLink μ.2.2.2.2 x RX6 (TX6 4).2.1 (TX6 4).2.2.1 ∈ wsG) : OpOk μ 3 pc oGetSp := by
  intro E P p l e R s mid args below meth c dC dI dA ad b A C0 S0 Qf hC hR nx jp ls st m hn hj h H locs la hl hs hE hS hL
  unfold oGetSp at h
  split at h
  · rename_i a r
    split at h
    · rename_i hb
      have ha : a % 16 = 6 := Nat.eq_of_beq_eq_true hb
      have hin : a ∈ cellsL := (List.forall_mem_cons.mp hs).1
      obtain ⟨q0, hq1, hq2⟩ := wsM_at (ad := ad) (dA := dA) hin m
      rw [cellE_obj ha (by decide)] at hq2
      exact va_get hC.1 hC.2.1 hC.2.2.2.2.1 clX6.2.1 hC.2.2.2.1 hC.2.2.2.2.2.2.1 hE.1 q0 hq2 clX6.1 4 (by decide) (hC.2.2.2.2.1 _ hw) (fun y hy => hy) (v := .ref (ad m.2.2.2)) rfl hd (hn _ _ _ h H locs la hl (List.forall_mem_cons.mpr ⟨hE.2.2.2, (List.forall_mem_cons.mp hs).2⟩) hE hS hL)
    · exact h.elim
  · exact h.elim
def oPutI (ci k : Nat) : OP := fun _ _ nx _ ls st m => match st with
  | .int v :: .ref a :: r => match Nat.beq (a % 16) ci with
    | true => nx ls r (sI m a k v)
    | false => False
  | _ => False
theorem okPutI {ci k N x : Nat} {C : String} {T : u_T} {ty0 : Nat → FieldType} (hc : ClsOk ci C T N ty0) (hd : decode μ.2.1 pc = .ok (.putfield x, 3)) (hk : k < N) (hT : (T k).1 = C) (hw : Cond.fieldLink μ.2.2.2.2 x C (T k).2.1 (T k).2.2.1 ∈ wsG) (hkd : (fk ci)[k]? = some 0) (hfin : (T k).2.2.2 = false) (hdt : parseFieldDescriptor (T k).2.2.1 = some .int) : OpOk μ 3 pc (oPutI ci k) := by
  intro E P p l e R s mid args below meth c dC dI dA ad b A C0 S0 Qf hC hR nx jp ls st m hn hj h H locs la hl hs hE hS hL
  unfold oPutI at h
  split at h
  · rename_i v a r
    split at h
    · rename_i hb
      have ha : a % 16 = ci := Nat.eq_of_beq_eq_true hb
      have hs2 := (List.forall_mem_cons.mp hs).2
      have hin : a ∈ cellsL := (List.forall_mem_cons.mp hs2).1
      obtain ⟨q0, hq1, hq2⟩ := wsM_at (ad := ad) (dA := dA) hin m
      rw [cellE_obj ha hc.2.2.2.2.2] at hq2
      have hset : (wsM ad dA m).set q0 (ad a, .inr (ci, (mapF ad m a 0 (fk ci)).set k (.int v))) = wsM ad dA (sI m a k v) :=
        wsM_set hq1 (fun b _ hb => cellE_sI_other hb) (by
          rw [cellE_obj ha hc.2.2.2.2.2, mapF_set (m' := sI m a k v) ⟨0, hkd, by simp [fieldV, gI, sI]⟩ (fun j kd hj _ => fieldV_other (Or.inr hj))])
      refine va_put hC.1 hC.2.1 hC.2.2.2.2.1 hc.2.1 ty0 hc.2.2.1 hc.2.2.2.1 hC.2.2.2.1 hC.2.2.2.2.2.2.1 hE.1 hE.2.1 hS q0 hq2 hc.1 k hk (hC.2.2.2.2.1 _ hw) (fun y hy => by rw [hT] at hy; exact hy) hfin (v := .int v) hdt rfl rfl (by rw [mapF_len, hc.2.2.2.2.1]; exact hk) hd (fun H1 locs1 hP1 hD1 hS1 => ?_)
      rw [hset] at hP1 hD1
      exact hn _ _ _ h H1 locs1 la hl (List.forall_mem_cons.mp hs2).2 ⟨hP1, hD1, hE.2.2⟩ hS1 hL
    · exact h.elim
  · exact h.elim
def oPutZ (ci k : Nat) : OP := fun _ _ nx _ ls st m => match st with
  | .int v :: .ref a :: r => match Nat.beq (a % 16) ci with
    | true => (v = 0 ∨ v = 1) ∧ nx ls r (sI m a k v)
    | false => False
  | _ => False
theorem okPutZ {ci k N x : Nat} {C : String} {T : u_T} {ty0 : Nat → FieldType} (hc : ClsOk ci C T N ty0) (hd : decode μ.2.1 pc = .ok (.putfield x, 3)) (hk : k < N) (hT : (T k).1 = C) (hw : Cond.fieldLink μ.2.2.2.2 x C (T k).2.1 (T k).2.2.1 ∈ wsG) (hkd : (fk ci)[k]? = some 4) (hfin : (T k).2.2.2 = false) (hdt : parseFieldDescriptor (T k).2.2.1 = some .boolean) : OpOk μ 3 pc (oPutZ ci k) := by
  intro E P p l e R s mid args below meth c dC dI dA ad b A C0 S0 Qf hC hR nx jp ls st m hn hj h H locs la hl hs hE hS hL
  unfold oPutZ at h
  split at h
  · rename_i v a r
    split at h
    · rename_i hb
      have ha : a % 16 = ci := Nat.eq_of_beq_eq_true hb
      have hs2 := (List.forall_mem_cons.mp hs).2
      have hin : a ∈ cellsL := (List.forall_mem_cons.mp hs2).1
      obtain ⟨q0, hq1, hq2⟩ := wsM_at (ad := ad) (dA := dA) hin m
      rw [cellE_obj ha hc.2.2.2.2.2] at hq2
      have hset : (wsM ad dA m).set q0 (ad a, .inr (ci, (mapF ad m a 0 (fk ci)).set k (.int v))) = wsM ad dA (sI m a k v) :=
        wsM_set hq1 (fun b _ hb => cellE_sI_other hb) (by
          rw [cellE_obj ha hc.2.2.2.2.2, mapF_set (m' := sI m a k v) ⟨4, hkd, by simp [fieldV, gI, sI]⟩ (fun j kd hj _ => fieldV_other (Or.inr hj))])
      refine va_put hC.1 hC.2.1 hC.2.2.2.2.1 hc.2.1 ty0 hc.2.2.1 hc.2.2.2.1 hC.2.2.2.1 hC.2.2.2.2.2.2.1 hE.1 hE.2.1 hS q0 hq2 hc.1 k hk (hC.2.2.2.2.1 _ hw) (fun y hy => by rw [hT] at hy; exact hy) hfin (v := .int v) hdt (by rcases h.1 with q | q <;> rw [q] <;> rfl) (by rcases h.1 with q | q <;> rw [q] <;> rfl) (by rw [mapF_len, hc.2.2.2.2.1]; exact hk) hd (fun H1 locs1 hP1 hD1 hS1 => ?_)
      rw [hset] at hP1 hD1
      exact hn _ _ _ h.2 H1 locs1 la hl (List.forall_mem_cons.mp hs2).2 ⟨hP1, hD1, hE.2.2⟩ hS1 hL
    · exact h.elim
  · exact h.elim
def oPutNw : OP := fun _ _ nx _ ls st m => match st with
  | .ref v :: .ref a :: r => match Nat.beq (a % 16) 6 with
    | true => nx ls r (sNw m v)
    | false => False
  | _ => False
def oPutSp : OP := fun _ _ nx _ ls st m => match st with
  | .ref v :: .ref a :: r => match Nat.beq (a % 16) 6 with
    | true => nx ls r (sSp m v)
    | false => False
  | _ => False
theorem cells_one6 : ∀ a ∈ cellsL, a % 16 = 6 → a = kS := by decide +kernel
theorem cellE_nB_other {ad : Nat → Nat} {dA : Nat → ClassId} {m m' : MM} (h1 : m'.1 = m.1) (h2 : m'.2.1 = m.2.1) {b : Nat} (h : b % 16 ≠ 6) : cellE ad dA m' b = cellE ad dA m b := by
  have e2 : (fun j => gJ m' b j) = fun j => gJ m b j := by funext j; unfold gJ; rw [h2]
  have e3 : (fun j => gI m' b j) = fun j => gI m b j := by funext j; unfold gI; rw [h1]
  have e1 : mapF ad m' b 0 (fk (b % 16)) = mapF ad m b 0 (fk (b % 16)) := by
    refine mapF_ext _ _ (fun j kd hj => ?_)
    have hk : kd ≠ 2 ∧ kd ≠ 3 := by
      have hz : ∀ c, c < 16 → c ≠ 6 → ∀ x ∈ fk c, x ≠ 2 ∧ x ≠ 3 := by decide +kernel
      exact hz (b % 16) (Nat.mod_lt _ (by decide)) h kd (List.mem_of_getElem? hj)
    have f1 : gI m' b (0 + j) = gI m b (0 + j) := congrFun e3 (0 + j)
    have f2 : rf m' b (0 + j) kd = rf m b (0 + j) kd := by
      unfold rf
      split
      · exact absurd rfl hk.1
      · exact absurd rfl hk.2
      · rfl
    unfold fieldV
    rw [f1, f2]
  unfold cellE
  rw [e1, e2, e3]
theorem okPutNw {x : Nat} (hd : decode μ.2.1 pc = .ok (.putfield x, 3)) (hw : Cond.fieldLink μ.2.2.2.2 x RX6 (TX6 3).2.1 (TX6 3).2.2.1 ∈ wsG) : OpOk μ 3 pc oPutNw := by
  intro E P p l e R s mid args below meth c dC dI dA ad b A C0 S0 Qf hC hR nx jp ls st m hn hj h H locs la hl hs hE hS hL
  unfold oPutNw at h
  split at h
  · rename_i v a r
    split at h
    · rename_i hb
      have ha : a % 16 = 6 := Nat.eq_of_beq_eq_true hb
      have hs2 := (List.forall_mem_cons.mp hs).2
      have hin : a ∈ cellsL := (List.forall_mem_cons.mp hs2).1
      obtain ⟨q0, hq1, hq2⟩ := wsM_at (ad := ad) (dA := dA) hin m
      rw [cellE_obj ha (by decide)] at hq2
      have hset : (wsM ad dA m).set q0 (ad a, .inr (6, (mapF ad m a 0 (fk 6)).set 3 (.ref (ad v)))) = wsM ad dA (sNw m v) :=
        wsM_set hq1 (fun b hbc hb => cellE_nB_other (m := m) (m' := sNw m v) rfl rfl (fun q => hb ((cells_one6 b hbc q).trans (cells_one6 a hin ha).symm))) (by
          rw [cellE_obj ha (by decide)]; rfl)
      refine va_put hC.1 hC.2.1 hC.2.2.2.2.1 clX6.2.1 tyX6 tyX6_ok nmX6 hC.2.2.2.1 hC.2.2.2.2.2.2.1 hE.1 hE.2.1 hS q0 hq2 clX6.1 3 (by decide) (hC.2.2.2.2.1 _ hw) (fun y hy => hy) rfl (v := .ref (ad v)) (tyX6_ok 3 (by decide)) rfl rfl (by rw [mapF_len]; decide) hd (fun H1 locs1 hP1 hD1 hS1 => ?_)
      rw [hset] at hP1 hD1
      exact hn _ _ _ h H1 locs1 la hl (List.forall_mem_cons.mp hs2).2 ⟨hP1, hD1, (List.forall_mem_cons.mp hs).1, hE.2.2.2⟩ hS1 hL
    · exact h.elim
  · exact h.elim
theorem okPutSp {x : Nat} (hd : decode μ.2.1 pc = .ok (.putfield x, 3)) (hw : Cond.fieldLink μ.2.2.2.2 x RX6 (TX6 4).2.1 (TX6 4).2.2.1 ∈ wsG) : OpOk μ 3 pc oPutSp := by
  intro E P p l e R s mid args below meth c dC dI dA ad b A C0 S0 Qf hC hR nx jp ls st m hn hj h H locs la hl hs hE hS hL
  unfold oPutSp at h
  split at h
  · rename_i v a r
    split at h
    · rename_i hb
      have ha : a % 16 = 6 := Nat.eq_of_beq_eq_true hb
      have hs2 := (List.forall_mem_cons.mp hs).2
      have hin : a ∈ cellsL := (List.forall_mem_cons.mp hs2).1
      obtain ⟨q0, hq1, hq2⟩ := wsM_at (ad := ad) (dA := dA) hin m
      rw [cellE_obj ha (by decide)] at hq2
      have hset : (wsM ad dA m).set q0 (ad a, .inr (6, (mapF ad m a 0 (fk 6)).set 4 (.ref (ad v)))) = wsM ad dA (sSp m v) :=
        wsM_set hq1 (fun b hbc hb => cellE_nB_other (m := m) (m' := sSp m v) rfl rfl (fun q => hb ((cells_one6 b hbc q).trans (cells_one6 a hin ha).symm))) (by
          rw [cellE_obj ha (by decide)]; rfl)
      refine va_put hC.1 hC.2.1 hC.2.2.2.2.1 clX6.2.1 tyX6 tyX6_ok nmX6 hC.2.2.2.1 hC.2.2.2.2.2.2.1 hE.1 hE.2.1 hS q0 hq2 clX6.1 4 (by decide) (hC.2.2.2.2.1 _ hw) (fun y hy => hy) rfl (v := .ref (ad v)) (tyX6_ok 4 (by decide)) rfl rfl (by rw [mapF_len]; decide) hd (fun H1 locs1 hP1 hD1 hS1 => ?_)
      rw [hset] at hP1 hD1
      exact hn _ _ _ h H1 locs1 la hl (List.forall_mem_cons.mp hs2).2 ⟨hP1, hD1, hE.2.2.1, (List.forall_mem_cons.mp hs).1⟩ hS1 hL
    · exact h.elim
  · exact h.elim
end OpsC
end
section
/-! arrays, the script, ends -/
section OpsD
variable {μ : MI} {pc : Nat}
def oIald : OP := fun _ _ nx _ ls st m => match st with
  | .int i :: .ref a :: r => match Nat.beq (a % 16) 8 with
    | true => vp_in i (a / 4096) ∧ nx ls (.int (gI m a i.toNatClampNeg) :: r) m
    | false => False
  | _ => False
theorem okIald (hd : decode μ.2.1 pc = .ok (.iaload, 1)) : OpOk μ 1 pc oIald := by
  intro E P p l e R s mid args below meth c dC dI dA ad b A C0 S0 Qf hC hR nx jp ls st m hn hj h H locs la hl hs hE hS hL
  unfold oIald at h
  split at h
  · rename_i i a r
    split at h
    · rename_i hb
      have ha : a % 16 = 8 := Nat.eq_of_beq_eq_true hb
      have hs2 := List.forall_mem_cons.mp (List.forall_mem_cons.mp hs).2
      obtain ⟨q0, hq1, hq2⟩ := wsM_at (ad := ad) (dA := dA) hs2.1 m
      rw [cellE_int ha (by decide)] at hq2
      exact va_iald hC.1 hC.2.1 hC.2.2.2.2.2.2.1 hE.1 q0 0 hq2 rfl h.1 hd (hn _ _ _ h.2 H locs la hl (List.forall_mem_cons.mpr ⟨trivial, hs2.2⟩) hE hS hL)
    · exact h.elim
  · exact h.elim
def oJald : OP := fun _ _ nx _ ls st m => match st with
  | .int i :: .ref a :: r => match Nat.beq (a % 16) 9 with
    | true => vp_in i (a / 4096) ∧ nx ls (.long (gJ m a i.toNatClampNeg) :: r) m
    | false => False
  | _ => False
theorem okJald (hd : decode μ.2.1 pc = .ok (.laload, 1)) : OpOk μ 1 pc oJald := by
  intro E P p l e R s mid args below meth c dC dI dA ad b A C0 S0 Qf hC hR nx jp ls st m hn hj h H locs la hl hs hE hS hL
  unfold oJald at h
  split at h
  · rename_i i a r
    split at h
    · rename_i hb
      have ha : a % 16 = 9 := Nat.eq_of_beq_eq_true hb
      have hs2 := List.forall_mem_cons.mp (List.forall_mem_cons.mp hs).2
      obtain ⟨q0, hq1, hq2⟩ := wsM_at (ad := ad) (dA := dA) hs2.1 m
      rw [cellE_long ha] at hq2
      exact va_lald hC.1 hC.2.1 hC.2.2.2.2.2.2.1 hE.1 q0 1 hq2 rfl h.1 hd (hn _ _ _ h.2 H locs la hl (List.forall_mem_cons.mpr ⟨trivial, hs2.2⟩) hE hS hL)
    · exact h.elim
  · exact h.elim
def oBald : OP := fun _ _ nx _ ls st m => match st with
  | .int i :: .ref a :: r => match Nat.beq (a % 16) 10 || Nat.beq (a % 16) 11 with
    | true => vp_in i (a / 4096) ∧ nx ls (.int (gI m a i.toNatClampNeg) :: r) m
    | false => False
  | _ => False
theorem okBald (hd : decode μ.2.1 pc = .ok (.baload, 1)) : OpOk μ 1 pc oBald := by
  intro E P p l e R s mid args below meth c dC dI dA ad b A C0 S0 Qf hC hR nx jp ls st m hn hj h H locs la hl hs hE hS hL
  unfold oBald at h
  split at h
  · rename_i i a r
    split at h
    · rename_i hb
      have hs2 := List.forall_mem_cons.mp (List.forall_mem_cons.mp hs).2
      obtain ⟨q0, hq1, hq2⟩ := wsM_at (ad := ad) (dA := dA) hs2.1 m
      rcases (Bool.or_eq_true _ _).mp hb with hb | hb
      · have ha : a % 16 = 10 := Nat.eq_of_beq_eq_true hb
        rw [cellE_int ha (by decide)] at hq2
        exact va_bald hC.1 hC.2.1 hC.2.2.2.2.2.2.1 hE.1 q0 2 hq2 rfl h.1 hd (hn _ _ _ h.2 H locs la hl (List.forall_mem_cons.mpr ⟨trivial, hs2.2⟩) hE hS hL)
      · have ha : a % 16 = 11 := Nat.eq_of_beq_eq_true hb
        rw [cellE_int ha (by decide)] at hq2
        exact va_zald hC.1 hC.2.1 hC.2.2.2.2.2.2.1 hE.1 q0 3 hq2 rfl h.1 hd (hn _ _ _ h.2 H locs la hl (List.forall_mem_cons.mpr ⟨trivial, hs2.2⟩) hE hS hL)
    · exact h.elim
  · exact h.elim
theorem wsM_stI {ad : Nat → Nat} {dA : Nat → ClassId} {m : MM} {a k q0 kd : Nat} {x : Int32} (hq : cellsL[q0]? = some a) (ha : a % 16 = kd) (hk : kd = 8 ∨ kd = 10 ∨ kd = 11) : (wsM ad dA m).set q0 (ad a, .inl (dA kd, a / 4096, .inl (upd (fun i => gI m a i) k x))) = wsM ad dA (sI m a k x) := by
  refine wsM_set hq (fun b _ hb => cellE_sI_other hb) ?_
  rw [cellE_int ha hk]
  have e : (fun i => gI (sI m a k x) a i) = upd (fun i => gI m a i) k x := by
    funext j
    simp [gI, sI, upd]
  rw [e]
theorem wsM_stJ {ad : Nat → Nat} {dA : Nat → ClassId} {m : MM} {a k q0 : Nat} {x : Int64} (hq : cellsL[q0]? = some a) (ha : a % 16 = 9) : (wsM ad dA m).set q0 (ad a, .inl (dA 9, a / 4096, .inr (.inl (vp_updL (fun i => gJ m a i) k x)))) = wsM ad dA (sJ m a k x) := by
  refine wsM_set hq (fun b _ hb => cellE_sJ_other hb) ?_
  rw [cellE_long ha]
  have e : (fun i => gJ (sJ m a k x) a i) = vp_updL (fun i => gJ m a i) k x := by
    funext j
    simp [gJ, sJ, vp_updL]
  rw [e]
def oIast : OP := fun _ _ nx _ ls st m => match st with
  | .int x :: .int i :: .ref a :: r => match Nat.beq (a % 16) 8 with
    | true => vp_in i (a / 4096) ∧ nx ls r (sI m a i.toNatClampNeg x)
    | false => False
  | _ => False
theorem okIast (hd : decode μ.2.1 pc = .ok (.iastore, 1)) : OpOk μ 1 pc oIast := by
  intro E P p l e R s mid args below meth c dC dI dA ad b A C0 S0 Qf hC hR nx jp ls st m hn hj h H locs la hl hs hE hS hL
  unfold oIast at h
  split at h
  · rename_i x i a r
    split at h
    · rename_i hb
      have ha : a % 16 = 8 := Nat.eq_of_beq_eq_true hb
      have hs2 := List.forall_mem_cons.mp (List.forall_mem_cons.mp (List.forall_mem_cons.mp hs).2).2
      obtain ⟨q0, hq1, hq2⟩ := wsM_at (ad := ad) (dA := dA) hs2.1 m
      rw [cellE_int ha (by decide)] at hq2
      refine va_iast hC.1 hC.2.1 hC.2.2.2.2.2.2.1 hE.1 hE.2.1 hS q0 0 hq2 rfl h.1 hd (fun H1 locs1 hP1 hD1 hS1 => ?_)
      rw [wsM_stI hq1 ha (by decide)] at hP1 hD1
      exact hn _ _ _ h.2 H1 locs1 la hl hs2.2 ⟨hP1, hD1, hE.2.2⟩ hS1 hL
    · exact h.elim
  · exact h.elim
def oJast : OP := fun _ _ nx _ ls st m => match st with
  | .long x :: .int i :: .ref a :: r => match Nat.beq (a % 16) 9 with
    | true => vp_in i (a / 4096) ∧ nx ls r (sJ m a i.toNatClampNeg x)
    | false => False
  | _ => False
theorem okJast (hd : decode μ.2.1 pc = .ok (.lastore, 1)) : OpOk μ 1 pc oJast := by
  intro E P p l e R s mid args below meth c dC dI dA ad b A C0 S0 Qf hC hR nx jp ls st m hn hj h H locs la hl hs hE hS hL
  unfold oJast at h
  split at h
  · rename_i x i a r
    split at h
    · rename_i hb
      have ha : a % 16 = 9 := Nat.eq_of_beq_eq_true hb
      have hs2 := List.forall_mem_cons.mp (List.forall_mem_cons.mp (List.forall_mem_cons.mp hs).2).2
      obtain ⟨q0, hq1, hq2⟩ := wsM_at (ad := ad) (dA := dA) hs2.1 m
      rw [cellE_long ha] at hq2
      refine va_last hC.1 hC.2.1 hC.2.2.2.2.2.2.1 hE.1 hE.2.1 hS q0 1 hq2 rfl h.1 hd (fun H1 locs1 hP1 hD1 hS1 => ?_)
      rw [wsM_stJ hq1 ha] at hP1 hD1
      exact hn _ _ _ h.2 H1 locs1 la hl hs2.2 ⟨hP1, hD1, hE.2.2⟩ hS1 hL
    · exact h.elim
  · exact h.elim
def oBast : OP := fun _ _ nx _ ls st m => match st with
  | .int x :: .int i :: .ref a :: r => match Nat.beq (a % 16) 10 with
    | true => vp_in i (a / 4096) ∧ nx ls r (sI m a i.toNatClampNeg (vp_nar .byte x))
    | false => match Nat.beq (a % 16) 11 with
      | true => vp_in i (a / 4096) ∧ nx ls r (sI m a i.toNatClampNeg (vp_nar .boolean x))
      | false => False
  | _ => False
theorem okBast (hd : decode μ.2.1 pc = .ok (.bastore, 1)) : OpOk μ 1 pc oBast := by
  intro E P p l e R s mid args below meth c dC dI dA ad b A C0 S0 Qf hC hR nx jp ls st m hn hj h H locs la hl hs hE hS hL
  unfold oBast at h
  split at h
  · rename_i x i a r
    have hs2 := List.forall_mem_cons.mp (List.forall_mem_cons.mp (List.forall_mem_cons.mp hs).2).2
    obtain ⟨q0, hq1, hq2⟩ := wsM_at (ad := ad) (dA := dA) hs2.1 m
    split at h
    · rename_i hb
      have ha : a % 16 = 10 := Nat.eq_of_beq_eq_true hb
      rw [cellE_int ha (by decide)] at hq2
      refine va_bast hC.1 hC.2.1 hC.2.2.2.2.2.2.1 hE.1 hE.2.1 hS q0 2 hq2 rfl h.1 hd (fun H1 locs1 hP1 hD1 hS1 => ?_)
      rw [wsM_stI hq1 ha (by decide)] at hP1 hD1
      exact hn _ _ _ h.2 H1 locs1 la hl hs2.2 ⟨hP1, hD1, hE.2.2⟩ hS1 hL
    · split at h
      · rename_i hb
        have ha : a % 16 = 11 := Nat.eq_of_beq_eq_true hb
        rw [cellE_int ha (by decide)] at hq2
        refine va_zast hC.1 hC.2.1 hC.2.2.2.2.2.2.1 hE.1 hE.2.1 hS q0 3 hq2 rfl h.1 hd (fun H1 locs1 hP1 hD1 hS1 => ?_)
        rw [wsM_stI hq1 ha (by decide)] at hP1 hD1
        exact hn _ _ _ h.2 H1 locs1 la hl hs2.2 ⟨hP1, hD1, hE.2.2⟩ hS1 hL
      · exact h.elim
  · exact h.elim
def oLen : OP := fun _ _ nx _ ls st m => match st with
  | .ref a :: r => match Nat.beq (a % 16) 8 with
    | true => nx ls (.int (Int32.ofNat (a / 4096)) :: r) m
    | false => False
  | _ => False
theorem okLen (hd : decode μ.2.1 pc = .ok (.arraylength, 1)) : OpOk μ 1 pc oLen := by
  intro E P p l e R s mid args below meth c dC dI dA ad b A C0 S0 Qf hC hR nx jp ls st m hn hj h H locs la hl hs hE hS hL
  unfold oLen at h
  split at h
  · rename_i a r
    split at h
    · rename_i hb
      have ha : a % 16 = 8 := Nat.eq_of_beq_eq_true hb
      have hs2 := List.forall_mem_cons.mp hs
      obtain ⟨q0, hq1, hq2⟩ := wsM_at (ad := ad) (dA := dA) hs2.1 m
      rw [cellE_int ha (by decide)] at hq2
      exact va_alen hC.1 hC.2.1 hC.2.2.2.2.2.2.1 hE.1 q0 0 hq2 (ty := .int) rfl rfl hd (hn _ _ _ h H locs la hl (List.forall_mem_cons.mpr ⟨trivial, hs2.2⟩) hE hS hL)
    · exact h.elim
  · exact h.elim
def oSld : OP := fun E _ nx _ ls st m => match st with
  | .int i :: .retAddr _ :: r => vp_in i E.2.1 ∧ nx ls (.int (E.2.2 i.toNatClampNeg) :: r) m
  | _ => False
theorem okSld (hw : μ.2.2.2.2 = "SaleRoundsLaw") (hd : decode μ.2.1 pc = .ok (.iaload, 1)) : OpOk μ 1 pc oSld := by
  intro E P p l e R s mid args below meth c dC dI dA ad b A C0 S0 Qf hC hR nx jp ls st m hn hj h H locs la hl hs hE hS hL
  unfold oSld at h
  split at h
  · rename_i i a r
    have hs2 := List.forall_mem_cons.mp (List.forall_mem_cons.mp hs).2
    obtain ⟨hX, hbl, hbA⟩ := hC.2.2.2.2.2.2.2.2.2.1 hw
    exact va_sld hC.1 hC.2.1 hX hbl hbA hS h.1 hd (hn _ _ _ h.2 H locs la hl (List.forall_mem_cons.mpr ⟨trivial, hs2.2⟩) hE hS hL)
  · exact h.elim
def oSlen : OP := fun E _ nx _ ls st m => match st with
  | .retAddr _ :: r => nx ls (.int (Int32.ofNat E.2.1) :: r) m
  | _ => False
theorem okSlen (hw : μ.2.2.2.2 = "SaleRoundsLaw") (hd : decode μ.2.1 pc = .ok (.arraylength, 1)) : OpOk μ 1 pc oSlen := by
  intro E P p l e R s mid args below meth c dC dI dA ad b A C0 S0 Qf hC hR nx jp ls st m hn hj h H locs la hl hs hE hS hL
  unfold oSlen at h
  split at h
  · obtain ⟨hX, hbl, hbA⟩ := hC.2.2.2.2.2.2.2.2.2.1 hw
    exact va_slen hC.1 hC.2.1 hX hbl hbA hS hd (hn _ _ _ h H locs la hl (List.forall_mem_cons.mpr ⟨trivial, (List.forall_mem_cons.mp hs).2⟩) hE hS hL)
  · exact h.elim
def oIret : OP := fun _ P _ _ _ st m => match st with
  | [.int x] => P (some (.int x)) m
  | _ => False
theorem okIret (hd : decode μ.2.1 pc = .ok (.ireturn, 1)) (hr : μ.2.2.2.1 = some .int) : OpOk μ 1 pc oIret := by
  intro E P p l e R s mid args below meth c dC dI dA ad b A C0 S0 Qf hC hR nx jp ls st m hn hj h H locs la hl hs hE hS hL
  unfold oIret at h
  split at h
  · rename_i x
    exact hR (some (.int x)) m H locs la pc h (Or.inl ⟨x, rfl, hd, Or.inl hr⟩) hE hS
  · exact h.elim
def oZret : OP := fun _ P _ _ _ st m => match st with
  | [.int x] => (x = 0 ∨ x = 1) ∧ P (some (.int x)) m
  | _ => False
theorem okZret (hd : decode μ.2.1 pc = .ok (.ireturn, 1)) (hr : μ.2.2.2.1 = some .boolean) : OpOk μ 1 pc oZret := by
  intro E P p l e R s mid args below meth c dC dI dA ad b A C0 S0 Qf hC hR nx jp ls st m hn hj h H locs la hl hs hE hS hL
  unfold oZret at h
  split at h
  · rename_i x
    exact hR (some (.int x)) m H locs la pc h.2 (Or.inl ⟨x, rfl, hd, Or.inr ⟨hr, h.1⟩⟩) hE hS
  · exact h.elim
def oJret : OP := fun _ P _ _ _ st m => match st with
  | [.long x] => P (some (.long x)) m
  | _ => False
theorem okJret (hd : decode μ.2.1 pc = .ok (.lreturn, 1)) (hr : μ.2.2.2.1 = some .long) : OpOk μ 1 pc oJret := by
  intro E P p l e R s mid args below meth c dC dI dA ad b A C0 S0 Qf hC hR nx jp ls st m hn hj h H locs la hl hs hE hS hL
  unfold oJret at h
  split at h
  · rename_i x
    exact hR (some (.long x)) m H locs la pc h (Or.inr (Or.inl ⟨x, rfl, hd, hr⟩)) hE hS
  · exact h.elim
def oVret : OP := fun _ P _ _ _ st m => match st with
  | [] => P none m
  | _ => False
theorem okVret (hd : decode μ.2.1 pc = .ok (.return_, 1)) (hr : μ.2.2.2.1 = none) : OpOk μ 1 pc oVret := by
  intro E P p l e R s mid args below meth c dC dI dA ad b A C0 S0 Qf hC hR nx jp ls st m hn hj h H locs la hl hs hE hS hL
  unfold oVret at h
  split at h
  · exact hR none m H locs la pc h (Or.inr (Or.inr ⟨rfl, hd, hr⟩)) hE hS
  · exact h.elim
/-- an instruction that no walk may reach -/
def oNo : OP := fun _ _ _ _ _ _ _ => False
theorem okNo {len : Nat} : OpOk μ len pc oNo := by
  intro E P p l e R s mid args below meth c dC dI dA ad b A C0 S0 Qf hC hR nx jp ls st m hn hj h
  exact h.elim
def cats : List Value → Nat
  | [] => 0
  | v :: r => v.category + cats r
theorem cats_eq (ad : Nat → Nat) (b : Nat) : ∀ r : List Value, ((r.map (tv ad b)).map fun v => v.category).sum = cats r
  | [] => rfl
  | v :: r => by
    rw [List.map_cons, List.map_cons, List.sum_cons, cats_eq ad b r, tv_cat]
    rfl
def oMin : OP := fun E _ nx _ ls st m => match st with
  | .int y :: .int x :: r => match Nat.ble 1 E.1 && Nat.ble (cats r) 8 with
    | true => nx ls (.int (if y < x then y else x) :: r) m
    | false => False
  | _ => False
def oMax : OP := fun E _ nx _ ls st m => match st with
  | .int y :: .int x :: r => match Nat.ble 1 E.1 && Nat.ble (cats r) 8 with
    | true => nx ls (.int (if x < y then y else x) :: r) m
    | false => False
  | _ => False
theorem okMin {x : Nat} (hd : decode μ.2.1 pc = .ok (.invokestatic x, 3)) (w1 : Cond.methodLink μ.2.2.2.2 x Lib.Math.min.name ∈ wsG) (w2 : Cond.static Lib.Math.min.name ∈ wsG) (w3 : Cond.initialized "java/lang/Math" ∈ wsG) (w4 : Cond.code Lib.Math.min.name Lib.Math.min.code 2 (some .int) ∈ wsG) : OpOk μ 3 pc oMin := by
  intro E P p l e R s mid args below meth c dC dI dA ad b A C0 S0 Qf hC hR nx jp ls st m hn hj h H locs la hl hs hE hS hL
  unfold oMin at h
  split at h
  · rename_i y x r
    split at h
    · rename_i hb
      rw [Bool.and_eq_true] at hb
      have h1 := Nat.le_of_ble_eq_true hb.1
      have h2 := Nat.le_of_ble_eq_true hb.2
      obtain ⟨r1, r2, r3, r4⟩ := hC.2.2.2.2.2.2.2.2.1
      exact va_mmin hC.1 hC.2.1 (by rw [hC.2.2.1]; exact hL.1.symm) hC.2.2.2.1 (hC.2.2.2.2.1 _ w1) (hC.2.2.2.2.1 _ w2) (hC.2.2.2.2.1 _ w3) (hC.2.2.2.2.1 _ w4) (by omega) (by rw [cats_eq]; omega) r3 r4 hd (hn _ _ _ h H locs la hl (List.forall_mem_cons.mpr ⟨trivial, (List.forall_mem_cons.mp (List.forall_mem_cons.mp hs).2).2⟩) hE hS hL)
    · exact h.elim
  · exact h.elim
theorem okMax {x : Nat} (hd : decode μ.2.1 pc = .ok (.invokestatic x, 3)) (w1 : Cond.methodLink μ.2.2.2.2 x Lib.Math.max.name ∈ wsG) (w2 : Cond.static Lib.Math.max.name ∈ wsG) (w3 : Cond.initialized "java/lang/Math" ∈ wsG) (w4 : Cond.code Lib.Math.max.name Lib.Math.max.code 2 (some .int) ∈ wsG) : OpOk μ 3 pc oMax := by
  intro E P p l e R s mid args below meth c dC dI dA ad b A C0 S0 Qf hC hR nx jp ls st m hn hj h H locs la hl hs hE hS hL
  unfold oMax at h
  split at h
  · rename_i y x r
    split at h
    · rename_i hb
      rw [Bool.and_eq_true] at hb
      have h1 := Nat.le_of_ble_eq_true hb.1
      have h2 := Nat.le_of_ble_eq_true hb.2
      obtain ⟨r1, r2, r3, r4⟩ := hC.2.2.2.2.2.2.2.2.1
      exact va_mmax hC.1 hC.2.1 (by rw [hC.2.2.1]; exact hL.1.symm) hC.2.2.2.1 (hC.2.2.2.2.1 _ w1) (hC.2.2.2.2.1 _ w2) (hC.2.2.2.2.1 _ w3) (hC.2.2.2.2.1 _ w4) (by omega) (by rw [cats_eq]; omega) r3 r4 hd (hn _ _ _ h H locs la hl (List.forall_mem_cons.mpr ⟨trivial, (List.forall_mem_cons.mp (List.forall_mem_cons.mp hs).2).2⟩) hE hS hL)
    · exact h.elim
  · exact h.elim
end OpsD
end
section
/-! calls -/
def qi (P : Int32 → MM → Prop) : QQ := fun r m => match r with
  | some (.int x) => P x m
  | _ => False
def qj (P : Int64 → MM → Prop) : QQ := fun r m => match r with
  | some (.long x) => P x m
  | _ => False
def qv (P : MM → Prop) : QQ := fun r m => match r with
  | none => P m
  | _ => False
def E0 (d : Nat) : EE := (d, 0, fun _ => 0)
/-- contracts: the method, at these arguments and this memory, comes to its end with P -/
def CI (d : Nat) (μ : MI) (as : List Value) (m : MM) (P : Int32 → MM → Prop) : Prop := At (E0 d) μ (qi P) 0 (pad μ.2.2.1 (enl as)) [] m
def CJ (d : Nat) (μ : MI) (as : List Value) (m : MM) (P : Int64 → MM → Prop) : Prop := At (E0 d) μ (qj P) 0 (pad μ.2.2.1 (enl as)) [] m
def CV (d : Nat) (μ : MI) (as : List Value) (m : MM) (P : MM → Prop) : Prop := At (E0 d) μ (qv P) 0 (pad μ.2.2.1 (enl as)) [] m
set_option maxRecDepth 20000 in
theorem rm_le {a d e L : Nat} (h1 : a ≤ 45) (h2 : d < e) (h3 : 64 * e + 256 ≤ L) : 8 + (a + 11) + (64 * d + 256) ≤ L := by omega
def rmD (d : Nat) : Room := { frames := d + 4, cells := 0, slots := 0, locals := 64 * d + 256 }
def wsK (μ : MI) : List Cond := .code μ.1 μ.2.1 μ.2.2.1 μ.2.2.2.1 :: wsG
/-- what is asked of a method's row -/
def MiOk (μ : MI) (n : Nat) : Prop := plainName μ.1.cls = true ∧ μ.1.cls = μ.2.2.2.2 ∧ μ.2.2.2.2 ≠ "SaleRoundsLaw" ∧ (μ.1.cls ≠ "java/lang/invoke/MethodHandle" ∧ μ.1.cls ≠ "java/lang/invoke/VarHandle" ∧ (parseMethodDescriptor μ.1.desc).map (fun d => d.parameters.length) = some n) ∧ μ.2.2.1 ≤ 45 ∧ Cond.code μ.1 μ.2.1 μ.2.2.1 μ.2.2.2.1 ∈ wsG ∧ Cond.initialized μ.1.cls ∈ wsG
def PcM (dC : Nat → ClassId) (dI : Nat → Nat → Nat) (dA : Nat → ClassId) (ad : Nat → Nat) (as : List Value) (m : MM) (sz : Nat) : Array Value → State → Prop :=
  va_Pc (as.map (tv ad 0)) (fun U => U.heap.size = sz ∧ va_P (dC, dI) classes (wsM ad dA m) U.heap ∧ va_K (dC, dI) classes (tysL dA) U ∧ va_D (fun _ => True) (wsM ad dA m) ∧ okB m ∧ (∀ q ∈ nsL, va_Nw (.methodLinkNest q.1 q.2.1 q.2.2.1 q.2.2.2) U) ∧ (∀ v ∈ as, vld v) ∧ StE (va_A (wsM ad dA m) sz) U U.heap)
theorem gl_pad_nil : ∀ n j : Nat, gl j (pad n []) = .null
  | 0, j => by cases j <;> rfl
  | n + 1, 0 => rfl
  | n + 1, j + 1 => gl_pad_nil n j
theorem gl_zero (j : Nat) : gl j (pad 0 []) = .null := gl_pad_nil 0 j
theorem pad_args (ad : Nat → Nat) (b : Nat) : ∀ (as : List Value) (n k j : Nat), gl j (pad n (enl as)) ≠ .null → (k + j, tv ad b (gl j (pad n (enl as)))) ∈ lv_args k (as.map (tv ad b))
  | [], n, k, j, h => absurd (gl_pad_nil n j) h
  | v :: r, n, k, j, h => by
    have two : ∀ w : Value, w.category = 2 → (gl j (pad n (w :: .null :: enl r)) ≠ .null) → (k + j, tv ad b (gl j (pad n (w :: .null :: enl r)))) ∈ lv_args k ((w :: r).map (tv ad b)) := by
      intro w hw h
      rw [List.map_cons, lv_args, tv_cat, if_pos hw]
      match n, j, h with
      | 0, j, h => exact absurd (gl_zero j) h
      | n + 1, 0, h => exact List.mem_cons_self
      | 1, j + 1, h => exact absurd (gl_zero j) h
      | n + 2, 1, h => exact absurd rfl h
      | n + 2, j + 2, h =>
        have := pad_args ad b r n (k + 2) j h
        rw [show k + 2 + j = k + (j + 2) by omega] at this
        exact List.mem_cons_of_mem _ this
    have one : ∀ w : Value, w.category = 1 → (gl j (pad n (w :: enl r)) ≠ .null) → (k + j, tv ad b (gl j (pad n (w :: enl r)))) ∈ lv_args k ((w :: r).map (tv ad b)) := by
      intro w hw h
      rw [List.map_cons, lv_args, tv_cat, if_neg (by omega)]
      match n, j, h with
      | 0, j, h => exact absurd (gl_zero j) h
      | n + 1, 0, h => exact List.mem_cons_self
      | n + 1, j + 1, h =>
        have := pad_args ad b r n (k + 1) j h
        rw [show k + 1 + j = k + (j + 1) by omega] at this
        exact List.mem_cons_of_mem _ this
    cases v with
    | long x => exact two (.long x) rfl h
    | double x => exact two (.double x) rfl h
    | int x => exact one (.int x) rfl h
    | float x => exact one (.float x) rfl h
    | null => exact one .null rfl h
    | ref x => exact one (.ref x) rfl h
    | retAddr x => exact one (.retAddr x) rfl h
theorem sl_len (ad : Nat → Nat) (b : Nat) : ∀ as : List Value, (lg_sl (as.map (tv ad b))).length = (enl as).length
  | [] => rfl
  | v :: r => by
    have e : lg_sl ((v :: r).map (tv ad b)) = (if (tv ad b v).category = 2 then [.val (tv ad b v), .second] else [.val (tv ad b v)]) ++ lg_sl (r.map (tv ad b)) := rfl
    rw [e, List.length_append, sl_len ad b r, tv_cat]
    cases v <;> simp [enl, Value.category] <;> omega
theorem gl_vld : ∀ (l : List Value) (j : Nat), (∀ v ∈ l, vld v) → vld (gl j l)
  | [], j, _ => by cases j <;> trivial
  | v :: r, 0, h => h v List.mem_cons_self
  | v :: r, j + 1, h => gl_vld r j (fun w hw => h w (List.mem_cons_of_mem _ hw))
theorem pad_mem : ∀ (n : Nat) (l : List Value) (v : Value), v ∈ pad n l → v = .null ∨ v ∈ l
  | 0, l, v, h => by cases l <;> cases h
  | n + 1, [], v, h => by
    rcases List.mem_cons.mp h with h | h
    · exact Or.inl h
    · exact pad_mem n [] v h
  | n + 1, w :: r, v, h => by
    rcases List.mem_cons.mp h with h | h
    · exact Or.inr (h ▸ List.mem_cons_self)
    · rcases pad_mem n r v h with q | q
      · exact Or.inl q
      · exact Or.inr (List.mem_cons_of_mem _ q)
theorem enl_mem : ∀ (l : List Value) (v : Value), v ∈ enl l → v = .null ∨ v ∈ l
  | [], v, h => by cases h
  | w :: r, v, h => by
    have step : v ∈ enl r → v = .null ∨ v ∈ w :: r := fun q => (enl_mem r v q).elim Or.inl (fun z => Or.inr (List.mem_cons_of_mem _ z))
    cases w <;> simp only [enl, List.mem_cons] at h <;> rcases h with h | h <;> first | exact Or.inr (h ▸ List.mem_cons_self) | exact step h | (rcases h with h | h <;> first | exact Or.inl h | exact step h)
theorem met_core {l : Launch} {d n : Nat} {μ : MI} {P : QQ} {as : List Value} {m : MM} {Qc : Array Value → State → Outcome → State → Prop} {dC : Nat → ClassId} {dI : Nat → Nat → Nat} {dA : Nat → ClassId} {ad : Nat → Nat} {sz : Nat}
    (hm : MiOk μ n) (hlen : (enl as).length ≤ μ.2.2.1) (hat : At (E0 d) μ P 0 (pad μ.2.2.1 (enl as)) [] m)
    (hQ : ∀ (a : Array Value) (st t : State) (r : Option Value) (m' : MM), P r m' → va_P (dC, dI) classes (wsM ad dA m') t.heap → okB m' → va_F (va_A (wsM ad dA m) sz) st t → Qc a st (.returned r) t) :
    Met l μ.1 (wsK μ) (rmD d) (PcM dC dI dA ad as m sz) Qc 0 0 (va_A (wsM ad dA m) sz) := by
  refine Met.ofW (cc := μ.2.1) (maxL := μ.2.2.1) (ret := μ.2.2.2.1) hm.1 rfl ?_
  intro p e s mid args below meth c s₁ B hml hv
  obtain ⟨rfl, hsz, hP, hK, hD0, hB, hN, hvl, hSt⟩ := hv
  have hts := atoms_spec (ws := wsK μ) B.pre
  have hown : s.vm.findClass μ.2.2.2.2 = some mid.cls := by rw [← hm.2.1]; exact findClass_of_methodNamed B.named
  have hlocks := B.notSynchronized
  subst hsz
  have hD := hD0.self (sz := s.heap.size)
  rw [lg_entry_eq]
  have hle := lv_entry (as.map (tv ad 0)) (n := μ.2.2.1) (by rw [sl_len]; exact hlen)
  refine hat p l e _ s mid _ below meth c dC dI dA ad 0 (va_A (wsM ad dA m) s.heap.size) 0 0 _ ⟨B.exec, B.bytes, hml, hown, fun w hw => hts w (List.mem_cons_of_mem _ hw), hN, hK, fun q h => Or.inr h, ⟨Nat.le_refl _, Nat.le_refl _, Nat.zero_le _, Nat.zero_le _⟩, fun q => absurd q hm.2.2.1, hSt⟩ ?_ s.heap [] _ ?_ (fun v h => by cases h) ⟨hP, hD, hB⟩ va_S.rf ⟨hle.1, hle.2.1, fun j hj => ?_⟩
  · intro r m' H locs la pc hP' hRD hE hS
    rcases hRD with ⟨v, rfl, hd, hty | ⟨hty, hv01⟩⟩ | ⟨v, rfl, hd, hty⟩ | ⟨rfl, hd, hty⟩
    · exact W.iret B.exec B.bytes (B.returns.trans hty) (fun t ht hW => hQ _ _ _ _ m' hP' (by rw [ht]; exact hE.1) hE.2.2 (hS.F ht)) hS.2.2 hd hlocks
    · exact W.zret B.exec B.bytes (B.returns.trans hty) (by rcases hv01 with q | q <;> rw [q] <;> rfl) (fun t ht hW => hQ _ _ _ _ m' hP' (by rw [ht]; exact hE.1) hE.2.2 (hS.F ht)) hS.2.2 hd hlocks
    · exact W.lret B.exec B.bytes (B.returns.trans hty) (fun t ht hW => hQ _ _ _ _ m' hP' (by rw [ht]; exact hE.1) hE.2.2 (hS.F ht)) hS.2.2 hd hlocks
    · exact W.vret B.exec B.bytes (B.returns.trans hty) (fun t ht hW => hQ _ _ _ _ m' hP' (by rw [ht]; exact hE.1) hE.2.2 (hS.F ht)) hS.2.2 hd hlocks
  · intro j
    refine gl_vld _ _ (fun v hv => ?_)
    rcases pad_mem _ _ _ hv with q | q
    · rw [q]; trivial
    · rcases enl_mem _ _ q with q | q
      · rw [q]; trivial
      · exact hvl v q
  · have := pad_args ad 0 as μ.2.2.1 0 j hj
    rw [Nat.zero_add] at this
    exact hle.2.2 _ this
def okA : List Value → Bool
  | [] => true
  | v :: r => match v with
    | .int _ => okA r
    | .long _ => okA r
    | .ref _ => okA r
    | _ => false
theorem okA_tv (ad : Nat → Nat) (b : Nat) : ∀ as : List Value, okA as = true → as.map (tv ad b) = as.map (tv ad 0)
  | [], _ => rfl
  | v :: r, h => by
    cases v <;> first | cases h | (rw [List.map_cons, List.map_cons, okA_tv ad b r h]; rfl)
def popN : Nat → List Value → List Value → Option (List Value × List Value)
  | 0, acc, st => some (acc, st)
  | _ + 1, _, [] => none
  | n + 1, acc, v :: st => popN n (v :: acc) st
theorem popN_eq : ∀ (n : Nat) (acc st as r : List Value), popN n acc st = some (as, r) → as.reverse ++ r = acc.reverse ++ st ∧ as.length = acc.length + n
  | 0, acc, st, as, r, h => by cases st <;> (cases h; exact ⟨rfl, rfl⟩)
  | n + 1, acc, [], as, r, h => by cases h
  | n + 1, acc, v :: st, as, r, h => by
    obtain ⟨h1, h2⟩ := popN_eq n (v :: acc) st as r h
    refine ⟨?_, by rw [h2, List.length_cons]; omega⟩
    rw [h1, List.reverse_cons, List.append_assoc]
    rfl
def ckR (ci : Nat) (as : List Value) : Bool := match as with
  | .ref a :: _ => Nat.beq (a % 16) ci
  | _ => false
theorem blindM {dC : Nat → ClassId} {dI : Nat → Nat → Nat} {dA : Nat → ClassId} {ad : Nat → Nat} {as : List Value} {m : MM} {sz : Nat} : FrameBlind (PcM dC dI dA ad as m sz) := by
  intro a U g mk h
  obtain ⟨h0, h1, h2, h3, h4, h5, h6, h7, kV, h8⟩ := h
  exact ⟨h0, h1, h2, va_K.moved (u := U) (U := U.calling g mk a) (Vm.Alike.refl U.vm) h3, h4, h5, fun q hq => va_Nw.same rfl (u := U) (U := U.calling g mk a) rfl (h6 q hq), h7, kV, h8.blind⟩
section CallOps
variable {μ μ' : MI} {pc x n : Nat}
variable {E : EE} {p : Program} {l : Launch} {e : Env} {R : Room} {s : State} {mid : MethodId} {args : Array Value} {below : List Frame} {meth : Method} {c : Code} {dC : Nat → ClassId} {dI : Nat → Nat → Nat} {dA : Nat → ClassId} {ad : Nat → Nat} {b : Nat} {A : Nat → Prop} {C0 S0 : Nat} {H : Heap} {locs : List Loc} {la : Array Slot} {ls st as r : List Value} {m : MM} {Qc : Array Value → State → Outcome → State → Prop} {d : Nat}
theorem preM (hC : Cx E μ p R s mid args c dC dI dA A C0 S0 b) (hE : Rel dC dI dA ad A m H) (hS : va_S A s.heap H locs) (hvl : ∀ v ∈ as, vld v) (U : State) (hU : U.heap = H) (hW : s.WarmedH U.vm) : PcM dC dI dA ad as m H.size (as.map (tv ad 0)).toArray U :=
  ⟨rfl, by rw [hU], by rw [hU]; exact hE.1, va_K.moved hW.alike hC.2.2.2.2.2.2.1, hE.2.1.weaken (fun _ _ _ _ => trivial), hE.2.2, fun q hq => va_Nw.warmM hW (hC.2.2.2.2.2.1 q hq), hvl, by
    obtain ⟨kV, hk⟩ := hC.2.2.2.2.2.2.2.2.2.2
    refine ⟨kV, ?_⟩
    rw [hU]
    refine hk.to hS.2.1 (fun q hq => ?_) hW
    rcases hq with ⟨k, e', hk⟩ | hq
    · exact hE.2.1.2 k _ hk
    · exact hC.2.2.2.2.2.2.2.1 q (Nat.le_trans hS.1 hq)⟩
theorem runS (hm : MiOk μ' n) (hd : decode μ.2.1 pc = .ok (.invokestatic x, 3)) (w1 : Cond.methodLink μ.2.2.2.2 x μ'.1 ∈ wsG) (w2 : Cond.static μ'.1 ∈ wsG) (hC : Cx E μ p R s mid args c dC dI dA A C0 S0 b) (hE : Rel dC dI dA ad A m H) (hS : va_S A s.heap H locs) (hL : LsOk ad b μ.2.2.1 ls la) (hs : ∀ v ∈ st, vld v)
    (hpop : popN n [] st = some (as, r)) (hoA : okA as = true) (hcat : cats r ≤ 8) (hdE : d < E.1) (hM : Met l μ'.1 (wsK μ') (rmD d) (PcM dC dI dA ad as m H.size) Qc 0 0 (va_A (wsM ad dA m) H.size)) :
    va_Run p l e R s mid args below meth c H locs C0 S0 0 0 (F0 mid pc la (st.map (tv ad b))) (r.map (tv ad b)) (Qc (as.map (tv ad 0)).toArray) (va_A (wsM ad dA m) H.size) := by
  obtain ⟨e1, e2⟩ := popN_eq n [] st as r hpop
  have e1' : st = as.reverse ++ r := e1.symm
  obtain ⟨r1, r2, r3, r4⟩ := hC.2.2.2.2.2.2.2.2.1
  have hG : GoodIn wsG (wsK μ') := goodG (fun w hw => (List.mem_cons.mp hw).elim (fun q => q ▸ hm.2.2.2.2.2.1) id)
  refine va_runS ⟨hC.1, hC.2.1, hC.2.2.1, hC.2.2.2.1, hC.2.2.2.2.1⟩ hM ⟨callB_of n hC.2.2.2.2.1 hG rfl rfl rfl (hC.2.2.2.2.1 _ hm.2.2.2.2.2.2) (hC.2.2.2.2.1 _ w1) hm.2.2.2.1 ⟨by show d + 4 + 1 ≤ R.frames; omega, ?_⟩, hC.2.2.2.2.1 _ w2⟩ ⟨blindM, preM hC hE hS ?_⟩ rfl ?_ hL.1 ?_ ?_ hd ⟨r3, r4⟩
  · exact rm_le hm.2.2.2.2.1 hdE r2
  · intro v hv
    exact hs v (by rw [e1']; exact List.mem_append_left _ (List.mem_reverse.mpr hv))
  · rw [List.length_map, e2]; simp
  · show st.map (tv ad b) = _
    rw [e1', List.map_append, List.map_reverse, okA_tv ad b as hoA]
  · show 2 * 0 + _ ≤ 8
    rw [cats_eq]; omega
theorem runSN {host : String} (hm : MiOk μ' n) (hd : decode μ.2.1 pc = .ok (.invokestatic x, 3)) (w1 : (μ.2.2.2.2, x, μ'.1, host) ∈ nsL) (w2 : Cond.static μ'.1 ∈ wsG) (hC : Cx E μ p R s mid args c dC dI dA A C0 S0 b) (hE : Rel dC dI dA ad A m H) (hS : va_S A s.heap H locs) (hL : LsOk ad b μ.2.2.1 ls la) (hs : ∀ v ∈ st, vld v)
    (hpop : popN n [] st = some (as, r)) (hoA : okA as = true) (hcat : cats r ≤ 8) (hdE : d < E.1) (hM : Met l μ'.1 (wsK μ') (rmD d) (PcM dC dI dA ad as m H.size) Qc 0 0 (va_A (wsM ad dA m) H.size)) :
    va_Run p l e R s mid args below meth c H locs C0 S0 0 0 (F0 mid pc la (st.map (tv ad b))) (r.map (tv ad b)) (Qc (as.map (tv ad 0)).toArray) (va_A (wsM ad dA m) H.size) := by
  obtain ⟨e1, e2⟩ := popN_eq n [] st as r hpop
  have e1' : st = as.reverse ++ r := e1.symm
  obtain ⟨r1, r2, r3, r4⟩ := hC.2.2.2.2.2.2.2.2.1
  have hG : GoodIn wsG (wsK μ') := goodG (fun w hw => (List.mem_cons.mp hw).elim (fun q => q ▸ hm.2.2.2.2.2.1) id)
  refine va_runSN ⟨hC.1, hC.2.1, hC.2.2.1, hC.2.2.2.1, hC.2.2.2.2.1⟩ hM ⟨va_cnB n hC.2.2.2.2.1 hG rfl rfl rfl (hC.2.2.2.2.2.1 _ w1) (hC.2.2.2.2.1 _ hm.2.2.2.2.2.2) hm.2.2.2.1 ⟨by show d + 4 + 1 ≤ R.frames; omega, ?_⟩, hC.2.2.2.2.1 _ w2, trivial⟩ ⟨blindM, preM hC hE hS ?_⟩ rfl ?_ hL.1 ?_ ?_ hd ⟨r3, r4⟩
  · exact rm_le hm.2.2.2.2.1 hdE r2
  · intro v hv
    exact hs v (by rw [e1']; exact List.mem_append_left _ (List.mem_reverse.mpr hv))
  · rw [List.length_map, e2]; simp
  · show st.map (tv ad b) = _
    rw [e1', List.map_append, List.map_reverse, okA_tv ad b as hoA]
  · show 2 * 0 + _ ≤ 8
    rw [cats_eq]; omega
theorem runV {ci N : Nat} {C : String} {T : u_T} {ty0 : Nat → FieldType} (hc : ClsOk ci C T N ty0) (hm : MiOk μ' n) (hcl : μ'.1.cls = C) (hd : decode μ.2.1 pc = .ok (.invokevirtual x, 3)) (w1 : Cond.methodLink μ.2.2.2.2 x μ'.1 ∈ wsG) (w2 : Cond.instanceMethod μ'.1 ∈ wsG) (w3 : Cond.selects C μ'.1 μ'.1 ∈ wsG) (hC : Cx E μ p R s mid args c dC dI dA A C0 S0 b) (hE : Rel dC dI dA ad A m H) (hS : va_S A s.heap H locs) (hL : LsOk ad b μ.2.2.1 ls la) (hs : ∀ v ∈ st, vld v)
    (hpop : popN (n + 1) [] st = some (as, r)) (hck : ckR ci as = true) (hoA : okA as = true) (hcat : cats r ≤ 8) (hdE : d < E.1) (hM : Met l μ'.1 (wsK μ') (rmD d) (PcM dC dI dA ad as m H.size) Qc 0 0 (va_A (wsM ad dA m) H.size)) :
    va_Run p l e R s mid args below meth c H locs C0 S0 0 0 (F0 mid pc la (st.map (tv ad b))) (r.map (tv ad b)) (Qc (as.map (tv ad 0)).toArray) (va_A (wsM ad dA m) H.size) := by
  obtain ⟨e1, e2⟩ := popN_eq (n + 1) [] st as r hpop
  have e1' : st = as.reverse ++ r := e1.symm
  obtain ⟨r1, r2, r3, r4⟩ := hC.2.2.2.2.2.2.2.2.1
  have hG : GoodIn wsG (wsK μ') := goodG (fun w hw => (List.mem_cons.mp hw).elim (fun q => q ▸ hm.2.2.2.2.2.1) id)
  unfold ckR at hck
  split at hck
  · rename_i a as1
    have ha : a % 16 = ci := Nat.eq_of_beq_eq_true hck
    have hvl : ∀ v ∈ Value.ref a :: as1, vld v := fun v hv => hs v (by rw [e1']; exact List.mem_append_left _ (List.mem_reverse.mpr hv))
    have hin : a ∈ cellsL := hvl (.ref a) List.mem_cons_self
    obtain ⟨q0, hq1, hq2⟩ := wsM_at (ad := ad) (dA := dA) hin m
    rw [cellE_obj ha hc.2.2.2.2.2] at hq2
    have hrun := va_runV (p := p) (l := l) (e := e) (R := R) (s := s) (m := mid) (args := args) (below := below) (meth := meth) (c := c) (H := H) (locs := locs) (cells := C0) (slots := S0) (As := as1.map (tv ad 0)) (rest := r.map (tv ad b)) (b := ad a) (C := C) (g := F0 mid pc la (st.map (tv ad b))) (n := n) (own := μ.2.2.2.2) (index := x) (bytes := μ'.2.1) (maxL := μ'.2.2.1) (ret := μ'.2.2.2.1)
      ⟨hC.1, hC.2.1, hC.2.2.1, hC.2.2.2.1, hC.2.2.2.2.1⟩ hM ⟨callB_of n hC.2.2.2.2.1 hG rfl rfl rfl (hC.2.2.2.2.1 _ hm.2.2.2.2.2.2) (hC.2.2.2.2.1 _ w1) hm.2.2.2.1 ⟨by show d + 4 + 1 ≤ R.frames; omega, rm_le hm.2.2.2.2.1 hdE r2⟩, hC.2.2.2.2.1 _ w2, hC.2.2.2.2.1 _ w3⟩ ⟨blindM, va_recv hC.2.2.2.2.2.2.1 hE.1 hc.1 hq2, preM hC hE hS hvl⟩ rfl (by rw [List.length_map]; simp at e2; exact e2) hL.1 (by
        show st.map (tv ad b) = _
        have h1 : (Value.ref a :: as1).map (tv ad b) = (Value.ref a :: as1).map (tv ad 0) := okA_tv ad b _ hoA
        rw [e1', List.map_append, List.map_reverse, h1]
        simp [tv]) (by
        show 2 * 0 + _ ≤ 8
        rw [cats_eq]; omega) hd ⟨r3, r4⟩
    exact hrun
  · cases hck
/-- what a call is, in the pure machine -/
def oCI (ci : Nat) (μ' : MI) (n : Nat) : OP := fun E _ nx _ ls st m => match popN n [] st with
  | some (as, r) => match (Nat.beq ci 16 || ckR ci as) && okA as && Nat.ble (cats r) 8 && Nat.ble (enl as).length μ'.2.2.1 with
    | true => ∃ d, d < E.1 ∧ ∃ P : Int32 → MM → Prop, CI d μ' as m P ∧ ∀ x m', P x m' → nx ls (.int x :: r) m'
    | false => False
  | none => False
def oCJ (ci : Nat) (μ' : MI) (n : Nat) : OP := fun E _ nx _ ls st m => match popN n [] st with
  | some (as, r) => match (Nat.beq ci 16 || ckR ci as) && okA as && Nat.ble (cats r) 8 && Nat.ble (enl as).length μ'.2.2.1 with
    | true => ∃ d, d < E.1 ∧ ∃ P : Int64 → MM → Prop, CJ d μ' as m P ∧ ∀ x m', P x m' → nx ls (.long x :: r) m'
    | false => False
  | none => False
def oCV (ci : Nat) (μ' : MI) (n : Nat) : OP := fun E _ nx _ ls st m => match popN n [] st with
  | some (as, r) => match (Nat.beq ci 16 || ckR ci as) && okA as && Nat.ble (cats r) 8 && Nat.ble (enl as).length μ'.2.2.1 with
    | true => ∃ d, d < E.1 ∧ ∃ P : MM → Prop, CV d μ' as m P ∧ ∀ m', P m' → nx ls r m'
    | false => False
  | none => False
/-- the three kinds of call, as one -/
def Runs (μ μ' : MI) (pc ci n : Nat) : Prop := ∀ {E : EE} {p : Program} {l : Launch} {e : Env} {R : Room} {s : State} {mid : MethodId} {args : Array Value} {below : List Frame} {meth : Method} {c : Code} {dC : Nat → ClassId} {dI : Nat → Nat → Nat} {dA : Nat → ClassId} {ad : Nat → Nat} {b : Nat} {A : Nat → Prop} {C0 S0 : Nat} {H : Heap} {locs : List Loc} {la : Array Slot} {ls st as r : List Value} {m : MM} {Qc : Array Value → State → Outcome → State → Prop} {d : Nat},
  Cx E μ p R s mid args c dC dI dA A C0 S0 b → Rel dC dI dA ad A m H → va_S A s.heap H locs → LsOk ad b μ.2.2.1 ls la → (∀ v ∈ st, vld v) → popN n [] st = some (as, r) → (Nat.beq ci 16 || ckR ci as) = true → okA as = true → cats r ≤ 8 → d < E.1 →
  Met l μ'.1 (wsK μ') (rmD d) (PcM dC dI dA ad as m H.size) Qc 0 0 (va_A (wsM ad dA m) H.size) →
  va_Run p l e R s mid args below meth c H locs C0 S0 0 0 (F0 mid pc la (st.map (tv ad b))) (r.map (tv ad b)) (Qc (as.map (tv ad 0)).toArray) (va_A (wsM ad dA m) H.size)
theorem rS (hm : MiOk μ' n) (hd : decode μ.2.1 pc = .ok (.invokestatic x, 3)) (w1 : Cond.methodLink μ.2.2.2.2 x μ'.1 ∈ wsG) (w2 : Cond.static μ'.1 ∈ wsG) : Runs μ μ' pc 16 n :=
  fun hC hE hS hL hs hpop _ hoA hcat hdE hM => runS hm hd w1 w2 hC hE hS hL hs hpop hoA hcat hdE hM
theorem rN {host : String} (hm : MiOk μ' n) (hd : decode μ.2.1 pc = .ok (.invokestatic x, 3)) (w1 : (μ.2.2.2.2, x, μ'.1, host) ∈ nsL) (w2 : Cond.static μ'.1 ∈ wsG) : Runs μ μ' pc 16 n :=
  fun hC hE hS hL hs hpop _ hoA hcat hdE hM => runSN hm hd w1 w2 hC hE hS hL hs hpop hoA hcat hdE hM
theorem rV {ci N : Nat} {C : String} {T : u_T} {ty0 : Nat → FieldType} (hc : ClsOk ci C T N ty0) (hm : MiOk μ' n) (hcl : μ'.1.cls = C) (hd : decode μ.2.1 pc = .ok (.invokevirtual x, 3)) (w1 : Cond.methodLink μ.2.2.2.2 x μ'.1 ∈ wsG) (w2 : Cond.instanceMethod μ'.1 ∈ wsG) (w3 : Cond.selects C μ'.1 μ'.1 ∈ wsG) : Runs μ μ' pc ci (n + 1) :=
  fun hC hE hS hL hs hpop hck hoA hcat hdE hM => by
    rcases (Bool.or_eq_true _ _).mp hck with q | q
    · have := hc.2.2.2.2.2
      have := Nat.eq_of_beq_eq_true q
      omega
    · exact runV hc hm hcl hd w1 w2 w3 hC hE hS hL hs hpop q hoA hcat hdE hM
theorem aft (hC : Cx E μ p R s mid args c dC dI dA A C0 S0 b) (hE : Rel dC dI dA ad A m H) (hS : va_S A s.heap H locs) : ∀ q, va_A (wsM ad dA m) H.size q → A q := by
  intro q hq
  rcases hq with ⟨k, e', hk⟩ | hq
  · exact hE.2.1.2 k _ hk
  · exact hC.2.2.2.2.2.2.2.1 q (Nat.le_trans hS.1 hq)
theorem okCI {ci k : Nat} (hm : MiOk μ' k) (hr : Runs μ μ' pc ci n) : OpOk μ 3 pc (oCI ci μ' n) := by
  intro E P p l e R s mid args below meth c dC dI dA ad b A C0 S0 Qf hC hR nx jp ls st m hn hj h H locs la hl hs hE hS hL
  unfold oCI at h
  split at h
  · rename_i as r hpop
    split at h
    · rename_i hb
      simp only [Bool.and_eq_true] at hb
      obtain ⟨⟨⟨b1, b2⟩, b3⟩, b4⟩ := hb
      obtain ⟨d, hdE, P', hat, hk⟩ := h
      have hM := met_core (l := l) (dC := dC) (dI := dI) (dA := dA) (ad := ad) (sz := H.size) (Qc := va_Qi P' (fun u t => va_P (dC, dI) classes (wsM ad dA u) t.heap ∧ okB u) (va_A (wsM ad dA m) H.size)) hm (Nat.le_of_ble_eq_true b4) hat (fun a st t r m' hP h1 h2 h3 => by
        unfold qi at hP
        split at hP
        · exact ⟨⟨_, m', rfl, hP, h1, h2⟩, h3⟩
        · exact hP.elim)
      have hF := aft hC hE hS
      refine va_calli (hr hC hE hS hL hs hpop b1 b2 (Nat.le_of_ble_eq_true b3) hdE hM) hS (fun q _ h => hF q h) hF (fun v u t H1 locs1 ht hvm hpost hB hz1 hk1 hS1 => ?_)
      obtain ⟨e1, e2⟩ := popN_eq n [] st as r hpop
      exact hn _ _ _ (hk v u hpost) H1 locs1 la hl (List.forall_mem_cons.mpr ⟨trivial, fun w hw => hs w (by rw [show st = as.reverse ++ r from e1.symm]; exact List.mem_append_right _ hw)⟩) ⟨by rw [← ht]; exact hB.1, wsM_D u hE.2.1, hB.2⟩ hS1 hL
    · exact h.elim
  · exact h.elim
theorem okCJ {ci k : Nat} (hm : MiOk μ' k) (hr : Runs μ μ' pc ci n) : OpOk μ 3 pc (oCJ ci μ' n) := by
  intro E P p l e R s mid args below meth c dC dI dA ad b A C0 S0 Qf hC hR nx jp ls st m hn hj h H locs la hl hs hE hS hL
  unfold oCJ at h
  split at h
  · rename_i as r hpop
    split at h
    · rename_i hb
      simp only [Bool.and_eq_true] at hb
      obtain ⟨⟨⟨b1, b2⟩, b3⟩, b4⟩ := hb
      obtain ⟨d, hdE, P', hat, hk⟩ := h
      have hM := met_core (l := l) (dC := dC) (dI := dI) (dA := dA) (ad := ad) (sz := H.size) (Qc := va_Ql P' (fun u t => va_P (dC, dI) classes (wsM ad dA u) t.heap ∧ okB u) (va_A (wsM ad dA m) H.size)) hm (Nat.le_of_ble_eq_true b4) hat (fun a st t r m' hP h1 h2 h3 => by
        unfold qj at hP
        split at hP
        · exact ⟨⟨_, m', rfl, hP, h1, h2⟩, h3⟩
        · exact hP.elim)
      have hF := aft hC hE hS
      refine va_calll (hr hC hE hS hL hs hpop b1 b2 (Nat.le_of_ble_eq_true b3) hdE hM) hS (fun q _ h => hF q h) hF (fun v u t H1 locs1 ht hvm hpost hB hz1 hk1 hS1 => ?_)
      obtain ⟨e1, e2⟩ := popN_eq n [] st as r hpop
      exact hn _ _ _ (hk v u hpost) H1 locs1 la hl (List.forall_mem_cons.mpr ⟨trivial, fun w hw => hs w (by rw [show st = as.reverse ++ r from e1.symm]; exact List.mem_append_right _ hw)⟩) ⟨by rw [← ht]; exact hB.1, wsM_D u hE.2.1, hB.2⟩ hS1 hL
    · exact h.elim
  · exact h.elim
theorem okCV {ci k : Nat} (hm : MiOk μ' k) (hr : Runs μ μ' pc ci n) : OpOk μ 3 pc (oCV ci μ' n) := by
  intro E P p l e R s mid args below meth c dC dI dA ad b A C0 S0 Qf hC hR nx jp ls st m hn hj h H locs la hl hs hE hS hL
  unfold oCV at h
  split at h
  · rename_i as r hpop
    split at h
    · rename_i hb
      simp only [Bool.and_eq_true] at hb
      obtain ⟨⟨⟨b1, b2⟩, b3⟩, b4⟩ := hb
      obtain ⟨d, hdE, P', hat, hk⟩ := h
      have hM := met_core (l := l) (dC := dC) (dI := dI) (dA := dA) (ad := ad) (sz := H.size) (Qc := va_Qv P' (fun u t => va_P (dC, dI) classes (wsM ad dA u) t.heap ∧ okB u) (va_A (wsM ad dA m) H.size)) hm (Nat.le_of_ble_eq_true b4) hat (fun a st t r m' hP h1 h2 h3 => by
        unfold qv at hP
        split at hP
        · exact ⟨⟨m', rfl, hP, h1, h2⟩, h3⟩
        · exact hP.elim)
      have hF := aft hC hE hS
      refine va_callv (hr hC hE hS hL hs hpop b1 b2 (Nat.le_of_ble_eq_true b3) hdE hM) hS (fun q _ h => hF q h) hF (fun u t H1 locs1 ht hvm hpost hB hz1 hk1 hS1 => ?_)
      obtain ⟨e1, e2⟩ := popN_eq n [] st as r hpop
      exact hn _ _ _ (hk u hpost) H1 locs1 la hl (fun w hw => hs w (by rw [show st = as.reverse ++ r from e1.symm]; exact List.mem_append_right _ hw)) ⟨by rw [← ht]; exact hB.1, wsM_D u hE.2.1, hB.2⟩ hS1 hL
    · exact h.elim
  · exact h.elim
end CallOps
/-! the walk -/
/-- a row of a method: place, length, operation; none: the walk stops there (a loop's head) -/
abbrev CE : Type := Nat × Nat × Option OP
def seek (t : Nat) : List CE → List CE
  | [] => []
  | q :: r => match Nat.beq q.1 t with
    | true => q :: r
    | false => seek t r
noncomputable def sx (E : EE) (P : QQ) (K : Nat → NX) (full : List CE) (n : Nat) : List CE → NX :=
  Nat.rec (motive := fun _ => List CE → NX) (fun _ _ _ _ => False) (fun _ ih code ls st m => match code with
    | [] => False
    | (pc, _, none) :: _ => K pc ls st m
    | (_, _, some op) :: r => op E P (ih r) (fun t => ih (seek t full)) ls st m) n
/-- rows follow each other -/
def chn : List CE → Bool
  | [] => true
  | q :: r => match r with
    | [] => true
    | q' :: _ => Nat.beq (q.1 + q.2.1) q'.1 && chn r
def CodeOk (μ : MI) (full : List CE) : Prop := chn full = true ∧ ∀ q ∈ full, ∀ op, q.2.2 = some op → OpOk μ q.2.1 q.1 op
theorem chn_tail {q : CE} {r : List CE} (h : chn (q :: r) = true) : chn r = true := by
  cases r with
  | nil => rfl
  | cons q' r' => exact (Bool.and_eq_true _ _ ▸ h : _ ∧ _).2
theorem seek_suf (t : Nat) : ∀ full : List CE, chn full = true → chn (seek t full) = true ∧ (∀ q ∈ seek t full, q ∈ full) ∧ ∀ q r, seek t full = q :: r → q.1 = t
  | [], h => ⟨rfl, (fun q hq => by cases hq), (fun q r h => by cases h)⟩
  | q :: r, h => by
    unfold seek
    split
    · rename_i hb
      exact ⟨h, fun q hq => hq, fun q' r' h' => by cases h'; exact Nat.eq_of_beq_eq_true hb⟩
    · obtain ⟨h1, h2, h3⟩ := seek_suf t r (chn_tail h)
      exact ⟨h1, fun q hq => List.mem_cons_of_mem _ (h2 q hq), h3⟩
section SxS
variable {E : EE} {μ : MI} {P : QQ} {full : List CE} {p : Program} {l : Launch} {e : Env} {R : Room} {s : State} {mid : MethodId} {args : Array Value} {below : List Frame} {meth : Method} {c : Code} {dC : Nat → ClassId} {dI : Nat → Nat → Nat} {dA : Nat → ClassId} {ad : Nat → Nat} {b : Nat} {A : Nat → Prop} {C0 S0 : Nat} {Qf : State → Prop} {K : Nat → NX}
theorem sx_sound (hF : CodeOk μ full) (hC : Cx E μ p R s mid args c dC dI dA A C0 S0 b) (hR : Rt μ P p l e R s mid args below meth c dC dI dA ad A C0 S0 Qf) (hK : ∀ pc ls st m, K pc ls st m → AtC μ p l e R s mid args below meth c dC dI dA ad b A C0 S0 Qf pc ls st m) :
    ∀ (n : Nat) (code : List CE) (pc : Nat), chn code = true → (∀ q ∈ code, q ∈ full) → (∀ q r, code = q :: r → q.1 = pc) →
    ∀ ls st m, sx E P K full n code ls st m → AtC μ p l e R s mid args below meth c dC dI dA ad b A C0 S0 Qf pc ls st m := by
  intro n
  induction n with
  | zero => intro code pc h1 h2 h3 ls st m h; exact h.elim
  | succ n ih =>
    intro code pc h1 h2 h3 ls st m h
    match code, h1, h2, h3, h with
    | [], _, _, _, h => exact h.elim
    | (pc', len, none) :: r, _, _, h3, h =>
      have : pc' = pc := h3 _ _ rfl
      subst this
      exact hK _ _ _ _ h
    | (pc', len, some op) :: r, h1, h2, h3, h =>
      have : pc' = pc := h3 _ _ rfl
      subst this
      refine hF.2 (pc', len, some op) (h2 _ List.mem_cons_self) op rfl E P p l e R s mid args below meth c dC dI dA ad b A C0 S0 Qf hC hR _ _ ls st m (fun ls st m hh => ?_) (fun t ls st m hh => ?_) h
      · refine ih r (pc' + len) (chn_tail h1) (fun q hq => h2 q (List.mem_cons_of_mem _ hq)) (fun q r' hr => ?_) ls st m hh
        subst hr
        exact (Nat.eq_of_beq_eq_true (Bool.and_eq_true _ _ ▸ h1 : _ ∧ _).1).symm
      · obtain ⟨s1, s2, s3⟩ := seek_suf t full hF.1
        exact ih (seek t full) t s1 s2 s3 ls st m hh
theorem AtC.go (hF : CodeOk μ full) (hC : Cx E μ p R s mid args c dC dI dA A C0 S0 b) (hR : Rt μ P p l e R s mid args below meth c dC dI dA ad A C0 S0 Qf) (hK : ∀ pc ls st m, K pc ls st m → AtC μ p l e R s mid args below meth c dC dI dA ad b A C0 S0 Qf pc ls st m)
    (n : Nat) {pc : Nat} {ls st : List Value} {m : MM} (h : sx E P K full n (seek pc full) ls st m) : AtC μ p l e R s mid args below meth c dC dI dA ad b A C0 S0 Qf pc ls st m := by
  obtain ⟨s1, s2, s3⟩ := seek_suf pc full hF.1
  exact sx_sound hF hC hR hK n _ pc s1 s2 s3 ls st m h
theorem AtC.lp (hF : CodeOk μ full) (hC : Cx E μ p R s mid args c dC dI dA A C0 S0 b) (hR : Rt μ P p l e R s mid args below meth c dC dI dA ad A C0 S0 Qf) (hK : ∀ pc ls st m, K pc ls st m → AtC μ p l e R s mid args below meth c dC dI dA ad b A C0 S0 Qf pc ls st m)
    (n : Nat) {pc : Nat} {ls st : List Value} {m : MM} (hz : ∃ o r, seek pc full = (pc, 0, o) :: r) (h : sx E P K full n (seek pc full).tail ls st m) : AtC μ p l e R s mid args below meth c dC dI dA ad b A C0 S0 Qf pc ls st m := by
  obtain ⟨s1, s2, s3⟩ := seek_suf pc full hF.1
  obtain ⟨o, r, e⟩ := hz
  rw [e] at s1 s2 h
  refine sx_sound hF hC hR hK n r pc (chn_tail s1) (fun q hq => s2 q (List.mem_cons_of_mem _ hq)) (fun q r' hr => ?_) ls st m h
  subst hr
  exact (Nat.eq_of_beq_eq_true (Bool.and_eq_true _ _ ▸ s1 : _ ∧ _).1).symm
/-- begin at a place -/
theorem At.go (hF : CodeOk μ full) (n : Nat) {pc : Nat} {ls st : List Value} {m : MM} (h : sx E P (At E μ P) full n (seek pc full) ls st m) : At E μ P pc ls st m :=
  fun p l e R s mid args below meth c dC dI dA ad b A C0 S0 Qf hC hR => AtC.go hF hC hR (fun _ _ _ _ h => h p l e R s mid args below meth c dC dI dA ad b A C0 S0 Qf hC hR) n h
/-- begin behind a loop's head -/
theorem At.lp (hF : CodeOk μ full) (n : Nat) {pc : Nat} {ls st : List Value} {m : MM} (hz : ∃ o r, seek pc full = (pc, 0, o) :: r) (h : sx E P (At E μ P) full n (seek pc full).tail ls st m) : At E μ P pc ls st m :=
  fun p l e R s mid args below meth c dC dI dA ad b A C0 S0 Qf hC hR => AtC.lp hF hC hR (fun _ _ _ _ h => h p l e R s mid args below meth c dC dI dA ad b A C0 S0 Qf hC hR) n hz h
end SxS
end
section
/-! the words, the methods -/
def CodeAll (μ : MI) (full : List CE) : Prop := ∀ q ∈ full, ∀ op, q.2.2 = some op → OpOk μ q.2.1 q.1 op
theorem ce_nil {μ : MI} : CodeAll μ [] := fun q h => by cases h
theorem ce_st {μ : MI} {pc len : Nat} {r : List CE} (h : CodeAll μ r) : CodeAll μ ((pc, len, none) :: r) := fun q hq op ho => by
  rcases List.mem_cons.mp hq with e | e
  · rw [e] at ho; cases ho
  · exact h q e op ho
theorem ce_op {μ : MI} {pc len : Nat} {op : OP} {r : List CE} (h1 : OpOk μ len pc op) (h : CodeAll μ r) : CodeAll μ ((pc, len, some op) :: r) := fun q hq op' ho => by
  rcases List.mem_cons.mp hq with e | e
  · subst e; cases ho; exact h1
  · exact h q e op' ho
theorem sw_all {pc : Nat} {lo : Int} {offs : Array Int} {cs : List (Int32 × Nat)} {dflt : Nat} (h : (List.range offs.size).all (fun j => match offs[j]? with
    | some off => decide ((pc : Int) + off = (swS (Int32.ofInt (lo + (j : Int))) dflt cs : Int))
    | none => false) = true) : ∀ j, j < offs.size → ∃ off, offs[j]? = some off ∧ (pc : Int) + off = (swS (Int32.ofInt (lo + (j : Int))) dflt cs : Int) := by
  intro j hj
  have h1 := List.all_eq_true.mp h j (List.mem_range.mpr hj)
  cases hc : offs[j]? with
  | none => rw [hc] at h1; cases h1
  | some off => rw [hc] at h1; exact ⟨off, rfl, of_decide_eq_true h1⟩
theorem wd0 : (Jvm.Cond.selects "SaleRounds$Reader" ({ cls := "SaleRounds$Reader", name := "advance", desc := "()V" } : Jvm.MethodName) ({ cls := "SaleRounds$Reader", name := "advance", desc := "()V" } : Jvm.MethodName)) ∈ wsG := twS 0 rfl rfl
theorem wd1 : (Jvm.Cond.selects "SaleRounds$Reader" ({ cls := "SaleRounds$Reader", name := "takeWord", desc := "()V" } : Jvm.MethodName) ({ cls := "SaleRounds$Reader", name := "takeWord", desc := "()V" } : Jvm.MethodName)) ∈ wsG := twS 1 rfl rfl
theorem wd2 : (Jvm.Cond.selects "SaleRounds$Reader" ({ cls := "SaleRounds$Reader", name := "takeNumber", desc := "()V" } : Jvm.MethodName) ({ cls := "SaleRounds$Reader", name := "takeNumber", desc := "()V" } : Jvm.MethodName)) ∈ wsG := twS 2 rfl rfl
theorem wd3 : (Jvm.Cond.selects "SaleRounds$Reader" ({ cls := "SaleRounds$Reader", name := "readLand", desc := "(LSaleRounds$Book;)Z" } : Jvm.MethodName) ({ cls := "SaleRounds$Reader", name := "readLand", desc := "(LSaleRounds$Book;)Z" } : Jvm.MethodName)) ∈ wsG := twS 3 rfl rfl
theorem wd4 : (Jvm.Cond.selects "SaleRounds$Reader" ({ cls := "SaleRounds$Reader", name := "newName", desc := "(LSaleRounds$Names;I)I" } : Jvm.MethodName) ({ cls := "SaleRounds$Reader", name := "newName", desc := "(LSaleRounds$Names;I)I" } : Jvm.MethodName)) ∈ wsG := twS 4 rfl rfl
theorem wd5 : (Jvm.Cond.selects "SaleRounds$Reader" ({ cls := "SaleRounds$Reader", name := "fail", desc := "(I)Z" } : Jvm.MethodName) ({ cls := "SaleRounds$Reader", name := "fail", desc := "(I)Z" } : Jvm.MethodName)) ∈ wsG := twS 5 rfl rfl
theorem wd6 : (Jvm.Cond.selects "SaleRounds$Reader" ({ cls := "SaleRounds$Reader", name := "numberWithin", desc := "(II)I" } : Jvm.MethodName) ({ cls := "SaleRounds$Reader", name := "numberWithin", desc := "(II)I" } : Jvm.MethodName)) ∈ wsG := twS 6 rfl rfl
theorem wd7 : (Jvm.Cond.selects "SaleRounds$Reader" ({ cls := "SaleRounds$Reader", name := "lineEnds", desc := "()Z" } : Jvm.MethodName) ({ cls := "SaleRounds$Reader", name := "lineEnds", desc := "()Z" } : Jvm.MethodName)) ∈ wsG := twS 7 rfl rfl
theorem wd8 : (Jvm.Cond.selects "SaleRounds$Reader" ({ cls := "SaleRounds$Reader", name := "readGood", desc := "(LSaleRounds$Book;)Z" } : Jvm.MethodName) ({ cls := "SaleRounds$Reader", name := "readGood", desc := "(LSaleRounds$Book;)Z" } : Jvm.MethodName)) ∈ wsG := twS 8 rfl rfl
theorem wd9 : (Jvm.Cond.selects "SaleRounds$Reader" ({ cls := "SaleRounds$Reader", name := "readFirm", desc := "(LSaleRounds$Book;)Z" } : Jvm.MethodName) ({ cls := "SaleRounds$Reader", name := "readFirm", desc := "(LSaleRounds$Book;)Z" } : Jvm.MethodName)) ∈ wsG := twS 9 rfl rfl
theorem wd10 : (Jvm.Cond.selects "SaleRounds$Reader" ({ cls := "SaleRounds$Reader", name := "toldName", desc := "(LSaleRounds$Names;)I" } : Jvm.MethodName) ({ cls := "SaleRounds$Reader", name := "toldName", desc := "(LSaleRounds$Names;)I" } : Jvm.MethodName)) ∈ wsG := twS 10 rfl rfl
theorem wd11 : (Jvm.Cond.selects "SaleRounds$Reader" ({ cls := "SaleRounds$Reader", name := "readTie", desc := "(LSaleRounds$Book;I)Z" } : Jvm.MethodName) ({ cls := "SaleRounds$Reader", name := "readTie", desc := "(LSaleRounds$Book;I)Z" } : Jvm.MethodName)) ∈ wsG := twS 11 rfl rfl
theorem wd12 : (Jvm.Cond.selects "SaleRounds$Reader" ({ cls := "SaleRounds$Reader", name := "readSale", desc := "(LSaleRounds$Book;)Z" } : Jvm.MethodName) ({ cls := "SaleRounds$Reader", name := "readSale", desc := "(LSaleRounds$Book;)Z" } : Jvm.MethodName)) ∈ wsG := twS 12 rfl rfl
theorem wd13 : (Jvm.Cond.selects "SaleRounds$Reader" ({ cls := "SaleRounds$Reader", name := "readDay", desc := "(I)I" } : Jvm.MethodName) ({ cls := "SaleRounds$Reader", name := "readDay", desc := "(I)I" } : Jvm.MethodName)) ∈ wsG := twS 13 rfl rfl
theorem wd14 : (Jvm.Cond.selects "SaleRounds$Reader" ({ cls := "SaleRounds$Reader", name := "readMark", desc := "()I" } : Jvm.MethodName) ({ cls := "SaleRounds$Reader", name := "readMark", desc := "()I" } : Jvm.MethodName)) ∈ wsG := twS 14 rfl rfl
theorem wd15 : (Jvm.Cond.selects "SaleRounds$Reader" ({ cls := "SaleRounds$Reader", name := "readPaid", desc := "(LSaleRounds$Book;)Z" } : Jvm.MethodName) ({ cls := "SaleRounds$Reader", name := "readPaid", desc := "(LSaleRounds$Book;)Z" } : Jvm.MethodName)) ∈ wsG := twS 15 rfl rfl
theorem wd16 : (Jvm.Cond.selects "SaleRounds$Book" ({ cls := "SaleRounds$Book", name := "areJoined", desc := "(II)Z" } : Jvm.MethodName) ({ cls := "SaleRounds$Book", name := "areJoined", desc := "(II)Z" } : Jvm.MethodName)) ∈ wsG := twS 16 rfl rfl
theorem wd17 : (Jvm.Cond.selects "SaleRounds$Book" ({ cls := "SaleRounds$Book", name := "mergeParties", desc := "(II)V" } : Jvm.MethodName) ({ cls := "SaleRounds$Book", name := "mergeParties", desc := "(II)V" } : Jvm.MethodName)) ∈ wsG := twS 17 rfl rfl
theorem wd18 : (Jvm.Cond.selects "SaleRounds$Book" ({ cls := "SaleRounds$Book", name := "tally", desc := "(I)V" } : Jvm.MethodName) ({ cls := "SaleRounds$Book", name := "tally", desc := "(I)V" } : Jvm.MethodName)) ∈ wsG := twS 18 rfl rfl
theorem wd19 : (Jvm.Cond.selects "SaleRounds$Book" ({ cls := "SaleRounds$Book", name := "taxEach", desc := "(II)I" } : Jvm.MethodName) ({ cls := "SaleRounds$Book", name := "taxEach", desc := "(II)I" } : Jvm.MethodName)) ∈ wsG := twS 19 rfl rfl
theorem wd20 : (Jvm.Cond.selects "SaleRounds" ({ cls := "SaleRounds", name := "gather", desc := "(III)I" } : Jvm.MethodName) ({ cls := "SaleRounds", name := "gather", desc := "(III)I" } : Jvm.MethodName)) ∈ wsG := twS 20 rfl rfl
theorem wd21 : (Jvm.Cond.selects "SaleRounds$Finder" ({ cls := "SaleRounds$Finder", name := "linkSales", desc := "()V" } : Jvm.MethodName) ({ cls := "SaleRounds$Finder", name := "linkSales", desc := "()V" } : Jvm.MethodName)) ∈ wsG := twS 21 rfl rfl
theorem wd22 : (Jvm.Cond.selects "SaleRounds$Finder" ({ cls := "SaleRounds$Finder", name := "measure", desc := "(I)V" } : Jvm.MethodName) ({ cls := "SaleRounds$Finder", name := "measure", desc := "(I)V" } : Jvm.MethodName)) ∈ wsG := twS 22 rfl rfl
theorem wd23 : (Jvm.Cond.selects "SaleRounds$Finder" ({ cls := "SaleRounds$Finder", name := "extend", desc := "(JIII)V" } : Jvm.MethodName) ({ cls := "SaleRounds$Finder", name := "extend", desc := "(JIII)V" } : Jvm.MethodName)) ∈ wsG := twS 23 rfl rfl
theorem wd24 : (Jvm.Cond.selects "SaleRounds$Finder" ({ cls := "SaleRounds$Finder", name := "keep", desc := "(JI)V" } : Jvm.MethodName) ({ cls := "SaleRounds$Finder", name := "keep", desc := "(JI)V" } : Jvm.MethodName)) ∈ wsG := twS 24 rfl rfl
theorem wd25 : (Jvm.Cond.selects "SaleRounds$Sales" ({ cls := "SaleRounds$Sales", name := "alike", desc := "(III)Z" } : Jvm.MethodName) ({ cls := "SaleRounds$Sales", name := "alike", desc := "(III)Z" } : Jvm.MethodName)) ∈ wsG := twS 25 rfl rfl
theorem wd26 : (Jvm.Cond.selects "SaleRounds$Streams" ({ cls := "SaleRounds$Streams", name := "load", desc := "(LSaleRounds$Sales;II)V" } : Jvm.MethodName) ({ cls := "SaleRounds$Streams", name := "load", desc := "(LSaleRounds$Sales;II)V" } : Jvm.MethodName)) ∈ wsG := twS 26 rfl rfl
theorem wd27 : (Jvm.Cond.selects "SaleRounds$Streams" ({ cls := "SaleRounds$Streams", name := "seekHome", desc := "()I" } : Jvm.MethodName) ({ cls := "SaleRounds$Streams", name := "seekHome", desc := "()I" } : Jvm.MethodName)) ∈ wsG := twS 27 rfl rfl
theorem wd28 : (Jvm.Cond.selects "SaleRounds$Streams" ({ cls := "SaleRounds$Streams", name := "visit", desc := "(II)V" } : Jvm.MethodName) ({ cls := "SaleRounds$Streams", name := "visit", desc := "(II)V" } : Jvm.MethodName)) ∈ wsG := twS 28 rfl rfl
theorem wd29 : (Jvm.Cond.selects "SaleRounds$Streams" ({ cls := "SaleRounds$Streams", name := "spreadIn", desc := "(I)V" } : Jvm.MethodName) ({ cls := "SaleRounds$Streams", name := "spreadIn", desc := "(I)V" } : Jvm.MethodName)) ∈ wsG := twS 29 rfl rfl
theorem wd30 : (Jvm.Cond.selects "SaleRounds$Streams" ({ cls := "SaleRounds$Streams", name := "spreadOut", desc := "(I)V" } : Jvm.MethodName) ({ cls := "SaleRounds$Streams", name := "spreadOut", desc := "(I)V" } : Jvm.MethodName)) ∈ wsG := twS 30 rfl rfl
theorem wd31 : (Jvm.Cond.selects "SaleRounds$Streams" ({ cls := "SaleRounds$Streams", name := "narrowest", desc := "(I)I" } : Jvm.MethodName) ({ cls := "SaleRounds$Streams", name := "narrowest", desc := "(I)I" } : Jvm.MethodName)) ∈ wsG := twS 31 rfl rfl
theorem wd32 : (Jvm.Cond.selects "SaleRounds$Streams" ({ cls := "SaleRounds$Streams", name := "space", desc := "(II)I" } : Jvm.MethodName) ({ cls := "SaleRounds$Streams", name := "space", desc := "(II)I" } : Jvm.MethodName)) ∈ wsG := twS 32 rfl rfl
theorem wd33 : (Jvm.Cond.selects "SaleRounds$Streams" ({ cls := "SaleRounds$Streams", name := "send", desc := "(II)V" } : Jvm.MethodName) ({ cls := "SaleRounds$Streams", name := "send", desc := "(II)V" } : Jvm.MethodName)) ∈ wsG := twS 33 rfl rfl
theorem wd34 : (Jvm.Cond.selects "SaleRounds$Streams" ({ cls := "SaleRounds$Streams", name := "addBetween", desc := "(III)V" } : Jvm.MethodName) ({ cls := "SaleRounds$Streams", name := "addBetween", desc := "(III)V" } : Jvm.MethodName)) ∈ wsG := twS 34 rfl rfl
theorem wd35 : (Jvm.Cond.selects "SaleRounds" ({ cls := "SaleRounds", name := "signBits", desc := "(III)I" } : Jvm.MethodName) ({ cls := "SaleRounds", name := "signBits", desc := "(III)I" } : Jvm.MethodName)) ∈ wsG := twS 35 rfl rfl
theorem wd36 : (Jvm.Cond.selects "SaleRounds$Sales" ({ cls := "SaleRounds$Sales", name := "boughtDearer", desc := "(II)Z" } : Jvm.MethodName) ({ cls := "SaleRounds$Sales", name := "boughtDearer", desc := "(II)Z" } : Jvm.MethodName)) ∈ wsG := twS 36 rfl rfl
theorem wd37 : (Jvm.Cond.selects "SaleRounds" ({ cls := "SaleRounds", name := "roundsWith", desc := "(II)I" } : Jvm.MethodName) ({ cls := "SaleRounds", name := "roundsWith", desc := "(II)I" } : Jvm.MethodName)) ∈ wsG := twS 37 rfl rfl
theorem wd38 : (Jvm.Cond.selects "SaleRounds$Sales" ({ cls := "SaleRounds$Sales", name := "nextOf", desc := "(II)I" } : Jvm.MethodName) ({ cls := "SaleRounds$Sales", name := "nextOf", desc := "(II)I" } : Jvm.MethodName)) ∈ wsG := twS 38 rfl rfl
theorem wd39 : (Jvm.Cond.selects "SaleRounds$Sales" ({ cls := "SaleRounds$Sales", name := "isBefore", desc := "(II)Z" } : Jvm.MethodName) ({ cls := "SaleRounds$Sales", name := "isBefore", desc := "(II)Z" } : Jvm.MethodName)) ∈ wsG := twS 39 rfl rfl
theorem wd40 : (Jvm.Cond.selects "SaleRounds" ({ cls := "SaleRounds", name := "keepWorthy", desc := "(I)I" } : Jvm.MethodName) ({ cls := "SaleRounds", name := "keepWorthy", desc := "(I)I" } : Jvm.MethodName)) ∈ wsG := twS 40 rfl rfl
theorem wd41 : (Jvm.Cond.selects "SaleRounds" ({ cls := "SaleRounds", name := "leftIsAtMost", desc := "(IIJ)Z" } : Jvm.MethodName) ({ cls := "SaleRounds", name := "leftIsAtMost", desc := "(IIJ)Z" } : Jvm.MethodName)) ∈ wsG := twS 41 rfl rfl
theorem wd42 : (Jvm.Cond.selects "SaleRounds" ({ cls := "SaleRounds", name := "weighLands", desc := "(I)V" } : Jvm.MethodName) ({ cls := "SaleRounds", name := "weighLands", desc := "(I)V" } : Jvm.MethodName)) ∈ wsG := twS 42 rfl rfl
theorem wd43 : (Jvm.Cond.selects "SaleRounds" ({ cls := "SaleRounds", name := "bestLands", desc := "(I)I" } : Jvm.MethodName) ({ cls := "SaleRounds", name := "bestLands", desc := "(I)I" } : Jvm.MethodName)) ∈ wsG := twS 43 rfl rfl
theorem wd44 : (Jvm.Cond.selects "SaleRounds" ({ cls := "SaleRounds", name := "takesOutside", desc := "(I)J" } : Jvm.MethodName) ({ cls := "SaleRounds", name := "takesOutside", desc := "(I)J" } : Jvm.MethodName)) ∈ wsG := twS 44 rfl rfl
theorem wd45 : (Jvm.Cond.selects "SaleRounds" ({ cls := "SaleRounds", name := "burdenInside", desc := "(I)I" } : Jvm.MethodName) ({ cls := "SaleRounds", name := "burdenInside", desc := "(I)I" } : Jvm.MethodName)) ∈ wsG := twS 45 rfl rfl
theorem wd47 : (Jvm.Cond.selects "SaleRoundsModel" ({ cls := "SaleRoundsModel", name := "next", desc := "()V" } : Jvm.MethodName) ({ cls := "SaleRoundsModel", name := "next", desc := "()V" } : Jvm.MethodName)) ∈ wsG := twS 47 rfl rfl
theorem wd48 : (Jvm.Cond.selects "SaleRoundsModel" ({ cls := "SaleRoundsModel", name := "here", desc := "()I" } : Jvm.MethodName) ({ cls := "SaleRoundsModel", name := "here", desc := "()I" } : Jvm.MethodName)) ∈ wsG := twS 48 rfl rfl
theorem wd49 : (Jvm.Cond.selects "SaleRoundsModel" ({ cls := "SaleRoundsModel", name := "word", desc := "()I" } : Jvm.MethodName) ({ cls := "SaleRoundsModel", name := "word", desc := "()I" } : Jvm.MethodName)) ∈ wsG := twS 49 rfl rfl
theorem wd50 : (Jvm.Cond.selects "SaleRoundsModel" ({ cls := "SaleRoundsModel", name := "name", desc := "()V" } : Jvm.MethodName) ({ cls := "SaleRoundsModel", name := "name", desc := "()V" } : Jvm.MethodName)) ∈ wsG := twS 50 rfl rfl
theorem wd51 : (Jvm.Cond.selects "SaleRoundsModel" ({ cls := "SaleRoundsModel", name := "line", desc := "()V" } : Jvm.MethodName) ({ cls := "SaleRoundsModel", name := "line", desc := "()V" } : Jvm.MethodName)) ∈ wsG := twS 51 rfl rfl
theorem wd52 : (Jvm.Cond.selects "SaleRoundsModel" ({ cls := "SaleRoundsModel", name := "wrong", desc := "(I)V" } : Jvm.MethodName) ({ cls := "SaleRoundsModel", name := "wrong", desc := "(I)V" } : Jvm.MethodName)) ∈ wsG := twS 52 rfl rfl
theorem wd53 : (Jvm.Cond.selects "SaleRoundsModel" ({ cls := "SaleRoundsModel", name := "fresh", desc := "([III)I" } : Jvm.MethodName) ({ cls := "SaleRoundsModel", name := "fresh", desc := "([III)I" } : Jvm.MethodName)) ∈ wsG := twS 53 rfl rfl
theorem wd54 : (Jvm.Cond.selects "SaleRoundsModel" ({ cls := "SaleRoundsModel", name := "numeral", desc := "(II)I" } : Jvm.MethodName) ({ cls := "SaleRoundsModel", name := "numeral", desc := "(II)I" } : Jvm.MethodName)) ∈ wsG := twS 54 rfl rfl
theorem wd55 : (Jvm.Cond.selects "SaleRoundsModel" ({ cls := "SaleRoundsModel", name := "firmLine", desc := "(I)V" } : Jvm.MethodName) ({ cls := "SaleRoundsModel", name := "firmLine", desc := "(I)V" } : Jvm.MethodName)) ∈ wsG := twS 55 rfl rfl
theorem wd56 : (Jvm.Cond.selects "SaleRoundsModel" ({ cls := "SaleRoundsModel", name := "told", desc := "([III)I" } : Jvm.MethodName) ({ cls := "SaleRoundsModel", name := "told", desc := "([III)I" } : Jvm.MethodName)) ∈ wsG := twS 56 rfl rfl
theorem wd57 : (Jvm.Cond.selects "SaleRoundsModel" ({ cls := "SaleRoundsModel", name := "goOn", desc := "()V" } : Jvm.MethodName) ({ cls := "SaleRoundsModel", name := "goOn", desc := "()V" } : Jvm.MethodName)) ∈ wsG := twS 57 rfl rfl
theorem wd58 : (Jvm.Cond.selects "SaleRoundsModel" ({ cls := "SaleRoundsModel", name := "isWord", desc := "(I)Z" } : Jvm.MethodName) ({ cls := "SaleRoundsModel", name := "isWord", desc := "(I)Z" } : Jvm.MethodName)) ∈ wsG := twS 58 rfl rfl
theorem wd59 : (Jvm.Cond.selects "SaleRoundsModel" ({ cls := "SaleRoundsModel", name := "sale", desc := "(I)V" } : Jvm.MethodName) ({ cls := "SaleRoundsModel", name := "sale", desc := "(I)V" } : Jvm.MethodName)) ∈ wsG := twS 59 rfl rfl
theorem wd60 : (Jvm.Cond.selects "SaleRoundsModel" ({ cls := "SaleRoundsModel", name := "paid", desc := "()V" } : Jvm.MethodName) ({ cls := "SaleRoundsModel", name := "paid", desc := "()V" } : Jvm.MethodName)) ∈ wsG := twS 60 rfl rfl
theorem wd61 : (Jvm.Cond.selects "SaleRoundsModel" ({ cls := "SaleRoundsModel", name := "lays", desc := "()V" } : Jvm.MethodName) ({ cls := "SaleRoundsModel", name := "lays", desc := "()V" } : Jvm.MethodName)) ∈ wsG := twS 61 rfl rfl
theorem wd62 : (Jvm.Cond.selects "SaleRoundsModel" ({ cls := "SaleRoundsModel", name := "isSale", desc := "(I)Z" } : Jvm.MethodName) ({ cls := "SaleRoundsModel", name := "isSale", desc := "(I)Z" } : Jvm.MethodName)) ∈ wsG := twS 62 rfl rfl
theorem wd63 : (Jvm.Cond.selects "SaleRoundsModel" ({ cls := "SaleRoundsModel", name := "taxOf", desc := "(II)I" } : Jvm.MethodName) ({ cls := "SaleRoundsModel", name := "taxOf", desc := "(II)I" } : Jvm.MethodName)) ∈ wsG := twS 63 rfl rfl
theorem wd64 : (Jvm.Cond.selects "SaleRoundsModel" ({ cls := "SaleRoundsModel", name := "rate", desc := "(II)I" } : Jvm.MethodName) ({ cls := "SaleRoundsModel", name := "rate", desc := "(II)I" } : Jvm.MethodName)) ∈ wsG := twS 64 rfl rfl
theorem wd65 : (Jvm.Cond.selects "SaleRoundsModel" ({ cls := "SaleRoundsModel", name := "isFirm", desc := "(I)Z" } : Jvm.MethodName) ({ cls := "SaleRoundsModel", name := "isFirm", desc := "(I)Z" } : Jvm.MethodName)) ∈ wsG := twS 65 rfl rfl
theorem wd66 : (Jvm.Cond.selects "SaleRoundsModel" ({ cls := "SaleRoundsModel", name := "parties", desc := "()V" } : Jvm.MethodName) ({ cls := "SaleRoundsModel", name := "parties", desc := "()V" } : Jvm.MethodName)) ∈ wsG := twS 66 rfl rfl
theorem wd67 : (Jvm.Cond.selects "SaleRoundsModel" ({ cls := "SaleRoundsModel", name := "owes", desc := "(II)I" } : Jvm.MethodName) ({ cls := "SaleRoundsModel", name := "owes", desc := "(II)I" } : Jvm.MethodName)) ∈ wsG := twS 67 rfl rfl
theorem wd68 : (Jvm.Cond.selects "SaleRoundsModel" ({ cls := "SaleRoundsModel", name := "isMissing", desc := "(II)Z" } : Jvm.MethodName) ({ cls := "SaleRoundsModel", name := "isMissing", desc := "(II)Z" } : Jvm.MethodName)) ∈ wsG := twS 68 rfl rfl
theorem wd69 : (Jvm.Cond.selects "SaleRoundsModel" ({ cls := "SaleRoundsModel", name := "seeksNow", desc := "(III)V" } : Jvm.MethodName) ({ cls := "SaleRoundsModel", name := "seeksNow", desc := "(III)V" } : Jvm.MethodName)) ∈ wsG := twS 69 rfl rfl
theorem wd70 : (Jvm.Cond.selects "SaleRoundsModel" ({ cls := "SaleRoundsModel", name := "seeks", desc := "(III)V" } : Jvm.MethodName) ({ cls := "SaleRoundsModel", name := "seeks", desc := "(III)V" } : Jvm.MethodName)) ∈ wsG := twS 70 rfl rfl
theorem wd71 : (Jvm.Cond.selects "SaleRoundsModel" ({ cls := "SaleRoundsModel", name := "isStopped", desc := "(I)Z" } : Jvm.MethodName) ({ cls := "SaleRoundsModel", name := "isStopped", desc := "(I)Z" } : Jvm.MethodName)) ∈ wsG := twS 71 rfl rfl
theorem wd72 : (Jvm.Cond.selects "SaleRoundsModel" ({ cls := "SaleRoundsModel", name := "grows", desc := "(I)V" } : Jvm.MethodName) ({ cls := "SaleRoundsModel", name := "grows", desc := "(I)V" } : Jvm.MethodName)) ∈ wsG := twS 72 rfl rfl
theorem wd73 : (Jvm.Cond.selects "SaleRoundsModel" ({ cls := "SaleRoundsModel", name := "fits", desc := "(II)Z" } : Jvm.MethodName) ({ cls := "SaleRoundsModel", name := "fits", desc := "(II)Z" } : Jvm.MethodName)) ∈ wsG := twS 73 rfl rfl
theorem wd74 : (Jvm.Cond.selects "SaleRoundsModel" ({ cls := "SaleRoundsModel", name := "carries", desc := "(I)I" } : Jvm.MethodName) ({ cls := "SaleRoundsModel", name := "carries", desc := "(I)I" } : Jvm.MethodName)) ∈ wsG := twS 74 rfl rfl
theorem wd75 : (Jvm.Cond.selects "SaleRoundsModel" ({ cls := "SaleRoundsModel", name := "takesOf", desc := "(III)I" } : Jvm.MethodName) ({ cls := "SaleRoundsModel", name := "takesOf", desc := "(III)I" } : Jvm.MethodName)) ∈ wsG := twS 75 rfl rfl
theorem wd76 : (Jvm.Cond.selects "SaleRoundsModel" ({ cls := "SaleRoundsModel", name := "firmsOf", desc := "(I)I" } : Jvm.MethodName) ({ cls := "SaleRoundsModel", name := "firmsOf", desc := "(I)I" } : Jvm.MethodName)) ∈ wsG := twS 76 rfl rfl
theorem wd77 : (Jvm.Cond.selects "SaleRoundsModel" ({ cls := "SaleRoundsModel", name := "allTakes", desc := "(III)J" } : Jvm.MethodName) ({ cls := "SaleRoundsModel", name := "allTakes", desc := "(III)J" } : Jvm.MethodName)) ∈ wsG := twS 77 rfl rfl
theorem wd78 : (Jvm.Cond.selects "SaleRoundsModel" ({ cls := "SaleRoundsModel", name := "flowBy", desc := "(II)I" } : Jvm.MethodName) ({ cls := "SaleRoundsModel", name := "flowBy", desc := "(II)I" } : Jvm.MethodName)) ∈ wsG := twS 78 rfl rfl
theorem wd79 : (Jvm.Cond.selects "SaleRoundsModel" ({ cls := "SaleRoundsModel", name := "counts", desc := "(II)Z" } : Jvm.MethodName) ({ cls := "SaleRoundsModel", name := "counts", desc := "(II)Z" } : Jvm.MethodName)) ∈ wsG := twS 79 rfl rfl
theorem wd80 : (Jvm.Cond.selects "SaleRoundsModel" ({ cls := "SaleRoundsModel", name := "mayHand", desc := "(III)Z" } : Jvm.MethodName) ({ cls := "SaleRoundsModel", name := "mayHand", desc := "(III)Z" } : Jvm.MethodName)) ∈ wsG := twS 80 rfl rfl
theorem wd81 : (Jvm.Cond.selects "SaleRoundsModel" ({ cls := "SaleRoundsModel", name := "reaches", desc := "()Z" } : Jvm.MethodName) ({ cls := "SaleRoundsModel", name := "reaches", desc := "()Z" } : Jvm.MethodName)) ∈ wsG := twS 81 rfl rfl
theorem wd82 : (Jvm.Cond.selects "SaleRoundsModel" ({ cls := "SaleRoundsModel", name := "signsOf", desc := "(I)I" } : Jvm.MethodName) ({ cls := "SaleRoundsModel", name := "signsOf", desc := "(I)I" } : Jvm.MethodName)) ∈ wsG := twS 82 rfl rfl
theorem wd83 : (Jvm.Cond.selects "SaleRoundsModel" ({ cls := "SaleRoundsModel", name := "soldUnder", desc := "(I)Z" } : Jvm.MethodName) ({ cls := "SaleRoundsModel", name := "soldUnder", desc := "(I)Z" } : Jvm.MethodName)) ∈ wsG := twS 83 rfl rfl
theorem wd84 : (Jvm.Cond.selects "SaleRoundsModel" ({ cls := "SaleRoundsModel", name := "boughtOfSuch", desc := "(I)Z" } : Jvm.MethodName) ({ cls := "SaleRoundsModel", name := "boughtOfSuch", desc := "(I)Z" } : Jvm.MethodName)) ∈ wsG := twS 84 rfl rfl
theorem wd85 : (Jvm.Cond.selects "SaleRoundsModel" ({ cls := "SaleRoundsModel", name := "boughtFromMissing", desc := "(I)Z" } : Jvm.MethodName) ({ cls := "SaleRoundsModel", name := "boughtFromMissing", desc := "(I)Z" } : Jvm.MethodName)) ∈ wsG := twS 85 rfl rfl
theorem wd86 : (Jvm.Cond.selects "SaleRoundsModel" ({ cls := "SaleRoundsModel", name := "roundsWith", desc := "(I)I" } : Jvm.MethodName) ({ cls := "SaleRoundsModel", name := "roundsWith", desc := "(I)I" } : Jvm.MethodName)) ∈ wsG := twS 86 rfl rfl
theorem wd87 : (Jvm.Cond.selects "SaleRoundsModel" ({ cls := "SaleRoundsModel", name := "hasMissing", desc := "(I)Z" } : Jvm.MethodName) ({ cls := "SaleRoundsModel", name := "hasMissing", desc := "(I)Z" } : Jvm.MethodName)) ∈ wsG := twS 87 rfl rfl
theorem wd88 : (Jvm.Cond.selects "SaleRoundsModel" ({ cls := "SaleRoundsModel", name := "burdenOf", desc := "(I)I" } : Jvm.MethodName) ({ cls := "SaleRoundsModel", name := "burdenOf", desc := "(I)I" } : Jvm.MethodName)) ∈ wsG := twS 88 rfl rfl
theorem wd90 : (Jvm.Cond.initialized "SaleRounds") ∈ wsG := tw1 1 rfl rfl
theorem wd91 : (Jvm.Cond.initialized "SaleRounds$Reader") ∈ wsG := tw1 2 rfl rfl
theorem wd92 : (Jvm.Cond.initialized "SaleRounds$Finder") ∈ wsG := tw1 3 rfl rfl
theorem wd93 : (Jvm.Cond.initialized "SaleRounds$Streams") ∈ wsG := tw1 4 rfl rfl
theorem wd94 : (Jvm.Cond.initialized "SaleRounds$Book") ∈ wsG := tw1 5 rfl rfl
theorem wd95 : (Jvm.Cond.initialized "SaleRounds$Names") ∈ wsG := tw1 6 rfl rfl
theorem wd96 : (Jvm.Cond.initialized "SaleRounds$Sales") ∈ wsG := tw1 7 rfl rfl
theorem wd97 : (Jvm.Cond.initialized "SaleRoundsModel") ∈ wsG := tw1 8 rfl rfl
theorem wd98 : (Jvm.Cond.initialized "java/lang/Math") ∈ wsG := tw1 9 rfl rfl
theorem wd108 : (Jvm.Cond.initialized "java/lang/Integer") ∈ wsG := tw1 19 rfl rfl
theorem wd123 : (Jvm.Cond.fieldLink "SaleRounds$Reader" (9 : Nat) "SaleRounds$Reader" "bytes" "[B") ∈ wsG := tw1 34 rfl rfl
theorem wd124 : (Jvm.Cond.fieldLink "SaleRounds$Reader" (15 : Nat) "SaleRounds$Reader" "size" "I") ∈ wsG := tw1 35 rfl rfl
theorem wd125 : (Jvm.Cond.fieldLink "SaleRounds" (71 : Nat) "SaleRounds$Reader" "size" "I") ∈ wsG := tw1 36 rfl rfl
theorem wd126 : (Jvm.Cond.fieldLink "SaleRounds$Reader" (19 : Nat) "SaleRounds$Reader" "fault" "I") ∈ wsG := tw1 37 rfl rfl
theorem wd127 : (Jvm.Cond.fieldLink "SaleRounds" (87 : Nat) "SaleRounds$Reader" "fault" "I") ∈ wsG := tw1 38 rfl rfl
theorem wd128 : (Jvm.Cond.fieldLink "SaleRounds$Reader" (22 : Nat) "SaleRounds$Reader" "faultPlace" "I") ∈ wsG := tw1 39 rfl rfl
theorem wd129 : (Jvm.Cond.fieldLink "SaleRounds" (90 : Nat) "SaleRounds$Reader" "faultPlace" "I") ∈ wsG := tw1 40 rfl rfl
theorem wd130 : (Jvm.Cond.fieldLink "SaleRounds$Reader" (25 : Nat) "SaleRounds$Reader" "end" "I") ∈ wsG := tw1 41 rfl rfl
theorem wd131 : (Jvm.Cond.fieldLink "SaleRounds$Reader" (28 : Nat) "SaleRounds$Reader" "place" "I") ∈ wsG := tw1 42 rfl rfl
theorem wd132 : (Jvm.Cond.fieldLink "SaleRounds$Reader" (31 : Nat) "SaleRounds$Reader" "kind" "I") ∈ wsG := tw1 43 rfl rfl
theorem wd133 : (Jvm.Cond.fieldLink "SaleRounds$Reader" (34 : Nat) "SaleRounds$Reader" "start" "I") ∈ wsG := tw1 44 rfl rfl
theorem wd134 : (Jvm.Cond.fieldLink "SaleRounds$Reader" (37 : Nat) "SaleRounds$Reader" "value" "I") ∈ wsG := tw1 45 rfl rfl
theorem wd161 : (Jvm.Cond.fieldLink "SaleRounds$Finder" (9 : Nat) "SaleRounds$Finder" "rows" "[J") ∈ wsG := tw1 72 rfl rfl
theorem wd162 : (Jvm.Cond.fieldLink "SaleRounds" (201 : Nat) "SaleRounds$Finder" "rows" "[J") ∈ wsG := tw1 73 rfl rfl
theorem wd163 : (Jvm.Cond.fieldLink "SaleRounds$Finder" (15 : Nat) "SaleRounds$Finder" "lengths" "[I") ∈ wsG := tw1 74 rfl rfl
theorem wd164 : (Jvm.Cond.fieldLink "SaleRounds" (204 : Nat) "SaleRounds$Finder" "lengths" "[I") ∈ wsG := tw1 75 rfl rfl
theorem wd165 : (Jvm.Cond.fieldLink "SaleRounds$Finder" (19 : Nat) "SaleRounds$Finder" "from" "[I") ∈ wsG := tw1 76 rfl rfl
theorem wd166 : (Jvm.Cond.fieldLink "SaleRounds$Finder" (22 : Nat) "SaleRounds$Finder" "to" "[I") ∈ wsG := tw1 77 rfl rfl
theorem wd167 : (Jvm.Cond.fieldLink "SaleRounds$Finder" (25 : Nat) "SaleRounds$Finder" "day" "[I") ∈ wsG := tw1 78 rfl rfl
theorem wd168 : (Jvm.Cond.fieldLink "SaleRounds$Finder" (28 : Nat) "SaleRounds$Finder" "kind" "[I") ∈ wsG := tw1 79 rfl rfl
theorem wd169 : (Jvm.Cond.fieldLink "SaleRounds$Finder" (31 : Nat) "SaleRounds$Finder" "follow" "[J") ∈ wsG := tw1 80 rfl rfl
theorem wd170 : (Jvm.Cond.fieldLink "SaleRounds$Finder" (34 : Nat) "SaleRounds$Finder" "near" "[J") ∈ wsG := tw1 81 rfl rfl
theorem wd171 : (Jvm.Cond.fieldLink "SaleRounds$Finder" (37 : Nat) "SaleRounds$Finder" "size" "I") ∈ wsG := tw1 82 rfl rfl
theorem wd172 : (Jvm.Cond.fieldLink "SaleRounds$Finder" (41 : Nat) "SaleRounds$Finder" "found" "I") ∈ wsG := tw1 83 rfl rfl
theorem wd173 : (Jvm.Cond.fieldLink "SaleRounds$Finder" (44 : Nat) "SaleRounds$Finder" "longest" "I") ∈ wsG := tw1 84 rfl rfl
theorem wd174 : (Jvm.Cond.fieldLink "SaleRounds$Finder" (47 : Nat) "SaleRounds$Finder" "home" "I") ∈ wsG := tw1 85 rfl rfl
theorem wd175 : (Jvm.Cond.fieldLink "SaleRounds$Finder" (50 : Nat) "SaleRounds$Finder" "latest" "I") ∈ wsG := tw1 86 rfl rfl
theorem wd176 : (Jvm.Cond.fieldLink "SaleRounds$Finder" (53 : Nat) "SaleRounds$Finder" "fresh" "Z") ∈ wsG := tw1 87 rfl rfl
theorem wd177 : (Jvm.Cond.fieldLink "SaleRounds$Finder" (57 : Nat) "SaleRounds$Finder" "knownWay" "I") ∈ wsG := tw1 88 rfl rfl
theorem wd178 : (Jvm.Cond.fieldLink "SaleRounds$Finder" (60 : Nat) "SaleRounds$Finder" "knownDays" "I") ∈ wsG := tw1 89 rfl rfl
theorem wd179 : (Jvm.Cond.fieldLink "SaleRounds$Finder" (63 : Nat) "SaleRounds$Finder" "knownStopped" "I") ∈ wsG := tw1 90 rfl rfl
theorem wd223 : (Jvm.Cond.fieldLink "SaleRounds$Streams" (9 : Nat) "SaleRounds$Streams" "from" "[I") ∈ wsG := tw1 134 rfl rfl
theorem wd224 : (Jvm.Cond.fieldLink "SaleRounds$Streams" (15 : Nat) "SaleRounds$Streams" "to" "[I") ∈ wsG := tw1 135 rfl rfl
theorem wd225 : (Jvm.Cond.fieldLink "SaleRounds$Streams" (18 : Nat) "SaleRounds$Streams" "day" "[I") ∈ wsG := tw1 136 rfl rfl
theorem wd226 : (Jvm.Cond.fieldLink "SaleRounds$Streams" (21 : Nat) "SaleRounds$Streams" "number" "[I") ∈ wsG := tw1 137 rfl rfl
theorem wd227 : (Jvm.Cond.fieldLink "SaleRounds$Streams" (24 : Nat) "SaleRounds$Streams" "carried" "[I") ∈ wsG := tw1 138 rfl rfl
theorem wd228 : (Jvm.Cond.fieldLink "SaleRounds$Streams" (27 : Nat) "SaleRounds$Streams" "handed" "[I") ∈ wsG := tw1 139 rfl rfl
theorem wd229 : (Jvm.Cond.fieldLink "SaleRounds$Streams" (30 : Nat) "SaleRounds$Streams" "cameFrom" "[I") ∈ wsG := tw1 140 rfl rfl
theorem wd230 : (Jvm.Cond.fieldLink "SaleRounds$Streams" (33 : Nat) "SaleRounds$Streams" "queue" "[I") ∈ wsG := tw1 141 rfl rfl
theorem wd231 : (Jvm.Cond.fieldLink "SaleRounds$Streams" (36 : Nat) "SaleRounds$Streams" "size" "I") ∈ wsG := tw1 142 rfl rfl
theorem wd232 : (Jvm.Cond.fieldLink "SaleRounds$Streams" (40 : Nat) "SaleRounds$Streams" "queued" "I") ∈ wsG := tw1 143 rfl rfl
theorem wd233 : (Jvm.Cond.fieldLink "SaleRounds$Streams" (43 : Nat) "SaleRounds$Streams" "home" "I") ∈ wsG := tw1 144 rfl rfl
theorem wd269 : (Jvm.Cond.fieldLink "SaleRounds$Names" (9 : Nat) "SaleRounds$Names" "letters" "[I") ∈ wsG := tw1 180 rfl rfl
theorem wd270 : (Jvm.Cond.fieldLink "SaleRounds$Names" (15 : Nat) "SaleRounds$Names" "size" "I") ∈ wsG := tw1 181 rfl rfl
theorem wd271 : (Jvm.Cond.fieldLink "SaleRounds$Book" (60 : Nat) "SaleRounds$Names" "size" "I") ∈ wsG := tw1 182 rfl rfl
theorem wd272 : (Jvm.Cond.fieldLink "SaleRounds$Reader" (158 : Nat) "SaleRounds$Names" "size" "I") ∈ wsG := tw1 183 rfl rfl
theorem wd273 : (Jvm.Cond.fieldLink "SaleRounds" (243 : Nat) "SaleRounds$Names" "size" "I") ∈ wsG := tw1 184 rfl rfl
theorem wd285 : (Jvm.Cond.fieldLink "SaleRounds$Sales" (9 : Nat) "SaleRounds$Sales" "from" "[I") ∈ wsG := tw1 196 rfl rfl
theorem wd286 : (Jvm.Cond.fieldLink "SaleRounds$Streams" (66 : Nat) "SaleRounds$Sales" "from" "[I") ∈ wsG := tw1 197 rfl rfl
theorem wd287 : (Jvm.Cond.fieldLink "SaleRounds$Finder" (77 : Nat) "SaleRounds$Sales" "from" "[I") ∈ wsG := tw1 198 rfl rfl
theorem wd288 : (Jvm.Cond.fieldLink "SaleRounds" (125 : Nat) "SaleRounds$Sales" "from" "[I") ∈ wsG := tw1 199 rfl rfl
theorem wd289 : (Jvm.Cond.fieldLink "SaleRounds$Book" (89 : Nat) "SaleRounds$Sales" "from" "[I") ∈ wsG := tw1 200 rfl rfl
theorem wd290 : (Jvm.Cond.fieldLink "SaleRounds$Sales" (15 : Nat) "SaleRounds$Sales" "to" "[I") ∈ wsG := tw1 201 rfl rfl
theorem wd291 : (Jvm.Cond.fieldLink "SaleRounds$Streams" (67 : Nat) "SaleRounds$Sales" "to" "[I") ∈ wsG := tw1 202 rfl rfl
theorem wd292 : (Jvm.Cond.fieldLink "SaleRounds$Finder" (78 : Nat) "SaleRounds$Sales" "to" "[I") ∈ wsG := tw1 203 rfl rfl
theorem wd293 : (Jvm.Cond.fieldLink "SaleRounds" (128 : Nat) "SaleRounds$Sales" "to" "[I") ∈ wsG := tw1 204 rfl rfl
theorem wd294 : (Jvm.Cond.fieldLink "SaleRounds$Book" (92 : Nat) "SaleRounds$Sales" "to" "[I") ∈ wsG := tw1 205 rfl rfl
theorem wd295 : (Jvm.Cond.fieldLink "SaleRounds$Sales" (18 : Nat) "SaleRounds$Sales" "number" "[I") ∈ wsG := tw1 206 rfl rfl
theorem wd296 : (Jvm.Cond.fieldLink "SaleRounds$Streams" (72 : Nat) "SaleRounds$Sales" "number" "[I") ∈ wsG := tw1 207 rfl rfl
theorem wd297 : (Jvm.Cond.fieldLink "SaleRounds" (131 : Nat) "SaleRounds$Sales" "number" "[I") ∈ wsG := tw1 208 rfl rfl
theorem wd298 : (Jvm.Cond.fieldLink "SaleRounds$Book" (98 : Nat) "SaleRounds$Sales" "number" "[I") ∈ wsG := tw1 209 rfl rfl
theorem wd299 : (Jvm.Cond.fieldLink "SaleRounds$Sales" (21 : Nat) "SaleRounds$Sales" "good" "[I") ∈ wsG := tw1 210 rfl rfl
theorem wd300 : (Jvm.Cond.fieldLink "SaleRounds$Streams" (68 : Nat) "SaleRounds$Sales" "good" "[I") ∈ wsG := tw1 211 rfl rfl
theorem wd301 : (Jvm.Cond.fieldLink "SaleRounds$Finder" (80 : Nat) "SaleRounds$Sales" "good" "[I") ∈ wsG := tw1 212 rfl rfl
theorem wd302 : (Jvm.Cond.fieldLink "SaleRounds" (134 : Nat) "SaleRounds$Sales" "good" "[I") ∈ wsG := tw1 213 rfl rfl
theorem wd303 : (Jvm.Cond.fieldLink "SaleRounds$Sales" (24 : Nat) "SaleRounds$Sales" "price" "[I") ∈ wsG := tw1 214 rfl rfl
theorem wd304 : (Jvm.Cond.fieldLink "SaleRounds" (137 : Nat) "SaleRounds$Sales" "price" "[I") ∈ wsG := tw1 215 rfl rfl
theorem wd305 : (Jvm.Cond.fieldLink "SaleRounds$Book" (95 : Nat) "SaleRounds$Sales" "price" "[I") ∈ wsG := tw1 216 rfl rfl
theorem wd306 : (Jvm.Cond.fieldLink "SaleRounds$Sales" (27 : Nat) "SaleRounds$Sales" "day" "[I") ∈ wsG := tw1 217 rfl rfl
theorem wd307 : (Jvm.Cond.fieldLink "SaleRounds$Streams" (71 : Nat) "SaleRounds$Sales" "day" "[I") ∈ wsG := tw1 218 rfl rfl
theorem wd308 : (Jvm.Cond.fieldLink "SaleRounds$Finder" (79 : Nat) "SaleRounds$Sales" "day" "[I") ∈ wsG := tw1 219 rfl rfl
theorem wd309 : (Jvm.Cond.fieldLink "SaleRounds" (140 : Nat) "SaleRounds$Sales" "day" "[I") ∈ wsG := tw1 220 rfl rfl
theorem wd310 : (Jvm.Cond.fieldLink "SaleRounds$Sales" (30 : Nat) "SaleRounds$Sales" "mark" "[I") ∈ wsG := tw1 221 rfl rfl
theorem wd311 : (Jvm.Cond.fieldLink "SaleRounds$Finder" (83 : Nat) "SaleRounds$Sales" "mark" "[I") ∈ wsG := tw1 222 rfl rfl
theorem wd312 : (Jvm.Cond.fieldLink "SaleRounds" (143 : Nat) "SaleRounds$Sales" "mark" "[I") ∈ wsG := tw1 223 rfl rfl
theorem wd313 : (Jvm.Cond.fieldLink "SaleRounds$Sales" (33 : Nat) "SaleRounds$Sales" "size" "I") ∈ wsG := tw1 224 rfl rfl
theorem wd314 : (Jvm.Cond.fieldLink "SaleRounds$Book" (64 : Nat) "SaleRounds$Sales" "size" "I") ∈ wsG := tw1 225 rfl rfl
theorem wd315 : (Jvm.Cond.fieldLink "SaleRounds$Streams" (63 : Nat) "SaleRounds$Sales" "size" "I") ∈ wsG := tw1 226 rfl rfl
theorem wd316 : (Jvm.Cond.fieldLink "SaleRounds$Finder" (74 : Nat) "SaleRounds$Sales" "size" "I") ∈ wsG := tw1 227 rfl rfl
theorem wd317 : (Jvm.Cond.fieldLink "SaleRounds" (195 : Nat) "SaleRounds$Sales" "size" "I") ∈ wsG := tw1 228 rfl rfl
theorem wd318 : (Jvm.Cond.fieldLink "SaleRounds$Reader" (129 : Nat) "SaleRounds$Sales" "size" "I") ∈ wsG := tw1 229 rfl rfl
theorem wd320 : (Jvm.Cond.fieldLink "SaleRounds$Book" (65 : Nat) "SaleRounds$Sales" "told" "I") ∈ wsG := tw1 231 rfl rfl
theorem wd321 : (Jvm.Cond.fieldLink "SaleRounds" (192 : Nat) "SaleRounds$Sales" "told" "I") ∈ wsG := tw1 232 rfl rfl
theorem wd341 : (Jvm.Cond.fieldLink "SaleRounds$Book" (12 : Nat) "SaleRounds$Book" "lands" "LSaleRounds$Names;") ∈ wsG := tw2 12 rfl rfl
theorem wd342 : (Jvm.Cond.fieldLink "SaleRounds$Reader" (76 : Nat) "SaleRounds$Book" "lands" "LSaleRounds$Names;") ∈ wsG := tw2 13 rfl rfl
theorem wd343 : (Jvm.Cond.fieldLink "SaleRounds" (93 : Nat) "SaleRounds$Book" "lands" "LSaleRounds$Names;") ∈ wsG := tw2 14 rfl rfl
theorem wd344 : (Jvm.Cond.fieldLink "SaleRounds$Book" (18 : Nat) "SaleRounds$Book" "goods" "LSaleRounds$Names;") ∈ wsG := tw2 15 rfl rfl
theorem wd345 : (Jvm.Cond.fieldLink "SaleRounds" (103 : Nat) "SaleRounds$Book" "goods" "LSaleRounds$Names;") ∈ wsG := tw2 16 rfl rfl
theorem wd346 : (Jvm.Cond.fieldLink "SaleRounds$Reader" (99 : Nat) "SaleRounds$Book" "goods" "LSaleRounds$Names;") ∈ wsG := tw2 17 rfl rfl
theorem wd347 : (Jvm.Cond.fieldLink "SaleRounds$Book" (21 : Nat) "SaleRounds$Book" "firms" "LSaleRounds$Names;") ∈ wsG := tw2 18 rfl rfl
theorem wd348 : (Jvm.Cond.fieldLink "SaleRounds" (106 : Nat) "SaleRounds$Book" "firms" "LSaleRounds$Names;") ∈ wsG := tw2 19 rfl rfl
theorem wd349 : (Jvm.Cond.fieldLink "SaleRounds$Reader" (102 : Nat) "SaleRounds$Book" "firms" "LSaleRounds$Names;") ∈ wsG := tw2 20 rfl rfl
theorem wd350 : (Jvm.Cond.fieldLink "SaleRounds$Book" (27 : Nat) "SaleRounds$Book" "sales" "LSaleRounds$Sales;") ∈ wsG := tw2 21 rfl rfl
theorem wd351 : (Jvm.Cond.fieldLink "SaleRounds" (109 : Nat) "SaleRounds$Book" "sales" "LSaleRounds$Sales;") ∈ wsG := tw2 22 rfl rfl
theorem wd352 : (Jvm.Cond.fieldLink "SaleRounds$Reader" (125 : Nat) "SaleRounds$Book" "sales" "LSaleRounds$Sales;") ∈ wsG := tw2 23 rfl rfl
theorem wd353 : (Jvm.Cond.fieldLink "SaleRounds$Book" (31 : Nat) "SaleRounds$Book" "tax" "[I") ∈ wsG := tw2 24 rfl rfl
theorem wd354 : (Jvm.Cond.fieldLink "SaleRounds$Reader" (95 : Nat) "SaleRounds$Book" "tax" "[I") ∈ wsG := tw2 25 rfl rfl
theorem wd355 : (Jvm.Cond.fieldLink "SaleRounds$Book" (35 : Nat) "SaleRounds$Book" "land" "[I") ∈ wsG := tw2 26 rfl rfl
theorem wd356 : (Jvm.Cond.fieldLink "SaleRounds" (157 : Nat) "SaleRounds$Book" "land" "[I") ∈ wsG := tw2 27 rfl rfl
theorem wd357 : (Jvm.Cond.fieldLink "SaleRounds$Book" (38 : Nat) "SaleRounds$Book" "since" "[I") ∈ wsG := tw2 28 rfl rfl
theorem wd358 : (Jvm.Cond.fieldLink "SaleRounds" (160 : Nat) "SaleRounds$Book" "since" "[I") ∈ wsG := tw2 29 rfl rfl
theorem wd359 : (Jvm.Cond.fieldLink "SaleRounds$Book" (41 : Nat) "SaleRounds$Book" "hand" "[I") ∈ wsG := tw2 30 rfl rfl
theorem wd360 : (Jvm.Cond.fieldLink "SaleRounds" (163 : Nat) "SaleRounds$Book" "hand" "[I") ∈ wsG := tw2 31 rfl rfl
theorem wd361 : (Jvm.Cond.fieldLink "SaleRounds$Reader" (119 : Nat) "SaleRounds$Book" "hand" "[I") ∈ wsG := tw2 32 rfl rfl
theorem wd362 : (Jvm.Cond.fieldLink "SaleRounds$Book" (44 : Nat) "SaleRounds$Book" "room" "[I") ∈ wsG := tw2 33 rfl rfl
theorem wd363 : (Jvm.Cond.fieldLink "SaleRounds" (166 : Nat) "SaleRounds$Book" "room" "[I") ∈ wsG := tw2 34 rfl rfl
theorem wd364 : (Jvm.Cond.fieldLink "SaleRounds$Reader" (122 : Nat) "SaleRounds$Book" "room" "[I") ∈ wsG := tw2 35 rfl rfl
theorem wd365 : (Jvm.Cond.fieldLink "SaleRounds$Book" (47 : Nat) "SaleRounds$Book" "paid" "[I") ∈ wsG := tw2 36 rfl rfl
theorem wd366 : (Jvm.Cond.fieldLink "SaleRounds" (172 : Nat) "SaleRounds$Book" "paid" "[I") ∈ wsG := tw2 37 rfl rfl
theorem wd367 : (Jvm.Cond.fieldLink "SaleRounds$Reader" (155 : Nat) "SaleRounds$Book" "paid" "[I") ∈ wsG := tw2 38 rfl rfl
theorem wd368 : (Jvm.Cond.fieldLink "SaleRounds$Book" (50 : Nat) "SaleRounds$Book" "paidTold" "[Z") ∈ wsG := tw2 39 rfl rfl
theorem wd369 : (Jvm.Cond.fieldLink "SaleRounds$Reader" (150 : Nat) "SaleRounds$Book" "paidTold" "[Z") ∈ wsG := tw2 40 rfl rfl
theorem wd370 : (Jvm.Cond.fieldLink "SaleRounds$Book" (54 : Nat) "SaleRounds$Book" "party" "[I") ∈ wsG := tw2 41 rfl rfl
theorem wd371 : (Jvm.Cond.fieldLink "SaleRounds" (178 : Nat) "SaleRounds$Book" "party" "[I") ∈ wsG := tw2 42 rfl rfl
theorem wd372 : (Jvm.Cond.fieldLink "SaleRounds$Book" (57 : Nat) "SaleRounds$Book" "owes" "[I") ∈ wsG := tw2 43 rfl rfl
theorem wd401 : (Jvm.Cond.fieldLink "SaleRounds" (12 : Nat) "SaleRounds" "reader" "LSaleRounds$Reader;") ∈ wsG := tw2 72 rfl rfl
theorem wd402 : (Jvm.Cond.fieldLink "SaleRounds" (21 : Nat) "SaleRounds" "finder" "LSaleRounds$Finder;") ∈ wsG := tw2 73 rfl rfl
theorem wd403 : (Jvm.Cond.fieldLink "SaleRounds" (28 : Nat) "SaleRounds" "streams" "LSaleRounds$Streams;") ∈ wsG := tw2 74 rfl rfl
theorem wd404 : (Jvm.Cond.fieldLink "SaleRounds" (35 : Nat) "SaleRounds" "now" "LSaleRounds$Book;") ∈ wsG := tw2 75 rfl rfl
theorem wd405 : (Jvm.Cond.fieldLink "SaleRounds" (39 : Nat) "SaleRounds" "spare" "LSaleRounds$Book;") ∈ wsG := tw2 76 rfl rfl
theorem wd406 : (Jvm.Cond.fieldLink "SaleRounds" (42 : Nat) "SaleRounds" "stopped" "I") ∈ wsG := tw2 77 rfl rfl
theorem wd407 : (Jvm.Cond.fieldLink "SaleRounds" (46 : Nat) "SaleRounds" "ruled" "I") ∈ wsG := tw2 78 rfl rfl
theorem wd408 : (Jvm.Cond.fieldLink "SaleRounds" (49 : Nat) "SaleRounds" "members" "[I") ∈ wsG := tw2 79 rfl rfl
theorem wd409 : (Jvm.Cond.fieldLink "SaleRounds" (53 : Nat) "SaleRounds" "worths" "[I") ∈ wsG := tw2 80 rfl rfl
theorem wd410 : (Jvm.Cond.fieldLink "SaleRounds" (56 : Nat) "SaleRounds" "landTakes" "[J") ∈ wsG := tw2 81 rfl rfl
theorem wd411 : (Jvm.Cond.fieldLink "SaleRounds" (60 : Nat) "SaleRounds" "landBurden" "[I") ∈ wsG := tw2 82 rfl rfl
theorem wd435 : (Jvm.Cond.methodLink "SaleRoundsLaw" (21 : Nat) ({ cls := "SaleRounds", name := "feed", desc := "(IIIII)I" } : Jvm.MethodName)) ∈ wsG := tw2 106 rfl rfl
theorem wd436 : (Jvm.Cond.instanceMethod ({ cls := "SaleRounds", name := "feed", desc := "(IIIII)I" } : Jvm.MethodName)) ∈ wsG := tw2 107 rfl rfl
theorem wd437 : (Jvm.Cond.selects "SaleRounds" ({ cls := "SaleRounds", name := "feed", desc := "(IIIII)I" } : Jvm.MethodName) ({ cls := "SaleRounds", name := "feed", desc := "(IIIII)I" } : Jvm.MethodName)) ∈ wsG := tw2 108 rfl rfl
theorem wd438 : (Jvm.Cond.code ({ cls := "SaleRounds", name := "feed", desc := "(IIIII)I" } : Jvm.MethodName) prog_1_method_2_code (6 : Nat) (Option.some Jvm.ClassFile.FieldType.int)) ∈ wsG := tw2 109 rfl rfl
theorem wd439 : (Jvm.Cond.methodLink "SaleRounds" (63 : Nat) ({ cls := "SaleRounds$Reader", name := "hasSpace", desc := "(I)Z" } : Jvm.MethodName)) ∈ wsG := tw2 110 rfl rfl
theorem wd440 : (Jvm.Cond.instanceMethod ({ cls := "SaleRounds$Reader", name := "hasSpace", desc := "(I)Z" } : Jvm.MethodName)) ∈ wsG := tw2 111 rfl rfl
theorem wd441 : (Jvm.Cond.selects "SaleRounds$Reader" ({ cls := "SaleRounds$Reader", name := "hasSpace", desc := "(I)Z" } : Jvm.MethodName) ({ cls := "SaleRounds$Reader", name := "hasSpace", desc := "(I)Z" } : Jvm.MethodName)) ∈ wsG := tw2 112 rfl rfl
theorem wd442 : (Jvm.Cond.code ({ cls := "SaleRounds$Reader", name := "hasSpace", desc := "(I)Z" } : Jvm.MethodName) prog_5_method_2_code (2 : Nat) (Option.some Jvm.ClassFile.FieldType.boolean)) ∈ wsG := tw2 113 rfl rfl
theorem wd443 : (Jvm.Cond.methodLink "SaleRounds" (67 : Nat) ({ cls := "SaleRounds$Reader", name := "push", desc := "(I)V" } : Jvm.MethodName)) ∈ wsG := tw2 114 rfl rfl
theorem wd444 : (Jvm.Cond.instanceMethod ({ cls := "SaleRounds$Reader", name := "push", desc := "(I)V" } : Jvm.MethodName)) ∈ wsG := tw2 115 rfl rfl
theorem wd445 : (Jvm.Cond.selects "SaleRounds$Reader" ({ cls := "SaleRounds$Reader", name := "push", desc := "(I)V" } : Jvm.MethodName) ({ cls := "SaleRounds$Reader", name := "push", desc := "(I)V" } : Jvm.MethodName)) ∈ wsG := tw2 116 rfl rfl
theorem wd446 : (Jvm.Cond.code ({ cls := "SaleRounds$Reader", name := "push", desc := "(I)V" } : Jvm.MethodName) prog_5_method_3_code (2 : Nat) (Option.none : Option Jvm.ClassFile.FieldType)) ∈ wsG := tw2 117 rfl rfl
theorem wd447 : (Jvm.Cond.methodLink "SaleRounds$Reader" (40 : Nat) ({ cls := "SaleRounds$Reader", name := "hasSpace", desc := "(I)Z" } : Jvm.MethodName)) ∈ wsG := tw2 118 rfl rfl
theorem wd448 : (Jvm.Cond.methodLink "SaleRoundsLaw" (26 : Nat) ({ cls := "SaleRounds", name := "book", desc := "(I)I" } : Jvm.MethodName)) ∈ wsG := tw2 119 rfl rfl
theorem wd449 : (Jvm.Cond.instanceMethod ({ cls := "SaleRounds", name := "book", desc := "(I)I" } : Jvm.MethodName)) ∈ wsG := tw2 120 rfl rfl
theorem wd450 : (Jvm.Cond.selects "SaleRounds" ({ cls := "SaleRounds", name := "book", desc := "(I)I" } : Jvm.MethodName) ({ cls := "SaleRounds", name := "book", desc := "(I)I" } : Jvm.MethodName)) ∈ wsG := tw2 121 rfl rfl
theorem wd451 : (Jvm.Cond.code ({ cls := "SaleRounds", name := "book", desc := "(I)I" } : Jvm.MethodName) prog_1_method_3_code (4 : Nat) (Option.some Jvm.ClassFile.FieldType.int)) ∈ wsG := tw2 122 rfl rfl
theorem wd452 : (Jvm.Cond.methodLink "SaleRounds" (74 : Nat) ({ cls := "SaleRounds$Book", name := "clear", desc := "()V" } : Jvm.MethodName)) ∈ wsG := tw2 123 rfl rfl
theorem wd453 : (Jvm.Cond.instanceMethod ({ cls := "SaleRounds$Book", name := "clear", desc := "()V" } : Jvm.MethodName)) ∈ wsG := tw2 124 rfl rfl
theorem wd454 : (Jvm.Cond.selects "SaleRounds$Book" ({ cls := "SaleRounds$Book", name := "clear", desc := "()V" } : Jvm.MethodName) ({ cls := "SaleRounds$Book", name := "clear", desc := "()V" } : Jvm.MethodName)) ∈ wsG := tw2 125 rfl rfl
theorem wd455 : (Jvm.Cond.code ({ cls := "SaleRounds$Book", name := "clear", desc := "()V" } : Jvm.MethodName) prog_2_method_2_code (1 : Nat) (Option.none : Option Jvm.ClassFile.FieldType)) ∈ wsG := tw2 126 rfl rfl
theorem wd456 : (Jvm.Cond.methodLink "SaleRounds" (77 : Nat) ({ cls := "SaleRounds$Reader", name := "read", desc := "(ILSaleRounds$Book;)I" } : Jvm.MethodName)) ∈ wsG := tw2 127 rfl rfl
theorem wd457 : (Jvm.Cond.instanceMethod ({ cls := "SaleRounds$Reader", name := "read", desc := "(ILSaleRounds$Book;)I" } : Jvm.MethodName)) ∈ wsG := tw2 128 rfl rfl
theorem wd458 : (Jvm.Cond.selects "SaleRounds$Reader" ({ cls := "SaleRounds$Reader", name := "read", desc := "(ILSaleRounds$Book;)I" } : Jvm.MethodName) ({ cls := "SaleRounds$Reader", name := "read", desc := "(ILSaleRounds$Book;)I" } : Jvm.MethodName)) ∈ wsG := tw2 129 rfl rfl
theorem wd459 : (Jvm.Cond.code ({ cls := "SaleRounds$Reader", name := "read", desc := "(ILSaleRounds$Book;)I" } : Jvm.MethodName) prog_5_method_4_code (5 : Nat) (Option.some Jvm.ClassFile.FieldType.int)) ∈ wsG := tw2 130 rfl rfl
theorem wd460 : (Jvm.Cond.methodLink "SaleRounds$Reader" (44 : Nat) ({ cls := "java/lang/Math", name := "min", desc := "(II)I" } : Jvm.MethodName)) ∈ wsG := tw2 131 rfl rfl
theorem wd461 : (Jvm.Cond.static ({ cls := "java/lang/Math", name := "min", desc := "(II)I" } : Jvm.MethodName)) ∈ wsG := tw2 132 rfl rfl
theorem wd462 : (Jvm.Cond.code ({ cls := "java/lang/Math", name := "min", desc := "(II)I" } : Jvm.MethodName) prog_16_method_69_code (2 : Nat) (Option.some Jvm.ClassFile.FieldType.int)) ∈ wsG := tw2 133 rfl rfl
theorem wd463 : (Jvm.Cond.methodLink "SaleRounds$Reader" (50 : Nat) ({ cls := "SaleRounds$Reader", name := "advance", desc := "()V" } : Jvm.MethodName)) ∈ wsG := tw2 134 rfl rfl
theorem wd465 : (Jvm.Cond.instanceMethod ({ cls := "SaleRounds$Reader", name := "advance", desc := "()V" } : Jvm.MethodName)) ∈ wsG := tw2 136 rfl rfl
theorem wd466 : (Jvm.Cond.code ({ cls := "SaleRounds$Reader", name := "advance", desc := "()V" } : Jvm.MethodName) prog_5_method_19_code (1 : Nat) (Option.none : Option Jvm.ClassFile.FieldType)) ∈ wsG := tw2 137 rfl rfl
theorem wd467 : (Jvm.Cond.methodLink "SaleRounds$Reader" (166 : Nat) ({ cls := "SaleRounds$Reader", name := "isLetter", desc := "(I)Z" } : Jvm.MethodName)) ∈ wsG := tw2 138 rfl rfl
theorem wd468 : (Jvm.Cond.static ({ cls := "SaleRounds$Reader", name := "isLetter", desc := "(I)Z" } : Jvm.MethodName)) ∈ wsG := tw2 139 rfl rfl
theorem wd469 : (Jvm.Cond.code ({ cls := "SaleRounds$Reader", name := "isLetter", desc := "(I)Z" } : Jvm.MethodName) prog_5_method_22_code (1 : Nat) (Option.some Jvm.ClassFile.FieldType.boolean)) ∈ wsG := tw2 140 rfl rfl
theorem wd470 : (Jvm.Cond.methodLink "SaleRounds$Reader" (169 : Nat) ({ cls := "SaleRounds$Reader", name := "takeWord", desc := "()V" } : Jvm.MethodName)) ∈ wsG := tw2 141 rfl rfl
theorem wd472 : (Jvm.Cond.instanceMethod ({ cls := "SaleRounds$Reader", name := "takeWord", desc := "()V" } : Jvm.MethodName)) ∈ wsG := tw2 143 rfl rfl
theorem wd473 : (Jvm.Cond.code ({ cls := "SaleRounds$Reader", name := "takeWord", desc := "()V" } : Jvm.MethodName) prog_5_method_20_code (2 : Nat) (Option.none : Option Jvm.ClassFile.FieldType)) ∈ wsG := tw2 144 rfl rfl
theorem wd474 : (Jvm.Cond.methodLink "SaleRounds$Reader" (172 : Nat) ({ cls := "SaleRounds$Reader", name := "isDigit", desc := "(I)Z" } : Jvm.MethodName)) ∈ wsG := tw2 145 rfl rfl
theorem wd475 : (Jvm.Cond.static ({ cls := "SaleRounds$Reader", name := "isDigit", desc := "(I)Z" } : Jvm.MethodName)) ∈ wsG := tw2 146 rfl rfl
theorem wd476 : (Jvm.Cond.code ({ cls := "SaleRounds$Reader", name := "isDigit", desc := "(I)Z" } : Jvm.MethodName) prog_5_method_23_code (1 : Nat) (Option.some Jvm.ClassFile.FieldType.boolean)) ∈ wsG := tw2 147 rfl rfl
theorem wd477 : (Jvm.Cond.methodLink "SaleRounds$Reader" (175 : Nat) ({ cls := "SaleRounds$Reader", name := "takeNumber", desc := "()V" } : Jvm.MethodName)) ∈ wsG := tw2 148 rfl rfl
theorem wd479 : (Jvm.Cond.instanceMethod ({ cls := "SaleRounds$Reader", name := "takeNumber", desc := "()V" } : Jvm.MethodName)) ∈ wsG := tw2 150 rfl rfl
theorem wd480 : (Jvm.Cond.code ({ cls := "SaleRounds$Reader", name := "takeNumber", desc := "()V" } : Jvm.MethodName) prog_5_method_21_code (1 : Nat) (Option.none : Option Jvm.ClassFile.FieldType)) ∈ wsG := tw2 151 rfl rfl
theorem wd481 : (Jvm.Cond.constant "SaleRounds$Reader" (178 : Nat) (1000000 : Int32)) ∈ wsG := tw2 152 rfl rfl
theorem wd482 : (Jvm.Cond.methodLink "SaleRounds$Reader" (53 : Nat) ({ cls := "SaleRounds$Reader", name := "readLand", desc := "(LSaleRounds$Book;)Z" } : Jvm.MethodName)) ∈ wsG := tw2 153 rfl rfl
theorem wd484 : (Jvm.Cond.instanceMethod ({ cls := "SaleRounds$Reader", name := "readLand", desc := "(LSaleRounds$Book;)Z" } : Jvm.MethodName)) ∈ wsG := tw2 155 rfl rfl
theorem wd485 : (Jvm.Cond.code ({ cls := "SaleRounds$Reader", name := "readLand", desc := "(LSaleRounds$Book;)Z" } : Jvm.MethodName) prog_5_method_5_code (5 : Nat) (Option.some Jvm.ClassFile.FieldType.boolean)) ∈ wsG := tw2 156 rfl rfl
theorem wd486 : (Jvm.Cond.methodLink "SaleRounds$Reader" (82 : Nat) ({ cls := "SaleRounds$Reader", name := "newName", desc := "(LSaleRounds$Names;I)I" } : Jvm.MethodName)) ∈ wsG := tw2 157 rfl rfl
theorem wd488 : (Jvm.Cond.instanceMethod ({ cls := "SaleRounds$Reader", name := "newName", desc := "(LSaleRounds$Names;I)I" } : Jvm.MethodName)) ∈ wsG := tw2 159 rfl rfl
theorem wd489 : (Jvm.Cond.code ({ cls := "SaleRounds$Reader", name := "newName", desc := "(LSaleRounds$Names;I)I" } : Jvm.MethodName) prog_5_method_13_code (4 : Nat) (Option.some Jvm.ClassFile.FieldType.int)) ∈ wsG := tw2 160 rfl rfl
theorem wd490 : (Jvm.Cond.methodLink "SaleRounds$Reader" (73 : Nat) ({ cls := "SaleRounds$Reader", name := "fail", desc := "(I)Z" } : Jvm.MethodName)) ∈ wsG := tw2 161 rfl rfl
theorem wd492 : (Jvm.Cond.instanceMethod ({ cls := "SaleRounds$Reader", name := "fail", desc := "(I)Z" } : Jvm.MethodName)) ∈ wsG := tw2 163 rfl rfl
theorem wd493 : (Jvm.Cond.code ({ cls := "SaleRounds$Reader", name := "fail", desc := "(I)Z" } : Jvm.MethodName) prog_5_method_17_code (2 : Nat) (Option.some Jvm.ClassFile.FieldType.boolean)) ∈ wsG := tw2 164 rfl rfl
theorem wd494 : (Jvm.Cond.methodLink "SaleRounds$Reader" (159 : Nat) ({ cls := "SaleRounds$Reader", name := "isOfLanguage", desc := "(I)Z" } : Jvm.MethodName)) ∈ wsG := tw2 165 rfl rfl
theorem wd495 : (Jvm.Cond.static ({ cls := "SaleRounds$Reader", name := "isOfLanguage", desc := "(I)Z" } : Jvm.MethodName)) ∈ wsG := tw2 166 rfl rfl
theorem wd496 : (Jvm.Cond.code ({ cls := "SaleRounds$Reader", name := "isOfLanguage", desc := "(I)Z" } : Jvm.MethodName) prog_5_method_18_code (1 : Nat) (Option.some Jvm.ClassFile.FieldType.boolean)) ∈ wsG := tw2 167 rfl rfl
theorem wd497 : (Jvm.Cond.methodLink "SaleRounds$Reader" (132 : Nat) ({ cls := "SaleRounds$Names", name := "find", desc := "(I)I" } : Jvm.MethodName)) ∈ wsG := tw2 168 rfl rfl
theorem wd498 : (Jvm.Cond.instanceMethod ({ cls := "SaleRounds$Names", name := "find", desc := "(I)I" } : Jvm.MethodName)) ∈ wsG := tw2 169 rfl rfl
theorem wd499 : (Jvm.Cond.selects "SaleRounds$Names" ({ cls := "SaleRounds$Names", name := "find", desc := "(I)I" } : Jvm.MethodName) ({ cls := "SaleRounds$Names", name := "find", desc := "(I)I" } : Jvm.MethodName)) ∈ wsG := tw2 170 rfl rfl
theorem wd500 : (Jvm.Cond.code ({ cls := "SaleRounds$Names", name := "find", desc := "(I)I" } : Jvm.MethodName) prog_4_method_3_code (3 : Nat) (Option.some Jvm.ClassFile.FieldType.int)) ∈ wsG := tw2 171 rfl rfl
theorem wd501 : (Jvm.Cond.methodLink "SaleRounds$Reader" (86 : Nat) ({ cls := "SaleRounds$Reader", name := "numberWithin", desc := "(II)I" } : Jvm.MethodName)) ∈ wsG := tw2 172 rfl rfl
theorem wd503 : (Jvm.Cond.instanceMethod ({ cls := "SaleRounds$Reader", name := "numberWithin", desc := "(II)I" } : Jvm.MethodName)) ∈ wsG := tw2 174 rfl rfl
theorem wd504 : (Jvm.Cond.code ({ cls := "SaleRounds$Reader", name := "numberWithin", desc := "(II)I" } : Jvm.MethodName) prog_5_method_15_code (4 : Nat) (Option.some Jvm.ClassFile.FieldType.int)) ∈ wsG := tw2 175 rfl rfl
theorem wd506 : (Jvm.Cond.static ({ cls := "SaleRounds", name := "within", desc := "(III)Z" } : Jvm.MethodName)) ∈ wsG := tw2 177 rfl rfl
theorem wd507 : (Jvm.Cond.code ({ cls := "SaleRounds", name := "within", desc := "(III)Z" } : Jvm.MethodName) prog_1_method_27_code (3 : Nat) (Option.some Jvm.ClassFile.FieldType.boolean)) ∈ wsG := tw2 178 rfl rfl
theorem wd508 : (Jvm.Cond.methodLink "SaleRounds$Reader" (89 : Nat) ({ cls := "SaleRounds$Names", name := "add", desc := "(I)I" } : Jvm.MethodName)) ∈ wsG := tw2 179 rfl rfl
theorem wd509 : (Jvm.Cond.instanceMethod ({ cls := "SaleRounds$Names", name := "add", desc := "(I)I" } : Jvm.MethodName)) ∈ wsG := tw2 180 rfl rfl
theorem wd510 : (Jvm.Cond.selects "SaleRounds$Names" ({ cls := "SaleRounds$Names", name := "add", desc := "(I)I" } : Jvm.MethodName) ({ cls := "SaleRounds$Names", name := "add", desc := "(I)I" } : Jvm.MethodName)) ∈ wsG := tw2 181 rfl rfl
theorem wd511 : (Jvm.Cond.code ({ cls := "SaleRounds$Names", name := "add", desc := "(I)I" } : Jvm.MethodName) prog_4_method_4_code (2 : Nat) (Option.some Jvm.ClassFile.FieldType.int)) ∈ wsG := tw2 182 rfl rfl
theorem wd512 : (Jvm.Cond.methodLink "SaleRounds$Reader" (57 : Nat) ({ cls := "SaleRounds$Reader", name := "lineEnds", desc := "()Z" } : Jvm.MethodName)) ∈ wsG := tw2 183 rfl rfl
theorem wd514 : (Jvm.Cond.instanceMethod ({ cls := "SaleRounds$Reader", name := "lineEnds", desc := "()Z" } : Jvm.MethodName)) ∈ wsG := tw2 185 rfl rfl
theorem wd515 : (Jvm.Cond.code ({ cls := "SaleRounds$Reader", name := "lineEnds", desc := "()Z" } : Jvm.MethodName) prog_5_method_16_code (1 : Nat) (Option.some Jvm.ClassFile.FieldType.boolean)) ∈ wsG := tw2 186 rfl rfl
theorem wd516 : (Jvm.Cond.methodLink "SaleRounds$Reader" (61 : Nat) ({ cls := "SaleRounds$Reader", name := "readGood", desc := "(LSaleRounds$Book;)Z" } : Jvm.MethodName)) ∈ wsG := tw2 187 rfl rfl
theorem wd518 : (Jvm.Cond.instanceMethod ({ cls := "SaleRounds$Reader", name := "readGood", desc := "(LSaleRounds$Book;)Z" } : Jvm.MethodName)) ∈ wsG := tw2 189 rfl rfl
theorem wd519 : (Jvm.Cond.code ({ cls := "SaleRounds$Reader", name := "readGood", desc := "(LSaleRounds$Book;)Z" } : Jvm.MethodName) prog_5_method_6_code (3 : Nat) (Option.some Jvm.ClassFile.FieldType.boolean)) ∈ wsG := tw2 190 rfl rfl
theorem wd520 : (Jvm.Cond.methodLink "SaleRounds$Reader" (64 : Nat) ({ cls := "SaleRounds$Reader", name := "readFirm", desc := "(LSaleRounds$Book;)Z" } : Jvm.MethodName)) ∈ wsG := tw2 191 rfl rfl
theorem wd522 : (Jvm.Cond.instanceMethod ({ cls := "SaleRounds$Reader", name := "readFirm", desc := "(LSaleRounds$Book;)Z" } : Jvm.MethodName)) ∈ wsG := tw2 193 rfl rfl
theorem wd523 : (Jvm.Cond.code ({ cls := "SaleRounds$Reader", name := "readFirm", desc := "(LSaleRounds$Book;)Z" } : Jvm.MethodName) prog_5_method_7_code (6 : Nat) (Option.some Jvm.ClassFile.FieldType.boolean)) ∈ wsG := tw2 194 rfl rfl
theorem wd524 : (Jvm.Cond.methodLink "SaleRounds$Reader" (105 : Nat) ({ cls := "SaleRounds$Reader", name := "toldName", desc := "(LSaleRounds$Names;)I" } : Jvm.MethodName)) ∈ wsG := tw2 195 rfl rfl
theorem wd526 : (Jvm.Cond.instanceMethod ({ cls := "SaleRounds$Reader", name := "toldName", desc := "(LSaleRounds$Names;)I" } : Jvm.MethodName)) ∈ wsG := tw2 197 rfl rfl
theorem wd527 : (Jvm.Cond.code ({ cls := "SaleRounds$Reader", name := "toldName", desc := "(LSaleRounds$Names;)I" } : Jvm.MethodName) prog_5_method_14_code (3 : Nat) (Option.some Jvm.ClassFile.FieldType.int)) ∈ wsG := tw2 198 rfl rfl
theorem wd528 : (Jvm.Cond.methodLink "SaleRounds$Reader" (109 : Nat) ({ cls := "SaleRounds$Book", name := "addFirm", desc := "(III)I" } : Jvm.MethodName)) ∈ wsG := tw2 199 rfl rfl
theorem wd529 : (Jvm.Cond.instanceMethod ({ cls := "SaleRounds$Book", name := "addFirm", desc := "(III)I" } : Jvm.MethodName)) ∈ wsG := tw2 200 rfl rfl
theorem wd530 : (Jvm.Cond.selects "SaleRounds$Book" ({ cls := "SaleRounds$Book", name := "addFirm", desc := "(III)I" } : Jvm.MethodName) ({ cls := "SaleRounds$Book", name := "addFirm", desc := "(III)I" } : Jvm.MethodName)) ∈ wsG := tw2 201 rfl rfl
theorem wd531 : (Jvm.Cond.code ({ cls := "SaleRounds$Book", name := "addFirm", desc := "(III)I" } : Jvm.MethodName) prog_2_method_3_code (5 : Nat) (Option.some Jvm.ClassFile.FieldType.int)) ∈ wsG := tw2 202 rfl rfl
theorem wd532 : (Jvm.Cond.methodLink "SaleRounds$Book" (68 : Nat) ({ cls := "SaleRounds$Names", name := "add", desc := "(I)I" } : Jvm.MethodName)) ∈ wsG := tw2 203 rfl rfl
theorem wd533 : (Jvm.Cond.methodLink "SaleRounds$Reader" (113 : Nat) ({ cls := "SaleRounds$Reader", name := "readTie", desc := "(LSaleRounds$Book;I)Z" } : Jvm.MethodName)) ∈ wsG := tw2 204 rfl rfl
theorem wd535 : (Jvm.Cond.instanceMethod ({ cls := "SaleRounds$Reader", name := "readTie", desc := "(LSaleRounds$Book;I)Z" } : Jvm.MethodName)) ∈ wsG := tw2 206 rfl rfl
theorem wd536 : (Jvm.Cond.code ({ cls := "SaleRounds$Reader", name := "readTie", desc := "(LSaleRounds$Book;I)Z" } : Jvm.MethodName) prog_5_method_8_code (5 : Nat) (Option.some Jvm.ClassFile.FieldType.boolean)) ∈ wsG := tw2 207 rfl rfl
theorem wd537 : (Jvm.Cond.constant "SaleRounds$Reader" (117 : Nat) (269946880 : Int32)) ∈ wsG := tw2 208 rfl rfl
theorem wd538 : (Jvm.Cond.constant "SaleRounds$Reader" (118 : Nat) (620213248 : Int32)) ∈ wsG := tw2 209 rfl rfl
theorem wd539 : (Jvm.Cond.methodLink "SaleRounds$Reader" (67 : Nat) ({ cls := "SaleRounds$Reader", name := "readSale", desc := "(LSaleRounds$Book;)Z" } : Jvm.MethodName)) ∈ wsG := tw2 210 rfl rfl
theorem wd541 : (Jvm.Cond.instanceMethod ({ cls := "SaleRounds$Reader", name := "readSale", desc := "(LSaleRounds$Book;)Z" } : Jvm.MethodName)) ∈ wsG := tw2 212 rfl rfl
theorem wd542 : (Jvm.Cond.code ({ cls := "SaleRounds$Reader", name := "readSale", desc := "(LSaleRounds$Book;)Z" } : Jvm.MethodName) prog_5_method_9_code (9 : Nat) (Option.some Jvm.ClassFile.FieldType.boolean)) ∈ wsG := tw2 213 rfl rfl
theorem wd543 : (Jvm.Cond.methodLink "SaleRounds$Reader" (135 : Nat) ({ cls := "SaleRounds$Book", name := "sinceBoth", desc := "(II)I" } : Jvm.MethodName)) ∈ wsG := tw2 214 rfl rfl
theorem wd544 : (Jvm.Cond.instanceMethod ({ cls := "SaleRounds$Book", name := "sinceBoth", desc := "(II)I" } : Jvm.MethodName)) ∈ wsG := tw2 215 rfl rfl
theorem wd545 : (Jvm.Cond.selects "SaleRounds$Book" ({ cls := "SaleRounds$Book", name := "sinceBoth", desc := "(II)I" } : Jvm.MethodName) ({ cls := "SaleRounds$Book", name := "sinceBoth", desc := "(II)I" } : Jvm.MethodName)) ∈ wsG := tw2 216 rfl rfl
theorem wd546 : (Jvm.Cond.code ({ cls := "SaleRounds$Book", name := "sinceBoth", desc := "(II)I" } : Jvm.MethodName) prog_2_method_4_code (3 : Nat) (Option.some Jvm.ClassFile.FieldType.int)) ∈ wsG := tw2 217 rfl rfl
theorem wd547 : (Jvm.Cond.methodLink "SaleRounds$Book" (72 : Nat) ({ cls := "java/lang/Math", name := "max", desc := "(II)I" } : Jvm.MethodName)) ∈ wsG := tw2 218 rfl rfl
theorem wd548 : (Jvm.Cond.static ({ cls := "java/lang/Math", name := "max", desc := "(II)I" } : Jvm.MethodName)) ∈ wsG := tw2 219 rfl rfl
theorem wd549 : (Jvm.Cond.code ({ cls := "java/lang/Math", name := "max", desc := "(II)I" } : Jvm.MethodName) prog_16_method_65_code (2 : Nat) (Option.some Jvm.ClassFile.FieldType.int)) ∈ wsG := tw2 220 rfl rfl
theorem wd550 : (Jvm.Cond.methodLink "SaleRounds$Reader" (138 : Nat) ({ cls := "SaleRounds$Reader", name := "readDay", desc := "(I)I" } : Jvm.MethodName)) ∈ wsG := tw2 221 rfl rfl
theorem wd552 : (Jvm.Cond.instanceMethod ({ cls := "SaleRounds$Reader", name := "readDay", desc := "(I)I" } : Jvm.MethodName)) ∈ wsG := tw2 223 rfl rfl
theorem wd553 : (Jvm.Cond.code ({ cls := "SaleRounds$Reader", name := "readDay", desc := "(I)I" } : Jvm.MethodName) prog_5_method_10_code (4 : Nat) (Option.some Jvm.ClassFile.FieldType.int)) ∈ wsG := tw2 224 rfl rfl
theorem wd554 : (Jvm.Cond.constant "SaleRounds$Reader" (148 : Nat) (136085504 : Int32)) ∈ wsG := tw2 225 rfl rfl
theorem wd555 : (Jvm.Cond.methodLink "SaleRounds$Reader" (141 : Nat) ({ cls := "SaleRounds$Reader", name := "readMark", desc := "()I" } : Jvm.MethodName)) ∈ wsG := tw2 226 rfl rfl
theorem wd557 : (Jvm.Cond.instanceMethod ({ cls := "SaleRounds$Reader", name := "readMark", desc := "()I" } : Jvm.MethodName)) ∈ wsG := tw2 228 rfl rfl
theorem wd558 : (Jvm.Cond.code ({ cls := "SaleRounds$Reader", name := "readMark", desc := "()I" } : Jvm.MethodName) prog_5_method_11_code (1 : Nat) (Option.some Jvm.ClassFile.FieldType.int)) ∈ wsG := tw2 229 rfl rfl
theorem wd559 : (Jvm.Cond.constant "SaleRounds$Reader" (149 : Nat) (437857280 : Int32)) ∈ wsG := tw2 230 rfl rfl
theorem wd560 : (Jvm.Cond.methodLink "SaleRounds$Reader" (145 : Nat) ({ cls := "SaleRounds$Sales", name := "add", desc := "(IIIIIII)Z" } : Jvm.MethodName)) ∈ wsG := tw2 231 rfl rfl
theorem wd561 : (Jvm.Cond.instanceMethod ({ cls := "SaleRounds$Sales", name := "add", desc := "(IIIIIII)Z" } : Jvm.MethodName)) ∈ wsG := tw2 232 rfl rfl
theorem wd562 : (Jvm.Cond.selects "SaleRounds$Sales" ({ cls := "SaleRounds$Sales", name := "add", desc := "(IIIIIII)Z" } : Jvm.MethodName) ({ cls := "SaleRounds$Sales", name := "add", desc := "(IIIIIII)Z" } : Jvm.MethodName)) ∈ wsG := tw2 233 rfl rfl
theorem wd563 : (Jvm.Cond.code ({ cls := "SaleRounds$Sales", name := "add", desc := "(IIIIIII)Z" } : Jvm.MethodName) prog_6_method_3_code (8 : Nat) (Option.some Jvm.ClassFile.FieldType.boolean)) ∈ wsG := tw2 234 rfl rfl
theorem wd564 : (Jvm.Cond.methodLink "SaleRounds$Reader" (70 : Nat) ({ cls := "SaleRounds$Reader", name := "readPaid", desc := "(LSaleRounds$Book;)Z" } : Jvm.MethodName)) ∈ wsG := tw2 235 rfl rfl
theorem wd566 : (Jvm.Cond.instanceMethod ({ cls := "SaleRounds$Reader", name := "readPaid", desc := "(LSaleRounds$Book;)Z" } : Jvm.MethodName)) ∈ wsG := tw2 237 rfl rfl
theorem wd567 : (Jvm.Cond.code ({ cls := "SaleRounds$Reader", name := "readPaid", desc := "(LSaleRounds$Book;)Z" } : Jvm.MethodName) prog_5_method_12_code (4 : Nat) (Option.some Jvm.ClassFile.FieldType.boolean)) ∈ wsG := tw2 238 rfl rfl
theorem wd568 : (Jvm.Cond.constant "SaleRounds$Reader" (154 : Nat) (999999 : Int32)) ∈ wsG := tw2 239 rfl rfl
theorem wd569 : (Jvm.Cond.methodLink "SaleRounds" (81 : Nat) ({ cls := "SaleRounds$Book", name := "joinParties", desc := "()V" } : Jvm.MethodName)) ∈ wsG := tw3 0 rfl rfl
theorem wd570 : (Jvm.Cond.instanceMethod ({ cls := "SaleRounds$Book", name := "joinParties", desc := "()V" } : Jvm.MethodName)) ∈ wsG := tw3 1 rfl rfl
theorem wd571 : (Jvm.Cond.selects "SaleRounds$Book" ({ cls := "SaleRounds$Book", name := "joinParties", desc := "()V" } : Jvm.MethodName) ({ cls := "SaleRounds$Book", name := "joinParties", desc := "()V" } : Jvm.MethodName)) ∈ wsG := tw3 2 rfl rfl
theorem wd572 : (Jvm.Cond.code ({ cls := "SaleRounds$Book", name := "joinParties", desc := "()V" } : Jvm.MethodName) prog_2_method_5_code (3 : Nat) (Option.none : Option Jvm.ClassFile.FieldType)) ∈ wsG := tw3 3 rfl rfl
theorem wd573 : (Jvm.Cond.methodLink "SaleRounds$Book" (78 : Nat) ({ cls := "SaleRounds$Book", name := "areJoined", desc := "(II)Z" } : Jvm.MethodName)) ∈ wsG := tw3 4 rfl rfl
theorem wd575 : (Jvm.Cond.instanceMethod ({ cls := "SaleRounds$Book", name := "areJoined", desc := "(II)Z" } : Jvm.MethodName)) ∈ wsG := tw3 6 rfl rfl
theorem wd576 : (Jvm.Cond.code ({ cls := "SaleRounds$Book", name := "areJoined", desc := "(II)Z" } : Jvm.MethodName) prog_2_method_6_code (3 : Nat) (Option.some Jvm.ClassFile.FieldType.boolean)) ∈ wsG := tw3 7 rfl rfl
theorem wd577 : (Jvm.Cond.methodLink "SaleRounds$Book" (82 : Nat) ({ cls := "SaleRounds$Book", name := "mergeParties", desc := "(II)V" } : Jvm.MethodName)) ∈ wsG := tw3 8 rfl rfl
theorem wd579 : (Jvm.Cond.instanceMethod ({ cls := "SaleRounds$Book", name := "mergeParties", desc := "(II)V" } : Jvm.MethodName)) ∈ wsG := tw3 10 rfl rfl
theorem wd580 : (Jvm.Cond.code ({ cls := "SaleRounds$Book", name := "mergeParties", desc := "(II)V" } : Jvm.MethodName) prog_2_method_7_code (5 : Nat) (Option.none : Option Jvm.ClassFile.FieldType)) ∈ wsG := tw3 11 rfl rfl
theorem wd581 : (Jvm.Cond.methodLink "SaleRounds$Book" (86 : Nat) ({ cls := "java/lang/Math", name := "min", desc := "(II)I" } : Jvm.MethodName)) ∈ wsG := tw3 12 rfl rfl
theorem wd582 : (Jvm.Cond.methodLink "SaleRounds" (84 : Nat) ({ cls := "SaleRounds$Finder", name := "forget", desc := "()V" } : Jvm.MethodName)) ∈ wsG := tw3 13 rfl rfl
theorem wd583 : (Jvm.Cond.instanceMethod ({ cls := "SaleRounds$Finder", name := "forget", desc := "()V" } : Jvm.MethodName)) ∈ wsG := tw3 14 rfl rfl
theorem wd584 : (Jvm.Cond.selects "SaleRounds$Finder" ({ cls := "SaleRounds$Finder", name := "forget", desc := "()V" } : Jvm.MethodName) ({ cls := "SaleRounds$Finder", name := "forget", desc := "()V" } : Jvm.MethodName)) ∈ wsG := tw3 15 rfl rfl
theorem wd585 : (Jvm.Cond.code ({ cls := "SaleRounds$Finder", name := "forget", desc := "()V" } : Jvm.MethodName) prog_3_method_2_code (1 : Nat) (Option.none : Option Jvm.ClassFile.FieldType)) ∈ wsG := tw3 16 rfl rfl
theorem wd586 : (Jvm.Cond.methodLink "SaleRoundsLaw" (31 : Nat) ({ cls := "SaleRounds", name := "fault", desc := "(I)I" } : Jvm.MethodName)) ∈ wsG := tw3 17 rfl rfl
theorem wd587 : (Jvm.Cond.instanceMethod ({ cls := "SaleRounds", name := "fault", desc := "(I)I" } : Jvm.MethodName)) ∈ wsG := tw3 18 rfl rfl
theorem wd588 : (Jvm.Cond.selects "SaleRounds" ({ cls := "SaleRounds", name := "fault", desc := "(I)I" } : Jvm.MethodName) ({ cls := "SaleRounds", name := "fault", desc := "(I)I" } : Jvm.MethodName)) ∈ wsG := tw3 19 rfl rfl
theorem wd589 : (Jvm.Cond.code ({ cls := "SaleRounds", name := "fault", desc := "(I)I" } : Jvm.MethodName) prog_1_method_4_code (2 : Nat) (Option.some Jvm.ClassFile.FieldType.int)) ∈ wsG := tw3 20 rfl rfl
theorem wd590 : (Jvm.Cond.methodLink "SaleRoundsLaw" (35 : Nat) ({ cls := "SaleRounds", name := "named", desc := "(II)I" } : Jvm.MethodName)) ∈ wsG := tw3 21 rfl rfl
theorem wd591 : (Jvm.Cond.instanceMethod ({ cls := "SaleRounds", name := "named", desc := "(II)I" } : Jvm.MethodName)) ∈ wsG := tw3 22 rfl rfl
theorem wd592 : (Jvm.Cond.selects "SaleRounds" ({ cls := "SaleRounds", name := "named", desc := "(II)I" } : Jvm.MethodName) ({ cls := "SaleRounds", name := "named", desc := "(II)I" } : Jvm.MethodName)) ∈ wsG := tw3 23 rfl rfl
theorem wd593 : (Jvm.Cond.code ({ cls := "SaleRounds", name := "named", desc := "(II)I" } : Jvm.MethodName) prog_1_method_5_code (3 : Nat) (Option.some Jvm.ClassFile.FieldType.int)) ∈ wsG := tw3 24 rfl rfl
theorem wd594 : (Jvm.Cond.methodLink "SaleRounds" (97 : Nat) ({ cls := "SaleRounds$Names", name := "find", desc := "(I)I" } : Jvm.MethodName)) ∈ wsG := tw3 25 rfl rfl
theorem wd595 : (Jvm.Cond.methodLink "SaleRoundsLaw" (45 : Nat) ({ cls := "SaleRounds", name := "firm", desc := "(II)I" } : Jvm.MethodName)) ∈ wsG := tw3 26 rfl rfl
theorem wd596 : (Jvm.Cond.instanceMethod ({ cls := "SaleRounds", name := "firm", desc := "(II)I" } : Jvm.MethodName)) ∈ wsG := tw3 27 rfl rfl
theorem wd597 : (Jvm.Cond.selects "SaleRounds" ({ cls := "SaleRounds", name := "firm", desc := "(II)I" } : Jvm.MethodName) ({ cls := "SaleRounds", name := "firm", desc := "(II)I" } : Jvm.MethodName)) ∈ wsG := tw3 28 rfl rfl
theorem wd598 : (Jvm.Cond.code ({ cls := "SaleRounds", name := "firm", desc := "(II)I" } : Jvm.MethodName) prog_1_method_7_code (3 : Nat) (Option.some Jvm.ClassFile.FieldType.int)) ∈ wsG := tw3 29 rfl rfl
theorem wd599 : (Jvm.Cond.methodLink "SaleRounds" (155 : Nat) ({ cls := "SaleRounds$Names", name := "has", desc := "(I)Z" } : Jvm.MethodName)) ∈ wsG := tw3 30 rfl rfl
theorem wd600 : (Jvm.Cond.instanceMethod ({ cls := "SaleRounds$Names", name := "has", desc := "(I)Z" } : Jvm.MethodName)) ∈ wsG := tw3 31 rfl rfl
theorem wd601 : (Jvm.Cond.selects "SaleRounds$Names" ({ cls := "SaleRounds$Names", name := "has", desc := "(I)Z" } : Jvm.MethodName) ({ cls := "SaleRounds$Names", name := "has", desc := "(I)Z" } : Jvm.MethodName)) ∈ wsG := tw3 32 rfl rfl
theorem wd602 : (Jvm.Cond.code ({ cls := "SaleRounds$Names", name := "has", desc := "(I)Z" } : Jvm.MethodName) prog_4_method_2_code (2 : Nat) (Option.some Jvm.ClassFile.FieldType.boolean)) ∈ wsG := tw3 33 rfl rfl
theorem wd603 : (Jvm.Cond.constant "SaleRounds" (156 : Nat) (-2147483648 : Int32)) ∈ wsG := tw3 34 rfl rfl
theorem wd604 : (Jvm.Cond.methodLink "SaleRounds" (169 : Nat) ({ cls := "SaleRounds$Book", name := "owed", desc := "(II)I" } : Jvm.MethodName)) ∈ wsG := tw3 35 rfl rfl
theorem wd605 : (Jvm.Cond.instanceMethod ({ cls := "SaleRounds$Book", name := "owed", desc := "(II)I" } : Jvm.MethodName)) ∈ wsG := tw3 36 rfl rfl
theorem wd606 : (Jvm.Cond.selects "SaleRounds$Book" ({ cls := "SaleRounds$Book", name := "owed", desc := "(II)I" } : Jvm.MethodName) ({ cls := "SaleRounds$Book", name := "owed", desc := "(II)I" } : Jvm.MethodName)) ∈ wsG := tw3 37 rfl rfl
theorem wd607 : (Jvm.Cond.code ({ cls := "SaleRounds$Book", name := "owed", desc := "(II)I" } : Jvm.MethodName) prog_2_method_13_code (3 : Nat) (Option.some Jvm.ClassFile.FieldType.int)) ∈ wsG := tw3 38 rfl rfl
theorem wd608 : (Jvm.Cond.methodLink "SaleRounds$Book" (107 : Nat) ({ cls := "SaleRounds$Book", name := "tally", desc := "(I)V" } : Jvm.MethodName)) ∈ wsG := tw3 39 rfl rfl
theorem wd610 : (Jvm.Cond.instanceMethod ({ cls := "SaleRounds$Book", name := "tally", desc := "(I)V" } : Jvm.MethodName)) ∈ wsG := tw3 41 rfl rfl
theorem wd611 : (Jvm.Cond.code ({ cls := "SaleRounds$Book", name := "tally", desc := "(I)V" } : Jvm.MethodName) prog_2_method_12_code (4 : Nat) (Option.none : Option Jvm.ClassFile.FieldType)) ∈ wsG := tw3 42 rfl rfl
theorem wd612 : (Jvm.Cond.methodLink "SaleRounds$Book" (104 : Nat) ({ cls := "SaleRounds$Book", name := "taxOf", desc := "(II)I" } : Jvm.MethodName)) ∈ wsG := tw3 43 rfl rfl
theorem wd613 : (Jvm.Cond.instanceMethod ({ cls := "SaleRounds$Book", name := "taxOf", desc := "(II)I" } : Jvm.MethodName)) ∈ wsG := tw3 44 rfl rfl
theorem wd614 : (Jvm.Cond.selects "SaleRounds$Book" ({ cls := "SaleRounds$Book", name := "taxOf", desc := "(II)I" } : Jvm.MethodName) ({ cls := "SaleRounds$Book", name := "taxOf", desc := "(II)I" } : Jvm.MethodName)) ∈ wsG := tw3 45 rfl rfl
theorem wd615 : (Jvm.Cond.code ({ cls := "SaleRounds$Book", name := "taxOf", desc := "(II)I" } : Jvm.MethodName) prog_2_method_11_code (3 : Nat) (Option.some Jvm.ClassFile.FieldType.int)) ∈ wsG := tw3 46 rfl rfl
theorem wd616 : (Jvm.Cond.methodLink "SaleRounds$Book" (101 : Nat) ({ cls := "SaleRounds$Book", name := "taxEach", desc := "(II)I" } : Jvm.MethodName)) ∈ wsG := tw3 47 rfl rfl
theorem wd618 : (Jvm.Cond.instanceMethod ({ cls := "SaleRounds$Book", name := "taxEach", desc := "(II)I" } : Jvm.MethodName)) ∈ wsG := tw3 49 rfl rfl
theorem wd619 : (Jvm.Cond.code ({ cls := "SaleRounds$Book", name := "taxEach", desc := "(II)I" } : Jvm.MethodName) prog_2_method_10_code (4 : Nat) (Option.some Jvm.ClassFile.FieldType.int)) ∈ wsG := tw3 50 rfl rfl
theorem wd620 : (Jvm.Cond.methodLink "SaleRounds" (175 : Nat) ({ cls := "SaleRounds$Book", name := "missing", desc := "(I)I" } : Jvm.MethodName)) ∈ wsG := tw3 51 rfl rfl
theorem wd621 : (Jvm.Cond.instanceMethod ({ cls := "SaleRounds$Book", name := "missing", desc := "(I)I" } : Jvm.MethodName)) ∈ wsG := tw3 52 rfl rfl
theorem wd622 : (Jvm.Cond.selects "SaleRounds$Book" ({ cls := "SaleRounds$Book", name := "missing", desc := "(I)I" } : Jvm.MethodName) ({ cls := "SaleRounds$Book", name := "missing", desc := "(I)I" } : Jvm.MethodName)) ∈ wsG := tw3 53 rfl rfl
theorem wd623 : (Jvm.Cond.code ({ cls := "SaleRounds$Book", name := "missing", desc := "(I)I" } : Jvm.MethodName) prog_2_method_14_code (4 : Nat) (Option.some Jvm.ClassFile.FieldType.int)) ∈ wsG := tw3 54 rfl rfl
theorem wd624 : (Jvm.Cond.methodLink "SaleRoundsLaw" (49 : Nat) ({ cls := "SaleRounds", name := "sell", desc := "(IIIIIII)I" } : Jvm.MethodName)) ∈ wsG := tw3 55 rfl rfl
theorem wd625 : (Jvm.Cond.instanceMethod ({ cls := "SaleRounds", name := "sell", desc := "(IIIIIII)I" } : Jvm.MethodName)) ∈ wsG := tw3 56 rfl rfl
theorem wd626 : (Jvm.Cond.selects "SaleRounds" ({ cls := "SaleRounds", name := "sell", desc := "(IIIIIII)I" } : Jvm.MethodName) ({ cls := "SaleRounds", name := "sell", desc := "(IIIIIII)I" } : Jvm.MethodName)) ∈ wsG := tw3 57 rfl rfl
theorem wd627 : (Jvm.Cond.code ({ cls := "SaleRounds", name := "sell", desc := "(IIIIIII)I" } : Jvm.MethodName) prog_1_method_8_code (10 : Nat) (Option.some Jvm.ClassFile.FieldType.int)) ∈ wsG := tw3 58 rfl rfl
theorem wd628 : (Jvm.Cond.methodLink "SaleRounds" (181 : Nat) ({ cls := "SaleRounds", name := "within", desc := "(III)Z" } : Jvm.MethodName)) ∈ wsG := tw3 59 rfl rfl
theorem wd629 : (Jvm.Cond.methodLink "SaleRounds" (185 : Nat) ({ cls := "SaleRounds$Book", name := "sinceBoth", desc := "(II)I" } : Jvm.MethodName)) ∈ wsG := tw3 60 rfl rfl
theorem wd630 : (Jvm.Cond.methodLink "SaleRounds" (188 : Nat) ({ cls := "SaleRounds$Sales", name := "add", desc := "(IIIIIII)Z" } : Jvm.MethodName)) ∈ wsG := tw3 61 rfl rfl
theorem wd631 : (Jvm.Cond.methodLink "SaleRoundsLaw" (54 : Nat) ({ cls := "SaleRounds", name := "undo", desc := "()I" } : Jvm.MethodName)) ∈ wsG := tw3 62 rfl rfl
theorem wd632 : (Jvm.Cond.instanceMethod ({ cls := "SaleRounds", name := "undo", desc := "()I" } : Jvm.MethodName)) ∈ wsG := tw3 63 rfl rfl
theorem wd633 : (Jvm.Cond.selects "SaleRounds" ({ cls := "SaleRounds", name := "undo", desc := "()I" } : Jvm.MethodName) ({ cls := "SaleRounds", name := "undo", desc := "()I" } : Jvm.MethodName)) ∈ wsG := tw3 64 rfl rfl
theorem wd634 : (Jvm.Cond.code ({ cls := "SaleRounds", name := "undo", desc := "()I" } : Jvm.MethodName) prog_1_method_9_code (2 : Nat) (Option.some Jvm.ClassFile.FieldType.int)) ∈ wsG := tw3 65 rfl rfl
theorem wd635 : (Jvm.Cond.methodLink "SaleRoundsLaw" (59 : Nat) ({ cls := "SaleRounds", name := "pay", desc := "(II)I" } : Jvm.MethodName)) ∈ wsG := tw3 66 rfl rfl
theorem wd636 : (Jvm.Cond.instanceMethod ({ cls := "SaleRounds", name := "pay", desc := "(II)I" } : Jvm.MethodName)) ∈ wsG := tw3 67 rfl rfl
theorem wd637 : (Jvm.Cond.selects "SaleRounds" ({ cls := "SaleRounds", name := "pay", desc := "(II)I" } : Jvm.MethodName) ({ cls := "SaleRounds", name := "pay", desc := "(II)I" } : Jvm.MethodName)) ∈ wsG := tw3 68 rfl rfl
theorem wd638 : (Jvm.Cond.code ({ cls := "SaleRounds", name := "pay", desc := "(II)I" } : Jvm.MethodName) prog_1_method_10_code (3 : Nat) (Option.some Jvm.ClassFile.FieldType.int)) ∈ wsG := tw3 69 rfl rfl
theorem wd639 : (Jvm.Cond.constant "SaleRounds" (196 : Nat) (999999 : Int32)) ∈ wsG := tw3 70 rfl rfl
theorem wd640 : (Jvm.Cond.methodLink "SaleRoundsLaw" (63 : Nat) ({ cls := "SaleRounds", name := "rounds", desc := "(III)I" } : Jvm.MethodName)) ∈ wsG := tw3 71 rfl rfl
theorem wd641 : (Jvm.Cond.instanceMethod ({ cls := "SaleRounds", name := "rounds", desc := "(III)I" } : Jvm.MethodName)) ∈ wsG := tw3 72 rfl rfl
theorem wd642 : (Jvm.Cond.selects "SaleRounds" ({ cls := "SaleRounds", name := "rounds", desc := "(III)I" } : Jvm.MethodName) ({ cls := "SaleRounds", name := "rounds", desc := "(III)I" } : Jvm.MethodName)) ∈ wsG := tw3 73 rfl rfl
theorem wd643 : (Jvm.Cond.code ({ cls := "SaleRounds", name := "rounds", desc := "(III)I" } : Jvm.MethodName) prog_1_method_11_code (4 : Nat) (Option.some Jvm.ClassFile.FieldType.int)) ∈ wsG := tw3 74 rfl rfl
theorem wd644 : (Jvm.Cond.methodLink "SaleRounds" (197 : Nat) ({ cls := "SaleRounds", name := "gather", desc := "(III)I" } : Jvm.MethodName)) ∈ wsG := tw3 75 rfl rfl
theorem wd646 : (Jvm.Cond.instanceMethod ({ cls := "SaleRounds", name := "gather", desc := "(III)I" } : Jvm.MethodName)) ∈ wsG := tw3 77 rfl rfl
theorem wd647 : (Jvm.Cond.code ({ cls := "SaleRounds", name := "gather", desc := "(III)I" } : Jvm.MethodName) prog_1_method_30_code (4 : Nat) (Option.some Jvm.ClassFile.FieldType.int)) ∈ wsG := tw3 78 rfl rfl
theorem wd648 : (Jvm.Cond.methodLink "SaleRounds" (281 : Nat) ({ cls := "SaleRounds$Finder", name := "find", desc := "(LSaleRounds$Sales;IIII)I" } : Jvm.MethodName)) ∈ wsG := tw3 79 rfl rfl
theorem wd649 : (Jvm.Cond.instanceMethod ({ cls := "SaleRounds$Finder", name := "find", desc := "(LSaleRounds$Sales;IIII)I" } : Jvm.MethodName)) ∈ wsG := tw3 80 rfl rfl
theorem wd650 : (Jvm.Cond.selects "SaleRounds$Finder" ({ cls := "SaleRounds$Finder", name := "find", desc := "(LSaleRounds$Sales;IIII)I" } : Jvm.MethodName) ({ cls := "SaleRounds$Finder", name := "find", desc := "(LSaleRounds$Sales;IIII)I" } : Jvm.MethodName)) ∈ wsG := tw3 81 rfl rfl
theorem wd651 : (Jvm.Cond.code ({ cls := "SaleRounds$Finder", name := "find", desc := "(LSaleRounds$Sales;IIII)I" } : Jvm.MethodName) prog_3_method_3_code (7 : Nat) (Option.some Jvm.ClassFile.FieldType.int)) ∈ wsG := tw3 82 rfl rfl
theorem wd652 : (Jvm.Cond.methodLink "SaleRounds$Finder" (66 : Nat) ({ cls := "SaleRounds$Finder", name := "load", desc := "(LSaleRounds$Sales;II)V" } : Jvm.MethodName)) ∈ wsG := tw3 83 rfl rfl
theorem wd653 : (Jvm.Cond.instanceMethod ({ cls := "SaleRounds$Finder", name := "load", desc := "(LSaleRounds$Sales;II)V" } : Jvm.MethodName)) ∈ wsG := tw3 84 rfl rfl
theorem wd654 : (Jvm.Cond.selects "SaleRounds$Finder" ({ cls := "SaleRounds$Finder", name := "load", desc := "(LSaleRounds$Sales;II)V" } : Jvm.MethodName) ({ cls := "SaleRounds$Finder", name := "load", desc := "(LSaleRounds$Sales;II)V" } : Jvm.MethodName)) ∈ wsG := tw3 85 rfl rfl
theorem wd655 : (Jvm.Cond.code ({ cls := "SaleRounds$Finder", name := "load", desc := "(LSaleRounds$Sales;II)V" } : Jvm.MethodName) prog_3_method_4_code (6 : Nat) (Option.none : Option Jvm.ClassFile.FieldType)) ∈ wsG := tw3 86 rfl rfl
theorem wd656 : (Jvm.Cond.methodLink "SaleRounds$Finder" (70 : Nat) ({ cls := "SaleRounds$Finder", name := "search", desc := "(II)I" } : Jvm.MethodName)) ∈ wsG := tw3 87 rfl rfl
theorem wd657 : (Jvm.Cond.instanceMethod ({ cls := "SaleRounds$Finder", name := "search", desc := "(II)I" } : Jvm.MethodName)) ∈ wsG := tw3 88 rfl rfl
theorem wd658 : (Jvm.Cond.selects "SaleRounds$Finder" ({ cls := "SaleRounds$Finder", name := "search", desc := "(II)I" } : Jvm.MethodName) ({ cls := "SaleRounds$Finder", name := "search", desc := "(II)I" } : Jvm.MethodName)) ∈ wsG := tw3 89 rfl rfl
theorem wd659 : (Jvm.Cond.code ({ cls := "SaleRounds$Finder", name := "search", desc := "(II)I" } : Jvm.MethodName) prog_3_method_6_code (4 : Nat) (Option.some Jvm.ClassFile.FieldType.int)) ∈ wsG := tw3 90 rfl rfl
theorem wd660 : (Jvm.Cond.methodLink "SaleRounds$Finder" (94 : Nat) ({ cls := "SaleRounds$Finder", name := "linkSales", desc := "()V" } : Jvm.MethodName)) ∈ wsG := tw3 91 rfl rfl
theorem wd662 : (Jvm.Cond.instanceMethod ({ cls := "SaleRounds$Finder", name := "linkSales", desc := "()V" } : Jvm.MethodName)) ∈ wsG := tw3 93 rfl rfl
theorem wd663 : (Jvm.Cond.code ({ cls := "SaleRounds$Finder", name := "linkSales", desc := "()V" } : Jvm.MethodName) prog_3_method_7_code (3 : Nat) (Option.none : Option Jvm.ClassFile.FieldType)) ∈ wsG := tw3 94 rfl rfl
theorem wd664 : (Jvm.Cond.methodLink "SaleRounds$Finder" (97 : Nat) ({ cls := "SaleRounds$Finder", name := "measure", desc := "(I)V" } : Jvm.MethodName)) ∈ wsG := tw3 95 rfl rfl
theorem wd666 : (Jvm.Cond.instanceMethod ({ cls := "SaleRounds$Finder", name := "measure", desc := "(I)V" } : Jvm.MethodName)) ∈ wsG := tw3 97 rfl rfl
theorem wd667 : (Jvm.Cond.code ({ cls := "SaleRounds$Finder", name := "measure", desc := "(I)V" } : Jvm.MethodName) prog_3_method_8_code (9 : Nat) (Option.none : Option Jvm.ClassFile.FieldType)) ∈ wsG := tw3 98 rfl rfl
theorem wd668 : (Jvm.Cond.methodLink "SaleRounds$Finder" (101 : Nat) ({ cls := "SaleRounds$Finder", name := "extend", desc := "(JIII)V" } : Jvm.MethodName)) ∈ wsG := tw3 99 rfl rfl
theorem wd670 : (Jvm.Cond.instanceMethod ({ cls := "SaleRounds$Finder", name := "extend", desc := "(JIII)V" } : Jvm.MethodName)) ∈ wsG := tw3 101 rfl rfl
theorem wd671 : (Jvm.Cond.code ({ cls := "SaleRounds$Finder", name := "extend", desc := "(JIII)V" } : Jvm.MethodName) prog_3_method_9_code (9 : Nat) (Option.none : Option Jvm.ClassFile.FieldType)) ∈ wsG := tw3 102 rfl rfl
theorem wd672 : (Jvm.Cond.methodLink "SaleRounds$Finder" (105 : Nat) ({ cls := "SaleRounds$Finder", name := "keep", desc := "(JI)V" } : Jvm.MethodName)) ∈ wsG := tw3 103 rfl rfl
theorem wd674 : (Jvm.Cond.instanceMethod ({ cls := "SaleRounds$Finder", name := "keep", desc := "(JI)V" } : Jvm.MethodName)) ∈ wsG := tw3 105 rfl rfl
theorem wd675 : (Jvm.Cond.code ({ cls := "SaleRounds$Finder", name := "keep", desc := "(JI)V" } : Jvm.MethodName) prog_3_method_10_code (4 : Nat) (Option.none : Option Jvm.ClassFile.FieldType)) ∈ wsG := tw3 106 rfl rfl
theorem wd676 : (Jvm.Cond.methodLink "SaleRoundsLaw" (68 : Nat) ({ cls := "SaleRounds", name := "round", desc := "(IIIII)I" } : Jvm.MethodName)) ∈ wsG := tw3 107 rfl rfl
theorem wd677 : (Jvm.Cond.instanceMethod ({ cls := "SaleRounds", name := "round", desc := "(IIIII)I" } : Jvm.MethodName)) ∈ wsG := tw3 108 rfl rfl
theorem wd678 : (Jvm.Cond.selects "SaleRounds" ({ cls := "SaleRounds", name := "round", desc := "(IIIII)I" } : Jvm.MethodName) ({ cls := "SaleRounds", name := "round", desc := "(IIIII)I" } : Jvm.MethodName)) ∈ wsG := tw3 109 rfl rfl
theorem wd679 : (Jvm.Cond.code ({ cls := "SaleRounds", name := "round", desc := "(IIIII)I" } : Jvm.MethodName) prog_1_method_12_code (10 : Nat) (Option.some Jvm.ClassFile.FieldType.int)) ∈ wsG := tw3 110 rfl rfl
theorem wd680 : (Jvm.Cond.methodLink "SaleRounds" (207 : Nat) ({ cls := "SaleRounds$Book", name := "carriedBy", desc := "(JI)I" } : Jvm.MethodName)) ∈ wsG := tw3 111 rfl rfl
theorem wd681 : (Jvm.Cond.instanceMethod ({ cls := "SaleRounds$Book", name := "carriedBy", desc := "(JI)I" } : Jvm.MethodName)) ∈ wsG := tw3 112 rfl rfl
theorem wd682 : (Jvm.Cond.selects "SaleRounds$Book" ({ cls := "SaleRounds$Book", name := "carriedBy", desc := "(JI)I" } : Jvm.MethodName) ({ cls := "SaleRounds$Book", name := "carriedBy", desc := "(JI)I" } : Jvm.MethodName)) ∈ wsG := tw3 113 rfl rfl
theorem wd683 : (Jvm.Cond.code ({ cls := "SaleRounds$Book", name := "carriedBy", desc := "(JI)I" } : Jvm.MethodName) prog_2_method_17_code (6 : Nat) (Option.some Jvm.ClassFile.FieldType.int)) ∈ wsG := tw3 114 rfl rfl
theorem wd685 : (Jvm.Cond.static ({ cls := "SaleRounds", name := "saleAt", desc := "(JI)I" } : Jvm.MethodName)) ∈ wsG := tw3 116 rfl rfl
theorem wd686 : (Jvm.Cond.code ({ cls := "SaleRounds", name := "saleAt", desc := "(JI)I" } : Jvm.MethodName) prog_1_method_29_code (3 : Nat) (Option.some Jvm.ClassFile.FieldType.int)) ∈ wsG := tw3 117 rfl rfl
theorem wd687 : (Jvm.Cond.constantLong "SaleRounds" (279 : Nat) (63 : Int64)) ∈ wsG := tw3 118 rfl rfl
theorem wd688 : (Jvm.Cond.methodLink "SaleRounds" (211 : Nat) ({ cls := "SaleRounds$Book", name := "takenBy", desc := "(JIII)I" } : Jvm.MethodName)) ∈ wsG := tw3 119 rfl rfl
theorem wd689 : (Jvm.Cond.instanceMethod ({ cls := "SaleRounds$Book", name := "takenBy", desc := "(JIII)I" } : Jvm.MethodName)) ∈ wsG := tw3 120 rfl rfl
theorem wd690 : (Jvm.Cond.selects "SaleRounds$Book" ({ cls := "SaleRounds$Book", name := "takenBy", desc := "(JIII)I" } : Jvm.MethodName) ({ cls := "SaleRounds$Book", name := "takenBy", desc := "(JIII)I" } : Jvm.MethodName)) ∈ wsG := tw3 121 rfl rfl
theorem wd691 : (Jvm.Cond.code ({ cls := "SaleRounds$Book", name := "takenBy", desc := "(JIII)I" } : Jvm.MethodName) prog_2_method_18_code (10 : Nat) (Option.some Jvm.ClassFile.FieldType.int)) ∈ wsG := tw3 122 rfl rfl
theorem wd692 : (Jvm.Cond.methodLink "SaleRounds$Book" (118 : Nat) ({ cls := "SaleRounds$Book", name := "carriedBy", desc := "(JI)I" } : Jvm.MethodName)) ∈ wsG := tw3 123 rfl rfl
theorem wd693 : (Jvm.Cond.methodLink "SaleRounds" (215 : Nat) ({ cls := "SaleRounds$Book", name := "firmsOf", desc := "(JI)I" } : Jvm.MethodName)) ∈ wsG := tw3 124 rfl rfl
theorem wd694 : (Jvm.Cond.instanceMethod ({ cls := "SaleRounds$Book", name := "firmsOf", desc := "(JI)I" } : Jvm.MethodName)) ∈ wsG := tw3 125 rfl rfl
theorem wd695 : (Jvm.Cond.selects "SaleRounds$Book" ({ cls := "SaleRounds$Book", name := "firmsOf", desc := "(JI)I" } : Jvm.MethodName) ({ cls := "SaleRounds$Book", name := "firmsOf", desc := "(JI)I" } : Jvm.MethodName)) ∈ wsG := tw3 126 rfl rfl
theorem wd696 : (Jvm.Cond.code ({ cls := "SaleRounds$Book", name := "firmsOf", desc := "(JI)I" } : Jvm.MethodName) prog_2_method_16_code (6 : Nat) (Option.some Jvm.ClassFile.FieldType.int)) ∈ wsG := tw3 127 rfl rfl
theorem wd697 : (Jvm.Cond.methodLink "SaleRounds" (218 : Nat) ({ cls := "SaleRounds", name := "saleAt", desc := "(JI)I" } : Jvm.MethodName)) ∈ wsG := tw3 128 rfl rfl
theorem wd698 : (Jvm.Cond.methodLink "SaleRoundsLaw" (74 : Nat) ({ cls := "SaleRounds", name := "judge", desc := "(IIJ)I" } : Jvm.MethodName)) ∈ wsG := tw3 129 rfl rfl
theorem wd699 : (Jvm.Cond.instanceMethod ({ cls := "SaleRounds", name := "judge", desc := "(IIJ)I" } : Jvm.MethodName)) ∈ wsG := tw3 130 rfl rfl
theorem wd700 : (Jvm.Cond.selects "SaleRounds" ({ cls := "SaleRounds", name := "judge", desc := "(IIJ)I" } : Jvm.MethodName) ({ cls := "SaleRounds", name := "judge", desc := "(IIJ)I" } : Jvm.MethodName)) ∈ wsG := tw3 131 rfl rfl
theorem wd701 : (Jvm.Cond.code ({ cls := "SaleRounds", name := "judge", desc := "(IIJ)I" } : Jvm.MethodName) prog_1_method_13_code (6 : Nat) (Option.some Jvm.ClassFile.FieldType.int)) ∈ wsG := tw3 132 rfl rfl
theorem wd702 : (Jvm.Cond.methodLink "SaleRounds" (113 : Nat) ({ cls := "SaleRounds$Sales", name := "has", desc := "(I)Z" } : Jvm.MethodName)) ∈ wsG := tw3 133 rfl rfl
theorem wd703 : (Jvm.Cond.instanceMethod ({ cls := "SaleRounds$Sales", name := "has", desc := "(I)Z" } : Jvm.MethodName)) ∈ wsG := tw3 134 rfl rfl
theorem wd704 : (Jvm.Cond.selects "SaleRounds$Sales" ({ cls := "SaleRounds$Sales", name := "has", desc := "(I)Z" } : Jvm.MethodName) ({ cls := "SaleRounds$Sales", name := "has", desc := "(I)Z" } : Jvm.MethodName)) ∈ wsG := tw3 135 rfl rfl
theorem wd705 : (Jvm.Cond.code ({ cls := "SaleRounds$Sales", name := "has", desc := "(I)Z" } : Jvm.MethodName) prog_6_method_2_code (2 : Nat) (Option.some Jvm.ClassFile.FieldType.boolean)) ∈ wsG := tw3 136 rfl rfl
theorem wd706 : (Jvm.Cond.methodLink "SaleRounds" (221 : Nat) ({ cls := "SaleRounds$Sales", name := "goRound", desc := "(IIJI)Z" } : Jvm.MethodName)) ∈ wsG := tw3 137 rfl rfl
theorem wd707 : (Jvm.Cond.instanceMethod ({ cls := "SaleRounds$Sales", name := "goRound", desc := "(IIJI)Z" } : Jvm.MethodName)) ∈ wsG := tw3 138 rfl rfl
theorem wd708 : (Jvm.Cond.selects "SaleRounds$Sales" ({ cls := "SaleRounds$Sales", name := "goRound", desc := "(IIJI)Z" } : Jvm.MethodName) ({ cls := "SaleRounds$Sales", name := "goRound", desc := "(IIJI)Z" } : Jvm.MethodName)) ∈ wsG := tw3 139 rfl rfl
theorem wd709 : (Jvm.Cond.code ({ cls := "SaleRounds$Sales", name := "goRound", desc := "(IIJI)Z" } : Jvm.MethodName) prog_6_method_4_code (11 : Nat) (Option.some Jvm.ClassFile.FieldType.boolean)) ∈ wsG := tw3 140 rfl rfl
theorem wd711 : (Jvm.Cond.methodLink "SaleRounds$Sales" (44 : Nat) ({ cls := "SaleRounds$Sales", name := "alike", desc := "(III)Z" } : Jvm.MethodName)) ∈ wsG := tw3 142 rfl rfl
theorem wd713 : (Jvm.Cond.instanceMethod ({ cls := "SaleRounds$Sales", name := "alike", desc := "(III)Z" } : Jvm.MethodName)) ∈ wsG := tw3 144 rfl rfl
theorem wd714 : (Jvm.Cond.code ({ cls := "SaleRounds$Sales", name := "alike", desc := "(III)Z" } : Jvm.MethodName) prog_6_method_5_code (4 : Nat) (Option.some Jvm.ClassFile.FieldType.boolean)) ∈ wsG := tw3 145 rfl rfl
theorem wd715 : (Jvm.Cond.methodLink "SaleRoundsLaw" (79 : Nat) ({ cls := "SaleRounds", name := "takes", desc := "(III)J" } : Jvm.MethodName)) ∈ wsG := tw3 146 rfl rfl
theorem wd716 : (Jvm.Cond.instanceMethod ({ cls := "SaleRounds", name := "takes", desc := "(III)J" } : Jvm.MethodName)) ∈ wsG := tw3 147 rfl rfl
theorem wd717 : (Jvm.Cond.selects "SaleRounds" ({ cls := "SaleRounds", name := "takes", desc := "(III)J" } : Jvm.MethodName) ({ cls := "SaleRounds", name := "takes", desc := "(III)J" } : Jvm.MethodName)) ∈ wsG := tw3 148 rfl rfl
theorem wd718 : (Jvm.Cond.code ({ cls := "SaleRounds", name := "takes", desc := "(III)J" } : Jvm.MethodName) prog_1_method_14_code (9 : Nat) (Option.some Jvm.ClassFile.FieldType.long)) ∈ wsG := tw3 149 rfl rfl
theorem wd719 : (Jvm.Cond.methodLink "SaleRoundsLaw" (84 : Nat) ({ cls := "SaleRounds", name := "flow", desc := "(II)I" } : Jvm.MethodName)) ∈ wsG := tw3 150 rfl rfl
theorem wd720 : (Jvm.Cond.instanceMethod ({ cls := "SaleRounds", name := "flow", desc := "(II)I" } : Jvm.MethodName)) ∈ wsG := tw3 151 rfl rfl
theorem wd721 : (Jvm.Cond.selects "SaleRounds" ({ cls := "SaleRounds", name := "flow", desc := "(II)I" } : Jvm.MethodName) ({ cls := "SaleRounds", name := "flow", desc := "(II)I" } : Jvm.MethodName)) ∈ wsG := tw3 152 rfl rfl
theorem wd722 : (Jvm.Cond.code ({ cls := "SaleRounds", name := "flow", desc := "(II)I" } : Jvm.MethodName) prog_1_method_15_code (3 : Nat) (Option.some Jvm.ClassFile.FieldType.int)) ∈ wsG := tw3 153 rfl rfl
theorem wd723 : (Jvm.Cond.methodLink "SaleRounds" (225 : Nat) ({ cls := "SaleRounds$Streams", name := "most", desc := "(LSaleRounds$Sales;III)I" } : Jvm.MethodName)) ∈ wsG := tw3 154 rfl rfl
theorem wd724 : (Jvm.Cond.instanceMethod ({ cls := "SaleRounds$Streams", name := "most", desc := "(LSaleRounds$Sales;III)I" } : Jvm.MethodName)) ∈ wsG := tw3 155 rfl rfl
theorem wd725 : (Jvm.Cond.selects "SaleRounds$Streams" ({ cls := "SaleRounds$Streams", name := "most", desc := "(LSaleRounds$Sales;III)I" } : Jvm.MethodName) ({ cls := "SaleRounds$Streams", name := "most", desc := "(LSaleRounds$Sales;III)I" } : Jvm.MethodName)) ∈ wsG := tw3 156 rfl rfl
theorem wd726 : (Jvm.Cond.code ({ cls := "SaleRounds$Streams", name := "most", desc := "(LSaleRounds$Sales;III)I" } : Jvm.MethodName) prog_7_method_2_code (9 : Nat) (Option.some Jvm.ClassFile.FieldType.int)) ∈ wsG := tw3 157 rfl rfl
theorem wd727 : (Jvm.Cond.methodLink "SaleRounds$Streams" (46 : Nat) ({ cls := "SaleRounds$Streams", name := "load", desc := "(LSaleRounds$Sales;II)V" } : Jvm.MethodName)) ∈ wsG := tw3 158 rfl rfl
theorem wd729 : (Jvm.Cond.instanceMethod ({ cls := "SaleRounds$Streams", name := "load", desc := "(LSaleRounds$Sales;II)V" } : Jvm.MethodName)) ∈ wsG := tw3 160 rfl rfl
theorem wd730 : (Jvm.Cond.code ({ cls := "SaleRounds$Streams", name := "load", desc := "(LSaleRounds$Sales;II)V" } : Jvm.MethodName) prog_7_method_3_code (6 : Nat) (Option.none : Option Jvm.ClassFile.FieldType)) ∈ wsG := tw3 161 rfl rfl
theorem wd731 : (Jvm.Cond.constant "SaleRounds$Streams" (50 : Nat) (39960 : Int32)) ∈ wsG := tw3 162 rfl rfl
theorem wd732 : (Jvm.Cond.methodLink "SaleRounds$Streams" (51 : Nat) ({ cls := "SaleRounds$Streams", name := "seekHome", desc := "()I" } : Jvm.MethodName)) ∈ wsG := tw3 163 rfl rfl
theorem wd734 : (Jvm.Cond.instanceMethod ({ cls := "SaleRounds$Streams", name := "seekHome", desc := "()I" } : Jvm.MethodName)) ∈ wsG := tw3 165 rfl rfl
theorem wd735 : (Jvm.Cond.code ({ cls := "SaleRounds$Streams", name := "seekHome", desc := "()I" } : Jvm.MethodName) prog_7_method_4_code (4 : Nat) (Option.some Jvm.ClassFile.FieldType.int)) ∈ wsG := tw3 166 rfl rfl
theorem wd736 : (Jvm.Cond.methodLink "SaleRounds$Streams" (73 : Nat) ({ cls := "SaleRounds$Streams", name := "visit", desc := "(II)V" } : Jvm.MethodName)) ∈ wsG := tw3 167 rfl rfl
theorem wd738 : (Jvm.Cond.instanceMethod ({ cls := "SaleRounds$Streams", name := "visit", desc := "(II)V" } : Jvm.MethodName)) ∈ wsG := tw3 169 rfl rfl
theorem wd739 : (Jvm.Cond.code ({ cls := "SaleRounds$Streams", name := "visit", desc := "(II)V" } : Jvm.MethodName) prog_7_method_5_code (3 : Nat) (Option.none : Option Jvm.ClassFile.FieldType)) ∈ wsG := tw3 170 rfl rfl
theorem wd740 : (Jvm.Cond.methodLink "SaleRounds$Streams" (76 : Nat) ({ cls := "SaleRounds$Streams", name := "spreadIn", desc := "(I)V" } : Jvm.MethodName)) ∈ wsG := tw3 171 rfl rfl
theorem wd742 : (Jvm.Cond.instanceMethod ({ cls := "SaleRounds$Streams", name := "spreadIn", desc := "(I)V" } : Jvm.MethodName)) ∈ wsG := tw3 173 rfl rfl
theorem wd743 : (Jvm.Cond.code ({ cls := "SaleRounds$Streams", name := "spreadIn", desc := "(I)V" } : Jvm.MethodName) prog_7_method_6_code (3 : Nat) (Option.none : Option Jvm.ClassFile.FieldType)) ∈ wsG := tw3 174 rfl rfl
theorem wd744 : (Jvm.Cond.methodLink "SaleRounds$Streams" (80 : Nat) ({ cls := "SaleRounds$Streams", name := "spreadOut", desc := "(I)V" } : Jvm.MethodName)) ∈ wsG := tw3 175 rfl rfl
theorem wd746 : (Jvm.Cond.instanceMethod ({ cls := "SaleRounds$Streams", name := "spreadOut", desc := "(I)V" } : Jvm.MethodName)) ∈ wsG := tw3 177 rfl rfl
theorem wd747 : (Jvm.Cond.code ({ cls := "SaleRounds$Streams", name := "spreadOut", desc := "(I)V" } : Jvm.MethodName) prog_7_method_7_code (3 : Nat) (Option.none : Option Jvm.ClassFile.FieldType)) ∈ wsG := tw3 178 rfl rfl
theorem wd748 : (Jvm.Cond.methodLink "SaleRounds$Streams" (55 : Nat) ({ cls := "SaleRounds$Streams", name := "narrowest", desc := "(I)I" } : Jvm.MethodName)) ∈ wsG := tw3 179 rfl rfl
theorem wd750 : (Jvm.Cond.instanceMethod ({ cls := "SaleRounds$Streams", name := "narrowest", desc := "(I)I" } : Jvm.MethodName)) ∈ wsG := tw3 181 rfl rfl
theorem wd751 : (Jvm.Cond.code ({ cls := "SaleRounds$Streams", name := "narrowest", desc := "(I)I" } : Jvm.MethodName) prog_7_method_8_code (5 : Nat) (Option.some Jvm.ClassFile.FieldType.int)) ∈ wsG := tw3 182 rfl rfl
theorem wd752 : (Jvm.Cond.methodLink "SaleRounds$Streams" (83 : Nat) ({ cls := "SaleRounds$Streams", name := "space", desc := "(II)I" } : Jvm.MethodName)) ∈ wsG := tw3 183 rfl rfl
theorem wd754 : (Jvm.Cond.instanceMethod ({ cls := "SaleRounds$Streams", name := "space", desc := "(II)I" } : Jvm.MethodName)) ∈ wsG := tw3 185 rfl rfl
theorem wd755 : (Jvm.Cond.code ({ cls := "SaleRounds$Streams", name := "space", desc := "(II)I" } : Jvm.MethodName) prog_7_method_9_code (5 : Nat) (Option.some Jvm.ClassFile.FieldType.int)) ∈ wsG := tw3 186 rfl rfl
theorem wd756 : (Jvm.Cond.methodLink "SaleRounds$Streams" (87 : Nat) ({ cls := "java/lang/Math", name := "min", desc := "(II)I" } : Jvm.MethodName)) ∈ wsG := tw3 187 rfl rfl
theorem wd757 : (Jvm.Cond.methodLink "SaleRounds$Streams" (59 : Nat) ({ cls := "SaleRounds$Streams", name := "send", desc := "(II)V" } : Jvm.MethodName)) ∈ wsG := tw3 188 rfl rfl
theorem wd759 : (Jvm.Cond.instanceMethod ({ cls := "SaleRounds$Streams", name := "send", desc := "(II)V" } : Jvm.MethodName)) ∈ wsG := tw3 190 rfl rfl
theorem wd760 : (Jvm.Cond.code ({ cls := "SaleRounds$Streams", name := "send", desc := "(II)V" } : Jvm.MethodName) prog_7_method_10_code (5 : Nat) (Option.none : Option Jvm.ClassFile.FieldType)) ∈ wsG := tw3 191 rfl rfl
theorem wd761 : (Jvm.Cond.methodLink "SaleRounds$Streams" (92 : Nat) ({ cls := "SaleRounds$Streams", name := "addBetween", desc := "(III)V" } : Jvm.MethodName)) ∈ wsG := tw3 192 rfl rfl
theorem wd763 : (Jvm.Cond.instanceMethod ({ cls := "SaleRounds$Streams", name := "addBetween", desc := "(III)V" } : Jvm.MethodName)) ∈ wsG := tw3 194 rfl rfl
theorem wd764 : (Jvm.Cond.code ({ cls := "SaleRounds$Streams", name := "addBetween", desc := "(III)V" } : Jvm.MethodName) prog_7_method_11_code (6 : Nat) (Option.none : Option Jvm.ClassFile.FieldType)) ∈ wsG := tw3 195 rfl rfl
theorem wd765 : (Jvm.Cond.methodLink "SaleRoundsLaw" (88 : Nat) ({ cls := "SaleRounds", name := "luck", desc := "(IIIII)I" } : Jvm.MethodName)) ∈ wsG := tw3 196 rfl rfl
theorem wd766 : (Jvm.Cond.instanceMethod ({ cls := "SaleRounds", name := "luck", desc := "(IIIII)I" } : Jvm.MethodName)) ∈ wsG := tw3 197 rfl rfl
theorem wd767 : (Jvm.Cond.selects "SaleRounds" ({ cls := "SaleRounds", name := "luck", desc := "(IIIII)I" } : Jvm.MethodName) ({ cls := "SaleRounds", name := "luck", desc := "(IIIII)I" } : Jvm.MethodName)) ∈ wsG := tw3 198 rfl rfl
theorem wd768 : (Jvm.Cond.code ({ cls := "SaleRounds", name := "luck", desc := "(IIIII)I" } : Jvm.MethodName) prog_1_method_16_code (12 : Nat) (Option.some Jvm.ClassFile.FieldType.int)) ∈ wsG := tw3 199 rfl rfl
theorem wd769 : (Jvm.Cond.methodLink "SaleRounds" (229 : Nat) ({ cls := "SaleRounds$Finder", name := "load", desc := "(LSaleRounds$Sales;II)V" } : Jvm.MethodName)) ∈ wsG := tw3 200 rfl rfl
theorem wd770 : (Jvm.Cond.methodLink "SaleRounds" (233 : Nat) ({ cls := "SaleRounds$Finder", name := "shuffle", desc := "(J)J" } : Jvm.MethodName)) ∈ wsG := tw3 201 rfl rfl
theorem wd771 : (Jvm.Cond.instanceMethod ({ cls := "SaleRounds$Finder", name := "shuffle", desc := "(J)J" } : Jvm.MethodName)) ∈ wsG := tw3 202 rfl rfl
theorem wd772 : (Jvm.Cond.selects "SaleRounds$Finder" ({ cls := "SaleRounds$Finder", name := "shuffle", desc := "(J)J" } : Jvm.MethodName) ({ cls := "SaleRounds$Finder", name := "shuffle", desc := "(J)J" } : Jvm.MethodName)) ∈ wsG := tw3 203 rfl rfl
theorem wd773 : (Jvm.Cond.code ({ cls := "SaleRounds$Finder", name := "shuffle", desc := "(J)J" } : Jvm.MethodName) prog_3_method_5_code (8 : Nat) (Option.some Jvm.ClassFile.FieldType.long)) ∈ wsG := tw3 204 rfl rfl
theorem wd774 : (Jvm.Cond.constantLong "SaleRounds$Finder" (86 : Nat) (1103515245 : Int64)) ∈ wsG := tw3 205 rfl rfl
theorem wd775 : (Jvm.Cond.constantLong "SaleRounds$Finder" (88 : Nat) (12345 : Int64)) ∈ wsG := tw3 206 rfl rfl
theorem wd776 : (Jvm.Cond.constantLong "SaleRounds$Finder" (90 : Nat) (2147483647 : Int64)) ∈ wsG := tw3 207 rfl rfl
theorem wd777 : (Jvm.Cond.constantLong "SaleRounds$Finder" (92 : Nat) (65536 : Int64)) ∈ wsG := tw3 208 rfl rfl
theorem wd778 : (Jvm.Cond.methodLink "SaleRounds" (237 : Nat) ({ cls := "SaleRounds$Finder", name := "search", desc := "(II)I" } : Jvm.MethodName)) ∈ wsG := tw3 209 rfl rfl
theorem wd779 : (Jvm.Cond.methodLink "SaleRoundsLaw" (92 : Nat) ({ cls := "SaleRounds", name := "signs", desc := "(IIII)I" } : Jvm.MethodName)) ∈ wsG := tw3 210 rfl rfl
theorem wd780 : (Jvm.Cond.instanceMethod ({ cls := "SaleRounds", name := "signs", desc := "(IIII)I" } : Jvm.MethodName)) ∈ wsG := tw3 211 rfl rfl
theorem wd781 : (Jvm.Cond.selects "SaleRounds" ({ cls := "SaleRounds", name := "signs", desc := "(IIII)I" } : Jvm.MethodName) ({ cls := "SaleRounds", name := "signs", desc := "(IIII)I" } : Jvm.MethodName)) ∈ wsG := tw3 212 rfl rfl
theorem wd782 : (Jvm.Cond.code ({ cls := "SaleRounds", name := "signs", desc := "(IIII)I" } : Jvm.MethodName) prog_1_method_17_code (6 : Nat) (Option.some Jvm.ClassFile.FieldType.int)) ∈ wsG := tw3 213 rfl rfl
theorem wd783 : (Jvm.Cond.methodLink "SaleRounds" (240 : Nat) ({ cls := "SaleRounds", name := "signBits", desc := "(III)I" } : Jvm.MethodName)) ∈ wsG := tw3 214 rfl rfl
theorem wd785 : (Jvm.Cond.instanceMethod ({ cls := "SaleRounds", name := "signBits", desc := "(III)I" } : Jvm.MethodName)) ∈ wsG := tw3 216 rfl rfl
theorem wd786 : (Jvm.Cond.code ({ cls := "SaleRounds", name := "signBits", desc := "(III)I" } : Jvm.MethodName) prog_1_method_31_code (5 : Nat) (Option.some Jvm.ClassFile.FieldType.int)) ∈ wsG := tw3 217 rfl rfl
theorem wd787 : (Jvm.Cond.methodLink "SaleRounds" (284 : Nat) ({ cls := "SaleRounds$Sales", name := "soldBelow", desc := "(I)Z" } : Jvm.MethodName)) ∈ wsG := tw3 218 rfl rfl
theorem wd788 : (Jvm.Cond.instanceMethod ({ cls := "SaleRounds$Sales", name := "soldBelow", desc := "(I)Z" } : Jvm.MethodName)) ∈ wsG := tw3 219 rfl rfl
theorem wd789 : (Jvm.Cond.selects "SaleRounds$Sales" ({ cls := "SaleRounds$Sales", name := "soldBelow", desc := "(I)Z" } : Jvm.MethodName) ({ cls := "SaleRounds$Sales", name := "soldBelow", desc := "(I)Z" } : Jvm.MethodName)) ∈ wsG := tw3 220 rfl rfl
theorem wd790 : (Jvm.Cond.code ({ cls := "SaleRounds$Sales", name := "soldBelow", desc := "(I)Z" } : Jvm.MethodName) prog_6_method_6_code (3 : Nat) (Option.some Jvm.ClassFile.FieldType.boolean)) ∈ wsG := tw3 221 rfl rfl
theorem wd791 : (Jvm.Cond.methodLink "SaleRounds$Sales" (48 : Nat) ({ cls := "SaleRounds$Sales", name := "boughtDearer", desc := "(II)Z" } : Jvm.MethodName)) ∈ wsG := tw3 222 rfl rfl
theorem wd793 : (Jvm.Cond.instanceMethod ({ cls := "SaleRounds$Sales", name := "boughtDearer", desc := "(II)Z" } : Jvm.MethodName)) ∈ wsG := tw3 224 rfl rfl
theorem wd794 : (Jvm.Cond.code ({ cls := "SaleRounds$Sales", name := "boughtDearer", desc := "(II)Z" } : Jvm.MethodName) prog_6_method_7_code (5 : Nat) (Option.some Jvm.ClassFile.FieldType.boolean)) ∈ wsG := tw3 225 rfl rfl
theorem wd795 : (Jvm.Cond.methodLink "SaleRounds" (287 : Nat) ({ cls := "SaleRounds$Sales", name := "buyersFrom", desc := "(I)I" } : Jvm.MethodName)) ∈ wsG := tw3 226 rfl rfl
theorem wd796 : (Jvm.Cond.instanceMethod ({ cls := "SaleRounds$Sales", name := "buyersFrom", desc := "(I)I" } : Jvm.MethodName)) ∈ wsG := tw3 227 rfl rfl
theorem wd797 : (Jvm.Cond.selects "SaleRounds$Sales" ({ cls := "SaleRounds$Sales", name := "buyersFrom", desc := "(I)I" } : Jvm.MethodName) ({ cls := "SaleRounds$Sales", name := "buyersFrom", desc := "(I)I" } : Jvm.MethodName)) ∈ wsG := tw3 228 rfl rfl
theorem wd798 : (Jvm.Cond.code ({ cls := "SaleRounds$Sales", name := "buyersFrom", desc := "(I)I" } : Jvm.MethodName) prog_6_method_8_code (4 : Nat) (Option.some Jvm.ClassFile.FieldType.int)) ∈ wsG := tw3 229 rfl rfl
theorem wd799 : (Jvm.Cond.methodLink "SaleRounds" (290 : Nat) ({ cls := "SaleRounds$Sales", name := "boughtOnlyFrom", desc := "(II)Z" } : Jvm.MethodName)) ∈ wsG := tw3 230 rfl rfl
theorem wd800 : (Jvm.Cond.instanceMethod ({ cls := "SaleRounds$Sales", name := "boughtOnlyFrom", desc := "(II)Z" } : Jvm.MethodName)) ∈ wsG := tw3 231 rfl rfl
theorem wd801 : (Jvm.Cond.selects "SaleRounds$Sales" ({ cls := "SaleRounds$Sales", name := "boughtOnlyFrom", desc := "(II)Z" } : Jvm.MethodName) ({ cls := "SaleRounds$Sales", name := "boughtOnlyFrom", desc := "(II)Z" } : Jvm.MethodName)) ∈ wsG := tw3 232 rfl rfl
theorem wd802 : (Jvm.Cond.code ({ cls := "SaleRounds$Sales", name := "boughtOnlyFrom", desc := "(II)Z" } : Jvm.MethodName) prog_6_method_9_code (5 : Nat) (Option.some Jvm.ClassFile.FieldType.boolean)) ∈ wsG := tw3 233 rfl rfl
theorem wd803 : (Jvm.Cond.methodLink "SaleRounds" (293 : Nat) ({ cls := "SaleRounds", name := "roundsWith", desc := "(II)I" } : Jvm.MethodName)) ∈ wsG := tw3 234 rfl rfl
theorem wd805 : (Jvm.Cond.instanceMethod ({ cls := "SaleRounds", name := "roundsWith", desc := "(II)I" } : Jvm.MethodName)) ∈ wsG := tw3 236 rfl rfl
theorem wd806 : (Jvm.Cond.code ({ cls := "SaleRounds", name := "roundsWith", desc := "(II)I" } : Jvm.MethodName) prog_1_method_32_code (5 : Nat) (Option.some Jvm.ClassFile.FieldType.int)) ∈ wsG := tw3 237 rfl rfl
theorem wd807 : (Jvm.Cond.methodLink "SaleRounds" (296 : Nat) ({ cls := "SaleRounds$Book", name := "partners", desc := "(I)I" } : Jvm.MethodName)) ∈ wsG := tw3 238 rfl rfl
theorem wd808 : (Jvm.Cond.instanceMethod ({ cls := "SaleRounds$Book", name := "partners", desc := "(I)I" } : Jvm.MethodName)) ∈ wsG := tw3 239 rfl rfl
theorem wd809 : (Jvm.Cond.selects "SaleRounds$Book" ({ cls := "SaleRounds$Book", name := "partners", desc := "(I)I" } : Jvm.MethodName) ({ cls := "SaleRounds$Book", name := "partners", desc := "(I)I" } : Jvm.MethodName)) ∈ wsG := tw4 0 rfl rfl
theorem wd810 : (Jvm.Cond.code ({ cls := "SaleRounds$Book", name := "partners", desc := "(I)I" } : Jvm.MethodName) prog_2_method_8_code (4 : Nat) (Option.some Jvm.ClassFile.FieldType.int)) ∈ wsG := tw4 1 rfl rfl
theorem wd811 : (Jvm.Cond.methodLink "SaleRoundsLaw" (97 : Nat) ({ cls := "SaleRounds", name := "knew", desc := "(IIIII)I" } : Jvm.MethodName)) ∈ wsG := tw4 2 rfl rfl
theorem wd812 : (Jvm.Cond.instanceMethod ({ cls := "SaleRounds", name := "knew", desc := "(IIIII)I" } : Jvm.MethodName)) ∈ wsG := tw4 3 rfl rfl
theorem wd813 : (Jvm.Cond.selects "SaleRounds" ({ cls := "SaleRounds", name := "knew", desc := "(IIIII)I" } : Jvm.MethodName) ({ cls := "SaleRounds", name := "knew", desc := "(IIIII)I" } : Jvm.MethodName)) ∈ wsG := tw4 4 rfl rfl
theorem wd814 : (Jvm.Cond.code ({ cls := "SaleRounds", name := "knew", desc := "(IIIII)I" } : Jvm.MethodName) prog_1_method_18_code (12 : Nat) (Option.some Jvm.ClassFile.FieldType.int)) ∈ wsG := tw4 5 rfl rfl
theorem wd815 : (Jvm.Cond.methodLink "SaleRoundsLaw" (101 : Nat) ({ cls := "SaleRounds", name := "hands", desc := "()I" } : Jvm.MethodName)) ∈ wsG := tw4 6 rfl rfl
theorem wd816 : (Jvm.Cond.instanceMethod ({ cls := "SaleRounds", name := "hands", desc := "()I" } : Jvm.MethodName)) ∈ wsG := tw4 7 rfl rfl
theorem wd817 : (Jvm.Cond.selects "SaleRounds" ({ cls := "SaleRounds", name := "hands", desc := "()I" } : Jvm.MethodName) ({ cls := "SaleRounds", name := "hands", desc := "()I" } : Jvm.MethodName)) ∈ wsG := tw4 8 rfl rfl
theorem wd818 : (Jvm.Cond.code ({ cls := "SaleRounds", name := "hands", desc := "()I" } : Jvm.MethodName) prog_1_method_19_code (3 : Nat) (Option.some Jvm.ClassFile.FieldType.int)) ∈ wsG := tw4 9 rfl rfl
theorem wd819 : (Jvm.Cond.methodLink "SaleRoundsLaw" (105 : Nat) ({ cls := "SaleRounds", name := "lacking", desc := "(I)I" } : Jvm.MethodName)) ∈ wsG := tw4 10 rfl rfl
theorem wd820 : (Jvm.Cond.instanceMethod ({ cls := "SaleRounds", name := "lacking", desc := "(I)I" } : Jvm.MethodName)) ∈ wsG := tw4 11 rfl rfl
theorem wd821 : (Jvm.Cond.selects "SaleRounds" ({ cls := "SaleRounds", name := "lacking", desc := "(I)I" } : Jvm.MethodName) ({ cls := "SaleRounds", name := "lacking", desc := "(I)I" } : Jvm.MethodName)) ∈ wsG := tw4 12 rfl rfl
theorem wd822 : (Jvm.Cond.code ({ cls := "SaleRounds", name := "lacking", desc := "(I)I" } : Jvm.MethodName) prog_1_method_20_code (2 : Nat) (Option.some Jvm.ClassFile.FieldType.int)) ∈ wsG := tw4 13 rfl rfl
theorem wd823 : (Jvm.Cond.methodLink "SaleRounds" (244 : Nat) ({ cls := "SaleRounds$Sales", name := "gapsOf", desc := "(I)I" } : Jvm.MethodName)) ∈ wsG := tw4 14 rfl rfl
theorem wd824 : (Jvm.Cond.instanceMethod ({ cls := "SaleRounds$Sales", name := "gapsOf", desc := "(I)I" } : Jvm.MethodName)) ∈ wsG := tw4 15 rfl rfl
theorem wd825 : (Jvm.Cond.selects "SaleRounds$Sales" ({ cls := "SaleRounds$Sales", name := "gapsOf", desc := "(I)I" } : Jvm.MethodName) ({ cls := "SaleRounds$Sales", name := "gapsOf", desc := "(I)I" } : Jvm.MethodName)) ∈ wsG := tw4 16 rfl rfl
theorem wd826 : (Jvm.Cond.code ({ cls := "SaleRounds$Sales", name := "gapsOf", desc := "(I)I" } : Jvm.MethodName) prog_6_method_10_code (6 : Nat) (Option.some Jvm.ClassFile.FieldType.int)) ∈ wsG := tw4 17 rfl rfl
theorem wd827 : (Jvm.Cond.methodLink "SaleRounds$Sales" (52 : Nat) ({ cls := "SaleRounds$Sales", name := "nextOf", desc := "(II)I" } : Jvm.MethodName)) ∈ wsG := tw4 18 rfl rfl
theorem wd829 : (Jvm.Cond.instanceMethod ({ cls := "SaleRounds$Sales", name := "nextOf", desc := "(II)I" } : Jvm.MethodName)) ∈ wsG := tw4 20 rfl rfl
theorem wd830 : (Jvm.Cond.code ({ cls := "SaleRounds$Sales", name := "nextOf", desc := "(II)I" } : Jvm.MethodName) prog_6_method_11_code (6 : Nat) (Option.some Jvm.ClassFile.FieldType.int)) ∈ wsG := tw4 21 rfl rfl
theorem wd831 : (Jvm.Cond.methodLink "SaleRounds$Sales" (56 : Nat) ({ cls := "SaleRounds$Sales", name := "isBefore", desc := "(II)Z" } : Jvm.MethodName)) ∈ wsG := tw4 22 rfl rfl
theorem wd833 : (Jvm.Cond.instanceMethod ({ cls := "SaleRounds$Sales", name := "isBefore", desc := "(II)Z" } : Jvm.MethodName)) ∈ wsG := tw4 24 rfl rfl
theorem wd834 : (Jvm.Cond.code ({ cls := "SaleRounds$Sales", name := "isBefore", desc := "(II)Z" } : Jvm.MethodName) prog_6_method_12_code (3 : Nat) (Option.some Jvm.ClassFile.FieldType.boolean)) ∈ wsG := tw4 25 rfl rfl
theorem wd835 : (Jvm.Cond.methodLink "SaleRoundsLaw" (109 : Nat) ({ cls := "SaleRounds", name := "stop", desc := "(I)I" } : Jvm.MethodName)) ∈ wsG := tw4 26 rfl rfl
theorem wd836 : (Jvm.Cond.instanceMethod ({ cls := "SaleRounds", name := "stop", desc := "(I)I" } : Jvm.MethodName)) ∈ wsG := tw4 27 rfl rfl
theorem wd837 : (Jvm.Cond.selects "SaleRounds" ({ cls := "SaleRounds", name := "stop", desc := "(I)I" } : Jvm.MethodName) ({ cls := "SaleRounds", name := "stop", desc := "(I)I" } : Jvm.MethodName)) ∈ wsG := tw4 28 rfl rfl
theorem wd838 : (Jvm.Cond.code ({ cls := "SaleRounds", name := "stop", desc := "(I)I" } : Jvm.MethodName) prog_1_method_21_code (2 : Nat) (Option.some Jvm.ClassFile.FieldType.int)) ∈ wsG := tw4 29 rfl rfl
theorem wd839 : (Jvm.Cond.methodLink "SaleRounds" (247 : Nat) ({ cls := "SaleRounds", name := "areBits", desc := "(II)Z" } : Jvm.MethodName)) ∈ wsG := tw4 30 rfl rfl
theorem wd840 : (Jvm.Cond.static ({ cls := "SaleRounds", name := "areBits", desc := "(II)Z" } : Jvm.MethodName)) ∈ wsG := tw4 31 rfl rfl
theorem wd841 : (Jvm.Cond.code ({ cls := "SaleRounds", name := "areBits", desc := "(II)Z" } : Jvm.MethodName) prog_1_method_28_code (2 : Nat) (Option.some Jvm.ClassFile.FieldType.boolean)) ∈ wsG := tw4 32 rfl rfl
theorem wd842 : (Jvm.Cond.methodLink "SaleRounds" (251 : Nat) ({ cls := "java/lang/Integer", name := "bitCount", desc := "(I)I" } : Jvm.MethodName)) ∈ wsG := tw4 33 rfl rfl
theorem wd843 : (Jvm.Cond.static ({ cls := "java/lang/Integer", name := "bitCount", desc := "(I)I" } : Jvm.MethodName)) ∈ wsG := tw4 34 rfl rfl
theorem wd844 : (Jvm.Cond.code ({ cls := "java/lang/Integer", name := "bitCount", desc := "(I)I" } : Jvm.MethodName) prog_15_method_49_code (1 : Nat) (Option.some Jvm.ClassFile.FieldType.int)) ∈ wsG := tw4 35 rfl rfl
theorem wd845 : (Jvm.Cond.constant "java/lang/Integer" (265 : Nat) (1431655765 : Int32)) ∈ wsG := tw4 36 rfl rfl
theorem wd846 : (Jvm.Cond.constant "java/lang/Integer" (266 : Nat) (858993459 : Int32)) ∈ wsG := tw4 37 rfl rfl
theorem wd847 : (Jvm.Cond.constant "java/lang/Integer" (267 : Nat) (252645135 : Int32)) ∈ wsG := tw4 38 rfl rfl
theorem wd848 : (Jvm.Cond.methodLink "SaleRoundsLaw" (113 : Nat) ({ cls := "SaleRounds", name := "fewest", desc := "(IIIJ)I" } : Jvm.MethodName)) ∈ wsG := tw4 39 rfl rfl
theorem wd849 : (Jvm.Cond.instanceMethod ({ cls := "SaleRounds", name := "fewest", desc := "(IIIJ)I" } : Jvm.MethodName)) ∈ wsG := tw4 40 rfl rfl
theorem wd850 : (Jvm.Cond.selects "SaleRounds" ({ cls := "SaleRounds", name := "fewest", desc := "(IIIJ)I" } : Jvm.MethodName) ({ cls := "SaleRounds", name := "fewest", desc := "(IIIJ)I" } : Jvm.MethodName)) ∈ wsG := tw4 41 rfl rfl
theorem wd851 : (Jvm.Cond.code ({ cls := "SaleRounds", name := "fewest", desc := "(IIIJ)I" } : Jvm.MethodName) prog_1_method_22_code (11 : Nat) (Option.some Jvm.ClassFile.FieldType.int)) ∈ wsG := tw4 42 rfl rfl
theorem wd852 : (Jvm.Cond.methodLink "SaleRounds" (254 : Nat) ({ cls := "SaleRounds", name := "keepWorthy", desc := "(I)I" } : Jvm.MethodName)) ∈ wsG := tw4 43 rfl rfl
theorem wd854 : (Jvm.Cond.instanceMethod ({ cls := "SaleRounds", name := "keepWorthy", desc := "(I)I" } : Jvm.MethodName)) ∈ wsG := tw4 45 rfl rfl
theorem wd855 : (Jvm.Cond.code ({ cls := "SaleRounds", name := "keepWorthy", desc := "(I)I" } : Jvm.MethodName) prog_1_method_33_code (6 : Nat) (Option.some Jvm.ClassFile.FieldType.int)) ∈ wsG := tw4 46 rfl rfl
theorem wd856 : (Jvm.Cond.methodLink "SaleRounds" (257 : Nat) ({ cls := "SaleRounds", name := "leftIsAtMost", desc := "(IIJ)Z" } : Jvm.MethodName)) ∈ wsG := tw4 47 rfl rfl
theorem wd858 : (Jvm.Cond.instanceMethod ({ cls := "SaleRounds", name := "leftIsAtMost", desc := "(IIJ)Z" } : Jvm.MethodName)) ∈ wsG := tw4 49 rfl rfl
theorem wd859 : (Jvm.Cond.code ({ cls := "SaleRounds", name := "leftIsAtMost", desc := "(IIJ)Z" } : Jvm.MethodName) prog_1_method_34_code (8 : Nat) (Option.some Jvm.ClassFile.FieldType.boolean)) ∈ wsG := tw4 50 rfl rfl
theorem wd860 : (Jvm.Cond.methodLink "SaleRoundsLaw" (118 : Nat) ({ cls := "SaleRounds", name := "rule", desc := "(I)I" } : Jvm.MethodName)) ∈ wsG := tw4 51 rfl rfl
theorem wd861 : (Jvm.Cond.instanceMethod ({ cls := "SaleRounds", name := "rule", desc := "(I)I" } : Jvm.MethodName)) ∈ wsG := tw4 52 rfl rfl
theorem wd862 : (Jvm.Cond.selects "SaleRounds" ({ cls := "SaleRounds", name := "rule", desc := "(I)I" } : Jvm.MethodName) ({ cls := "SaleRounds", name := "rule", desc := "(I)I" } : Jvm.MethodName)) ∈ wsG := tw4 53 rfl rfl
theorem wd863 : (Jvm.Cond.code ({ cls := "SaleRounds", name := "rule", desc := "(I)I" } : Jvm.MethodName) prog_1_method_23_code (2 : Nat) (Option.some Jvm.ClassFile.FieldType.int)) ∈ wsG := tw4 54 rfl rfl
theorem wd864 : (Jvm.Cond.methodLink "SaleRoundsLaw" (122 : Nat) ({ cls := "SaleRounds", name := "burden", desc := "(I)I" } : Jvm.MethodName)) ∈ wsG := tw4 55 rfl rfl
theorem wd865 : (Jvm.Cond.instanceMethod ({ cls := "SaleRounds", name := "burden", desc := "(I)I" } : Jvm.MethodName)) ∈ wsG := tw4 56 rfl rfl
theorem wd866 : (Jvm.Cond.selects "SaleRounds" ({ cls := "SaleRounds", name := "burden", desc := "(I)I" } : Jvm.MethodName) ({ cls := "SaleRounds", name := "burden", desc := "(I)I" } : Jvm.MethodName)) ∈ wsG := tw4 57 rfl rfl
theorem wd867 : (Jvm.Cond.code ({ cls := "SaleRounds", name := "burden", desc := "(I)I" } : Jvm.MethodName) prog_1_method_24_code (2 : Nat) (Option.some Jvm.ClassFile.FieldType.int)) ∈ wsG := tw4 58 rfl rfl
theorem wd868 : (Jvm.Cond.methodLink "SaleRounds" (261 : Nat) ({ cls := "SaleRounds$Book", name := "honestSales", desc := "(II)I" } : Jvm.MethodName)) ∈ wsG := tw4 59 rfl rfl
theorem wd869 : (Jvm.Cond.instanceMethod ({ cls := "SaleRounds$Book", name := "honestSales", desc := "(II)I" } : Jvm.MethodName)) ∈ wsG := tw4 60 rfl rfl
theorem wd870 : (Jvm.Cond.selects "SaleRounds$Book" ({ cls := "SaleRounds$Book", name := "honestSales", desc := "(II)I" } : Jvm.MethodName) ({ cls := "SaleRounds$Book", name := "honestSales", desc := "(II)I" } : Jvm.MethodName)) ∈ wsG := tw4 61 rfl rfl
theorem wd871 : (Jvm.Cond.code ({ cls := "SaleRounds$Book", name := "honestSales", desc := "(II)I" } : Jvm.MethodName) prog_2_method_15_code (6 : Nat) (Option.some Jvm.ClassFile.FieldType.int)) ∈ wsG := tw4 62 rfl rfl
theorem wd872 : (Jvm.Cond.methodLink "SaleRounds$Book" (111 : Nat) ({ cls := "SaleRounds$Book", name := "firmsIn", desc := "(I)I" } : Jvm.MethodName)) ∈ wsG := tw4 63 rfl rfl
theorem wd873 : (Jvm.Cond.instanceMethod ({ cls := "SaleRounds$Book", name := "firmsIn", desc := "(I)I" } : Jvm.MethodName)) ∈ wsG := tw4 64 rfl rfl
theorem wd874 : (Jvm.Cond.selects "SaleRounds$Book" ({ cls := "SaleRounds$Book", name := "firmsIn", desc := "(I)I" } : Jvm.MethodName) ({ cls := "SaleRounds$Book", name := "firmsIn", desc := "(I)I" } : Jvm.MethodName)) ∈ wsG := tw4 65 rfl rfl
theorem wd875 : (Jvm.Cond.code ({ cls := "SaleRounds$Book", name := "firmsIn", desc := "(I)I" } : Jvm.MethodName) prog_2_method_9_code (4 : Nat) (Option.some Jvm.ClassFile.FieldType.int)) ∈ wsG := tw4 66 rfl rfl
theorem wd876 : (Jvm.Cond.methodLink "SaleRoundsLaw" (126 : Nat) ({ cls := "SaleRounds", name := "starve", desc := "(IIIII)J" } : Jvm.MethodName)) ∈ wsG := tw4 67 rfl rfl
theorem wd877 : (Jvm.Cond.instanceMethod ({ cls := "SaleRounds", name := "starve", desc := "(IIIII)J" } : Jvm.MethodName)) ∈ wsG := tw4 68 rfl rfl
theorem wd878 : (Jvm.Cond.selects "SaleRounds" ({ cls := "SaleRounds", name := "starve", desc := "(IIIII)J" } : Jvm.MethodName) ({ cls := "SaleRounds", name := "starve", desc := "(IIIII)J" } : Jvm.MethodName)) ∈ wsG := tw4 69 rfl rfl
theorem wd879 : (Jvm.Cond.code ({ cls := "SaleRounds", name := "starve", desc := "(IIIII)J" } : Jvm.MethodName) prog_1_method_25_code (8 : Nat) (Option.some Jvm.ClassFile.FieldType.long)) ∈ wsG := tw4 70 rfl rfl
theorem wd880 : (Jvm.Cond.constantLong "SaleRounds" (264 : Nat) (-1 : Int64)) ∈ wsG := tw4 71 rfl rfl
theorem wd881 : (Jvm.Cond.methodLink "SaleRounds" (266 : Nat) ({ cls := "SaleRounds", name := "weighLands", desc := "(I)V" } : Jvm.MethodName)) ∈ wsG := tw4 72 rfl rfl
theorem wd883 : (Jvm.Cond.instanceMethod ({ cls := "SaleRounds", name := "weighLands", desc := "(I)V" } : Jvm.MethodName)) ∈ wsG := tw4 74 rfl rfl
theorem wd884 : (Jvm.Cond.code ({ cls := "SaleRounds", name := "weighLands", desc := "(I)V" } : Jvm.MethodName) prog_1_method_35_code (6 : Nat) (Option.none : Option Jvm.ClassFile.FieldType)) ∈ wsG := tw4 75 rfl rfl
theorem wd885 : (Jvm.Cond.methodLink "SaleRounds" (299 : Nat) ({ cls := "SaleRounds$Book", name := "firmsIn", desc := "(I)I" } : Jvm.MethodName)) ∈ wsG := tw4 76 rfl rfl
theorem wd886 : (Jvm.Cond.methodLink "SaleRounds" (269 : Nat) ({ cls := "SaleRounds", name := "bestLands", desc := "(I)I" } : Jvm.MethodName)) ∈ wsG := tw4 77 rfl rfl
theorem wd888 : (Jvm.Cond.instanceMethod ({ cls := "SaleRounds", name := "bestLands", desc := "(I)I" } : Jvm.MethodName)) ∈ wsG := tw4 79 rfl rfl
theorem wd889 : (Jvm.Cond.code ({ cls := "SaleRounds", name := "bestLands", desc := "(I)I" } : Jvm.MethodName) prog_1_method_36_code (10 : Nat) (Option.some Jvm.ClassFile.FieldType.int)) ∈ wsG := tw4 80 rfl rfl
theorem wd890 : (Jvm.Cond.methodLink "SaleRounds" (272 : Nat) ({ cls := "SaleRounds", name := "takesOutside", desc := "(I)J" } : Jvm.MethodName)) ∈ wsG := tw4 81 rfl rfl
theorem wd892 : (Jvm.Cond.instanceMethod ({ cls := "SaleRounds", name := "takesOutside", desc := "(I)J" } : Jvm.MethodName)) ∈ wsG := tw4 83 rfl rfl
theorem wd893 : (Jvm.Cond.code ({ cls := "SaleRounds", name := "takesOutside", desc := "(I)J" } : Jvm.MethodName) prog_1_method_37_code (5 : Nat) (Option.some Jvm.ClassFile.FieldType.long)) ∈ wsG := tw4 84 rfl rfl
theorem wd894 : (Jvm.Cond.methodLink "SaleRounds" (276 : Nat) ({ cls := "SaleRounds", name := "burdenInside", desc := "(I)I" } : Jvm.MethodName)) ∈ wsG := tw4 85 rfl rfl
theorem wd896 : (Jvm.Cond.instanceMethod ({ cls := "SaleRounds", name := "burdenInside", desc := "(I)I" } : Jvm.MethodName)) ∈ wsG := tw4 87 rfl rfl
theorem wd897 : (Jvm.Cond.code ({ cls := "SaleRounds", name := "burdenInside", desc := "(I)I" } : Jvm.MethodName) prog_1_method_38_code (4 : Nat) (Option.some Jvm.ClassFile.FieldType.int)) ∈ wsG := tw4 88 rfl rfl
theorem wd898 : (Jvm.Cond.methodLink "SaleRoundsLaw" (131 : Nat) ({ cls := "SaleRounds", name := "count", desc := "(I)I" } : Jvm.MethodName)) ∈ wsG := tw4 89 rfl rfl
theorem wd899 : (Jvm.Cond.instanceMethod ({ cls := "SaleRounds", name := "count", desc := "(I)I" } : Jvm.MethodName)) ∈ wsG := tw4 90 rfl rfl
theorem wd900 : (Jvm.Cond.selects "SaleRounds" ({ cls := "SaleRounds", name := "count", desc := "(I)I" } : Jvm.MethodName) ({ cls := "SaleRounds", name := "count", desc := "(I)I" } : Jvm.MethodName)) ∈ wsG := tw4 91 rfl rfl
theorem wd901 : (Jvm.Cond.code ({ cls := "SaleRounds", name := "count", desc := "(I)I" } : Jvm.MethodName) prog_1_method_26_code (2 : Nat) (Option.some Jvm.ClassFile.FieldType.int)) ∈ wsG := tw4 92 rfl rfl
theorem wd910 : (Jvm.Cond.code ({ cls := "SaleRounds", name := "look", desc := "(II)I" } : Jvm.MethodName) prog_1_method_6_code (4 : Nat) (Option.some Jvm.ClassFile.FieldType.int)) ∈ wsG := tw4 101 rfl rfl
theorem wd977 : (Jvm.Cond.methodLink "SaleRounds" (146 : Nat) ({ cls := "SaleRounds$Book", name := "taxOf", desc := "(II)I" } : Jvm.MethodName)) ∈ wsG := tw4 168 rfl rfl
theorem wd1000 : (Jvm.Cond.fieldLink "SaleRoundsModel" (102 : Nat) "SaleRoundsModel" "thrown" "I") ∈ wsG := tw4 191 rfl rfl
theorem wd1001 : (Jvm.Cond.fieldLink "SaleRoundsModel" (9 : Nat) "SaleRoundsModel" "tape" "[I") ∈ wsG := tw4 192 rfl rfl
theorem wd1002 : (Jvm.Cond.fieldLink "SaleRoundsModel" (105 : Nat) "SaleRoundsModel" "taped" "I") ∈ wsG := tw4 193 rfl rfl
theorem wd1003 : (Jvm.Cond.fieldLink "SaleRoundsModel" (217 : Nat) "SaleRoundsModel" "lands" "I") ∈ wsG := tw4 194 rfl rfl
theorem wd1004 : (Jvm.Cond.fieldLink "SaleRoundsModel" (220 : Nat) "SaleRoundsModel" "goods" "I") ∈ wsG := tw4 195 rfl rfl
theorem wd1005 : (Jvm.Cond.fieldLink "SaleRoundsModel" (223 : Nat) "SaleRoundsModel" "firms" "I") ∈ wsG := tw4 196 rfl rfl
theorem wd1006 : (Jvm.Cond.fieldLink "SaleRoundsModel" (226 : Nat) "SaleRoundsModel" "sales" "I") ∈ wsG := tw4 197 rfl rfl
theorem wd1007 : (Jvm.Cond.fieldLink "SaleRoundsModel" (229 : Nat) "SaleRoundsModel" "booked" "I") ∈ wsG := tw4 198 rfl rfl
theorem wd1008 : (Jvm.Cond.fieldLink "SaleRoundsModel" (15 : Nat) "SaleRoundsModel" "landName" "[I") ∈ wsG := tw4 199 rfl rfl
theorem wd1009 : (Jvm.Cond.fieldLink "SaleRoundsModel" (18 : Nat) "SaleRoundsModel" "tax" "[I") ∈ wsG := tw4 200 rfl rfl
theorem wd1010 : (Jvm.Cond.fieldLink "SaleRoundsModel" (21 : Nat) "SaleRoundsModel" "goodName" "[I") ∈ wsG := tw4 201 rfl rfl
theorem wd1011 : (Jvm.Cond.fieldLink "SaleRoundsModel" (24 : Nat) "SaleRoundsModel" "firmName" "[I") ∈ wsG := tw4 202 rfl rfl
theorem wd1012 : (Jvm.Cond.fieldLink "SaleRoundsModel" (27 : Nat) "SaleRoundsModel" "landOf" "[I") ∈ wsG := tw4 203 rfl rfl
theorem wd1013 : (Jvm.Cond.fieldLink "SaleRoundsModel" (30 : Nat) "SaleRoundsModel" "since" "[I") ∈ wsG := tw4 204 rfl rfl
theorem wd1014 : (Jvm.Cond.fieldLink "SaleRoundsModel" (33 : Nat) "SaleRoundsModel" "hand" "[I") ∈ wsG := tw4 205 rfl rfl
theorem wd1015 : (Jvm.Cond.fieldLink "SaleRoundsModel" (36 : Nat) "SaleRoundsModel" "room" "[I") ∈ wsG := tw4 206 rfl rfl
theorem wd1016 : (Jvm.Cond.fieldLink "SaleRoundsModel" (39 : Nat) "SaleRoundsModel" "paid" "[I") ∈ wsG := tw4 207 rfl rfl
theorem wd1017 : (Jvm.Cond.fieldLink "SaleRoundsModel" (42 : Nat) "SaleRoundsModel" "isPaid" "[Z") ∈ wsG := tw4 208 rfl rfl
theorem wd1018 : (Jvm.Cond.fieldLink "SaleRoundsModel" (46 : Nat) "SaleRoundsModel" "from" "[I") ∈ wsG := tw4 209 rfl rfl
theorem wd1019 : (Jvm.Cond.fieldLink "SaleRoundsModel" (49 : Nat) "SaleRoundsModel" "to" "[I") ∈ wsG := tw4 210 rfl rfl
theorem wd1020 : (Jvm.Cond.fieldLink "SaleRoundsModel" (52 : Nat) "SaleRoundsModel" "number" "[I") ∈ wsG := tw4 211 rfl rfl
theorem wd1021 : (Jvm.Cond.fieldLink "SaleRoundsModel" (55 : Nat) "SaleRoundsModel" "good" "[I") ∈ wsG := tw4 212 rfl rfl
theorem wd1022 : (Jvm.Cond.fieldLink "SaleRoundsModel" (58 : Nat) "SaleRoundsModel" "price" "[I") ∈ wsG := tw4 213 rfl rfl
theorem wd1023 : (Jvm.Cond.fieldLink "SaleRoundsModel" (61 : Nat) "SaleRoundsModel" "day" "[I") ∈ wsG := tw4 214 rfl rfl
theorem wd1024 : (Jvm.Cond.fieldLink "SaleRoundsModel" (64 : Nat) "SaleRoundsModel" "mark" "[I") ∈ wsG := tw4 215 rfl rfl
theorem wd1025 : (Jvm.Cond.fieldLink "SaleRoundsModel" (169 : Nat) "SaleRoundsModel" "landsNew" "I") ∈ wsG := tw4 216 rfl rfl
theorem wd1026 : (Jvm.Cond.fieldLink "SaleRoundsModel" (172 : Nat) "SaleRoundsModel" "goodsNew" "I") ∈ wsG := tw4 217 rfl rfl
theorem wd1027 : (Jvm.Cond.fieldLink "SaleRoundsModel" (175 : Nat) "SaleRoundsModel" "firmsNew" "I") ∈ wsG := tw4 218 rfl rfl
theorem wd1028 : (Jvm.Cond.fieldLink "SaleRoundsModel" (178 : Nat) "SaleRoundsModel" "salesNew" "I") ∈ wsG := tw4 219 rfl rfl
theorem wd1029 : (Jvm.Cond.fieldLink "SaleRoundsModel" (197 : Nat) "SaleRoundsModel" "lines" "I") ∈ wsG := tw4 220 rfl rfl
theorem wd1030 : (Jvm.Cond.fieldLink "SaleRoundsModel" (111 : Nat) "SaleRoundsModel" "size" "I") ∈ wsG := tw4 221 rfl rfl
theorem wd1031 : (Jvm.Cond.fieldLink "SaleRoundsModel" (108 : Nat) "SaleRoundsModel" "at" "I") ∈ wsG := tw4 222 rfl rfl
theorem wd1032 : (Jvm.Cond.fieldLink "SaleRoundsModel" (118 : Nat) "SaleRoundsModel" "place" "I") ∈ wsG := tw4 223 rfl rfl
theorem wd1033 : (Jvm.Cond.fieldLink "SaleRoundsModel" (121 : Nat) "SaleRoundsModel" "sort" "I") ∈ wsG := tw4 224 rfl rfl
theorem wd1034 : (Jvm.Cond.fieldLink "SaleRoundsModel" (131 : Nat) "SaleRoundsModel" "value" "I") ∈ wsG := tw4 225 rfl rfl
theorem wd1035 : (Jvm.Cond.fieldLink "SaleRoundsModel" (152 : Nat) "SaleRoundsModel" "fault" "I") ∈ wsG := tw4 226 rfl rfl
theorem wd1036 : (Jvm.Cond.fieldLink "SaleRoundsModel" (155 : Nat) "SaleRoundsModel" "faultPlace" "I") ∈ wsG := tw4 227 rfl rfl
theorem wd1037 : (Jvm.Cond.fieldLink "SaleRoundsModel" (211 : Nat) "SaleRoundsModel" "lastFault" "I") ∈ wsG := tw4 228 rfl rfl
theorem wd1038 : (Jvm.Cond.fieldLink "SaleRoundsModel" (67 : Nat) "SaleRoundsModel" "lastPlace" "I") ∈ wsG := tw4 229 rfl rfl
theorem wd1039 : (Jvm.Cond.fieldLink "SaleRoundsModel" (232 : Nat) "SaleRoundsModel" "stopped" "I") ∈ wsG := tw4 230 rfl rfl
theorem wd1040 : (Jvm.Cond.fieldLink "SaleRoundsModel" (235 : Nat) "SaleRoundsModel" "ruled" "I") ∈ wsG := tw4 231 rfl rfl
theorem wd1041 : (Jvm.Cond.fieldLink "SaleRoundsModel" (71 : Nat) "SaleRoundsModel" "least" "[I") ∈ wsG := tw4 232 rfl rfl
theorem wd1042 : (Jvm.Cond.fieldLink "SaleRoundsModel" (276 : Nat) "SaleRoundsModel" "rounds" "I") ∈ wsG := tw4 233 rfl rfl
theorem wd1043 : (Jvm.Cond.fieldLink "SaleRoundsModel" (74 : Nat) "SaleRoundsModel" "rowSale" "[I") ∈ wsG := tw4 234 rfl rfl
theorem wd1044 : (Jvm.Cond.fieldLink "SaleRoundsModel" (77 : Nat) "SaleRoundsModel" "rowMany" "[I") ∈ wsG := tw4 235 rfl rfl
theorem wd1045 : (Jvm.Cond.fieldLink "SaleRoundsModel" (80 : Nat) "SaleRoundsModel" "row" "[I") ∈ wsG := tw4 236 rfl rfl
theorem wd1046 : (Jvm.Cond.fieldLink "SaleRoundsModel" (83 : Nat) "SaleRoundsModel" "goes" "[I") ∈ wsG := tw4 237 rfl rfl
theorem wd1047 : (Jvm.Cond.fieldLink "SaleRoundsModel" (272 : Nat) "SaleRoundsModel" "isSpent" "Z") ∈ wsG := tw4 238 rfl rfl
theorem wd1048 : (Jvm.Cond.fieldLink "SaleRoundsModel" (269 : Nat) "SaleRoundsModel" "byWay" "I") ∈ wsG := tw4 239 rfl rfl
theorem wd1049 : (Jvm.Cond.fieldLink "SaleRoundsModel" (279 : Nat) "SaleRoundsModel" "most" "I") ∈ wsG := tw5 0 rfl rfl
theorem wd1050 : (Jvm.Cond.fieldLink "SaleRoundsModel" (285 : Nat) "SaleRoundsModel" "within" "I") ∈ wsG := tw5 1 rfl rfl
theorem wd1051 : (Jvm.Cond.fieldLink "SaleRoundsModel" (86 : Nat) "SaleRoundsModel" "left" "[I") ∈ wsG := tw5 2 rfl rfl
theorem wd1052 : (Jvm.Cond.fieldLink "SaleRoundsModel" (89 : Nat) "SaleRoundsModel" "cameBy" "[I") ∈ wsG := tw5 3 rfl rfl
theorem wd1053 : (Jvm.Cond.fieldLink "SaleRoundsModel" (92 : Nat) "SaleRoundsModel" "line" "[I") ∈ wsG := tw5 4 rfl rfl
theorem wd1054 : (Jvm.Cond.fieldLink "SaleRoundsModel" (95 : Nat) "SaleRoundsModel" "roundTakes" "[J") ∈ wsG := tw5 5 rfl rfl
theorem wd1055 : (Jvm.Cond.fieldLink "SaleRoundsModel" (99 : Nat) "SaleRoundsModel" "roundFirms" "[I") ∈ wsG := tw5 6 rfl rfl
theorem wd1169 : (Jvm.Cond.methodLink "SaleRoundsLaw" (25 : Nat) ({ cls := "SaleRoundsModel", name := "feed", desc := "(IIIII)I" } : Jvm.MethodName)) ∈ wsG := tw5 120 rfl rfl
theorem wd1170 : (Jvm.Cond.instanceMethod ({ cls := "SaleRoundsModel", name := "feed", desc := "(IIIII)I" } : Jvm.MethodName)) ∈ wsG := tw5 121 rfl rfl
theorem wd1171 : (Jvm.Cond.selects "SaleRoundsModel" ({ cls := "SaleRoundsModel", name := "feed", desc := "(IIIII)I" } : Jvm.MethodName) ({ cls := "SaleRoundsModel", name := "feed", desc := "(IIIII)I" } : Jvm.MethodName)) ∈ wsG := tw5 122 rfl rfl
theorem wd1172 : (Jvm.Cond.code ({ cls := "SaleRoundsModel", name := "feed", desc := "(IIIII)I" } : Jvm.MethodName) prog_9_method_3_code (8 : Nat) (Option.some Jvm.ClassFile.FieldType.int)) ∈ wsG := tw5 123 rfl rfl
theorem wd1173 : (Jvm.Cond.methodLink "SaleRoundsLaw" (30 : Nat) ({ cls := "SaleRoundsModel", name := "book", desc := "(I)I" } : Jvm.MethodName)) ∈ wsG := tw5 124 rfl rfl
theorem wd1174 : (Jvm.Cond.instanceMethod ({ cls := "SaleRoundsModel", name := "book", desc := "(I)I" } : Jvm.MethodName)) ∈ wsG := tw5 125 rfl rfl
theorem wd1175 : (Jvm.Cond.selects "SaleRoundsModel" ({ cls := "SaleRoundsModel", name := "book", desc := "(I)I" } : Jvm.MethodName) ({ cls := "SaleRoundsModel", name := "book", desc := "(I)I" } : Jvm.MethodName)) ∈ wsG := tw5 126 rfl rfl
theorem wd1176 : (Jvm.Cond.code ({ cls := "SaleRoundsModel", name := "book", desc := "(I)I" } : Jvm.MethodName) prog_9_method_21_code (2 : Nat) (Option.some Jvm.ClassFile.FieldType.int)) ∈ wsG := tw5 127 rfl rfl
theorem wd1177 : (Jvm.Cond.methodLink "SaleRoundsModel" (162 : Nat) ({ cls := "SaleRoundsModel", name := "next", desc := "()V" } : Jvm.MethodName)) ∈ wsG := tw5 128 rfl rfl
theorem wd1179 : (Jvm.Cond.instanceMethod ({ cls := "SaleRoundsModel", name := "next", desc := "()V" } : Jvm.MethodName)) ∈ wsG := tw5 130 rfl rfl
theorem wd1180 : (Jvm.Cond.code ({ cls := "SaleRoundsModel", name := "next", desc := "()V" } : Jvm.MethodName) prog_9_method_7_code (2 : Nat) (Option.none : Option Jvm.ClassFile.FieldType)) ∈ wsG := tw5 131 rfl rfl
theorem wd1181 : (Jvm.Cond.methodLink "SaleRoundsModel" (114 : Nat) ({ cls := "SaleRoundsModel", name := "here", desc := "()I" } : Jvm.MethodName)) ∈ wsG := tw5 132 rfl rfl
theorem wd1183 : (Jvm.Cond.instanceMethod ({ cls := "SaleRoundsModel", name := "here", desc := "()I" } : Jvm.MethodName)) ∈ wsG := tw5 134 rfl rfl
theorem wd1184 : (Jvm.Cond.code ({ cls := "SaleRoundsModel", name := "here", desc := "()I" } : Jvm.MethodName) prog_9_method_4_code (1 : Nat) (Option.some Jvm.ClassFile.FieldType.int)) ∈ wsG := tw5 135 rfl rfl
theorem wd1185 : (Jvm.Cond.methodLink "SaleRoundsModel" (124 : Nat) ({ cls := "SaleRoundsModel", name := "isSmall", desc := "(I)Z" } : Jvm.MethodName)) ∈ wsG := tw5 136 rfl rfl
theorem wd1186 : (Jvm.Cond.static ({ cls := "SaleRoundsModel", name := "isSmall", desc := "(I)Z" } : Jvm.MethodName)) ∈ wsG := tw5 137 rfl rfl
theorem wd1187 : (Jvm.Cond.code ({ cls := "SaleRoundsModel", name := "isSmall", desc := "(I)Z" } : Jvm.MethodName) prog_9_method_5_code (1 : Nat) (Option.some Jvm.ClassFile.FieldType.boolean)) ∈ wsG := tw5 138 rfl rfl
theorem wd1188 : (Jvm.Cond.methodLink "SaleRoundsModel" (128 : Nat) ({ cls := "SaleRoundsModel", name := "word", desc := "()I" } : Jvm.MethodName)) ∈ wsG := tw5 139 rfl rfl
theorem wd1190 : (Jvm.Cond.instanceMethod ({ cls := "SaleRoundsModel", name := "word", desc := "()I" } : Jvm.MethodName)) ∈ wsG := tw5 141 rfl rfl
theorem wd1191 : (Jvm.Cond.code ({ cls := "SaleRoundsModel", name := "word", desc := "()I" } : Jvm.MethodName) prog_9_method_8_code (4 : Nat) (Option.some Jvm.ClassFile.FieldType.int)) ∈ wsG := tw5 142 rfl rfl
theorem wd1241 : (Jvm.Cond.methodLink "SaleRoundsModel" (134 : Nat) ({ cls := "SaleRoundsModel", name := "name", desc := "()V" } : Jvm.MethodName)) ∈ wsG := tw5 192 rfl rfl
theorem wd1243 : (Jvm.Cond.instanceMethod ({ cls := "SaleRoundsModel", name := "name", desc := "()V" } : Jvm.MethodName)) ∈ wsG := tw5 194 rfl rfl
theorem wd1244 : (Jvm.Cond.code ({ cls := "SaleRoundsModel", name := "name", desc := "()V" } : Jvm.MethodName) prog_9_method_9_code (2 : Nat) (Option.none : Option Jvm.ClassFile.FieldType)) ∈ wsG := tw5 195 rfl rfl
theorem wd1245 : (Jvm.Cond.methodLink "SaleRoundsModel" (137 : Nat) ({ cls := "SaleRoundsModel", name := "isDigit", desc := "(I)Z" } : Jvm.MethodName)) ∈ wsG := tw5 196 rfl rfl
theorem wd1246 : (Jvm.Cond.static ({ cls := "SaleRoundsModel", name := "isDigit", desc := "(I)Z" } : Jvm.MethodName)) ∈ wsG := tw5 197 rfl rfl
theorem wd1247 : (Jvm.Cond.code ({ cls := "SaleRoundsModel", name := "isDigit", desc := "(I)Z" } : Jvm.MethodName) prog_9_method_6_code (1 : Nat) (Option.some Jvm.ClassFile.FieldType.boolean)) ∈ wsG := tw5 198 rfl rfl
theorem wd1248 : (Jvm.Cond.constant "SaleRoundsModel" (140 : Nat) (999999 : Int32)) ∈ wsG := tw5 199 rfl rfl
theorem wd1249 : (Jvm.Cond.methodLink "SaleRoundsModel" (209 : Nat) ({ cls := "SaleRoundsModel", name := "line", desc := "()V" } : Jvm.MethodName)) ∈ wsG := tw5 200 rfl rfl
theorem wd1251 : (Jvm.Cond.instanceMethod ({ cls := "SaleRoundsModel", name := "line", desc := "()V" } : Jvm.MethodName)) ∈ wsG := tw5 202 rfl rfl
theorem wd1252 : (Jvm.Cond.code ({ cls := "SaleRoundsModel", name := "line", desc := "()V" } : Jvm.MethodName) prog_9_method_17_code (2 : Nat) (Option.none : Option Jvm.ClassFile.FieldType)) ∈ wsG := tw5 203 rfl rfl
theorem wd1253 : (Jvm.Cond.methodLink "SaleRoundsModel" (158 : Nat) ({ cls := "SaleRoundsModel", name := "wrong", desc := "(I)V" } : Jvm.MethodName)) ∈ wsG := tw5 204 rfl rfl
theorem wd1255 : (Jvm.Cond.instanceMethod ({ cls := "SaleRoundsModel", name := "wrong", desc := "(I)V" } : Jvm.MethodName)) ∈ wsG := tw5 206 rfl rfl
theorem wd1256 : (Jvm.Cond.code ({ cls := "SaleRoundsModel", name := "wrong", desc := "(I)V" } : Jvm.MethodName) prog_9_method_10_code (2 : Nat) (Option.none : Option Jvm.ClassFile.FieldType)) ∈ wsG := tw5 207 rfl rfl
theorem wd1257 : (Jvm.Cond.methodLink "SaleRoundsModel" (181 : Nat) ({ cls := "SaleRoundsModel", name := "fresh", desc := "([III)I" } : Jvm.MethodName)) ∈ wsG := tw5 208 rfl rfl
theorem wd1259 : (Jvm.Cond.instanceMethod ({ cls := "SaleRoundsModel", name := "fresh", desc := "([III)I" } : Jvm.MethodName)) ∈ wsG := tw5 210 rfl rfl
theorem wd1260 : (Jvm.Cond.code ({ cls := "SaleRoundsModel", name := "fresh", desc := "([III)I" } : Jvm.MethodName) prog_9_method_14_code (5 : Nat) (Option.some Jvm.ClassFile.FieldType.int)) ∈ wsG := tw5 211 rfl rfl
theorem wd1261 : (Jvm.Cond.methodLink "SaleRoundsModel" (165 : Nat) ({ cls := "SaleRoundsModel", name := "found", desc := "([IIII)I" } : Jvm.MethodName)) ∈ wsG := tw5 212 rfl rfl
theorem wd1262 : (Jvm.Cond.static ({ cls := "SaleRoundsModel", name := "found", desc := "([IIII)I" } : Jvm.MethodName)) ∈ wsG := tw5 213 rfl rfl
theorem wd1263 : (Jvm.Cond.code ({ cls := "SaleRoundsModel", name := "found", desc := "([IIII)I" } : Jvm.MethodName) prog_9_method_13_code (5 : Nat) (Option.some Jvm.ClassFile.FieldType.int)) ∈ wsG := tw5 214 rfl rfl
theorem wd1264 : (Jvm.Cond.methodLink "SaleRoundsModel" (185 : Nat) ({ cls := "SaleRoundsModel", name := "numeral", desc := "(II)I" } : Jvm.MethodName)) ∈ wsG := tw5 215 rfl rfl
theorem wd1266 : (Jvm.Cond.instanceMethod ({ cls := "SaleRoundsModel", name := "numeral", desc := "(II)I" } : Jvm.MethodName)) ∈ wsG := tw5 217 rfl rfl
theorem wd1267 : (Jvm.Cond.code ({ cls := "SaleRoundsModel", name := "numeral", desc := "(II)I" } : Jvm.MethodName) prog_9_method_12_code (4 : Nat) (Option.some Jvm.ClassFile.FieldType.int)) ∈ wsG := tw5 218 rfl rfl
theorem wd1268 : (Jvm.Cond.methodLink "SaleRoundsModel" (189 : Nat) ({ cls := "SaleRoundsModel", name := "firmLine", desc := "(I)V" } : Jvm.MethodName)) ∈ wsG := tw5 219 rfl rfl
theorem wd1270 : (Jvm.Cond.instanceMethod ({ cls := "SaleRoundsModel", name := "firmLine", desc := "(I)V" } : Jvm.MethodName)) ∈ wsG := tw5 221 rfl rfl
theorem wd1271 : (Jvm.Cond.code ({ cls := "SaleRoundsModel", name := "firmLine", desc := "(I)V" } : Jvm.MethodName) prog_9_method_18_code (4 : Nat) (Option.none : Option Jvm.ClassFile.FieldType)) ∈ wsG := tw5 222 rfl rfl
theorem wd1272 : (Jvm.Cond.methodLink "SaleRoundsModel" (200 : Nat) ({ cls := "SaleRoundsModel", name := "told", desc := "([III)I" } : Jvm.MethodName)) ∈ wsG := tw5 223 rfl rfl
theorem wd1274 : (Jvm.Cond.instanceMethod ({ cls := "SaleRoundsModel", name := "told", desc := "([III)I" } : Jvm.MethodName)) ∈ wsG := tw5 225 rfl rfl
theorem wd1275 : (Jvm.Cond.code ({ cls := "SaleRoundsModel", name := "told", desc := "([III)I" } : Jvm.MethodName) prog_9_method_15_code (4 : Nat) (Option.some Jvm.ClassFile.FieldType.int)) ∈ wsG := tw5 226 rfl rfl
theorem wd1276 : (Jvm.Cond.methodLink "SaleRoundsModel" (203 : Nat) ({ cls := "SaleRoundsModel", name := "goOn", desc := "()V" } : Jvm.MethodName)) ∈ wsG := tw5 227 rfl rfl
theorem wd1278 : (Jvm.Cond.instanceMethod ({ cls := "SaleRoundsModel", name := "goOn", desc := "()V" } : Jvm.MethodName)) ∈ wsG := tw5 229 rfl rfl
theorem wd1279 : (Jvm.Cond.code ({ cls := "SaleRoundsModel", name := "goOn", desc := "()V" } : Jvm.MethodName) prog_9_method_16_code (1 : Nat) (Option.none : Option Jvm.ClassFile.FieldType)) ∈ wsG := tw5 230 rfl rfl
theorem wd1280 : (Jvm.Cond.methodLink "SaleRoundsModel" (206 : Nat) ({ cls := "SaleRoundsModel", name := "isWord", desc := "(I)Z" } : Jvm.MethodName)) ∈ wsG := tw5 231 rfl rfl
theorem wd1282 : (Jvm.Cond.instanceMethod ({ cls := "SaleRoundsModel", name := "isWord", desc := "(I)Z" } : Jvm.MethodName)) ∈ wsG := tw5 233 rfl rfl
theorem wd1283 : (Jvm.Cond.code ({ cls := "SaleRoundsModel", name := "isWord", desc := "(I)Z" } : Jvm.MethodName) prog_9_method_11_code (2 : Nat) (Option.some Jvm.ClassFile.FieldType.boolean)) ∈ wsG := tw5 234 rfl rfl
theorem wd1284 : (Jvm.Cond.methodLink "SaleRoundsModel" (192 : Nat) ({ cls := "SaleRoundsModel", name := "sale", desc := "(I)V" } : Jvm.MethodName)) ∈ wsG := tw5 235 rfl rfl
theorem wd1286 : (Jvm.Cond.instanceMethod ({ cls := "SaleRoundsModel", name := "sale", desc := "(I)V" } : Jvm.MethodName)) ∈ wsG := tw5 237 rfl rfl
theorem wd1287 : (Jvm.Cond.code ({ cls := "SaleRoundsModel", name := "sale", desc := "(I)V" } : Jvm.MethodName) prog_9_method_19_code (2 : Nat) (Option.none : Option Jvm.ClassFile.FieldType)) ∈ wsG := tw5 238 rfl rfl
theorem wd1288 : (Jvm.Cond.methodLink "SaleRoundsModel" (195 : Nat) ({ cls := "SaleRoundsModel", name := "paid", desc := "()V" } : Jvm.MethodName)) ∈ wsG := tw5 239 rfl rfl
theorem wd1290 : (Jvm.Cond.instanceMethod ({ cls := "SaleRoundsModel", name := "paid", desc := "()V" } : Jvm.MethodName)) ∈ wsG := tw6 1 rfl rfl
theorem wd1291 : (Jvm.Cond.code ({ cls := "SaleRoundsModel", name := "paid", desc := "()V" } : Jvm.MethodName) prog_9_method_20_code (3 : Nat) (Option.none : Option Jvm.ClassFile.FieldType)) ∈ wsG := tw6 2 rfl rfl
theorem wd1292 : (Jvm.Cond.methodLink "SaleRoundsModel" (214 : Nat) ({ cls := "SaleRoundsModel", name := "lays", desc := "()V" } : Jvm.MethodName)) ∈ wsG := tw6 3 rfl rfl
theorem wd1294 : (Jvm.Cond.instanceMethod ({ cls := "SaleRoundsModel", name := "lays", desc := "()V" } : Jvm.MethodName)) ∈ wsG := tw6 5 rfl rfl
theorem wd1295 : (Jvm.Cond.code ({ cls := "SaleRoundsModel", name := "lays", desc := "()V" } : Jvm.MethodName) prog_9_method_22_code (2 : Nat) (Option.none : Option Jvm.ClassFile.FieldType)) ∈ wsG := tw6 6 rfl rfl
theorem wd1296 : (Jvm.Cond.methodLink "SaleRoundsLaw" (34 : Nat) ({ cls := "SaleRoundsModel", name := "fault", desc := "(I)I" } : Jvm.MethodName)) ∈ wsG := tw6 7 rfl rfl
theorem wd1297 : (Jvm.Cond.instanceMethod ({ cls := "SaleRoundsModel", name := "fault", desc := "(I)I" } : Jvm.MethodName)) ∈ wsG := tw6 8 rfl rfl
theorem wd1298 : (Jvm.Cond.selects "SaleRoundsModel" ({ cls := "SaleRoundsModel", name := "fault", desc := "(I)I" } : Jvm.MethodName) ({ cls := "SaleRoundsModel", name := "fault", desc := "(I)I" } : Jvm.MethodName)) ∈ wsG := tw6 9 rfl rfl
theorem wd1299 : (Jvm.Cond.code ({ cls := "SaleRoundsModel", name := "fault", desc := "(I)I" } : Jvm.MethodName) prog_9_method_23_code (2 : Nat) (Option.some Jvm.ClassFile.FieldType.int)) ∈ wsG := tw6 10 rfl rfl
theorem wd1300 : (Jvm.Cond.methodLink "SaleRoundsLaw" (38 : Nat) ({ cls := "SaleRoundsModel", name := "named", desc := "(II)I" } : Jvm.MethodName)) ∈ wsG := tw6 11 rfl rfl
theorem wd1301 : (Jvm.Cond.instanceMethod ({ cls := "SaleRoundsModel", name := "named", desc := "(II)I" } : Jvm.MethodName)) ∈ wsG := tw6 12 rfl rfl
theorem wd1302 : (Jvm.Cond.selects "SaleRoundsModel" ({ cls := "SaleRoundsModel", name := "named", desc := "(II)I" } : Jvm.MethodName) ({ cls := "SaleRoundsModel", name := "named", desc := "(II)I" } : Jvm.MethodName)) ∈ wsG := tw6 13 rfl rfl
theorem wd1303 : (Jvm.Cond.code ({ cls := "SaleRoundsModel", name := "named", desc := "(II)I" } : Jvm.MethodName) prog_9_method_24_code (3 : Nat) (Option.some Jvm.ClassFile.FieldType.int)) ∈ wsG := tw6 14 rfl rfl
theorem wd1304 : (Jvm.Cond.methodLink "SaleRoundsLaw" (44 : Nat) ({ cls := "SaleRoundsModel", name := "look", desc := "(II)I" } : Jvm.MethodName)) ∈ wsG := tw6 15 rfl rfl
theorem wd1305 : (Jvm.Cond.instanceMethod ({ cls := "SaleRoundsModel", name := "look", desc := "(II)I" } : Jvm.MethodName)) ∈ wsG := tw6 16 rfl rfl
theorem wd1306 : (Jvm.Cond.selects "SaleRoundsModel" ({ cls := "SaleRoundsModel", name := "look", desc := "(II)I" } : Jvm.MethodName) ({ cls := "SaleRoundsModel", name := "look", desc := "(II)I" } : Jvm.MethodName)) ∈ wsG := tw6 17 rfl rfl
theorem wd1307 : (Jvm.Cond.code ({ cls := "SaleRoundsModel", name := "look", desc := "(II)I" } : Jvm.MethodName) prog_9_method_32_code (3 : Nat) (Option.some Jvm.ClassFile.FieldType.int)) ∈ wsG := tw6 18 rfl rfl
theorem wd1308 : (Jvm.Cond.methodLink "SaleRoundsModel" (252 : Nat) ({ cls := "SaleRoundsModel", name := "isSale", desc := "(I)Z" } : Jvm.MethodName)) ∈ wsG := tw6 19 rfl rfl
theorem wd1310 : (Jvm.Cond.instanceMethod ({ cls := "SaleRoundsModel", name := "isSale", desc := "(I)Z" } : Jvm.MethodName)) ∈ wsG := tw6 21 rfl rfl
theorem wd1311 : (Jvm.Cond.code ({ cls := "SaleRoundsModel", name := "isSale", desc := "(I)Z" } : Jvm.MethodName) prog_9_method_26_code (2 : Nat) (Option.some Jvm.ClassFile.FieldType.boolean)) ∈ wsG := tw6 22 rfl rfl
theorem wd1312 : (Jvm.Cond.methodLink "SaleRoundsModel" (241 : Nat) ({ cls := "SaleRoundsModel", name := "taxOf", desc := "(II)I" } : Jvm.MethodName)) ∈ wsG := tw6 23 rfl rfl
theorem wd1314 : (Jvm.Cond.instanceMethod ({ cls := "SaleRoundsModel", name := "taxOf", desc := "(II)I" } : Jvm.MethodName)) ∈ wsG := tw6 25 rfl rfl
theorem wd1315 : (Jvm.Cond.code ({ cls := "SaleRoundsModel", name := "taxOf", desc := "(II)I" } : Jvm.MethodName) prog_9_method_28_code (3 : Nat) (Option.some Jvm.ClassFile.FieldType.int)) ∈ wsG := tw6 26 rfl rfl
theorem wd1316 : (Jvm.Cond.methodLink "SaleRoundsModel" (238 : Nat) ({ cls := "SaleRoundsModel", name := "rate", desc := "(II)I" } : Jvm.MethodName)) ∈ wsG := tw6 27 rfl rfl
theorem wd1318 : (Jvm.Cond.instanceMethod ({ cls := "SaleRoundsModel", name := "rate", desc := "(II)I" } : Jvm.MethodName)) ∈ wsG := tw6 29 rfl rfl
theorem wd1319 : (Jvm.Cond.code ({ cls := "SaleRoundsModel", name := "rate", desc := "(II)I" } : Jvm.MethodName) prog_9_method_27_code (4 : Nat) (Option.some Jvm.ClassFile.FieldType.int)) ∈ wsG := tw6 30 rfl rfl
theorem wd1320 : (Jvm.Cond.methodLink "SaleRoundsLaw" (48 : Nat) ({ cls := "SaleRoundsModel", name := "firm", desc := "(II)I" } : Jvm.MethodName)) ∈ wsG := tw6 31 rfl rfl
theorem wd1321 : (Jvm.Cond.instanceMethod ({ cls := "SaleRoundsModel", name := "firm", desc := "(II)I" } : Jvm.MethodName)) ∈ wsG := tw6 32 rfl rfl
theorem wd1322 : (Jvm.Cond.selects "SaleRoundsModel" ({ cls := "SaleRoundsModel", name := "firm", desc := "(II)I" } : Jvm.MethodName) ({ cls := "SaleRoundsModel", name := "firm", desc := "(II)I" } : Jvm.MethodName)) ∈ wsG := tw6 33 rfl rfl
theorem wd1323 : (Jvm.Cond.code ({ cls := "SaleRoundsModel", name := "firm", desc := "(II)I" } : Jvm.MethodName) prog_9_method_33_code (3 : Nat) (Option.some Jvm.ClassFile.FieldType.int)) ∈ wsG := tw6 34 rfl rfl
theorem wd1324 : (Jvm.Cond.methodLink "SaleRoundsModel" (255 : Nat) ({ cls := "SaleRoundsModel", name := "isFirm", desc := "(I)Z" } : Jvm.MethodName)) ∈ wsG := tw6 35 rfl rfl
theorem wd1326 : (Jvm.Cond.instanceMethod ({ cls := "SaleRoundsModel", name := "isFirm", desc := "(I)Z" } : Jvm.MethodName)) ∈ wsG := tw6 37 rfl rfl
theorem wd1327 : (Jvm.Cond.code ({ cls := "SaleRoundsModel", name := "isFirm", desc := "(I)Z" } : Jvm.MethodName) prog_9_method_25_code (2 : Nat) (Option.some Jvm.ClassFile.FieldType.boolean)) ∈ wsG := tw6 38 rfl rfl
theorem wd1328 : (Jvm.Cond.constant "SaleRoundsModel" (258 : Nat) (-2147483648 : Int32)) ∈ wsG := tw6 39 rfl rfl
theorem wd1329 : (Jvm.Cond.methodLink "SaleRoundsModel" (259 : Nat) ({ cls := "SaleRoundsModel", name := "parties", desc := "()V" } : Jvm.MethodName)) ∈ wsG := tw6 40 rfl rfl
theorem wd1331 : (Jvm.Cond.instanceMethod ({ cls := "SaleRoundsModel", name := "parties", desc := "()V" } : Jvm.MethodName)) ∈ wsG := tw6 42 rfl rfl
theorem wd1332 : (Jvm.Cond.code ({ cls := "SaleRoundsModel", name := "parties", desc := "()V" } : Jvm.MethodName) prog_9_method_31_code (4 : Nat) (Option.none : Option Jvm.ClassFile.FieldType)) ∈ wsG := tw6 43 rfl rfl
theorem wd1333 : (Jvm.Cond.methodLink "SaleRoundsModel" (247 : Nat) ({ cls := "java/lang/Math", name := "min", desc := "(II)I" } : Jvm.MethodName)) ∈ wsG := tw6 44 rfl rfl
theorem wd1334 : (Jvm.Cond.methodLink "SaleRoundsModel" (244 : Nat) ({ cls := "SaleRoundsModel", name := "owes", desc := "(II)I" } : Jvm.MethodName)) ∈ wsG := tw6 45 rfl rfl
theorem wd1336 : (Jvm.Cond.instanceMethod ({ cls := "SaleRoundsModel", name := "owes", desc := "(II)I" } : Jvm.MethodName)) ∈ wsG := tw6 47 rfl rfl
theorem wd1337 : (Jvm.Cond.code ({ cls := "SaleRoundsModel", name := "owes", desc := "(II)I" } : Jvm.MethodName) prog_9_method_29_code (5 : Nat) (Option.some Jvm.ClassFile.FieldType.int)) ∈ wsG := tw6 48 rfl rfl
theorem wd1338 : (Jvm.Cond.methodLink "SaleRoundsModel" (262 : Nat) ({ cls := "SaleRoundsModel", name := "isMissing", desc := "(II)Z" } : Jvm.MethodName)) ∈ wsG := tw6 49 rfl rfl
theorem wd1340 : (Jvm.Cond.instanceMethod ({ cls := "SaleRoundsModel", name := "isMissing", desc := "(II)Z" } : Jvm.MethodName)) ∈ wsG := tw6 51 rfl rfl
theorem wd1341 : (Jvm.Cond.code ({ cls := "SaleRoundsModel", name := "isMissing", desc := "(II)Z" } : Jvm.MethodName) prog_9_method_30_code (3 : Nat) (Option.some Jvm.ClassFile.FieldType.boolean)) ∈ wsG := tw6 52 rfl rfl
theorem wd1342 : (Jvm.Cond.methodLink "SaleRoundsLaw" (53 : Nat) ({ cls := "SaleRoundsModel", name := "sell", desc := "(IIIIIII)I" } : Jvm.MethodName)) ∈ wsG := tw6 53 rfl rfl
theorem wd1343 : (Jvm.Cond.instanceMethod ({ cls := "SaleRoundsModel", name := "sell", desc := "(IIIIIII)I" } : Jvm.MethodName)) ∈ wsG := tw6 54 rfl rfl
theorem wd1344 : (Jvm.Cond.selects "SaleRoundsModel" ({ cls := "SaleRoundsModel", name := "sell", desc := "(IIIIIII)I" } : Jvm.MethodName) ({ cls := "SaleRoundsModel", name := "sell", desc := "(IIIIIII)I" } : Jvm.MethodName)) ∈ wsG := tw6 55 rfl rfl
theorem wd1345 : (Jvm.Cond.code ({ cls := "SaleRoundsModel", name := "sell", desc := "(IIIIIII)I" } : Jvm.MethodName) prog_9_method_34_code (8 : Nat) (Option.some Jvm.ClassFile.FieldType.int)) ∈ wsG := tw6 56 rfl rfl
theorem wd1346 : (Jvm.Cond.methodLink "SaleRoundsLaw" (58 : Nat) ({ cls := "SaleRoundsModel", name := "undo", desc := "()I" } : Jvm.MethodName)) ∈ wsG := tw6 57 rfl rfl
theorem wd1347 : (Jvm.Cond.instanceMethod ({ cls := "SaleRoundsModel", name := "undo", desc := "()I" } : Jvm.MethodName)) ∈ wsG := tw6 58 rfl rfl
theorem wd1348 : (Jvm.Cond.selects "SaleRoundsModel" ({ cls := "SaleRoundsModel", name := "undo", desc := "()I" } : Jvm.MethodName) ({ cls := "SaleRoundsModel", name := "undo", desc := "()I" } : Jvm.MethodName)) ∈ wsG := tw6 59 rfl rfl
theorem wd1349 : (Jvm.Cond.code ({ cls := "SaleRoundsModel", name := "undo", desc := "()I" } : Jvm.MethodName) prog_9_method_35_code (1 : Nat) (Option.some Jvm.ClassFile.FieldType.int)) ∈ wsG := tw6 60 rfl rfl
theorem wd1350 : (Jvm.Cond.methodLink "SaleRoundsLaw" (62 : Nat) ({ cls := "SaleRoundsModel", name := "pay", desc := "(II)I" } : Jvm.MethodName)) ∈ wsG := tw6 61 rfl rfl
theorem wd1351 : (Jvm.Cond.instanceMethod ({ cls := "SaleRoundsModel", name := "pay", desc := "(II)I" } : Jvm.MethodName)) ∈ wsG := tw6 62 rfl rfl
theorem wd1352 : (Jvm.Cond.selects "SaleRoundsModel" ({ cls := "SaleRoundsModel", name := "pay", desc := "(II)I" } : Jvm.MethodName) ({ cls := "SaleRoundsModel", name := "pay", desc := "(II)I" } : Jvm.MethodName)) ∈ wsG := tw6 63 rfl rfl
theorem wd1353 : (Jvm.Cond.code ({ cls := "SaleRoundsModel", name := "pay", desc := "(II)I" } : Jvm.MethodName) prog_9_method_36_code (3 : Nat) (Option.some Jvm.ClassFile.FieldType.int)) ∈ wsG := tw6 64 rfl rfl
theorem wd1354 : (Jvm.Cond.methodLink "SaleRoundsLaw" (67 : Nat) ({ cls := "SaleRoundsModel", name := "rounds", desc := "(III)I" } : Jvm.MethodName)) ∈ wsG := tw6 65 rfl rfl
theorem wd1355 : (Jvm.Cond.instanceMethod ({ cls := "SaleRoundsModel", name := "rounds", desc := "(III)I" } : Jvm.MethodName)) ∈ wsG := tw6 66 rfl rfl
theorem wd1356 : (Jvm.Cond.selects "SaleRoundsModel" ({ cls := "SaleRoundsModel", name := "rounds", desc := "(III)I" } : Jvm.MethodName) ({ cls := "SaleRoundsModel", name := "rounds", desc := "(III)I" } : Jvm.MethodName)) ∈ wsG := tw6 67 rfl rfl
theorem wd1357 : (Jvm.Cond.code ({ cls := "SaleRoundsModel", name := "rounds", desc := "(III)I" } : Jvm.MethodName) prog_9_method_43_code (4 : Nat) (Option.some Jvm.ClassFile.FieldType.int)) ∈ wsG := tw6 68 rfl rfl
theorem wd1358 : (Jvm.Cond.methodLink "SaleRoundsModel" (295 : Nat) ({ cls := "SaleRoundsModel", name := "isAsked", desc := "(III)Z" } : Jvm.MethodName)) ∈ wsG := tw6 69 rfl rfl
theorem wd1359 : (Jvm.Cond.static ({ cls := "SaleRoundsModel", name := "isAsked", desc := "(III)Z" } : Jvm.MethodName)) ∈ wsG := tw6 70 rfl rfl
theorem wd1360 : (Jvm.Cond.code ({ cls := "SaleRoundsModel", name := "isAsked", desc := "(III)Z" } : Jvm.MethodName) prog_9_method_37_code (3 : Nat) (Option.some Jvm.ClassFile.FieldType.boolean)) ∈ wsG := tw6 71 rfl rfl
theorem wd1361 : (Jvm.Cond.methodLink "SaleRoundsModel" (299 : Nat) ({ cls := "SaleRoundsModel", name := "seeksNow", desc := "(III)V" } : Jvm.MethodName)) ∈ wsG := tw6 72 rfl rfl
theorem wd1363 : (Jvm.Cond.instanceMethod ({ cls := "SaleRoundsModel", name := "seeksNow", desc := "(III)V" } : Jvm.MethodName)) ∈ wsG := tw6 74 rfl rfl
theorem wd1364 : (Jvm.Cond.code ({ cls := "SaleRoundsModel", name := "seeksNow", desc := "(III)V" } : Jvm.MethodName) prog_9_method_42_code (5 : Nat) (Option.none : Option Jvm.ClassFile.FieldType)) ∈ wsG := tw6 75 rfl rfl
theorem wd1365 : (Jvm.Cond.methodLink "SaleRoundsModel" (291 : Nat) ({ cls := "SaleRoundsModel", name := "seeks", desc := "(III)V" } : Jvm.MethodName)) ∈ wsG := tw6 76 rfl rfl
theorem wd1367 : (Jvm.Cond.instanceMethod ({ cls := "SaleRoundsModel", name := "seeks", desc := "(III)V" } : Jvm.MethodName)) ∈ wsG := tw6 78 rfl rfl
theorem wd1368 : (Jvm.Cond.code ({ cls := "SaleRoundsModel", name := "seeks", desc := "(III)V" } : Jvm.MethodName) prog_9_method_41_code (5 : Nat) (Option.none : Option Jvm.ClassFile.FieldType)) ∈ wsG := tw6 79 rfl rfl
theorem wd1369 : (Jvm.Cond.methodLink "SaleRoundsModel" (266 : Nat) ({ cls := "SaleRoundsModel", name := "isStopped", desc := "(I)Z" } : Jvm.MethodName)) ∈ wsG := tw6 80 rfl rfl
theorem wd1371 : (Jvm.Cond.instanceMethod ({ cls := "SaleRoundsModel", name := "isStopped", desc := "(I)Z" } : Jvm.MethodName)) ∈ wsG := tw6 82 rfl rfl
theorem wd1372 : (Jvm.Cond.code ({ cls := "SaleRoundsModel", name := "isStopped", desc := "(I)Z" } : Jvm.MethodName) prog_9_method_38_code (2 : Nat) (Option.some Jvm.ClassFile.FieldType.boolean)) ∈ wsG := tw6 83 rfl rfl
theorem wd1373 : (Jvm.Cond.methodLink "SaleRoundsModel" (288 : Nat) ({ cls := "SaleRoundsModel", name := "grows", desc := "(I)V" } : Jvm.MethodName)) ∈ wsG := tw6 84 rfl rfl
theorem wd1375 : (Jvm.Cond.instanceMethod ({ cls := "SaleRoundsModel", name := "grows", desc := "(I)V" } : Jvm.MethodName)) ∈ wsG := tw6 86 rfl rfl
theorem wd1376 : (Jvm.Cond.code ({ cls := "SaleRoundsModel", name := "grows", desc := "(I)V" } : Jvm.MethodName) prog_9_method_40_code (3 : Nat) (Option.none : Option Jvm.ClassFile.FieldType)) ∈ wsG := tw6 87 rfl rfl
theorem wd1377 : (Jvm.Cond.methodLink "SaleRoundsModel" (282 : Nat) ({ cls := "SaleRoundsModel", name := "fits", desc := "(II)Z" } : Jvm.MethodName)) ∈ wsG := tw6 88 rfl rfl
theorem wd1379 : (Jvm.Cond.instanceMethod ({ cls := "SaleRoundsModel", name := "fits", desc := "(II)Z" } : Jvm.MethodName)) ∈ wsG := tw6 90 rfl rfl
theorem wd1380 : (Jvm.Cond.code ({ cls := "SaleRoundsModel", name := "fits", desc := "(II)Z" } : Jvm.MethodName) prog_9_method_39_code (6 : Nat) (Option.some Jvm.ClassFile.FieldType.boolean)) ∈ wsG := tw6 91 rfl rfl
theorem wd1381 : (Jvm.Cond.methodLink "SaleRoundsLaw" (71 : Nat) ({ cls := "SaleRoundsModel", name := "round", desc := "(IIIII)I" } : Jvm.MethodName)) ∈ wsG := tw6 92 rfl rfl
theorem wd1382 : (Jvm.Cond.instanceMethod ({ cls := "SaleRoundsModel", name := "round", desc := "(IIIII)I" } : Jvm.MethodName)) ∈ wsG := tw6 93 rfl rfl
theorem wd1383 : (Jvm.Cond.selects "SaleRoundsModel" ({ cls := "SaleRoundsModel", name := "round", desc := "(IIIII)I" } : Jvm.MethodName) ({ cls := "SaleRoundsModel", name := "round", desc := "(IIIII)I" } : Jvm.MethodName)) ∈ wsG := tw6 94 rfl rfl
theorem wd1384 : (Jvm.Cond.code ({ cls := "SaleRoundsModel", name := "round", desc := "(IIIII)I" } : Jvm.MethodName) prog_9_method_47_code (6 : Nat) (Option.some Jvm.ClassFile.FieldType.int)) ∈ wsG := tw6 95 rfl rfl
theorem wd1385 : (Jvm.Cond.methodLink "SaleRoundsModel" (305 : Nat) ({ cls := "SaleRoundsModel", name := "carries", desc := "(I)I" } : Jvm.MethodName)) ∈ wsG := tw6 96 rfl rfl
theorem wd1387 : (Jvm.Cond.instanceMethod ({ cls := "SaleRoundsModel", name := "carries", desc := "(I)I" } : Jvm.MethodName)) ∈ wsG := tw6 98 rfl rfl
theorem wd1388 : (Jvm.Cond.code ({ cls := "SaleRoundsModel", name := "carries", desc := "(I)I" } : Jvm.MethodName) prog_9_method_44_code (4 : Nat) (Option.some Jvm.ClassFile.FieldType.int)) ∈ wsG := tw6 99 rfl rfl
theorem wd1389 : (Jvm.Cond.methodLink "SaleRoundsModel" (309 : Nat) ({ cls := "SaleRoundsModel", name := "takesOf", desc := "(III)I" } : Jvm.MethodName)) ∈ wsG := tw6 100 rfl rfl
theorem wd1391 : (Jvm.Cond.instanceMethod ({ cls := "SaleRoundsModel", name := "takesOf", desc := "(III)I" } : Jvm.MethodName)) ∈ wsG := tw6 102 rfl rfl
theorem wd1392 : (Jvm.Cond.code ({ cls := "SaleRoundsModel", name := "takesOf", desc := "(III)I" } : Jvm.MethodName) prog_9_method_46_code (8 : Nat) (Option.some Jvm.ClassFile.FieldType.int)) ∈ wsG := tw6 103 rfl rfl
theorem wd1393 : (Jvm.Cond.methodLink "SaleRoundsModel" (302 : Nat) ({ cls := "java/lang/Math", name := "max", desc := "(II)I" } : Jvm.MethodName)) ∈ wsG := tw6 104 rfl rfl
theorem wd1394 : (Jvm.Cond.methodLink "SaleRoundsModel" (313 : Nat) ({ cls := "SaleRoundsModel", name := "firmsOf", desc := "(I)I" } : Jvm.MethodName)) ∈ wsG := tw6 105 rfl rfl
theorem wd1396 : (Jvm.Cond.instanceMethod ({ cls := "SaleRoundsModel", name := "firmsOf", desc := "(I)I" } : Jvm.MethodName)) ∈ wsG := tw6 107 rfl rfl
theorem wd1397 : (Jvm.Cond.code ({ cls := "SaleRoundsModel", name := "firmsOf", desc := "(I)I" } : Jvm.MethodName) prog_9_method_45_code (4 : Nat) (Option.some Jvm.ClassFile.FieldType.int)) ∈ wsG := tw6 108 rfl rfl
theorem wd1398 : (Jvm.Cond.methodLink "SaleRoundsLaw" (78 : Nat) ({ cls := "SaleRoundsModel", name := "judge", desc := "(IIJ)I" } : Jvm.MethodName)) ∈ wsG := tw6 109 rfl rfl
theorem wd1399 : (Jvm.Cond.instanceMethod ({ cls := "SaleRoundsModel", name := "judge", desc := "(IIJ)I" } : Jvm.MethodName)) ∈ wsG := tw6 110 rfl rfl
theorem wd1400 : (Jvm.Cond.selects "SaleRoundsModel" ({ cls := "SaleRoundsModel", name := "judge", desc := "(IIJ)I" } : Jvm.MethodName) ({ cls := "SaleRoundsModel", name := "judge", desc := "(IIJ)I" } : Jvm.MethodName)) ∈ wsG := tw6 111 rfl rfl
theorem wd1401 : (Jvm.Cond.code ({ cls := "SaleRoundsModel", name := "judge", desc := "(IIJ)I" } : Jvm.MethodName) prog_9_method_48_code (6 : Nat) (Option.some Jvm.ClassFile.FieldType.int)) ∈ wsG := tw6 112 rfl rfl
theorem wd1402 : (Jvm.Cond.constantLong "SaleRoundsModel" (316 : Nat) (63 : Int64)) ∈ wsG := tw6 113 rfl rfl
theorem wd1403 : (Jvm.Cond.methodLink "SaleRoundsLaw" (83 : Nat) ({ cls := "SaleRoundsModel", name := "takes", desc := "(III)J" } : Jvm.MethodName)) ∈ wsG := tw6 114 rfl rfl
theorem wd1404 : (Jvm.Cond.instanceMethod ({ cls := "SaleRoundsModel", name := "takes", desc := "(III)J" } : Jvm.MethodName)) ∈ wsG := tw6 115 rfl rfl
theorem wd1405 : (Jvm.Cond.selects "SaleRoundsModel" ({ cls := "SaleRoundsModel", name := "takes", desc := "(III)J" } : Jvm.MethodName) ({ cls := "SaleRoundsModel", name := "takes", desc := "(III)J" } : Jvm.MethodName)) ∈ wsG := tw6 116 rfl rfl
theorem wd1406 : (Jvm.Cond.code ({ cls := "SaleRoundsModel", name := "takes", desc := "(III)J" } : Jvm.MethodName) prog_9_method_49_code (4 : Nat) (Option.some Jvm.ClassFile.FieldType.long)) ∈ wsG := tw6 117 rfl rfl
theorem wd1407 : (Jvm.Cond.constantLong "SaleRoundsModel" (318 : Nat) (-1 : Int64)) ∈ wsG := tw6 118 rfl rfl
theorem wd1408 : (Jvm.Cond.constantLong "SaleRoundsModel" (320 : Nat) (-2 : Int64)) ∈ wsG := tw6 119 rfl rfl
theorem wd1409 : (Jvm.Cond.methodLink "SaleRoundsModel" (322 : Nat) ({ cls := "SaleRoundsModel", name := "allTakes", desc := "(III)J" } : Jvm.MethodName)) ∈ wsG := tw6 120 rfl rfl
theorem wd1411 : (Jvm.Cond.instanceMethod ({ cls := "SaleRoundsModel", name := "allTakes", desc := "(III)J" } : Jvm.MethodName)) ∈ wsG := tw6 122 rfl rfl
theorem wd1412 : (Jvm.Cond.code ({ cls := "SaleRoundsModel", name := "allTakes", desc := "(III)J" } : Jvm.MethodName) prog_9_method_50_code (7 : Nat) (Option.some Jvm.ClassFile.FieldType.long)) ∈ wsG := tw6 123 rfl rfl
theorem wd1413 : (Jvm.Cond.methodLink "SaleRoundsLaw" (87 : Nat) ({ cls := "SaleRoundsModel", name := "flow", desc := "(II)I" } : Jvm.MethodName)) ∈ wsG := tw6 124 rfl rfl
theorem wd1414 : (Jvm.Cond.instanceMethod ({ cls := "SaleRoundsModel", name := "flow", desc := "(II)I" } : Jvm.MethodName)) ∈ wsG := tw6 125 rfl rfl
theorem wd1415 : (Jvm.Cond.selects "SaleRoundsModel" ({ cls := "SaleRoundsModel", name := "flow", desc := "(II)I" } : Jvm.MethodName) ({ cls := "SaleRoundsModel", name := "flow", desc := "(II)I" } : Jvm.MethodName)) ∈ wsG := tw6 126 rfl rfl
theorem wd1416 : (Jvm.Cond.code ({ cls := "SaleRoundsModel", name := "flow", desc := "(II)I" } : Jvm.MethodName) prog_9_method_53_code (3 : Nat) (Option.some Jvm.ClassFile.FieldType.int)) ∈ wsG := tw6 127 rfl rfl
theorem wd1417 : (Jvm.Cond.methodLink "SaleRoundsModel" (326 : Nat) ({ cls := "SaleRoundsModel", name := "flowBy", desc := "(II)I" } : Jvm.MethodName)) ∈ wsG := tw6 128 rfl rfl
theorem wd1419 : (Jvm.Cond.instanceMethod ({ cls := "SaleRoundsModel", name := "flowBy", desc := "(II)I" } : Jvm.MethodName)) ∈ wsG := tw6 130 rfl rfl
theorem wd1420 : (Jvm.Cond.code ({ cls := "SaleRoundsModel", name := "flowBy", desc := "(II)I" } : Jvm.MethodName) prog_9_method_54_code (6 : Nat) (Option.some Jvm.ClassFile.FieldType.int)) ∈ wsG := tw6 131 rfl rfl
theorem wd1421 : (Jvm.Cond.methodLink "SaleRoundsModel" (329 : Nat) ({ cls := "SaleRoundsModel", name := "counts", desc := "(II)Z" } : Jvm.MethodName)) ∈ wsG := tw6 132 rfl rfl
theorem wd1423 : (Jvm.Cond.instanceMethod ({ cls := "SaleRoundsModel", name := "counts", desc := "(II)Z" } : Jvm.MethodName)) ∈ wsG := tw6 134 rfl rfl
theorem wd1424 : (Jvm.Cond.code ({ cls := "SaleRoundsModel", name := "counts", desc := "(II)Z" } : Jvm.MethodName) prog_9_method_51_code (3 : Nat) (Option.some Jvm.ClassFile.FieldType.boolean)) ∈ wsG := tw6 135 rfl rfl
theorem wd1425 : (Jvm.Cond.methodLink "SaleRoundsModel" (332 : Nat) ({ cls := "SaleRoundsModel", name := "mayHand", desc := "(III)Z" } : Jvm.MethodName)) ∈ wsG := tw6 136 rfl rfl
theorem wd1427 : (Jvm.Cond.instanceMethod ({ cls := "SaleRoundsModel", name := "mayHand", desc := "(III)Z" } : Jvm.MethodName)) ∈ wsG := tw6 138 rfl rfl
theorem wd1428 : (Jvm.Cond.code ({ cls := "SaleRoundsModel", name := "mayHand", desc := "(III)Z" } : Jvm.MethodName) prog_9_method_52_code (4 : Nat) (Option.some Jvm.ClassFile.FieldType.boolean)) ∈ wsG := tw6 139 rfl rfl
theorem wd1429 : (Jvm.Cond.methodLink "SaleRoundsModel" (335 : Nat) ({ cls := "SaleRoundsModel", name := "reaches", desc := "()Z" } : Jvm.MethodName)) ∈ wsG := tw6 140 rfl rfl
theorem wd1431 : (Jvm.Cond.instanceMethod ({ cls := "SaleRoundsModel", name := "reaches", desc := "()Z" } : Jvm.MethodName)) ∈ wsG := tw6 142 rfl rfl
theorem wd1432 : (Jvm.Cond.code ({ cls := "SaleRoundsModel", name := "reaches", desc := "()Z" } : Jvm.MethodName) prog_9_method_55_code (4 : Nat) (Option.some Jvm.ClassFile.FieldType.boolean)) ∈ wsG := tw6 143 rfl rfl
theorem wd1433 : (Jvm.Cond.methodLink "SaleRoundsLaw" (91 : Nat) ({ cls := "SaleRoundsModel", name := "luck", desc := "(IIIII)I" } : Jvm.MethodName)) ∈ wsG := tw6 144 rfl rfl
theorem wd1434 : (Jvm.Cond.instanceMethod ({ cls := "SaleRoundsModel", name := "luck", desc := "(IIIII)I" } : Jvm.MethodName)) ∈ wsG := tw6 145 rfl rfl
theorem wd1435 : (Jvm.Cond.selects "SaleRoundsModel" ({ cls := "SaleRoundsModel", name := "luck", desc := "(IIIII)I" } : Jvm.MethodName) ({ cls := "SaleRoundsModel", name := "luck", desc := "(IIIII)I" } : Jvm.MethodName)) ∈ wsG := tw6 146 rfl rfl
theorem wd1436 : (Jvm.Cond.code ({ cls := "SaleRoundsModel", name := "luck", desc := "(IIIII)I" } : Jvm.MethodName) prog_9_method_56_code (13 : Nat) (Option.some Jvm.ClassFile.FieldType.int)) ∈ wsG := tw6 147 rfl rfl
theorem wd1437 : (Jvm.Cond.constant "SaleRoundsModel" (339 : Nat) (1103515245 : Int32)) ∈ wsG := tw6 148 rfl rfl
theorem wd1438 : (Jvm.Cond.constant "SaleRoundsModel" (340 : Nat) (2147483647 : Int32)) ∈ wsG := tw6 149 rfl rfl
theorem wd1439 : (Jvm.Cond.methodLink "SaleRoundsLaw" (96 : Nat) ({ cls := "SaleRoundsModel", name := "signs", desc := "(IIII)I" } : Jvm.MethodName)) ∈ wsG := tw6 150 rfl rfl
theorem wd1440 : (Jvm.Cond.instanceMethod ({ cls := "SaleRoundsModel", name := "signs", desc := "(IIII)I" } : Jvm.MethodName)) ∈ wsG := tw6 151 rfl rfl
theorem wd1441 : (Jvm.Cond.selects "SaleRoundsModel" ({ cls := "SaleRoundsModel", name := "signs", desc := "(IIII)I" } : Jvm.MethodName) ({ cls := "SaleRoundsModel", name := "signs", desc := "(IIII)I" } : Jvm.MethodName)) ∈ wsG := tw6 152 rfl rfl
theorem wd1442 : (Jvm.Cond.code ({ cls := "SaleRoundsModel", name := "signs", desc := "(IIII)I" } : Jvm.MethodName) prog_9_method_63_code (5 : Nat) (Option.some Jvm.ClassFile.FieldType.int)) ∈ wsG := tw6 153 rfl rfl
theorem wd1443 : (Jvm.Cond.methodLink "SaleRoundsModel" (356 : Nat) ({ cls := "SaleRoundsModel", name := "signsOf", desc := "(I)I" } : Jvm.MethodName)) ∈ wsG := tw6 154 rfl rfl
theorem wd1445 : (Jvm.Cond.instanceMethod ({ cls := "SaleRoundsModel", name := "signsOf", desc := "(I)I" } : Jvm.MethodName)) ∈ wsG := tw6 156 rfl rfl
theorem wd1446 : (Jvm.Cond.code ({ cls := "SaleRoundsModel", name := "signsOf", desc := "(I)I" } : Jvm.MethodName) prog_9_method_62_code (2 : Nat) (Option.some Jvm.ClassFile.FieldType.int)) ∈ wsG := tw6 157 rfl rfl
theorem wd1447 : (Jvm.Cond.methodLink "SaleRoundsModel" (344 : Nat) ({ cls := "SaleRoundsModel", name := "soldUnder", desc := "(I)Z" } : Jvm.MethodName)) ∈ wsG := tw6 158 rfl rfl
theorem wd1449 : (Jvm.Cond.instanceMethod ({ cls := "SaleRoundsModel", name := "soldUnder", desc := "(I)Z" } : Jvm.MethodName)) ∈ wsG := tw6 160 rfl rfl
theorem wd1450 : (Jvm.Cond.code ({ cls := "SaleRoundsModel", name := "soldUnder", desc := "(I)Z" } : Jvm.MethodName) prog_9_method_57_code (4 : Nat) (Option.some Jvm.ClassFile.FieldType.boolean)) ∈ wsG := tw6 161 rfl rfl
theorem wd1451 : (Jvm.Cond.methodLink "SaleRoundsModel" (347 : Nat) ({ cls := "SaleRoundsModel", name := "boughtOfSuch", desc := "(I)Z" } : Jvm.MethodName)) ∈ wsG := tw6 162 rfl rfl
theorem wd1453 : (Jvm.Cond.instanceMethod ({ cls := "SaleRoundsModel", name := "boughtOfSuch", desc := "(I)Z" } : Jvm.MethodName)) ∈ wsG := tw6 164 rfl rfl
theorem wd1454 : (Jvm.Cond.code ({ cls := "SaleRoundsModel", name := "boughtOfSuch", desc := "(I)Z" } : Jvm.MethodName) prog_9_method_59_code (4 : Nat) (Option.some Jvm.ClassFile.FieldType.boolean)) ∈ wsG := tw6 165 rfl rfl
theorem wd1455 : (Jvm.Cond.methodLink "SaleRoundsModel" (341 : Nat) ({ cls := "SaleRoundsModel", name := "boughtFromMissing", desc := "(I)Z" } : Jvm.MethodName)) ∈ wsG := tw6 166 rfl rfl
theorem wd1457 : (Jvm.Cond.instanceMethod ({ cls := "SaleRoundsModel", name := "boughtFromMissing", desc := "(I)Z" } : Jvm.MethodName)) ∈ wsG := tw6 168 rfl rfl
theorem wd1458 : (Jvm.Cond.code ({ cls := "SaleRoundsModel", name := "boughtFromMissing", desc := "(I)Z" } : Jvm.MethodName) prog_9_method_58_code (3 : Nat) (Option.some Jvm.ClassFile.FieldType.boolean)) ∈ wsG := tw6 169 rfl rfl
theorem wd1459 : (Jvm.Cond.methodLink "SaleRoundsModel" (350 : Nat) ({ cls := "SaleRoundsModel", name := "roundsWith", desc := "(I)I" } : Jvm.MethodName)) ∈ wsG := tw6 170 rfl rfl
theorem wd1461 : (Jvm.Cond.instanceMethod ({ cls := "SaleRoundsModel", name := "roundsWith", desc := "(I)I" } : Jvm.MethodName)) ∈ wsG := tw6 172 rfl rfl
theorem wd1462 : (Jvm.Cond.code ({ cls := "SaleRoundsModel", name := "roundsWith", desc := "(I)I" } : Jvm.MethodName) prog_9_method_60_code (4 : Nat) (Option.some Jvm.ClassFile.FieldType.int)) ∈ wsG := tw6 173 rfl rfl
theorem wd1463 : (Jvm.Cond.methodLink "SaleRoundsModel" (353 : Nat) ({ cls := "SaleRoundsModel", name := "hasMissing", desc := "(I)Z" } : Jvm.MethodName)) ∈ wsG := tw6 174 rfl rfl
theorem wd1465 : (Jvm.Cond.instanceMethod ({ cls := "SaleRoundsModel", name := "hasMissing", desc := "(I)Z" } : Jvm.MethodName)) ∈ wsG := tw6 176 rfl rfl
theorem wd1466 : (Jvm.Cond.code ({ cls := "SaleRoundsModel", name := "hasMissing", desc := "(I)Z" } : Jvm.MethodName) prog_9_method_61_code (3 : Nat) (Option.some Jvm.ClassFile.FieldType.boolean)) ∈ wsG := tw6 177 rfl rfl
theorem wd1467 : (Jvm.Cond.methodLink "SaleRoundsLaw" (100 : Nat) ({ cls := "SaleRoundsModel", name := "knew", desc := "(IIIII)I" } : Jvm.MethodName)) ∈ wsG := tw6 178 rfl rfl
theorem wd1468 : (Jvm.Cond.instanceMethod ({ cls := "SaleRoundsModel", name := "knew", desc := "(IIIII)I" } : Jvm.MethodName)) ∈ wsG := tw6 179 rfl rfl
theorem wd1469 : (Jvm.Cond.selects "SaleRoundsModel" ({ cls := "SaleRoundsModel", name := "knew", desc := "(IIIII)I" } : Jvm.MethodName) ({ cls := "SaleRoundsModel", name := "knew", desc := "(IIIII)I" } : Jvm.MethodName)) ∈ wsG := tw6 180 rfl rfl
theorem wd1470 : (Jvm.Cond.code ({ cls := "SaleRoundsModel", name := "knew", desc := "(IIIII)I" } : Jvm.MethodName) prog_9_method_64_code (9 : Nat) (Option.some Jvm.ClassFile.FieldType.int)) ∈ wsG := tw6 181 rfl rfl
theorem wd1471 : (Jvm.Cond.methodLink "SaleRoundsLaw" (104 : Nat) ({ cls := "SaleRoundsModel", name := "hands", desc := "()I" } : Jvm.MethodName)) ∈ wsG := tw6 182 rfl rfl
theorem wd1472 : (Jvm.Cond.instanceMethod ({ cls := "SaleRoundsModel", name := "hands", desc := "()I" } : Jvm.MethodName)) ∈ wsG := tw6 183 rfl rfl
theorem wd1473 : (Jvm.Cond.selects "SaleRoundsModel" ({ cls := "SaleRoundsModel", name := "hands", desc := "()I" } : Jvm.MethodName) ({ cls := "SaleRoundsModel", name := "hands", desc := "()I" } : Jvm.MethodName)) ∈ wsG := tw6 184 rfl rfl
theorem wd1474 : (Jvm.Cond.code ({ cls := "SaleRoundsModel", name := "hands", desc := "()I" } : Jvm.MethodName) prog_9_method_65_code (3 : Nat) (Option.some Jvm.ClassFile.FieldType.int)) ∈ wsG := tw6 185 rfl rfl
theorem wd1475 : (Jvm.Cond.methodLink "SaleRoundsLaw" (108 : Nat) ({ cls := "SaleRoundsModel", name := "lacking", desc := "(I)I" } : Jvm.MethodName)) ∈ wsG := tw6 186 rfl rfl
theorem wd1476 : (Jvm.Cond.instanceMethod ({ cls := "SaleRoundsModel", name := "lacking", desc := "(I)I" } : Jvm.MethodName)) ∈ wsG := tw6 187 rfl rfl
theorem wd1477 : (Jvm.Cond.selects "SaleRoundsModel" ({ cls := "SaleRoundsModel", name := "lacking", desc := "(I)I" } : Jvm.MethodName) ({ cls := "SaleRoundsModel", name := "lacking", desc := "(I)I" } : Jvm.MethodName)) ∈ wsG := tw6 188 rfl rfl
theorem wd1478 : (Jvm.Cond.code ({ cls := "SaleRoundsModel", name := "lacking", desc := "(I)I" } : Jvm.MethodName) prog_9_method_66_code (6 : Nat) (Option.some Jvm.ClassFile.FieldType.int)) ∈ wsG := tw6 189 rfl rfl
theorem wd1479 : (Jvm.Cond.methodLink "SaleRoundsLaw" (112 : Nat) ({ cls := "SaleRoundsModel", name := "stop", desc := "(I)I" } : Jvm.MethodName)) ∈ wsG := tw6 190 rfl rfl
theorem wd1480 : (Jvm.Cond.instanceMethod ({ cls := "SaleRoundsModel", name := "stop", desc := "(I)I" } : Jvm.MethodName)) ∈ wsG := tw6 191 rfl rfl
theorem wd1481 : (Jvm.Cond.selects "SaleRoundsModel" ({ cls := "SaleRoundsModel", name := "stop", desc := "(I)I" } : Jvm.MethodName) ({ cls := "SaleRoundsModel", name := "stop", desc := "(I)I" } : Jvm.MethodName)) ∈ wsG := tw6 192 rfl rfl
theorem wd1482 : (Jvm.Cond.code ({ cls := "SaleRoundsModel", name := "stop", desc := "(I)I" } : Jvm.MethodName) prog_9_method_68_code (2 : Nat) (Option.some Jvm.ClassFile.FieldType.int)) ∈ wsG := tw6 193 rfl rfl
theorem wd1483 : (Jvm.Cond.methodLink "SaleRoundsModel" (359 : Nat) ({ cls := "SaleRoundsModel", name := "bits", desc := "(I)I" } : Jvm.MethodName)) ∈ wsG := tw6 194 rfl rfl
theorem wd1484 : (Jvm.Cond.static ({ cls := "SaleRoundsModel", name := "bits", desc := "(I)I" } : Jvm.MethodName)) ∈ wsG := tw6 195 rfl rfl
theorem wd1485 : (Jvm.Cond.code ({ cls := "SaleRoundsModel", name := "bits", desc := "(I)I" } : Jvm.MethodName) prog_9_method_67_code (3 : Nat) (Option.some Jvm.ClassFile.FieldType.int)) ∈ wsG := tw6 196 rfl rfl
theorem wd1486 : (Jvm.Cond.methodLink "SaleRoundsLaw" (117 : Nat) ({ cls := "SaleRoundsModel", name := "fewest", desc := "(IIIJ)I" } : Jvm.MethodName)) ∈ wsG := tw6 197 rfl rfl
theorem wd1487 : (Jvm.Cond.instanceMethod ({ cls := "SaleRoundsModel", name := "fewest", desc := "(IIIJ)I" } : Jvm.MethodName)) ∈ wsG := tw6 198 rfl rfl
theorem wd1488 : (Jvm.Cond.selects "SaleRoundsModel" ({ cls := "SaleRoundsModel", name := "fewest", desc := "(IIIJ)I" } : Jvm.MethodName) ({ cls := "SaleRoundsModel", name := "fewest", desc := "(IIIJ)I" } : Jvm.MethodName)) ∈ wsG := tw6 199 rfl rfl
theorem wd1489 : (Jvm.Cond.code ({ cls := "SaleRoundsModel", name := "fewest", desc := "(IIIJ)I" } : Jvm.MethodName) prog_9_method_69_code (11 : Nat) (Option.some Jvm.ClassFile.FieldType.int)) ∈ wsG := tw6 200 rfl rfl
theorem wd1490 : (Jvm.Cond.methodLink "SaleRoundsLaw" (121 : Nat) ({ cls := "SaleRoundsModel", name := "rule", desc := "(I)I" } : Jvm.MethodName)) ∈ wsG := tw6 201 rfl rfl
theorem wd1491 : (Jvm.Cond.instanceMethod ({ cls := "SaleRoundsModel", name := "rule", desc := "(I)I" } : Jvm.MethodName)) ∈ wsG := tw6 202 rfl rfl
theorem wd1492 : (Jvm.Cond.selects "SaleRoundsModel" ({ cls := "SaleRoundsModel", name := "rule", desc := "(I)I" } : Jvm.MethodName) ({ cls := "SaleRoundsModel", name := "rule", desc := "(I)I" } : Jvm.MethodName)) ∈ wsG := tw6 203 rfl rfl
theorem wd1493 : (Jvm.Cond.code ({ cls := "SaleRoundsModel", name := "rule", desc := "(I)I" } : Jvm.MethodName) prog_9_method_70_code (2 : Nat) (Option.some Jvm.ClassFile.FieldType.int)) ∈ wsG := tw6 204 rfl rfl
theorem wd1494 : (Jvm.Cond.methodLink "SaleRoundsLaw" (125 : Nat) ({ cls := "SaleRoundsModel", name := "burden", desc := "(I)I" } : Jvm.MethodName)) ∈ wsG := tw6 205 rfl rfl
theorem wd1495 : (Jvm.Cond.instanceMethod ({ cls := "SaleRoundsModel", name := "burden", desc := "(I)I" } : Jvm.MethodName)) ∈ wsG := tw6 206 rfl rfl
theorem wd1496 : (Jvm.Cond.selects "SaleRoundsModel" ({ cls := "SaleRoundsModel", name := "burden", desc := "(I)I" } : Jvm.MethodName) ({ cls := "SaleRoundsModel", name := "burden", desc := "(I)I" } : Jvm.MethodName)) ∈ wsG := tw6 207 rfl rfl
theorem wd1497 : (Jvm.Cond.code ({ cls := "SaleRoundsModel", name := "burden", desc := "(I)I" } : Jvm.MethodName) prog_9_method_72_code (2 : Nat) (Option.some Jvm.ClassFile.FieldType.int)) ∈ wsG := tw6 208 rfl rfl
theorem wd1498 : (Jvm.Cond.methodLink "SaleRoundsModel" (362 : Nat) ({ cls := "SaleRoundsModel", name := "burdenOf", desc := "(I)I" } : Jvm.MethodName)) ∈ wsG := tw6 209 rfl rfl
theorem wd1500 : (Jvm.Cond.instanceMethod ({ cls := "SaleRoundsModel", name := "burdenOf", desc := "(I)I" } : Jvm.MethodName)) ∈ wsG := tw6 211 rfl rfl
theorem wd1501 : (Jvm.Cond.code ({ cls := "SaleRoundsModel", name := "burdenOf", desc := "(I)I" } : Jvm.MethodName) prog_9_method_71_code (4 : Nat) (Option.some Jvm.ClassFile.FieldType.int)) ∈ wsG := tw6 212 rfl rfl
theorem wd1502 : (Jvm.Cond.methodLink "SaleRoundsLaw" (130 : Nat) ({ cls := "SaleRoundsModel", name := "starve", desc := "(IIIII)J" } : Jvm.MethodName)) ∈ wsG := tw6 213 rfl rfl
theorem wd1503 : (Jvm.Cond.instanceMethod ({ cls := "SaleRoundsModel", name := "starve", desc := "(IIIII)J" } : Jvm.MethodName)) ∈ wsG := tw6 214 rfl rfl
theorem wd1504 : (Jvm.Cond.selects "SaleRoundsModel" ({ cls := "SaleRoundsModel", name := "starve", desc := "(IIIII)J" } : Jvm.MethodName) ({ cls := "SaleRoundsModel", name := "starve", desc := "(IIIII)J" } : Jvm.MethodName)) ∈ wsG := tw6 215 rfl rfl
theorem wd1505 : (Jvm.Cond.code ({ cls := "SaleRoundsModel", name := "starve", desc := "(IIIII)J" } : Jvm.MethodName) prog_9_method_73_code (14 : Nat) (Option.some Jvm.ClassFile.FieldType.long)) ∈ wsG := tw6 216 rfl rfl
theorem wd1506 : (Jvm.Cond.methodLink "SaleRoundsLaw" (134 : Nat) ({ cls := "SaleRoundsModel", name := "count", desc := "(I)I" } : Jvm.MethodName)) ∈ wsG := tw6 217 rfl rfl
theorem wd1507 : (Jvm.Cond.instanceMethod ({ cls := "SaleRoundsModel", name := "count", desc := "(I)I" } : Jvm.MethodName)) ∈ wsG := tw6 218 rfl rfl
theorem wd1508 : (Jvm.Cond.selects "SaleRoundsModel" ({ cls := "SaleRoundsModel", name := "count", desc := "(I)I" } : Jvm.MethodName) ({ cls := "SaleRoundsModel", name := "count", desc := "(I)I" } : Jvm.MethodName)) ∈ wsG := tw6 219 rfl rfl
theorem wd1509 : (Jvm.Cond.code ({ cls := "SaleRoundsModel", name := "count", desc := "(I)I" } : Jvm.MethodName) prog_9_method_74_code (4 : Nat) (Option.some Jvm.ClassFile.FieldType.int)) ∈ wsG := tw6 220 rfl rfl
theorem wd1510 : (Jvm.Cond.constantLong "SaleRoundsLaw" (72 : Nat) (4294967295 : Int64)) ∈ wsG := tw6 221 rfl rfl
end
section
def mX0_clear : MI := (yX0_clear, cX0_clear, 1, none, RX0)
def mX0_addFirm : MI := (yX0_addFirm, cX0_addFirm, 5, (some .int), RX0)
def mX0_sinceBoth : MI := (yX0_sinceBoth, cX0_sinceBoth, 3, (some .int), RX0)
def mX0_joinParties : MI := (yX0_joinParties, cX0_joinParties, 3, none, RX0)
def mX0_areJoined : MI := (yX0_areJoined, cX0_areJoined, 3, (some .boolean), RX0)
def mX0_mergeParties : MI := (yX0_mergeParties, cX0_mergeParties, 5, none, RX0)
def mX0_partners : MI := (yX0_partners, cX0_partners, 4, (some .int), RX0)
def mX0_firmsIn : MI := (yX0_firmsIn, cX0_firmsIn, 4, (some .int), RX0)
def mX0_taxEach : MI := (yX0_taxEach, cX0_taxEach, 4, (some .int), RX0)
def mX0_taxOf : MI := (yX0_taxOf, cX0_taxOf, 3, (some .int), RX0)
def mX0_tally : MI := (yX0_tally, cX0_tally, 4, none, RX0)
def mX0_owed : MI := (yX0_owed, cX0_owed, 3, (some .int), RX0)
def mX0_missing : MI := (yX0_missing, cX0_missing, 4, (some .int), RX0)
def mX0_honestSales : MI := (yX0_honestSales, cX0_honestSales, 6, (some .int), RX0)
def mX0_firmsOf : MI := (yX0_firmsOf, cX0_firmsOf, 6, (some .int), RX0)
def mX0_carriedBy : MI := (yX0_carriedBy, cX0_carriedBy, 6, (some .int), RX0)
def mX0_takenBy : MI := (yX0_takenBy, cX0_takenBy, 10, (some .int), RX0)
def mX1_forget : MI := (yX1_forget, cX1_forget, 1, none, RX1)
def mX1_find : MI := (yX1_find, cX1_find, 7, (some .int), RX1)
def mX1_load : MI := (yX1_load, cX1_load, 6, none, RX1)
def mX1_shuffle : MI := (yX1_shuffle, cX1_shuffle, 8, (some .long), RX1)
def mX1_search : MI := (yX1_search, cX1_search, 4, (some .int), RX1)
def mX1_linkSales : MI := (yX1_linkSales, cX1_linkSales, 3, none, RX1)
def mX1_measure : MI := (yX1_measure, cX1_measure, 9, none, RX1)
def mX1_extend : MI := (yX1_extend, cX1_extend, 9, none, RX1)
def mX1_keep : MI := (yX1_keep, cX1_keep, 4, none, RX1)
def mX2_has : MI := (yX2_has, cX2_has, 2, (some .boolean), RX2)
def mX2_find : MI := (yX2_find, cX2_find, 3, (some .int), RX2)
def mX2_add : MI := (yX2_add, cX2_add, 2, (some .int), RX2)
def mX3_hasSpace : MI := (yX3_hasSpace, cX3_hasSpace, 2, (some .boolean), RX3)
def mX3_push : MI := (yX3_push, cX3_push, 2, none, RX3)
def mX3_read : MI := (yX3_read, cX3_read, 5, (some .int), RX3)
def mX3_readLand : MI := (yX3_readLand, cX3_readLand, 5, (some .boolean), RX3)
def mX3_readGood : MI := (yX3_readGood, cX3_readGood, 3, (some .boolean), RX3)
def mX3_readFirm : MI := (yX3_readFirm, cX3_readFirm, 6, (some .boolean), RX3)
def mX3_readTie : MI := (yX3_readTie, cX3_readTie, 5, (some .boolean), RX3)
def mX3_readSale : MI := (yX3_readSale, cX3_readSale, 9, (some .boolean), RX3)
def mX3_readDay : MI := (yX3_readDay, cX3_readDay, 4, (some .int), RX3)
def mX3_readMark : MI := (yX3_readMark, cX3_readMark, 1, (some .int), RX3)
def mX3_readPaid : MI := (yX3_readPaid, cX3_readPaid, 4, (some .boolean), RX3)
def mX3_newName : MI := (yX3_newName, cX3_newName, 4, (some .int), RX3)
def mX3_toldName : MI := (yX3_toldName, cX3_toldName, 3, (some .int), RX3)
def mX3_numberWithin : MI := (yX3_numberWithin, cX3_numberWithin, 4, (some .int), RX3)
def mX3_lineEnds : MI := (yX3_lineEnds, cX3_lineEnds, 1, (some .boolean), RX3)
def mX3_fail : MI := (yX3_fail, cX3_fail, 2, (some .boolean), RX3)
def mX3_isOfLanguage : MI := (yX3_isOfLanguage, cX3_isOfLanguage, 1, (some .boolean), RX3)
def mX3_advance : MI := (yX3_advance, cX3_advance, 1, none, RX3)
def mX3_takeWord : MI := (yX3_takeWord, cX3_takeWord, 2, none, RX3)
def mX3_takeNumber : MI := (yX3_takeNumber, cX3_takeNumber, 1, none, RX3)
def mX3_isLetter : MI := (yX3_isLetter, cX3_isLetter, 1, (some .boolean), RX3)
def mX3_isDigit : MI := (yX3_isDigit, cX3_isDigit, 1, (some .boolean), RX3)
def mX4_has : MI := (yX4_has, cX4_has, 2, (some .boolean), RX4)
def mX4_add : MI := (yX4_add, cX4_add, 8, (some .boolean), RX4)
def mX4_goRound : MI := (yX4_goRound, cX4_goRound, 11, (some .boolean), RX4)
def mX4_alike : MI := (yX4_alike, cX4_alike, 4, (some .boolean), RX4)
def mX4_soldBelow : MI := (yX4_soldBelow, cX4_soldBelow, 3, (some .boolean), RX4)
def mX4_boughtDearer : MI := (yX4_boughtDearer, cX4_boughtDearer, 5, (some .boolean), RX4)
def mX4_buyersFrom : MI := (yX4_buyersFrom, cX4_buyersFrom, 4, (some .int), RX4)
def mX4_boughtOnlyFrom : MI := (yX4_boughtOnlyFrom, cX4_boughtOnlyFrom, 5, (some .boolean), RX4)
def mX4_gapsOf : MI := (yX4_gapsOf, cX4_gapsOf, 6, (some .int), RX4)
def mX4_nextOf : MI := (yX4_nextOf, cX4_nextOf, 6, (some .int), RX4)
def mX4_isBefore : MI := (yX4_isBefore, cX4_isBefore, 3, (some .boolean), RX4)
def mX5_most : MI := (yX5_most, cX5_most, 9, (some .int), RX5)
def mX5_load : MI := (yX5_load, cX5_load, 6, none, RX5)
def mX5_seekHome : MI := (yX5_seekHome, cX5_seekHome, 4, (some .int), RX5)
def mX5_visit : MI := (yX5_visit, cX5_visit, 3, none, RX5)
def mX5_spreadIn : MI := (yX5_spreadIn, cX5_spreadIn, 3, none, RX5)
def mX5_spreadOut : MI := (yX5_spreadOut, cX5_spreadOut, 3, none, RX5)
def mX5_narrowest : MI := (yX5_narrowest, cX5_narrowest, 5, (some .int), RX5)
def mX5_space : MI := (yX5_space, cX5_space, 5, (some .int), RX5)
def mX5_send : MI := (yX5_send, cX5_send, 5, none, RX5)
def mX5_addBetween : MI := (yX5_addBetween, cX5_addBetween, 6, none, RX5)
def mJ6_bitCount_0f7a4 : MI := (yJ6_bitCount_0f7a4, cJ6_bitCount_0f7a4, 1, (some .int), RJ6)
def mX6_feed : MI := (yX6_feed, cX6_feed, 6, (some .int), RX6)
def mX6_book : MI := (yX6_book, cX6_book, 4, (some .int), RX6)
def mX6_fault : MI := (yX6_fault, cX6_fault, 2, (some .int), RX6)
def mX6_named : MI := (yX6_named, cX6_named, 3, (some .int), RX6)
def mX6_look : MI := (yX6_look, cX6_look, 4, (some .int), RX6)
def mX6_firm : MI := (yX6_firm, cX6_firm, 3, (some .int), RX6)
def mX6_sell : MI := (yX6_sell, cX6_sell, 10, (some .int), RX6)
def mX6_undo : MI := (yX6_undo, cX6_undo, 2, (some .int), RX6)
def mX6_pay : MI := (yX6_pay, cX6_pay, 3, (some .int), RX6)
def mX6_rounds : MI := (yX6_rounds, cX6_rounds, 4, (some .int), RX6)
def mX6_round : MI := (yX6_round, cX6_round, 10, (some .int), RX6)
def mX6_judge : MI := (yX6_judge, cX6_judge, 6, (some .int), RX6)
def mX6_takes : MI := (yX6_takes, cX6_takes, 9, (some .long), RX6)
def mX6_flow : MI := (yX6_flow, cX6_flow, 3, (some .int), RX6)
def mX6_luck : MI := (yX6_luck, cX6_luck, 12, (some .int), RX6)
def mX6_signs : MI := (yX6_signs, cX6_signs, 6, (some .int), RX6)
def mX6_knew : MI := (yX6_knew, cX6_knew, 12, (some .int), RX6)
def mX6_hands : MI := (yX6_hands, cX6_hands, 3, (some .int), RX6)
def mX6_lacking : MI := (yX6_lacking, cX6_lacking, 2, (some .int), RX6)
def mX6_stop : MI := (yX6_stop, cX6_stop, 2, (some .int), RX6)
def mX6_fewest : MI := (yX6_fewest, cX6_fewest, 11, (some .int), RX6)
def mX6_rule : MI := (yX6_rule, cX6_rule, 2, (some .int), RX6)
def mX6_burden : MI := (yX6_burden, cX6_burden, 2, (some .int), RX6)
def mX6_starve : MI := (yX6_starve, cX6_starve, 8, (some .long), RX6)
def mX6_count : MI := (yX6_count, cX6_count, 2, (some .int), RX6)
def mX6_within : MI := (yX6_within, cX6_within, 3, (some .boolean), RX6)
def mX6_areBits : MI := (yX6_areBits, cX6_areBits, 2, (some .boolean), RX6)
def mX6_saleAt : MI := (yX6_saleAt, cX6_saleAt, 3, (some .int), RX6)
def mX6_gather : MI := (yX6_gather, cX6_gather, 4, (some .int), RX6)
def mX6_signBits : MI := (yX6_signBits, cX6_signBits, 5, (some .int), RX6)
def mX6_roundsWith : MI := (yX6_roundsWith, cX6_roundsWith, 5, (some .int), RX6)
def mX6_keepWorthy : MI := (yX6_keepWorthy, cX6_keepWorthy, 6, (some .int), RX6)
def mX6_leftIsAtMost : MI := (yX6_leftIsAtMost, cX6_leftIsAtMost, 8, (some .boolean), RX6)
def mX6_weighLands : MI := (yX6_weighLands, cX6_weighLands, 6, none, RX6)
def mX6_bestLands : MI := (yX6_bestLands, cX6_bestLands, 10, (some .int), RX6)
def mX6_takesOutside : MI := (yX6_takesOutside, cX6_takesOutside, 5, (some .long), RX6)
def mX6_burdenInside : MI := (yX6_burdenInside, cX6_burdenInside, 4, (some .int), RX6)
def mX7_feed : MI := (yX7_feed, cX7_feed, 8, (some .int), RX7)
def mX7_here : MI := (yX7_here, cX7_here, 1, (some .int), RX7)
def mX7_isSmall : MI := (yX7_isSmall, cX7_isSmall, 1, (some .boolean), RX7)
def mX7_isDigit : MI := (yX7_isDigit, cX7_isDigit, 1, (some .boolean), RX7)
def mX7_next : MI := (yX7_next, cX7_next, 2, none, RX7)
def mX7_word : MI := (yX7_word, cX7_word, 4, (some .int), RX7)
def mX7_name : MI := (yX7_name, cX7_name, 2, none, RX7)
def mX7_wrong : MI := (yX7_wrong, cX7_wrong, 2, none, RX7)
def mX7_isWord : MI := (yX7_isWord, cX7_isWord, 2, (some .boolean), RX7)
def mX7_numeral : MI := (yX7_numeral, cX7_numeral, 4, (some .int), RX7)
def mX7_found : MI := (yX7_found, cX7_found, 5, (some .int), RX7)
def mX7_fresh : MI := (yX7_fresh, cX7_fresh, 5, (some .int), RX7)
def mX7_told : MI := (yX7_told, cX7_told, 4, (some .int), RX7)
def mX7_goOn : MI := (yX7_goOn, cX7_goOn, 1, none, RX7)
def mX7_line : MI := (yX7_line, cX7_line, 2, none, RX7)
def mX7_firmLine : MI := (yX7_firmLine, cX7_firmLine, 4, none, RX7)
def mX7_sale : MI := (yX7_sale, cX7_sale, 2, none, RX7)
def mX7_paid : MI := (yX7_paid, cX7_paid, 3, none, RX7)
def mX7_book : MI := (yX7_book, cX7_book, 2, (some .int), RX7)
def mX7_lays : MI := (yX7_lays, cX7_lays, 2, none, RX7)
def mX7_fault : MI := (yX7_fault, cX7_fault, 2, (some .int), RX7)
def mX7_named : MI := (yX7_named, cX7_named, 3, (some .int), RX7)
def mX7_isFirm : MI := (yX7_isFirm, cX7_isFirm, 2, (some .boolean), RX7)
def mX7_isSale : MI := (yX7_isSale, cX7_isSale, 2, (some .boolean), RX7)
def mX7_rate : MI := (yX7_rate, cX7_rate, 4, (some .int), RX7)
def mX7_taxOf : MI := (yX7_taxOf, cX7_taxOf, 3, (some .int), RX7)
def mX7_owes : MI := (yX7_owes, cX7_owes, 5, (some .int), RX7)
def mX7_isMissing : MI := (yX7_isMissing, cX7_isMissing, 3, (some .boolean), RX7)
def mX7_parties : MI := (yX7_parties, cX7_parties, 4, none, RX7)
def mX7_look : MI := (yX7_look, cX7_look, 3, (some .int), RX7)
def mX7_firm : MI := (yX7_firm, cX7_firm, 3, (some .int), RX7)
def mX7_sell : MI := (yX7_sell, cX7_sell, 8, (some .int), RX7)
def mX7_undo : MI := (yX7_undo, cX7_undo, 1, (some .int), RX7)
def mX7_pay : MI := (yX7_pay, cX7_pay, 3, (some .int), RX7)
def mX7_isAsked : MI := (yX7_isAsked, cX7_isAsked, 3, (some .boolean), RX7)
def mX7_isStopped : MI := (yX7_isStopped, cX7_isStopped, 2, (some .boolean), RX7)
def mX7_fits : MI := (yX7_fits, cX7_fits, 6, (some .boolean), RX7)
def mX7_grows : MI := (yX7_grows, cX7_grows, 3, none, RX7)
def mX7_seeks : MI := (yX7_seeks, cX7_seeks, 5, none, RX7)
def mX7_seeksNow : MI := (yX7_seeksNow, cX7_seeksNow, 5, none, RX7)
def mX7_rounds : MI := (yX7_rounds, cX7_rounds, 4, (some .int), RX7)
def mX7_carries : MI := (yX7_carries, cX7_carries, 4, (some .int), RX7)
def mX7_firmsOf : MI := (yX7_firmsOf, cX7_firmsOf, 4, (some .int), RX7)
def mX7_takesOf : MI := (yX7_takesOf, cX7_takesOf, 8, (some .int), RX7)
def mX7_round : MI := (yX7_round, cX7_round, 6, (some .int), RX7)
def mX7_judge : MI := (yX7_judge, cX7_judge, 6, (some .int), RX7)
def mX7_takes : MI := (yX7_takes, cX7_takes, 4, (some .long), RX7)
def mX7_allTakes : MI := (yX7_allTakes, cX7_allTakes, 7, (some .long), RX7)
def mX7_counts : MI := (yX7_counts, cX7_counts, 3, (some .boolean), RX7)
def mX7_mayHand : MI := (yX7_mayHand, cX7_mayHand, 4, (some .boolean), RX7)
def mX7_flow : MI := (yX7_flow, cX7_flow, 3, (some .int), RX7)
def mX7_flowBy : MI := (yX7_flowBy, cX7_flowBy, 6, (some .int), RX7)
def mX7_reaches : MI := (yX7_reaches, cX7_reaches, 4, (some .boolean), RX7)
def mX7_luck : MI := (yX7_luck, cX7_luck, 13, (some .int), RX7)
def mX7_soldUnder : MI := (yX7_soldUnder, cX7_soldUnder, 4, (some .boolean), RX7)
def mX7_boughtFromMissing : MI := (yX7_boughtFromMissing, cX7_boughtFromMissing, 3, (some .boolean), RX7)
def mX7_boughtOfSuch : MI := (yX7_boughtOfSuch, cX7_boughtOfSuch, 4, (some .boolean), RX7)
def mX7_roundsWith : MI := (yX7_roundsWith, cX7_roundsWith, 4, (some .int), RX7)
def mX7_hasMissing : MI := (yX7_hasMissing, cX7_hasMissing, 3, (some .boolean), RX7)
def mX7_signsOf : MI := (yX7_signsOf, cX7_signsOf, 2, (some .int), RX7)
def mX7_signs : MI := (yX7_signs, cX7_signs, 5, (some .int), RX7)
def mX7_knew : MI := (yX7_knew, cX7_knew, 9, (some .int), RX7)
def mX7_hands : MI := (yX7_hands, cX7_hands, 3, (some .int), RX7)
def mX7_lacking : MI := (yX7_lacking, cX7_lacking, 6, (some .int), RX7)
def mX7_bits : MI := (yX7_bits, cX7_bits, 3, (some .int), RX7)
def mX7_stop : MI := (yX7_stop, cX7_stop, 2, (some .int), RX7)
def mX7_fewest : MI := (yX7_fewest, cX7_fewest, 11, (some .int), RX7)
def mX7_rule : MI := (yX7_rule, cX7_rule, 2, (some .int), RX7)
def mX7_burdenOf : MI := (yX7_burdenOf, cX7_burdenOf, 4, (some .int), RX7)
def mX7_burden : MI := (yX7_burden, cX7_burden, 2, (some .int), RX7)
def mX7_starve : MI := (yX7_starve, cX7_starve, 14, (some .long), RX7)
def mX7_count : MI := (yX7_count, cX7_count, 4, (some .int), RX7)
def mL_law : MI := (yL_law, code, 7, some .boolean, RL)
theorem miX0_clear : MiOk mX0_clear 0 := ⟨by decide, rfl, by decide, ⟨by decide, by decide, by decide +kernel⟩, by decide, wd455, wd94⟩
theorem miX0_addFirm : MiOk mX0_addFirm 3 := ⟨by decide, rfl, by decide, ⟨by decide, by decide, by decide +kernel⟩, by decide, wd531, wd94⟩
theorem miX0_sinceBoth : MiOk mX0_sinceBoth 2 := ⟨by decide, rfl, by decide, ⟨by decide, by decide, by decide +kernel⟩, by decide, wd546, wd94⟩
theorem miX0_joinParties : MiOk mX0_joinParties 0 := ⟨by decide, rfl, by decide, ⟨by decide, by decide, by decide +kernel⟩, by decide, wd572, wd94⟩
theorem miX0_areJoined : MiOk mX0_areJoined 2 := ⟨by decide, rfl, by decide, ⟨by decide, by decide, by decide +kernel⟩, by decide, wd576, wd94⟩
theorem miX0_mergeParties : MiOk mX0_mergeParties 2 := ⟨by decide, rfl, by decide, ⟨by decide, by decide, by decide +kernel⟩, by decide, wd580, wd94⟩
theorem miX0_partners : MiOk mX0_partners 1 := ⟨by decide, rfl, by decide, ⟨by decide, by decide, by decide +kernel⟩, by decide, wd810, wd94⟩
theorem miX0_firmsIn : MiOk mX0_firmsIn 1 := ⟨by decide, rfl, by decide, ⟨by decide, by decide, by decide +kernel⟩, by decide, wd875, wd94⟩
theorem miX0_taxEach : MiOk mX0_taxEach 2 := ⟨by decide, rfl, by decide, ⟨by decide, by decide, by decide +kernel⟩, by decide, wd619, wd94⟩
theorem miX0_taxOf : MiOk mX0_taxOf 2 := ⟨by decide, rfl, by decide, ⟨by decide, by decide, by decide +kernel⟩, by decide, wd615, wd94⟩
theorem miX0_tally : MiOk mX0_tally 1 := ⟨by decide, rfl, by decide, ⟨by decide, by decide, by decide +kernel⟩, by decide, wd611, wd94⟩
theorem miX0_owed : MiOk mX0_owed 2 := ⟨by decide, rfl, by decide, ⟨by decide, by decide, by decide +kernel⟩, by decide, wd607, wd94⟩
theorem miX0_missing : MiOk mX0_missing 1 := ⟨by decide, rfl, by decide, ⟨by decide, by decide, by decide +kernel⟩, by decide, wd623, wd94⟩
theorem miX0_honestSales : MiOk mX0_honestSales 2 := ⟨by decide, rfl, by decide, ⟨by decide, by decide, by decide +kernel⟩, by decide, wd871, wd94⟩
theorem miX0_firmsOf : MiOk mX0_firmsOf 2 := ⟨by decide, rfl, by decide, ⟨by decide, by decide, by decide +kernel⟩, by decide, wd696, wd94⟩
theorem miX0_carriedBy : MiOk mX0_carriedBy 2 := ⟨by decide, rfl, by decide, ⟨by decide, by decide, by decide +kernel⟩, by decide, wd683, wd94⟩
theorem miX0_takenBy : MiOk mX0_takenBy 4 := ⟨by decide, rfl, by decide, ⟨by decide, by decide, by decide +kernel⟩, by decide, wd691, wd94⟩
theorem miX1_forget : MiOk mX1_forget 0 := ⟨by decide, rfl, by decide, ⟨by decide, by decide, by decide +kernel⟩, by decide, wd585, wd92⟩
theorem miX1_find : MiOk mX1_find 5 := ⟨by decide, rfl, by decide, ⟨by decide, by decide, by decide +kernel⟩, by decide, wd651, wd92⟩
theorem miX1_load : MiOk mX1_load 3 := ⟨by decide, rfl, by decide, ⟨by decide, by decide, by decide +kernel⟩, by decide, wd655, wd92⟩
theorem miX1_shuffle : MiOk mX1_shuffle 1 := ⟨by decide, rfl, by decide, ⟨by decide, by decide, by decide +kernel⟩, by decide, wd773, wd92⟩
theorem miX1_search : MiOk mX1_search 2 := ⟨by decide, rfl, by decide, ⟨by decide, by decide, by decide +kernel⟩, by decide, wd659, wd92⟩
theorem miX1_linkSales : MiOk mX1_linkSales 0 := ⟨by decide, rfl, by decide, ⟨by decide, by decide, by decide +kernel⟩, by decide, wd663, wd92⟩
theorem miX1_measure : MiOk mX1_measure 1 := ⟨by decide, rfl, by decide, ⟨by decide, by decide, by decide +kernel⟩, by decide, wd667, wd92⟩
theorem miX1_extend : MiOk mX1_extend 4 := ⟨by decide, rfl, by decide, ⟨by decide, by decide, by decide +kernel⟩, by decide, wd671, wd92⟩
theorem miX1_keep : MiOk mX1_keep 2 := ⟨by decide, rfl, by decide, ⟨by decide, by decide, by decide +kernel⟩, by decide, wd675, wd92⟩
theorem miX2_has : MiOk mX2_has 1 := ⟨by decide, rfl, by decide, ⟨by decide, by decide, by decide +kernel⟩, by decide, wd602, wd95⟩
theorem miX2_find : MiOk mX2_find 1 := ⟨by decide, rfl, by decide, ⟨by decide, by decide, by decide +kernel⟩, by decide, wd500, wd95⟩
theorem miX2_add : MiOk mX2_add 1 := ⟨by decide, rfl, by decide, ⟨by decide, by decide, by decide +kernel⟩, by decide, wd511, wd95⟩
theorem miX3_hasSpace : MiOk mX3_hasSpace 1 := ⟨by decide, rfl, by decide, ⟨by decide, by decide, by decide +kernel⟩, by decide, wd442, wd91⟩
theorem miX3_push : MiOk mX3_push 1 := ⟨by decide, rfl, by decide, ⟨by decide, by decide, by decide +kernel⟩, by decide, wd446, wd91⟩
theorem miX3_read : MiOk mX3_read 2 := ⟨by decide, rfl, by decide, ⟨by decide, by decide, by decide +kernel⟩, by decide, wd459, wd91⟩
theorem miX3_readLand : MiOk mX3_readLand 1 := ⟨by decide, rfl, by decide, ⟨by decide, by decide, by decide +kernel⟩, by decide, wd485, wd91⟩
theorem miX3_readGood : MiOk mX3_readGood 1 := ⟨by decide, rfl, by decide, ⟨by decide, by decide, by decide +kernel⟩, by decide, wd519, wd91⟩
theorem miX3_readFirm : MiOk mX3_readFirm 1 := ⟨by decide, rfl, by decide, ⟨by decide, by decide, by decide +kernel⟩, by decide, wd523, wd91⟩
theorem miX3_readTie : MiOk mX3_readTie 2 := ⟨by decide, rfl, by decide, ⟨by decide, by decide, by decide +kernel⟩, by decide, wd536, wd91⟩
theorem miX3_readSale : MiOk mX3_readSale 1 := ⟨by decide, rfl, by decide, ⟨by decide, by decide, by decide +kernel⟩, by decide, wd542, wd91⟩
theorem miX3_readDay : MiOk mX3_readDay 1 := ⟨by decide, rfl, by decide, ⟨by decide, by decide, by decide +kernel⟩, by decide, wd553, wd91⟩
theorem miX3_readMark : MiOk mX3_readMark 0 := ⟨by decide, rfl, by decide, ⟨by decide, by decide, by decide +kernel⟩, by decide, wd558, wd91⟩
theorem miX3_readPaid : MiOk mX3_readPaid 1 := ⟨by decide, rfl, by decide, ⟨by decide, by decide, by decide +kernel⟩, by decide, wd567, wd91⟩
theorem miX3_newName : MiOk mX3_newName 2 := ⟨by decide, rfl, by decide, ⟨by decide, by decide, by decide +kernel⟩, by decide, wd489, wd91⟩
theorem miX3_toldName : MiOk mX3_toldName 1 := ⟨by decide, rfl, by decide, ⟨by decide, by decide, by decide +kernel⟩, by decide, wd527, wd91⟩
theorem miX3_numberWithin : MiOk mX3_numberWithin 2 := ⟨by decide, rfl, by decide, ⟨by decide, by decide, by decide +kernel⟩, by decide, wd504, wd91⟩
theorem miX3_lineEnds : MiOk mX3_lineEnds 0 := ⟨by decide, rfl, by decide, ⟨by decide, by decide, by decide +kernel⟩, by decide, wd515, wd91⟩
theorem miX3_fail : MiOk mX3_fail 1 := ⟨by decide, rfl, by decide, ⟨by decide, by decide, by decide +kernel⟩, by decide, wd493, wd91⟩
theorem miX3_isOfLanguage : MiOk mX3_isOfLanguage 1 := ⟨by decide, rfl, by decide, ⟨by decide, by decide, by decide +kernel⟩, by decide, wd496, wd91⟩
theorem miX3_advance : MiOk mX3_advance 0 := ⟨by decide, rfl, by decide, ⟨by decide, by decide, by decide +kernel⟩, by decide, wd466, wd91⟩
theorem miX3_takeWord : MiOk mX3_takeWord 0 := ⟨by decide, rfl, by decide, ⟨by decide, by decide, by decide +kernel⟩, by decide, wd473, wd91⟩
theorem miX3_takeNumber : MiOk mX3_takeNumber 0 := ⟨by decide, rfl, by decide, ⟨by decide, by decide, by decide +kernel⟩, by decide, wd480, wd91⟩
theorem miX3_isLetter : MiOk mX3_isLetter 1 := ⟨by decide, rfl, by decide, ⟨by decide, by decide, by decide +kernel⟩, by decide, wd469, wd91⟩
theorem miX3_isDigit : MiOk mX3_isDigit 1 := ⟨by decide, rfl, by decide, ⟨by decide, by decide, by decide +kernel⟩, by decide, wd476, wd91⟩
theorem miX4_has : MiOk mX4_has 1 := ⟨by decide, rfl, by decide, ⟨by decide, by decide, by decide +kernel⟩, by decide, wd705, wd96⟩
theorem miX4_add : MiOk mX4_add 7 := ⟨by decide, rfl, by decide, ⟨by decide, by decide, by decide +kernel⟩, by decide, wd563, wd96⟩
theorem miX4_goRound : MiOk mX4_goRound 4 := ⟨by decide, rfl, by decide, ⟨by decide, by decide, by decide +kernel⟩, by decide, wd709, wd96⟩
theorem miX4_alike : MiOk mX4_alike 3 := ⟨by decide, rfl, by decide, ⟨by decide, by decide, by decide +kernel⟩, by decide, wd714, wd96⟩
theorem miX4_soldBelow : MiOk mX4_soldBelow 1 := ⟨by decide, rfl, by decide, ⟨by decide, by decide, by decide +kernel⟩, by decide, wd790, wd96⟩
theorem miX4_boughtDearer : MiOk mX4_boughtDearer 2 := ⟨by decide, rfl, by decide, ⟨by decide, by decide, by decide +kernel⟩, by decide, wd794, wd96⟩
theorem miX4_buyersFrom : MiOk mX4_buyersFrom 1 := ⟨by decide, rfl, by decide, ⟨by decide, by decide, by decide +kernel⟩, by decide, wd798, wd96⟩
theorem miX4_boughtOnlyFrom : MiOk mX4_boughtOnlyFrom 2 := ⟨by decide, rfl, by decide, ⟨by decide, by decide, by decide +kernel⟩, by decide, wd802, wd96⟩
theorem miX4_gapsOf : MiOk mX4_gapsOf 1 := ⟨by decide, rfl, by decide, ⟨by decide, by decide, by decide +kernel⟩, by decide, wd826, wd96⟩
theorem miX4_nextOf : MiOk mX4_nextOf 2 := ⟨by decide, rfl, by decide, ⟨by decide, by decide, by decide +kernel⟩, by decide, wd830, wd96⟩
theorem miX4_isBefore : MiOk mX4_isBefore 2 := ⟨by decide, rfl, by decide, ⟨by decide, by decide, by decide +kernel⟩, by decide, wd834, wd96⟩
theorem miX5_most : MiOk mX5_most 4 := ⟨by decide, rfl, by decide, ⟨by decide, by decide, by decide +kernel⟩, by decide, wd726, wd93⟩
theorem miX5_load : MiOk mX5_load 3 := ⟨by decide, rfl, by decide, ⟨by decide, by decide, by decide +kernel⟩, by decide, wd730, wd93⟩
theorem miX5_seekHome : MiOk mX5_seekHome 0 := ⟨by decide, rfl, by decide, ⟨by decide, by decide, by decide +kernel⟩, by decide, wd735, wd93⟩
theorem miX5_visit : MiOk mX5_visit 2 := ⟨by decide, rfl, by decide, ⟨by decide, by decide, by decide +kernel⟩, by decide, wd739, wd93⟩
theorem miX5_spreadIn : MiOk mX5_spreadIn 1 := ⟨by decide, rfl, by decide, ⟨by decide, by decide, by decide +kernel⟩, by decide, wd743, wd93⟩
theorem miX5_spreadOut : MiOk mX5_spreadOut 1 := ⟨by decide, rfl, by decide, ⟨by decide, by decide, by decide +kernel⟩, by decide, wd747, wd93⟩
theorem miX5_narrowest : MiOk mX5_narrowest 1 := ⟨by decide, rfl, by decide, ⟨by decide, by decide, by decide +kernel⟩, by decide, wd751, wd93⟩
theorem miX5_space : MiOk mX5_space 2 := ⟨by decide, rfl, by decide, ⟨by decide, by decide, by decide +kernel⟩, by decide, wd755, wd93⟩
theorem miX5_send : MiOk mX5_send 2 := ⟨by decide, rfl, by decide, ⟨by decide, by decide, by decide +kernel⟩, by decide, wd760, wd93⟩
theorem miX5_addBetween : MiOk mX5_addBetween 3 := ⟨by decide, rfl, by decide, ⟨by decide, by decide, by decide +kernel⟩, by decide, wd764, wd93⟩
theorem miJ6_bitCount_0f7a4 : MiOk mJ6_bitCount_0f7a4 1 := ⟨by decide, rfl, by decide, ⟨by decide, by decide, by decide +kernel⟩, by decide, wd844, wd108⟩
theorem miX6_feed : MiOk mX6_feed 5 := ⟨by decide, rfl, by decide, ⟨by decide, by decide, by decide +kernel⟩, by decide, wd438, wd90⟩
theorem miX6_book : MiOk mX6_book 1 := ⟨by decide, rfl, by decide, ⟨by decide, by decide, by decide +kernel⟩, by decide, wd451, wd90⟩
theorem miX6_fault : MiOk mX6_fault 1 := ⟨by decide, rfl, by decide, ⟨by decide, by decide, by decide +kernel⟩, by decide, wd589, wd90⟩
theorem miX6_named : MiOk mX6_named 2 := ⟨by decide, rfl, by decide, ⟨by decide, by decide, by decide +kernel⟩, by decide, wd593, wd90⟩
theorem miX6_look : MiOk mX6_look 2 := ⟨by decide, rfl, by decide, ⟨by decide, by decide, by decide +kernel⟩, by decide, wd910, wd90⟩
theorem miX6_firm : MiOk mX6_firm 2 := ⟨by decide, rfl, by decide, ⟨by decide, by decide, by decide +kernel⟩, by decide, wd598, wd90⟩
theorem miX6_sell : MiOk mX6_sell 7 := ⟨by decide, rfl, by decide, ⟨by decide, by decide, by decide +kernel⟩, by decide, wd627, wd90⟩
theorem miX6_undo : MiOk mX6_undo 0 := ⟨by decide, rfl, by decide, ⟨by decide, by decide, by decide +kernel⟩, by decide, wd634, wd90⟩
theorem miX6_pay : MiOk mX6_pay 2 := ⟨by decide, rfl, by decide, ⟨by decide, by decide, by decide +kernel⟩, by decide, wd638, wd90⟩
theorem miX6_rounds : MiOk mX6_rounds 3 := ⟨by decide, rfl, by decide, ⟨by decide, by decide, by decide +kernel⟩, by decide, wd643, wd90⟩
theorem miX6_round : MiOk mX6_round 5 := ⟨by decide, rfl, by decide, ⟨by decide, by decide, by decide +kernel⟩, by decide, wd679, wd90⟩
theorem miX6_judge : MiOk mX6_judge 3 := ⟨by decide, rfl, by decide, ⟨by decide, by decide, by decide +kernel⟩, by decide, wd701, wd90⟩
theorem miX6_takes : MiOk mX6_takes 3 := ⟨by decide, rfl, by decide, ⟨by decide, by decide, by decide +kernel⟩, by decide, wd718, wd90⟩
theorem miX6_flow : MiOk mX6_flow 2 := ⟨by decide, rfl, by decide, ⟨by decide, by decide, by decide +kernel⟩, by decide, wd722, wd90⟩
theorem miX6_luck : MiOk mX6_luck 5 := ⟨by decide, rfl, by decide, ⟨by decide, by decide, by decide +kernel⟩, by decide, wd768, wd90⟩
theorem miX6_signs : MiOk mX6_signs 4 := ⟨by decide, rfl, by decide, ⟨by decide, by decide, by decide +kernel⟩, by decide, wd782, wd90⟩
theorem miX6_knew : MiOk mX6_knew 5 := ⟨by decide, rfl, by decide, ⟨by decide, by decide, by decide +kernel⟩, by decide, wd814, wd90⟩
theorem miX6_hands : MiOk mX6_hands 0 := ⟨by decide, rfl, by decide, ⟨by decide, by decide, by decide +kernel⟩, by decide, wd818, wd90⟩
theorem miX6_lacking : MiOk mX6_lacking 1 := ⟨by decide, rfl, by decide, ⟨by decide, by decide, by decide +kernel⟩, by decide, wd822, wd90⟩
theorem miX6_stop : MiOk mX6_stop 1 := ⟨by decide, rfl, by decide, ⟨by decide, by decide, by decide +kernel⟩, by decide, wd838, wd90⟩
theorem miX6_fewest : MiOk mX6_fewest 4 := ⟨by decide, rfl, by decide, ⟨by decide, by decide, by decide +kernel⟩, by decide, wd851, wd90⟩
theorem miX6_rule : MiOk mX6_rule 1 := ⟨by decide, rfl, by decide, ⟨by decide, by decide, by decide +kernel⟩, by decide, wd863, wd90⟩
theorem miX6_burden : MiOk mX6_burden 1 := ⟨by decide, rfl, by decide, ⟨by decide, by decide, by decide +kernel⟩, by decide, wd867, wd90⟩
theorem miX6_starve : MiOk mX6_starve 5 := ⟨by decide, rfl, by decide, ⟨by decide, by decide, by decide +kernel⟩, by decide, wd879, wd90⟩
theorem miX6_count : MiOk mX6_count 1 := ⟨by decide, rfl, by decide, ⟨by decide, by decide, by decide +kernel⟩, by decide, wd901, wd90⟩
theorem miX6_within : MiOk mX6_within 3 := ⟨by decide, rfl, by decide, ⟨by decide, by decide, by decide +kernel⟩, by decide, wd507, wd90⟩
theorem miX6_areBits : MiOk mX6_areBits 2 := ⟨by decide, rfl, by decide, ⟨by decide, by decide, by decide +kernel⟩, by decide, wd841, wd90⟩
theorem miX6_saleAt : MiOk mX6_saleAt 2 := ⟨by decide, rfl, by decide, ⟨by decide, by decide, by decide +kernel⟩, by decide, wd686, wd90⟩
theorem miX6_gather : MiOk mX6_gather 3 := ⟨by decide, rfl, by decide, ⟨by decide, by decide, by decide +kernel⟩, by decide, wd647, wd90⟩
theorem miX6_signBits : MiOk mX6_signBits 3 := ⟨by decide, rfl, by decide, ⟨by decide, by decide, by decide +kernel⟩, by decide, wd786, wd90⟩
theorem miX6_roundsWith : MiOk mX6_roundsWith 2 := ⟨by decide, rfl, by decide, ⟨by decide, by decide, by decide +kernel⟩, by decide, wd806, wd90⟩
theorem miX6_keepWorthy : MiOk mX6_keepWorthy 1 := ⟨by decide, rfl, by decide, ⟨by decide, by decide, by decide +kernel⟩, by decide, wd855, wd90⟩
theorem miX6_leftIsAtMost : MiOk mX6_leftIsAtMost 3 := ⟨by decide, rfl, by decide, ⟨by decide, by decide, by decide +kernel⟩, by decide, wd859, wd90⟩
theorem miX6_weighLands : MiOk mX6_weighLands 1 := ⟨by decide, rfl, by decide, ⟨by decide, by decide, by decide +kernel⟩, by decide, wd884, wd90⟩
theorem miX6_bestLands : MiOk mX6_bestLands 1 := ⟨by decide, rfl, by decide, ⟨by decide, by decide, by decide +kernel⟩, by decide, wd889, wd90⟩
theorem miX6_takesOutside : MiOk mX6_takesOutside 1 := ⟨by decide, rfl, by decide, ⟨by decide, by decide, by decide +kernel⟩, by decide, wd893, wd90⟩
theorem miX6_burdenInside : MiOk mX6_burdenInside 1 := ⟨by decide, rfl, by decide, ⟨by decide, by decide, by decide +kernel⟩, by decide, wd897, wd90⟩
theorem miX7_feed : MiOk mX7_feed 5 := ⟨by decide, rfl, by decide, ⟨by decide, by decide, by decide +kernel⟩, by decide, wd1172, wd97⟩
theorem miX7_here : MiOk mX7_here 0 := ⟨by decide, rfl, by decide, ⟨by decide, by decide, by decide +kernel⟩, by decide, wd1184, wd97⟩
theorem miX7_isSmall : MiOk mX7_isSmall 1 := ⟨by decide, rfl, by decide, ⟨by decide, by decide, by decide +kernel⟩, by decide, wd1187, wd97⟩
theorem miX7_isDigit : MiOk mX7_isDigit 1 := ⟨by decide, rfl, by decide, ⟨by decide, by decide, by decide +kernel⟩, by decide, wd1247, wd97⟩
theorem miX7_next : MiOk mX7_next 0 := ⟨by decide, rfl, by decide, ⟨by decide, by decide, by decide +kernel⟩, by decide, wd1180, wd97⟩
theorem miX7_word : MiOk mX7_word 0 := ⟨by decide, rfl, by decide, ⟨by decide, by decide, by decide +kernel⟩, by decide, wd1191, wd97⟩
theorem miX7_name : MiOk mX7_name 0 := ⟨by decide, rfl, by decide, ⟨by decide, by decide, by decide +kernel⟩, by decide, wd1244, wd97⟩
theorem miX7_wrong : MiOk mX7_wrong 1 := ⟨by decide, rfl, by decide, ⟨by decide, by decide, by decide +kernel⟩, by decide, wd1256, wd97⟩
theorem miX7_isWord : MiOk mX7_isWord 1 := ⟨by decide, rfl, by decide, ⟨by decide, by decide, by decide +kernel⟩, by decide, wd1283, wd97⟩
theorem miX7_numeral : MiOk mX7_numeral 2 := ⟨by decide, rfl, by decide, ⟨by decide, by decide, by decide +kernel⟩, by decide, wd1267, wd97⟩
theorem miX7_found : MiOk mX7_found 4 := ⟨by decide, rfl, by decide, ⟨by decide, by decide, by decide +kernel⟩, by decide, wd1263, wd97⟩
theorem miX7_fresh : MiOk mX7_fresh 3 := ⟨by decide, rfl, by decide, ⟨by decide, by decide, by decide +kernel⟩, by decide, wd1260, wd97⟩
theorem miX7_told : MiOk mX7_told 3 := ⟨by decide, rfl, by decide, ⟨by decide, by decide, by decide +kernel⟩, by decide, wd1275, wd97⟩
theorem miX7_goOn : MiOk mX7_goOn 0 := ⟨by decide, rfl, by decide, ⟨by decide, by decide, by decide +kernel⟩, by decide, wd1279, wd97⟩
theorem miX7_line : MiOk mX7_line 0 := ⟨by decide, rfl, by decide, ⟨by decide, by decide, by decide +kernel⟩, by decide, wd1252, wd97⟩
theorem miX7_firmLine : MiOk mX7_firmLine 1 := ⟨by decide, rfl, by decide, ⟨by decide, by decide, by decide +kernel⟩, by decide, wd1271, wd97⟩
theorem miX7_sale : MiOk mX7_sale 1 := ⟨by decide, rfl, by decide, ⟨by decide, by decide, by decide +kernel⟩, by decide, wd1287, wd97⟩
theorem miX7_paid : MiOk mX7_paid 0 := ⟨by decide, rfl, by decide, ⟨by decide, by decide, by decide +kernel⟩, by decide, wd1291, wd97⟩
theorem miX7_book : MiOk mX7_book 1 := ⟨by decide, rfl, by decide, ⟨by decide, by decide, by decide +kernel⟩, by decide, wd1176, wd97⟩
theorem miX7_lays : MiOk mX7_lays 0 := ⟨by decide, rfl, by decide, ⟨by decide, by decide, by decide +kernel⟩, by decide, wd1295, wd97⟩
theorem miX7_fault : MiOk mX7_fault 1 := ⟨by decide, rfl, by decide, ⟨by decide, by decide, by decide +kernel⟩, by decide, wd1299, wd97⟩
theorem miX7_named : MiOk mX7_named 2 := ⟨by decide, rfl, by decide, ⟨by decide, by decide, by decide +kernel⟩, by decide, wd1303, wd97⟩
theorem miX7_isFirm : MiOk mX7_isFirm 1 := ⟨by decide, rfl, by decide, ⟨by decide, by decide, by decide +kernel⟩, by decide, wd1327, wd97⟩
theorem miX7_isSale : MiOk mX7_isSale 1 := ⟨by decide, rfl, by decide, ⟨by decide, by decide, by decide +kernel⟩, by decide, wd1311, wd97⟩
theorem miX7_rate : MiOk mX7_rate 2 := ⟨by decide, rfl, by decide, ⟨by decide, by decide, by decide +kernel⟩, by decide, wd1319, wd97⟩
theorem miX7_taxOf : MiOk mX7_taxOf 2 := ⟨by decide, rfl, by decide, ⟨by decide, by decide, by decide +kernel⟩, by decide, wd1315, wd97⟩
theorem miX7_owes : MiOk mX7_owes 2 := ⟨by decide, rfl, by decide, ⟨by decide, by decide, by decide +kernel⟩, by decide, wd1337, wd97⟩
theorem miX7_isMissing : MiOk mX7_isMissing 2 := ⟨by decide, rfl, by decide, ⟨by decide, by decide, by decide +kernel⟩, by decide, wd1341, wd97⟩
theorem miX7_parties : MiOk mX7_parties 0 := ⟨by decide, rfl, by decide, ⟨by decide, by decide, by decide +kernel⟩, by decide, wd1332, wd97⟩
theorem miX7_look : MiOk mX7_look 2 := ⟨by decide, rfl, by decide, ⟨by decide, by decide, by decide +kernel⟩, by decide, wd1307, wd97⟩
theorem miX7_firm : MiOk mX7_firm 2 := ⟨by decide, rfl, by decide, ⟨by decide, by decide, by decide +kernel⟩, by decide, wd1323, wd97⟩
theorem miX7_sell : MiOk mX7_sell 7 := ⟨by decide, rfl, by decide, ⟨by decide, by decide, by decide +kernel⟩, by decide, wd1345, wd97⟩
theorem miX7_undo : MiOk mX7_undo 0 := ⟨by decide, rfl, by decide, ⟨by decide, by decide, by decide +kernel⟩, by decide, wd1349, wd97⟩
theorem miX7_pay : MiOk mX7_pay 2 := ⟨by decide, rfl, by decide, ⟨by decide, by decide, by decide +kernel⟩, by decide, wd1353, wd97⟩
theorem miX7_isAsked : MiOk mX7_isAsked 3 := ⟨by decide, rfl, by decide, ⟨by decide, by decide, by decide +kernel⟩, by decide, wd1360, wd97⟩
theorem miX7_isStopped : MiOk mX7_isStopped 1 := ⟨by decide, rfl, by decide, ⟨by decide, by decide, by decide +kernel⟩, by decide, wd1372, wd97⟩
theorem miX7_fits : MiOk mX7_fits 2 := ⟨by decide, rfl, by decide, ⟨by decide, by decide, by decide +kernel⟩, by decide, wd1380, wd97⟩
theorem miX7_grows : MiOk mX7_grows 1 := ⟨by decide, rfl, by decide, ⟨by decide, by decide, by decide +kernel⟩, by decide, wd1376, wd97⟩
theorem miX7_seeks : MiOk mX7_seeks 3 := ⟨by decide, rfl, by decide, ⟨by decide, by decide, by decide +kernel⟩, by decide, wd1368, wd97⟩
theorem miX7_seeksNow : MiOk mX7_seeksNow 3 := ⟨by decide, rfl, by decide, ⟨by decide, by decide, by decide +kernel⟩, by decide, wd1364, wd97⟩
theorem miX7_rounds : MiOk mX7_rounds 3 := ⟨by decide, rfl, by decide, ⟨by decide, by decide, by decide +kernel⟩, by decide, wd1357, wd97⟩
theorem miX7_carries : MiOk mX7_carries 1 := ⟨by decide, rfl, by decide, ⟨by decide, by decide, by decide +kernel⟩, by decide, wd1388, wd97⟩
theorem miX7_firmsOf : MiOk mX7_firmsOf 1 := ⟨by decide, rfl, by decide, ⟨by decide, by decide, by decide +kernel⟩, by decide, wd1397, wd97⟩
theorem miX7_takesOf : MiOk mX7_takesOf 3 := ⟨by decide, rfl, by decide, ⟨by decide, by decide, by decide +kernel⟩, by decide, wd1392, wd97⟩
theorem miX7_round : MiOk mX7_round 5 := ⟨by decide, rfl, by decide, ⟨by decide, by decide, by decide +kernel⟩, by decide, wd1384, wd97⟩
theorem miX7_judge : MiOk mX7_judge 3 := ⟨by decide, rfl, by decide, ⟨by decide, by decide, by decide +kernel⟩, by decide, wd1401, wd97⟩
theorem miX7_takes : MiOk mX7_takes 3 := ⟨by decide, rfl, by decide, ⟨by decide, by decide, by decide +kernel⟩, by decide, wd1406, wd97⟩
theorem miX7_allTakes : MiOk mX7_allTakes 3 := ⟨by decide, rfl, by decide, ⟨by decide, by decide, by decide +kernel⟩, by decide, wd1412, wd97⟩
theorem miX7_counts : MiOk mX7_counts 2 := ⟨by decide, rfl, by decide, ⟨by decide, by decide, by decide +kernel⟩, by decide, wd1424, wd97⟩
theorem miX7_mayHand : MiOk mX7_mayHand 3 := ⟨by decide, rfl, by decide, ⟨by decide, by decide, by decide +kernel⟩, by decide, wd1428, wd97⟩
theorem miX7_flow : MiOk mX7_flow 2 := ⟨by decide, rfl, by decide, ⟨by decide, by decide, by decide +kernel⟩, by decide, wd1416, wd97⟩
theorem miX7_flowBy : MiOk mX7_flowBy 2 := ⟨by decide, rfl, by decide, ⟨by decide, by decide, by decide +kernel⟩, by decide, wd1420, wd97⟩
theorem miX7_reaches : MiOk mX7_reaches 0 := ⟨by decide, rfl, by decide, ⟨by decide, by decide, by decide +kernel⟩, by decide, wd1432, wd97⟩
theorem miX7_luck : MiOk mX7_luck 5 := ⟨by decide, rfl, by decide, ⟨by decide, by decide, by decide +kernel⟩, by decide, wd1436, wd97⟩
theorem miX7_soldUnder : MiOk mX7_soldUnder 1 := ⟨by decide, rfl, by decide, ⟨by decide, by decide, by decide +kernel⟩, by decide, wd1450, wd97⟩
theorem miX7_boughtFromMissing : MiOk mX7_boughtFromMissing 1 := ⟨by decide, rfl, by decide, ⟨by decide, by decide, by decide +kernel⟩, by decide, wd1458, wd97⟩
theorem miX7_boughtOfSuch : MiOk mX7_boughtOfSuch 1 := ⟨by decide, rfl, by decide, ⟨by decide, by decide, by decide +kernel⟩, by decide, wd1454, wd97⟩
theorem miX7_roundsWith : MiOk mX7_roundsWith 1 := ⟨by decide, rfl, by decide, ⟨by decide, by decide, by decide +kernel⟩, by decide, wd1462, wd97⟩
theorem miX7_hasMissing : MiOk mX7_hasMissing 1 := ⟨by decide, rfl, by decide, ⟨by decide, by decide, by decide +kernel⟩, by decide, wd1466, wd97⟩
theorem miX7_signsOf : MiOk mX7_signsOf 1 := ⟨by decide, rfl, by decide, ⟨by decide, by decide, by decide +kernel⟩, by decide, wd1446, wd97⟩
theorem miX7_signs : MiOk mX7_signs 4 := ⟨by decide, rfl, by decide, ⟨by decide, by decide, by decide +kernel⟩, by decide, wd1442, wd97⟩
theorem miX7_knew : MiOk mX7_knew 5 := ⟨by decide, rfl, by decide, ⟨by decide, by decide, by decide +kernel⟩, by decide, wd1470, wd97⟩
theorem miX7_hands : MiOk mX7_hands 0 := ⟨by decide, rfl, by decide, ⟨by decide, by decide, by decide +kernel⟩, by decide, wd1474, wd97⟩
theorem miX7_lacking : MiOk mX7_lacking 1 := ⟨by decide, rfl, by decide, ⟨by decide, by decide, by decide +kernel⟩, by decide, wd1478, wd97⟩
theorem miX7_bits : MiOk mX7_bits 1 := ⟨by decide, rfl, by decide, ⟨by decide, by decide, by decide +kernel⟩, by decide, wd1485, wd97⟩
theorem miX7_stop : MiOk mX7_stop 1 := ⟨by decide, rfl, by decide, ⟨by decide, by decide, by decide +kernel⟩, by decide, wd1482, wd97⟩
theorem miX7_fewest : MiOk mX7_fewest 4 := ⟨by decide, rfl, by decide, ⟨by decide, by decide, by decide +kernel⟩, by decide, wd1489, wd97⟩
theorem miX7_rule : MiOk mX7_rule 1 := ⟨by decide, rfl, by decide, ⟨by decide, by decide, by decide +kernel⟩, by decide, wd1493, wd97⟩
theorem miX7_burdenOf : MiOk mX7_burdenOf 1 := ⟨by decide, rfl, by decide, ⟨by decide, by decide, by decide +kernel⟩, by decide, wd1501, wd97⟩
theorem miX7_burden : MiOk mX7_burden 1 := ⟨by decide, rfl, by decide, ⟨by decide, by decide, by decide +kernel⟩, by decide, wd1497, wd97⟩
theorem miX7_starve : MiOk mX7_starve 5 := ⟨by decide, rfl, by decide, ⟨by decide, by decide, by decide +kernel⟩, by decide, wd1505, wd97⟩
theorem miX7_count : MiOk mX7_count 1 := ⟨by decide, rfl, by decide, ⟨by decide, by decide, by decide +kernel⟩, by decide, wd1509, wd97⟩
end
section
/-! the model's words: length and charAt of the text, by hand -/
def m_slen : MI := (⟨"java/lang/String", "length", "()I"⟩, prog_18_method_54_code, 1, (some .int), "java/lang/String")
theorem mi_slen : MiOk m_slen 0 := ⟨by decide, rfl, by decide, ⟨by decide, by decide, by decide +kernel⟩, by decide, tw5 147 rfl rfl, tw1 10 rfl rfl⟩
def m_scod : MI := (⟨"java/lang/String", "coder", "()B"⟩, prog_18_method_152_code, 1, (some .byte), "java/lang/String")
theorem mi_scod : MiOk m_scod 0 := ⟨by decide, rfl, by decide, ⟨by decide, by decide, by decide +kernel⟩, by decide, tw5 151 rfl rfl, tw1 10 rfl rfl⟩
def m_schr : MI := (⟨"java/lang/String", "charAt", "(I)C"⟩, prog_18_method_56_code, 2, (some .char), "java/lang/String")
theorem mi_schr : MiOk m_schr 1 := ⟨by decide, rfl, by decide, ⟨by decide, by decide, by decide +kernel⟩, by decide, tw5 157 rfl rfl, tw1 10 rfl rfl⟩
def m_slat : MI := (⟨"java/lang/String", "isLatin1", "()Z"⟩, prog_18_method_154_code, 1, (some .boolean), "java/lang/String")
theorem mi_slat : MiOk m_slat 0 := ⟨by decide, rfl, by decide, ⟨by decide, by decide, by decide +kernel⟩, by decide, tw5 161 rfl rfl, tw1 10 rfl rfl⟩
def m_lchr : MI := (⟨"java/lang/StringLatin1", "charAt", "([BI)C"⟩, prog_19_method_2_code, 2, (some .char), "java/lang/StringLatin1")
theorem mi_lchr : MiOk m_lchr 2 := ⟨by decide, rfl, by decide, ⟨by decide, by decide, by decide +kernel⟩, by decide, tw5 164 rfl rfl, tw1 11 rfl rfl⟩
def m_sci : MI := (⟨"java/lang/String", "checkIndex", "(II)V"⟩, prog_18_method_155_code, 2, none, "java/lang/String")
theorem mi_sci : MiOk m_sci 2 := ⟨by decide, rfl, by decide, ⟨by decide, by decide, by decide +kernel⟩, by decide, tw5 167 rfl rfl, tw1 10 rfl rfl⟩
def m_pci : MI := (⟨"jdk/internal/util/Preconditions", "checkIndex", "(IILjava/util/function/BiFunction;)I"⟩, prog_25_method_11_code, 3, (some .int), "jdk/internal/util/Preconditions")
theorem mi_pci : MiOk m_pci 3 := ⟨by decide, rfl, by decide, ⟨by decide, by decide, by decide +kernel⟩, by decide, tw5 172 rfl rfl, tw1 12 rfl rfl⟩
/-- where the JDK's own methods run: the code, the tables, the text -/
def JX (D : Nat) (μ : MI) (p : Program) (R : Room) (s : State) (mid : MethodId) (args : Array Value) (c : Code) (A : Nat → Prop) (kV : (Nat → Nat) × (Nat → Nat)) (C0 S0 : Nat) : Prop :=
  p.tables.exec = Jvm.exec ∧ c.code = μ.2.1 ∧ c.maxLocals = μ.2.2.1 ∧ s.vm.findClass μ.2.2.2.2 = some mid.cls ∧ (∀ w ∈ wsG, w.before args s = true) ∧ StK A kV s s.heap ∧ D ≤ R.frames ∧ 64 * D ≤ R.locals ∧ C0 ≤ R.cells ∧ S0 ≤ R.slots
def PcS (A : Nat → Prop) (kV : (Nat → Nat) × (Nat → Nat)) (as : List Value) (H0 : Heap) : Array Value → State → Prop := va_Pc as (fun U => U.heap = H0 ∧ StK A kV U H0)
abbrev QcS (A : Nat → Prop) (H0 : Heap) (r : Int32) : Array Value → State → Outcome → State → Prop := va_Qi (fun v (_ : Unit) => v = r) (fun _ t => t.heap = H0) A
abbrev QvS (A : Nat → Prop) (H0 : Heap) : Array Value → State → Outcome → State → Prop := va_Qv (fun (_ : Unit) => True) (fun _ t => t.heap = H0) A
theorem blindS {A : Nat → Prop} {kV : (Nat → Nat) × (Nat → Nat)} {as : List Value} {H0 : Heap} : FrameBlind (PcS A kV as H0) := by
  intro a U g mk h
  obtain ⟨h0, h1, h2⟩ := h
  exact ⟨h0, h1, h2.blind⟩
def rmJ (d : Nat) : Room := { frames := d, cells := 0, slots := 0, locals := 64 * d }
section JDK
variable {D d n x pc : Nat} {μ μ' : MI} {p : Program} {l : Launch} {e : Env} {R : Room} {s : State} {mid : MethodId} {args : Array Value} {below : List Frame} {meth : Method} {c : Code} {A : Nat → Prop} {kV : (Nat → Nat) × (Nat → Nat)} {C0 S0 : Nat} {H : Heap} {locs : List Loc} {la : Array Slot} {as rest : List Value} {r : Int32} {Qf : State → Prop}
theorem jpre (hJ : JX D μ p R s mid args c A kV C0 S0) (hS : va_S A s.heap H locs) (U : State) (hU : U.heap = H) (hW : s.WarmedH U.vm) : PcS A kV as H as.toArray U := ⟨rfl, hU, hJ.2.2.2.2.2.1.to hS.2.1 (fun _ h => h) hW⟩
theorem jG (hm : MiOk μ' n) : GoodIn wsG (wsK μ') := goodG (fun w hw => (List.mem_cons.mp hw).elim (fun q => q ▸ hm.2.2.2.2.2.1) id)
theorem jcallV (hJ : JX D μ p R s mid args c A kV C0 S0) (hm : MiOk μ' n) (hcl : μ'.1.cls = "java/lang/String") (hd : decode μ.2.1 pc = .ok (.invokevirtual x, 3)) (w1 : Cond.methodLink μ.2.2.2.2 x μ'.1 ∈ wsG) (w2 : Cond.instanceMethod μ'.1 ∈ wsG) (w3 : Cond.selects "java/lang/String" μ'.1 μ'.1 ∈ wsG) (hS : va_S A s.heap H locs) (hsz : la.size = μ.2.2.1) (hlen : as.length = n) (hcat : (rest.map fun v => v.category).sum ≤ 8) (hd' : d < D)
    (hM : Met l μ'.1 (wsK μ') (rmJ d) (PcS A kV (.ref (kV.1 0) :: as) H) (QcS A H r) 0 0 A) (k : ∀ locs1, va_S A s.heap H locs1 → W p l e R s mid args below meth c H locs1 C0 S0 Qf (F0 mid (pc + 3) la (.int r :: rest))) :
    W p l e R s mid args below meth c H locs C0 S0 Qf (F0 mid pc la (as.reverse ++ .ref (kV.1 0) :: rest)) := by
  obtain ⟨j1, j2, j3, j4, j5, j6, j7, j8, j9, j10⟩ := id hJ
  have hrun := va_runV (p := p) (l := l) (e := e) (R := R) (s := s) (m := mid) (args := args) (below := below) (meth := meth) (c := c) (H := H) (locs := locs) (cells := C0) (slots := S0) (As := as) (rest := rest) (b := kV.1 0) (C := "java/lang/String") (g := F0 mid pc la (as.reverse ++ .ref (kV.1 0) :: rest)) (n := n) (own := μ.2.2.2.2) (index := x) (bytes := μ'.2.1) (maxL := μ'.2.2.1) (ret := μ'.2.2.2.1)
    ⟨j1, j2, j3, j4, j5⟩ hM ⟨callB_of n j5 (jG hm) rfl rfl rfl (j5 _ hm.2.2.2.2.2.2) (j5 _ w1) hm.2.2.2.1 ⟨by show d + 1 ≤ R.frames; omega, by
      show 8 + (μ'.2.2.1 + 11) + 64 * d ≤ R.locals
      have := hm.2.2.2.2.1
      omega⟩, j5 _ w2, j5 _ w3⟩ ⟨blindS, vk_recv j6.2.2.2 (by decide) hS, jpre hJ hS⟩ rfl hlen hsz rfl (by
      show 2 * 0 + _ ≤ 8
      omega) hd ⟨j9, j10⟩
  refine va_calli hrun hS (fun q _ h => h) (fun q h => h) (fun v u t H1 locs1 ht hvm hpost hB hz hk hS1 => ?_)
  have e : H1 = H := ht.symm.trans hB
  subst e
  subst hpost
  exact k locs1 hS1
theorem jcallS (hJ : JX D μ p R s mid args c A kV C0 S0) (hm : MiOk μ' n) (hd : decode μ.2.1 pc = .ok (.invokestatic x, 3)) (w1 : Cond.methodLink μ.2.2.2.2 x μ'.1 ∈ wsG) (w2 : Cond.static μ'.1 ∈ wsG) (hS : va_S A s.heap H locs) (hsz : la.size = μ.2.2.1) (hlen : as.length = n) (hcat : (rest.map fun v => v.category).sum ≤ 8) (hd' : d < D)
    (hM : Met l μ'.1 (wsK μ') (rmJ d) (PcS A kV as H) (QcS A H r) 0 0 A) (k : ∀ locs1, va_S A s.heap H locs1 → W p l e R s mid args below meth c H locs1 C0 S0 Qf (F0 mid (pc + 3) la (.int r :: rest))) :
    W p l e R s mid args below meth c H locs C0 S0 Qf (F0 mid pc la (as.reverse ++ rest)) := by
  obtain ⟨j1, j2, j3, j4, j5, j6, j7, j8, j9, j10⟩ := id hJ
  have hrun := va_runS (p := p) (l := l) (e := e) (R := R) (s := s) (m := mid) (args := args) (below := below) (meth := meth) (c := c) (H := H) (locs := locs) (cells := C0) (slots := S0) (As := as) (rest := rest) (g := F0 mid pc la (as.reverse ++ rest)) (n := n) (own := μ.2.2.2.2) (index := x) (bytes := μ'.2.1) (maxL := μ'.2.2.1) (ret := μ'.2.2.2.1)
    ⟨j1, j2, j3, j4, j5⟩ hM ⟨callB_of n j5 (jG hm) rfl rfl rfl (j5 _ hm.2.2.2.2.2.2) (j5 _ w1) hm.2.2.2.1 ⟨by show d + 1 ≤ R.frames; omega, by
      show 8 + (μ'.2.2.1 + 11) + 64 * d ≤ R.locals
      have := hm.2.2.2.2.1
      omega⟩, j5 _ w2⟩ ⟨blindS, jpre hJ hS⟩ rfl hlen hsz rfl (by
      show 2 * 0 + _ ≤ 8
      omega) hd ⟨j9, j10⟩
  refine va_calli hrun hS (fun q _ h => h) (fun q h => h) (fun v u t H1 locs1 ht hvm hpost hB hz hk hS1 => ?_)
  have e : H1 = H := ht.symm.trans hB
  subst e
  subst hpost
  exact k locs1 hS1
theorem jcallSv (hJ : JX D μ p R s mid args c A kV C0 S0) (hm : MiOk μ' n) (hd : decode μ.2.1 pc = .ok (.invokestatic x, 3)) (w1 : Cond.methodLink μ.2.2.2.2 x μ'.1 ∈ wsG) (w2 : Cond.static μ'.1 ∈ wsG) (hS : va_S A s.heap H locs) (hsz : la.size = μ.2.2.1) (hlen : as.length = n) (hcat : (rest.map fun v => v.category).sum ≤ 8) (hd' : d < D)
    (hM : Met l μ'.1 (wsK μ') (rmJ d) (PcS A kV as H) (QvS A H) 0 0 A) (k : ∀ locs1, va_S A s.heap H locs1 → W p l e R s mid args below meth c H locs1 C0 S0 Qf (F0 mid (pc + 3) la rest)) :
    W p l e R s mid args below meth c H locs C0 S0 Qf (F0 mid pc la (as.reverse ++ rest)) := by
  obtain ⟨j1, j2, j3, j4, j5, j6, j7, j8, j9, j10⟩ := id hJ
  have hrun := va_runS (p := p) (l := l) (e := e) (R := R) (s := s) (m := mid) (args := args) (below := below) (meth := meth) (c := c) (H := H) (locs := locs) (cells := C0) (slots := S0) (As := as) (rest := rest) (g := F0 mid pc la (as.reverse ++ rest)) (n := n) (own := μ.2.2.2.2) (index := x) (bytes := μ'.2.1) (maxL := μ'.2.2.1) (ret := μ'.2.2.2.1)
    ⟨j1, j2, j3, j4, j5⟩ hM ⟨callB_of n j5 (jG hm) rfl rfl rfl (j5 _ hm.2.2.2.2.2.2) (j5 _ w1) hm.2.2.2.1 ⟨by show d + 1 ≤ R.frames; omega, by
      show 8 + (μ'.2.2.1 + 11) + 64 * d ≤ R.locals
      have := hm.2.2.2.2.1
      omega⟩, j5 _ w2⟩ ⟨blindS, jpre hJ hS⟩ rfl hlen hsz rfl (by
      show 2 * 0 + _ ≤ 8
      omega) hd ⟨j9, j10⟩
  refine va_callv hrun hS (fun q _ h => h) (fun q h => h) (fun u t H1 locs1 ht hvm hpost hB hz hk hS1 => ?_)
  have e : H1 = H := ht.symm.trans hB
  subst e
  exact k locs1 hS1
end JDK
section JMets
variable {l : Launch} {A : Nat → Prop} {kV : (Nat → Nat) × (Nat → Nat)} {H0 : Heap} {d : Nat}
theorem j_scod : Met l m_scod.1 (wsK m_scod) (rmJ d) (PcS A kV [.ref (kV.1 0)] H0) (QcS A H0 0) 0 0 A := by
  refine Met.ofW (cc := m_scod.2.1) (maxL := 1) (ret := some .byte) mi_scod.1 rfl ?_
  intro p e s mid args below meth c s₁ B hml hv
  obtain ⟨rfl, rfl, hK⟩ := hv
  have hts := atoms_spec (ws := wsK m_scod) B.pre
  have hG : ∀ w ∈ wsG, w.before _ s = true := fun w hw => hts w (List.mem_cons_of_mem _ hw)
  have hown : s.vm.findClass m_scod.2.2.2.2 = some mid.cls := findClass_of_methodNamed B.named
  have hlocks := B.notSynchronized
  rw [lg_entry_eq]
  have hle := lv_entry [.ref (kV.1 0)] (n := 1) (by simp [lg_sl, Value.category])
  have l0 := hle.2.2 _ List.mem_cons_self
  have hJ : JX d m_scod p (rmJ d) s mid _ c A kV 0 0 := ⟨B.exec, B.bytes, hml, hown, hG, hK, Nat.le_refl _, Nat.le_refl _, Nat.zero_le _, Nat.zero_le _⟩
  refine va_gets B.exec B.bytes hK.2.1 va_S.rf hown (hG _ (tw5 152 rfl rfl)) (fun _ h => h) (by decide +kernel) ?_
  refine lv_if_eq B.exec B.bytes (off := 10) (tgt := 13) (by decide +kernel) (by decide) (fun h => absurd h (by decide)) (fun _ => ?_)
  refine lv_aload_n B.exec B.bytes (k := 0) (by decide +kernel) rfl l0 ?_
  refine vk_getf B.exec B.bytes (hK.2.2.2.1 0 (by decide)).2.1 va_S.rf hown (hG _ (tw6 236 rfl rfl)) (fun _ h => h) (by decide +kernel) ?_
  refine lv_goto B.exec B.bytes (off := 4) (tgt := 14) (by decide +kernel) (by decide) ?_
  exact W.zret B.exec B.bytes (B.returns.trans rfl) (by decide) (fun t ht hW => ⟨⟨_, (), rfl, rfl, ht⟩, (va_S.rf : va_S A s.heap s.heap _).F ht⟩) (va_S.rf : va_S A s.heap s.heap _).2.2 (by decide +kernel) hlocks
theorem j_slat : Met l m_slat.1 (wsK m_slat) (rmJ d) (PcS A kV [.ref (kV.1 0)] H0) (QcS A H0 1) 0 0 A := by
  refine Met.ofW (cc := m_slat.2.1) (maxL := 1) (ret := some .boolean) mi_slat.1 rfl ?_
  intro p e s mid args below meth c s₁ B hml hv
  obtain ⟨rfl, rfl, hK⟩ := hv
  have hts := atoms_spec (ws := wsK m_slat) B.pre
  have hG : ∀ w ∈ wsG, w.before _ s = true := fun w hw => hts w (List.mem_cons_of_mem _ hw)
  have hown : s.vm.findClass m_slat.2.2.2.2 = some mid.cls := findClass_of_methodNamed B.named
  have hlocks := B.notSynchronized
  rw [lg_entry_eq]
  have hle := lv_entry [.ref (kV.1 0)] (n := 1) (by simp [lg_sl, Value.category])
  have l0 := hle.2.2 _ List.mem_cons_self
  have hJ : JX d m_slat p (rmJ d) s mid _ c A kV 0 0 := ⟨B.exec, B.bytes, hml, hown, hG, hK, Nat.le_refl _, Nat.le_refl _, Nat.zero_le _, Nat.zero_le _⟩
  refine va_gets B.exec B.bytes hK.2.1 va_S.rf hown (hG _ (tw5 152 rfl rfl)) (fun _ h => h) (by decide +kernel) ?_
  refine lv_if_eq B.exec B.bytes (off := 14) (tgt := 17) (by decide +kernel) (by decide) (fun h => absurd h (by decide)) (fun _ => ?_)
  refine lv_aload_n B.exec B.bytes (k := 0) (by decide +kernel) rfl l0 ?_
  refine vk_getf B.exec B.bytes (hK.2.2.2.1 0 (by decide)).2.1 va_S.rf hown (hG _ (tw6 236 rfl rfl)) (fun _ h => h) (by decide +kernel) ?_
  refine lv_if_ne B.exec B.bytes (off := 7) (tgt := 17) (by decide +kernel) (by decide) (fun h => absurd rfl h) (fun _ => ?_)
  refine lv_iconst B.exec B.bytes (n := 1) (v := 1) (by decide +kernel) (by decide) ?_
  refine lv_goto B.exec B.bytes (off := 4) (tgt := 18) (by decide +kernel) (by decide) ?_
  exact W.zret B.exec B.bytes (B.returns.trans rfl) (by decide) (fun t ht hW => ⟨⟨_, (), rfl, rfl, ht⟩, (va_S.rf : va_S A s.heap s.heap _).F ht⟩) (va_S.rf : va_S A s.heap s.heap _).2.2 (by decide +kernel) hlocks
theorem j_slen : Met l m_slen.1 (wsK m_slen) (rmJ 1) (PcS A kV [.ref (kV.1 0)] H0) (QcS A H0 44) 0 0 A := by
  refine Met.ofW (cc := m_slen.2.1) (maxL := 1) (ret := some .int) mi_slen.1 rfl ?_
  intro p e s mid args below meth c s₁ B hml hv
  obtain ⟨rfl, rfl, hK⟩ := hv
  have hts := atoms_spec (ws := wsK m_slen) B.pre
  have hG : ∀ w ∈ wsG, w.before _ s = true := fun w hw => hts w (List.mem_cons_of_mem _ hw)
  have hown : s.vm.findClass m_slen.2.2.2.2 = some mid.cls := findClass_of_methodNamed B.named
  have hlocks := B.notSynchronized
  rw [lg_entry_eq]
  have hle := lv_entry [.ref (kV.1 0)] (n := 1) (by simp [lg_sl, Value.category])
  have l0 := hle.2.2 _ List.mem_cons_self
  have hJ : JX 1 m_slen p (rmJ 1) s mid _ c A kV 0 0 := ⟨B.exec, B.bytes, hml, hown, hG, hK, Nat.le_refl _, Nat.le_refl _, Nat.zero_le _, Nat.zero_le _⟩
  refine lv_aload_n B.exec B.bytes (k := 0) (by decide +kernel) rfl l0 ?_
  refine vk_getf B.exec B.bytes (hK.2.2.2.1 0 (by decide)).2.2.1 va_S.rf hown (hG _ (tw6 235 rfl rfl)) (fun _ h => h) (by decide +kernel) ?_
  refine va_tlen B.exec B.bytes (hK.2.2.2.1 0 (by decide)).2.2.2 va_S.rf (v := 44) (by decide) (by decide +kernel) ?_
  refine lv_aload_n B.exec B.bytes (k := 0) (by decide +kernel) rfl l0 ?_
  refine jcallV (as := []) (d := 0) (μ := m_slen) (pc := 6) hJ mi_scod rfl (by decide +kernel) (tw5 148 rfl rfl) (tw5 149 rfl rfl) (tw5 150 rfl rfl) va_S.rf hle.1 rfl (by simp [Value.category]) (by decide) j_scod (fun locs1 hS1 => ?_)
  refine lv_ishr B.exec B.bytes (by decide +kernel) ?_
  exact W.iret B.exec B.bytes (B.returns.trans rfl) (fun t ht hW => ⟨⟨_, (), rfl, by decide, ht⟩, (hS1 : va_S A s.heap s.heap _).F ht⟩) (hS1 : va_S A s.heap s.heap _).2.2 (by decide +kernel) hlocks
theorem j_pci {k : Int32} {f : Value} (hf : f.category = 1) (hk : vp_in k 44) : Met l m_pci.1 (wsK m_pci) (rmJ d) (PcS A kV [.int k, .int 44, f] H0) (QcS A H0 k) 0 0 A := by
  refine Met.ofW (cc := m_pci.2.1) (maxL := 3) (ret := some .int) mi_pci.1 rfl ?_
  intro p e s mid args below meth c s₁ B hml hv
  obtain ⟨rfl, rfl, hK⟩ := hv
  have hts := atoms_spec (ws := wsK m_pci) B.pre
  have hG : ∀ w ∈ wsG, w.before _ s = true := fun w hw => hts w (List.mem_cons_of_mem _ hw)
  have hown : s.vm.findClass m_pci.2.2.2.2 = some mid.cls := findClass_of_methodNamed B.named
  have hlocks := B.notSynchronized
  rw [lg_entry_eq]
  have hle := lv_entry [.int k, .int 44, f] (n := 3) (by cases f <;> simp [lg_sl, Value.category] at hf ⊢)
  have l0 := hle.2.2 _ List.mem_cons_self
  have hJ : JX d m_pci p (rmJ d) s mid _ c A kV 0 0 := ⟨B.exec, B.bytes, hml, hown, hG, hK, Nat.le_refl _, Nat.le_refl _, Nat.zero_le _, Nat.zero_le _⟩
  have l1 := hle.2.2 _ (List.mem_cons_of_mem _ List.mem_cons_self)
  refine lv_iload_n B.exec B.bytes (k := 0) (by decide +kernel) rfl l0 ?_
  refine lv_if_lt B.exec B.bytes (off := 8) (tgt := 9) (by decide +kernel) (by decide) (fun h => absurd (Or.inl h) hk) (fun _ => ?_)
  refine lv_iload_n B.exec B.bytes (k := 0) (by decide +kernel) rfl l0 ?_
  refine lv_iload_n B.exec B.bytes (k := 1) (by decide +kernel) rfl l1 ?_
  refine lv_icmp_lt B.exec B.bytes (off := 10) (tgt := 16) (by decide +kernel) (by decide) (fun _ => ?_) (fun h => absurd (Int32.lt_iff_toInt_lt.mpr (by have h2 := (vp_in_iff.mp hk).2; have e : (44 : Int32).toInt = 44 := rfl; omega)) h)
  refine lv_iload_n B.exec B.bytes (k := 0) (by decide +kernel) rfl l0 ?_
  exact W.iret B.exec B.bytes (B.returns.trans rfl) (fun t ht hW => ⟨⟨_, (), rfl, rfl, ht⟩, (va_S.rf : va_S A s.heap s.heap _).F ht⟩) (va_S.rf : va_S A s.heap s.heap _).2.2 (by decide +kernel) hlocks
theorem j_sci {k : Int32} (hk : vp_in k 44) : Met l m_sci.1 (wsK m_sci) (rmJ 1) (PcS A kV [.int k, .int 44] H0) (QvS A H0) 0 0 A := by
  refine Met.ofW (cc := m_sci.2.1) (maxL := 2) (ret := none) mi_sci.1 rfl ?_
  intro p e s mid args below meth c s₁ B hml hv
  obtain ⟨rfl, rfl, hK⟩ := hv
  have hts := atoms_spec (ws := wsK m_sci) B.pre
  have hG : ∀ w ∈ wsG, w.before _ s = true := fun w hw => hts w (List.mem_cons_of_mem _ hw)
  have hown : s.vm.findClass m_sci.2.2.2.2 = some mid.cls := findClass_of_methodNamed B.named
  have hlocks := B.notSynchronized
  rw [lg_entry_eq]
  have hle := lv_entry [.int k, .int 44] (n := 2) (by simp [lg_sl, Value.category])
  have l0 := hle.2.2 _ List.mem_cons_self
  have hJ : JX 1 m_sci p (rmJ 1) s mid _ c A kV 0 0 := ⟨B.exec, B.bytes, hml, hown, hG, hK, Nat.le_refl _, Nat.le_refl _, Nat.zero_le _, Nat.zero_le _⟩
  have l1 := hle.2.2 _ (List.mem_cons_of_mem _ List.mem_cons_self)
  refine lv_iload_n B.exec B.bytes (k := 0) (by decide +kernel) rfl l0 ?_
  refine lv_iload_n B.exec B.bytes (k := 1) (by decide +kernel) rfl l1 ?_
  rcases hK.2.2.1 with hZ | ⟨t, hZ⟩
  · refine va_gets B.exec B.bytes hZ va_S.rf hown (hG _ (tw5 168 rfl rfl)) (fun _ h => h) (by decide +kernel) ?_
    refine jcallS (as := [.int k, .int 44, .null]) (rest := []) (d := 0) (μ := m_sci) (pc := 5) hJ mi_pci (by decide +kernel) (tw5 170 rfl rfl) (tw5 171 rfl rfl) va_S.rf hle.1 rfl (by simp) (by decide) (j_pci rfl hk) (fun locs1 hS1 => ?_)
    refine lv_pop B.exec B.bytes (by decide +kernel) rfl ?_
    exact W.vret B.exec B.bytes (B.returns.trans rfl) (fun t ht hW => ⟨⟨(), rfl, trivial, ht⟩, (hS1 : va_S A s.heap s.heap _).F ht⟩) (hS1 : va_S A s.heap s.heap _).2.2 (by decide +kernel) hlocks
  · refine va_gets B.exec B.bytes hZ va_S.rf hown (hG _ (tw5 168 rfl rfl)) (fun _ h => h) (by decide +kernel) ?_
    refine jcallS (as := [.int k, .int 44, .ref t]) (rest := []) (d := 0) (μ := m_sci) (pc := 5) hJ mi_pci (by decide +kernel) (tw5 170 rfl rfl) (tw5 171 rfl rfl) va_S.rf hle.1 rfl (by simp) (by decide) (j_pci rfl hk) (fun locs1 hS1 => ?_)
    refine lv_pop B.exec B.bytes (by decide +kernel) rfl ?_
    exact W.vret B.exec B.bytes (B.returns.trans rfl) (fun t ht hW => ⟨⟨(), rfl, trivial, ht⟩, (hS1 : va_S A s.heap s.heap _).F ht⟩) (hS1 : va_S A s.heap s.heap _).2.2 (by decide +kernel) hlocks
def chW (k : Int32) : Int32 := (bytW.getD 0 []).getD k.toNatClampNeg 0
theorem chW_all : ∀ j : Nat, j < 44 → (((bytW.getD 0 []).getD j 0 &&& 255).toUInt32 % 65536).toInt32 = (bytW.getD 0 []).getD j 0 ∧ narrow .char (.int ((bytW.getD 0 []).getD j 0)) = .int ((bytW.getD 0 []).getD j 0) := by decide +kernel
theorem chW_ok {k : Int32} (hk : vp_in k 44) : ((chW k &&& 255).toUInt32 % 65536).toInt32 = chW k ∧ narrow .char (.int (chW k)) = .int (chW k) := chW_all _ (Nat.not_le.mp fun q => hk (Or.inr q))
theorem j_lchr {k : Int32} (hk : vp_in k 44) : Met l m_lchr.1 (wsK m_lchr) (rmJ 2) (PcS A kV [.ref (kV.2 0), .int k] H0) (QcS A H0 (chW k)) 0 0 A := by
  refine Met.ofW (cc := m_lchr.2.1) (maxL := 2) (ret := some .char) mi_lchr.1 rfl ?_
  intro p e s mid args below meth c s₁ B hml hv
  obtain ⟨rfl, rfl, hK⟩ := hv
  have hts := atoms_spec (ws := wsK m_lchr) B.pre
  have hG : ∀ w ∈ wsG, w.before _ s = true := fun w hw => hts w (List.mem_cons_of_mem _ hw)
  have hown : s.vm.findClass m_lchr.2.2.2.2 = some mid.cls := findClass_of_methodNamed B.named
  have hlocks := B.notSynchronized
  rw [lg_entry_eq]
  have hle := lv_entry [.ref (kV.2 0), .int k] (n := 2) (by simp [lg_sl, Value.category])
  have l0 := hle.2.2 _ List.mem_cons_self
  have hJ : JX 2 m_lchr p (rmJ 2) s mid _ c A kV 0 0 := ⟨B.exec, B.bytes, hml, hown, hG, hK, Nat.le_refl _, Nat.le_refl _, Nat.zero_le _, Nat.zero_le _⟩
  have l1 := hle.2.2 _ (List.mem_cons_of_mem _ List.mem_cons_self)
  refine lv_iload_n B.exec B.bytes (k := 1) (by decide +kernel) rfl l1 ?_
  refine lv_aload_n B.exec B.bytes (k := 0) (by decide +kernel) rfl l0 ?_
  refine va_tlen B.exec B.bytes (hK.2.2.2.1 0 (by decide)).2.2.2 va_S.rf (v := 44) (by decide) (by decide +kernel) ?_
  refine jcallSv (as := [.int k, .int 44]) (rest := []) (d := 1) (μ := m_lchr) (pc := 3) hJ mi_sci (by decide +kernel) (tw5 165 rfl rfl) (tw5 166 rfl rfl) va_S.rf hle.1 rfl (by simp) (by decide) (j_sci hk) (fun locs1 hS1 => ?_)
  refine lv_aload_n B.exec B.bytes (k := 0) (by decide +kernel) rfl l0 ?_
  refine lv_iload_n B.exec B.bytes (k := 1) (by decide +kernel) rfl l1 ?_
  refine va_tb B.exec B.bytes (hK.2.2.2.1 0 (by decide)).2.2.2 hS1 hk (v := .int (chW k)) rfl (by decide +kernel) ?_
  refine lv_sipush B.exec B.bytes (n := 255) (v := 255) (by decide +kernel) (by decide) ?_
  refine lv_iand B.exec B.bytes (by decide +kernel) ?_
  refine lv_i2c B.exec B.bytes (by decide +kernel) (chW_ok hk).1 ?_
  exact W.zret B.exec B.bytes (B.returns.trans rfl) ((chW_ok hk).2) (fun t ht hW => ⟨⟨_, (), rfl, rfl, ht⟩, (hS1 : va_S A s.heap s.heap _).F ht⟩) (hS1 : va_S A s.heap s.heap _).2.2 (by decide +kernel) hlocks
theorem j_schr {k : Int32} (hk : vp_in k 44) : Met l m_schr.1 (wsK m_schr) (rmJ 3) (PcS A kV [.ref (kV.1 0), .int k] H0) (QcS A H0 (chW k)) 0 0 A := by
  refine Met.ofW (cc := m_schr.2.1) (maxL := 2) (ret := some .char) mi_schr.1 rfl ?_
  intro p e s mid args below meth c s₁ B hml hv
  obtain ⟨rfl, rfl, hK⟩ := hv
  have hts := atoms_spec (ws := wsK m_schr) B.pre
  have hG : ∀ w ∈ wsG, w.before _ s = true := fun w hw => hts w (List.mem_cons_of_mem _ hw)
  have hown : s.vm.findClass m_schr.2.2.2.2 = some mid.cls := findClass_of_methodNamed B.named
  have hlocks := B.notSynchronized
  rw [lg_entry_eq]
  have hle := lv_entry [.ref (kV.1 0), .int k] (n := 2) (by simp [lg_sl, Value.category])
  have l0 := hle.2.2 _ List.mem_cons_self
  have hJ : JX 3 m_schr p (rmJ 3) s mid _ c A kV 0 0 := ⟨B.exec, B.bytes, hml, hown, hG, hK, Nat.le_refl _, Nat.le_refl _, Nat.zero_le _, Nat.zero_le _⟩
  have l1 := hle.2.2 _ (List.mem_cons_of_mem _ List.mem_cons_self)
  refine lv_aload_n B.exec B.bytes (k := 0) (by decide +kernel) rfl l0 ?_
  refine jcallV (as := []) (rest := []) (d := 0) (μ := m_schr) (pc := 1) hJ mi_slat rfl (by decide +kernel) (tw5 158 rfl rfl) (tw5 159 rfl rfl) (tw5 160 rfl rfl) va_S.rf hle.1 rfl (by simp) (by decide) j_slat (fun locs1 hS1 => ?_)
  refine lv_if_eq B.exec B.bytes (off := 12) (tgt := 16) (by decide +kernel) (by decide) (fun h => absurd h (by decide)) (fun _ => ?_)
  refine lv_aload_n B.exec B.bytes (k := 0) (by decide +kernel) rfl l0 ?_
  refine vk_getf B.exec B.bytes (hK.2.2.2.1 0 (by decide)).2.2.1 hS1 hown (hG _ (tw6 235 rfl rfl)) (fun _ h => h) (by decide +kernel) ?_
  refine lv_iload_n B.exec B.bytes (k := 1) (by decide +kernel) rfl l1 ?_
  refine jcallS (as := [.ref (kV.2 0), .int k]) (rest := []) (d := 2) (μ := m_schr) (pc := 12) hJ mi_lchr (by decide +kernel) (tw5 162 rfl rfl) (tw5 163 rfl rfl) hS1 hle.1 rfl (by simp) (by decide) (j_lchr hk) (fun locs2 hS2 => ?_)
  exact W.zret B.exec B.bytes (B.returns.trans rfl) ((chW_ok hk).2) (fun t ht hW => ⟨⟨_, (), rfl, rfl, ht⟩, (hS2 : va_S A s.heap s.heap _).F ht⟩) (hS2 : va_S A s.heap s.heap _).2.2 (by decide +kernel) hlocks
end JMets
section SOps
variable {μ : MI} {pc : Nat}
set_option maxRecDepth 20000 in
theorem rm_le4 {e L : Nat} (h : 64 * e + 256 ≤ L) : 64 * (e + 4) ≤ L := by omega
theorem Cx.jx {E : EE} {p : Program} {R : Room} {s : State} {mid : MethodId} {args : Array Value} {c : Code} {dC : Nat → ClassId} {dI : Nat → Nat → Nat} {dA : Nat → ClassId} {A : Nat → Prop} {C0 S0 b : Nat} {kV : (Nat → Nat) × (Nat → Nat)} (hC : Cx E μ p R s mid args c dC dI dA A C0 S0 b) (hk : StK A kV s s.heap) : JX (E.1 + 4) μ p R s mid args c A kV C0 S0 :=
  ⟨hC.1, hC.2.1, hC.2.2.1, hC.2.2.2.1, hC.2.2.2.2.1, hk, hC.2.2.2.2.2.2.2.2.1.1, rm_le4 hC.2.2.2.2.2.2.2.2.1.2.1, hC.2.2.2.2.2.2.2.2.1.2.2.1, hC.2.2.2.2.2.2.2.2.1.2.2.2⟩
/-- the text's length -/
def oSL : OP := fun E _ nx _ ls st m => Nat.ble (cats st) 8 = true ∧ nx ls (.int 44 :: st) m
theorem okSL (hw : μ.2.2.2.2 = "SaleRoundsModel") (h1 : decode μ.2.1 pc = .ok (.ldc 141, 2)) (h2 : decode μ.2.1 (pc + 2) = .ok (.invokevirtual 143, 3)) : OpOk μ 5 pc oSL := by
  intro E P p l e R s mid args below meth c dC dI dA ad b A C0 S0 Qf hC hR nx jp ls st m hn hj h H locs la hl hs hE hS hL
  obtain ⟨q2, q3⟩ := h
  obtain ⟨kV, hk⟩ := hC.2.2.2.2.2.2.2.2.2.2
  refine va_ldcS hC.1 hC.2.1 (own := "SaleRoundsModel") (hw ▸ hC.2.2.2.1) hk.1 h1 ?_
  exact jcallV (as := []) (d := 1) (hC.jx hk) mi_slen rfl h2 (hw ▸ tw5 144 rfl rfl) (tw5 145 rfl rfl) (tw5 146 rfl rfl) hS hL.1 rfl (by rw [cats_eq]; exact Nat.le_of_ble_eq_true q2) (by omega) j_slen (fun locs1 hS1 => hn _ _ _ q3 H locs1 la hl (List.forall_mem_cons.mpr ⟨trivial, hs⟩) hE hS1 hL)
/-- the char at the sum of two locals -/
def oSA (i j : Nat) : OP := fun E _ nx _ ls st m => match gl i ls with
  | .int x => match gl j ls with
    | .int y => Nat.ble (cats st) 8 = true ∧ vp_in (x + y) 44 ∧ nx ls (.int (chW (x + y)) :: st) m
    | _ => False
  | _ => False
theorem okSA {k1 k2 : Fin 4} {i j : Nat} (hi : (k1 : Nat) = i) (hj : (k2 : Nat) = j) (hw : μ.2.2.2.2 = "SaleRoundsModel") (h1 : decode μ.2.1 pc = .ok (.ldc 141, 2)) (h2 : decode μ.2.1 (pc + 2) = .ok (.iload_n k1, 1)) (h3 : decode μ.2.1 (pc + 2 + 1) = .ok (.iload_n k2, 1)) (h4 : decode μ.2.1 (pc + 2 + 1 + 1) = .ok (.iadd, 1)) (h5 : decode μ.2.1 (pc + 2 + 1 + 1 + 1) = .ok (.invokevirtual 148, 3)) : OpOk μ 8 pc (oSA i j) := by
  intro E P p l e R s mid args below meth c dC dI dA ad b A C0 S0 Qf hC hR nx jp ls st m hn hj' h H locs la hl hs hE hS hL
  unfold oSA at h
  split at h
  · rename_i x hx
    split at h
    · rename_i y hy
      obtain ⟨q2, q3, q4⟩ := h
      obtain ⟨kV, hk⟩ := hC.2.2.2.2.2.2.2.2.2.2
      refine va_ldcS hC.1 hC.2.1 (own := "SaleRoundsModel") (hw ▸ hC.2.2.2.1) hk.1 h1 ?_
      refine lv_iload_n hC.1 hC.2.1 h2 hi (ls_at hL hx (by simp)) ?_
      refine lv_iload_n hC.1 hC.2.1 h3 hj (ls_at hL hy (by simp)) ?_
      refine lv_iadd hC.1 hC.2.1 h4 ?_
      exact jcallV (as := [.int (x + y)]) (d := 3) (hC.jx hk) mi_schr rfl h5 (hw ▸ tw5 154 rfl rfl) (tw5 155 rfl rfl) (tw5 156 rfl rfl) hS hL.1 rfl (by rw [cats_eq]; exact Nat.le_of_ble_eq_true q2) (by omega) (j_schr q3) (fun locs1 hS1 => hn _ _ _ q4 H locs1 la hl (List.forall_mem_cons.mpr ⟨trivial, hs⟩) hE hS1 hL)
    · exact h.elim
  · exact h.elim
/-- the char at a local -/
def oSB (i : Nat) : OP := fun E _ nx _ ls st m => match gl i ls with
  | .int x => Nat.ble (cats st) 8 = true ∧ vp_in x 44 ∧ nx ls (.int (chW x) :: st) m
  | _ => False
theorem okSB {k1 : Fin 4} {i : Nat} (hi : (k1 : Nat) = i) (hw : μ.2.2.2.2 = "SaleRoundsModel") (h1 : decode μ.2.1 pc = .ok (.ldc 141, 2)) (h2 : decode μ.2.1 (pc + 2) = .ok (.iload_n k1, 1)) (h5 : decode μ.2.1 (pc + 2 + 1) = .ok (.invokevirtual 148, 3)) : OpOk μ 6 pc (oSB i) := by
  intro E P p l e R s mid args below meth c dC dI dA ad b A C0 S0 Qf hC hR nx jp ls st m hn hj' h H locs la hl hs hE hS hL
  unfold oSB at h
  split at h
  · rename_i x hx
    obtain ⟨q2, q3, q4⟩ := h
    obtain ⟨kV, hk⟩ := hC.2.2.2.2.2.2.2.2.2.2
    refine va_ldcS hC.1 hC.2.1 (own := "SaleRoundsModel") (hw ▸ hC.2.2.2.1) hk.1 h1 ?_
    refine lv_iload_n hC.1 hC.2.1 h2 hi (ls_at hL hx (by simp)) ?_
    exact jcallV (as := [.int x]) (d := 3) (hC.jx hk) mi_schr rfl h5 (hw ▸ tw5 154 rfl rfl) (tw5 155 rfl rfl) (tw5 156 rfl rfl) hS hL.1 rfl (by rw [cats_eq]; exact Nat.le_of_ble_eq_true q2) (by omega) (j_schr q3) (fun locs1 hS1 => hn _ _ _ q4 H locs1 la hl (List.forall_mem_cons.mpr ⟨trivial, hs⟩) hE hS1 hL)
  · exact h.elim
end SOps
end

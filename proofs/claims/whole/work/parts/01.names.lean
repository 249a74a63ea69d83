-- ===== PART A: goes FIRST, ahead of the names: the tables' words, and 'selects' of the private methods out of them =====
/-- a private method of a class that the tables say can be made, by its rows of tables_1 -/
def lw_okq (q : MethodName × Nat) : Prop := (q.1.cls ≠ "java/lang/invoke/MethodHandle" ∧ q.1.cls ≠ "java/lang/invoke/VarHandle") ∧ Cond.instantiable q.1.cls q.2 ∈ tables_1 ∧ Cond.privateMethod q.1 ∈ tables_1 ∧ Cond.instanceMethod q.1 ∈ tables_1
theorem lw_p0 : lw_okq (⟨"HopHomes$History", "dropOldest", "()V"⟩, 2) := ⟨⟨by decide +kernel, by decide +kernel⟩, List.mem_of_getElem? (i := 188) (by decide +kernel), List.mem_of_getElem? (i := 263) (by decide +kernel), List.mem_of_getElem? (i := 264) (by decide +kernel)⟩
theorem lw_p1 : lw_okq (⟨"HopHomes$Memory", "charge", "(LHopHomes$Runner;LHopHomes$Page;II)I"⟩, 11) := ⟨⟨by decide +kernel, by decide +kernel⟩, List.mem_of_getElem? (i := 20) (by decide +kernel), List.mem_of_getElem? (i := 349) (by decide +kernel), List.mem_of_getElem? (i := 350) (by decide +kernel)⟩
theorem lw_p2 : lw_okq (⟨"HopHomes$Memory", "askPolicy", "(LHopHomes$Runner;LHopHomes$Page;I)I"⟩, 11) := ⟨⟨by decide +kernel, by decide +kernel⟩, List.mem_of_getElem? (i := 20) (by decide +kernel), List.mem_of_getElem? (i := 358) (by decide +kernel), List.mem_of_getElem? (i := 359) (by decide +kernel)⟩
theorem lw_p3 : lw_okq (⟨"HopHomes$Memory", "makeRoom", "(LHopHomes$Page;I)Z"⟩, 11) := ⟨⟨by decide +kernel, by decide +kernel⟩, List.mem_of_getElem? (i := 20) (by decide +kernel), List.mem_of_getElem? (i := 366) (by decide +kernel), List.mem_of_getElem? (i := 367) (by decide +kernel)⟩
theorem lw_p4 : lw_okq (⟨"HopHomes$Memory", "giveWay", "(LHopHomes$Page;I)V"⟩, 11) := ⟨⟨by decide +kernel, by decide +kernel⟩, List.mem_of_getElem? (i := 20) (by decide +kernel), List.mem_of_getElem? (i := 375) (by decide +kernel), List.mem_of_getElem? (i := 376) (by decide +kernel)⟩
theorem lw_p5 : lw_okq (⟨"HopHomes$Memory", "makeCopy", "(LHopHomes$Runner;LHopHomes$Page;I)I"⟩, 11) := ⟨⟨by decide +kernel, by decide +kernel⟩, List.mem_of_getElem? (i := 20) (by decide +kernel), List.mem_of_getElem? (i := 387) (by decide +kernel), List.mem_of_getElem? (i := 388) (by decide +kernel)⟩
theorem lw_p6 : lw_okq (⟨"HopHomes$Memory", "move", "(LHopHomes$Runner;LHopHomes$Page;)I"⟩, 11) := ⟨⟨by decide +kernel, by decide +kernel⟩, List.mem_of_getElem? (i := 20) (by decide +kernel), List.mem_of_getElem? (i := 399) (by decide +kernel), List.mem_of_getElem? (i := 400) (by decide +kernel)⟩
theorem lw_p7 : lw_okq (⟨"HopHomes", "errorOfTrace", "()I"⟩, 6) := ⟨⟨by decide +kernel, by decide +kernel⟩, List.mem_of_getElem? (i := 12) (by decide +kernel), List.mem_of_getElem? (i := 448) (by decide +kernel), List.mem_of_getElem? (i := 449) (by decide +kernel)⟩
theorem lw_p8 : lw_okq (⟨"HopHomes$Trace", "allowedBehind", "(IC)I"⟩, 6) := ⟨⟨by decide +kernel, by decide +kernel⟩, List.mem_of_getElem? (i := 205) (by decide +kernel), List.mem_of_getElem? (i := 456) (by decide +kernel), List.mem_of_getElem? (i := 457) (by decide +kernel)⟩
theorem lw_p9 : lw_okq (⟨"HopHomes$Trace", "takeKind", "(C)I"⟩, 6) := ⟨⟨by decide +kernel, by decide +kernel⟩, List.mem_of_getElem? (i := 205) (by decide +kernel), List.mem_of_getElem? (i := 460) (by decide +kernel), List.mem_of_getElem? (i := 461) (by decide +kernel)⟩
theorem lw_p10 : lw_okq (⟨"HopHomes$Trace", "takeRunner", "(C)I"⟩, 6) := ⟨⟨by decide +kernel, by decide +kernel⟩, List.mem_of_getElem? (i := 205) (by decide +kernel), List.mem_of_getElem? (i := 464) (by decide +kernel), List.mem_of_getElem? (i := 465) (by decide +kernel)⟩
theorem lw_p11 : lw_okq (⟨"HopHomes$Trace", "takeTarget", "(C)I"⟩, 6) := ⟨⟨by decide +kernel, by decide +kernel⟩, List.mem_of_getElem? (i := 205) (by decide +kernel), List.mem_of_getElem? (i := 471) (by decide +kernel), List.mem_of_getElem? (i := 472) (by decide +kernel)⟩
theorem lw_p12 : lw_okq (⟨"HopHomes$Trace", "takeDigitOrEnd", "(C)I"⟩, 6) := ⟨⟨by decide +kernel, by decide +kernel⟩, List.mem_of_getElem? (i := 205) (by decide +kernel), List.mem_of_getElem? (i := 476) (by decide +kernel), List.mem_of_getElem? (i := 477) (by decide +kernel)⟩
theorem lw_p13 : lw_okq (⟨"HopHomes", "takeForTrial", "(I)V"⟩, 6) := ⟨⟨by decide +kernel, by decide +kernel⟩, List.mem_of_getElem? (i := 12) (by decide +kernel), List.mem_of_getElem? (i := 554) (by decide +kernel), List.mem_of_getElem? (i := 555) (by decide +kernel)⟩
theorem lw_p14 : lw_okq (⟨"HopHomesModel", "record", "()V"⟩, 12) := ⟨⟨by decide +kernel, by decide +kernel⟩, List.mem_of_getElem? (i := 607) (by decide +kernel), List.mem_of_getElem? (i := 660) (by decide +kernel), List.mem_of_getElem? (i := 661) (by decide +kernel)⟩
theorem lw_p15 : lw_okq (⟨"HopHomesModel", "isFull", "(I)Z"⟩, 12) := ⟨⟨by decide +kernel, by decide +kernel⟩, List.mem_of_getElem? (i := 607) (by decide +kernel), List.mem_of_getElem? (i := 668) (by decide +kernel), List.mem_of_getElem? (i := 669) (by decide +kernel)⟩
def lw_privs_1 : List (MethodName × Nat) := [(⟨"HopHomes$History", "dropOldest", "()V"⟩, 2), (⟨"HopHomes$Memory", "charge", "(LHopHomes$Runner;LHopHomes$Page;II)I"⟩, 11), (⟨"HopHomes$Memory", "askPolicy", "(LHopHomes$Runner;LHopHomes$Page;I)I"⟩, 11), (⟨"HopHomes$Memory", "makeRoom", "(LHopHomes$Page;I)Z"⟩, 11), (⟨"HopHomes$Memory", "giveWay", "(LHopHomes$Page;I)V"⟩, 11), (⟨"HopHomes$Memory", "makeCopy", "(LHopHomes$Runner;LHopHomes$Page;I)I"⟩, 11), (⟨"HopHomes$Memory", "move", "(LHopHomes$Runner;LHopHomes$Page;)I"⟩, 11), (⟨"HopHomes", "errorOfTrace", "()I"⟩, 6), (⟨"HopHomes$Trace", "allowedBehind", "(IC)I"⟩, 6), (⟨"HopHomes$Trace", "takeKind", "(C)I"⟩, 6), (⟨"HopHomes$Trace", "takeRunner", "(C)I"⟩, 6), (⟨"HopHomes$Trace", "takeTarget", "(C)I"⟩, 6), (⟨"HopHomes$Trace", "takeDigitOrEnd", "(C)I"⟩, 6), (⟨"HopHomes", "takeForTrial", "(I)V"⟩, 6), (⟨"HopHomesModel", "record", "()V"⟩, 12), (⟨"HopHomesModel", "isFull", "(I)Z"⟩, 12)]
theorem lw_r1 : ∀ q ∈ lw_privs_1, lw_okq q := List.forall_mem_cons.mpr ⟨lw_p0, List.forall_mem_cons.mpr ⟨lw_p1, List.forall_mem_cons.mpr ⟨lw_p2, List.forall_mem_cons.mpr ⟨lw_p3, List.forall_mem_cons.mpr ⟨lw_p4, List.forall_mem_cons.mpr ⟨lw_p5, List.forall_mem_cons.mpr ⟨lw_p6, List.forall_mem_cons.mpr ⟨lw_p7, List.forall_mem_cons.mpr ⟨lw_p8, List.forall_mem_cons.mpr ⟨lw_p9, List.forall_mem_cons.mpr ⟨lw_p10, List.forall_mem_cons.mpr ⟨lw_p11, List.forall_mem_cons.mpr ⟨lw_p12, List.forall_mem_cons.mpr ⟨lw_p13, List.forall_mem_cons.mpr ⟨lw_p14, List.forall_mem_cons.mpr ⟨lw_p15, fun _ h => absurd h List.not_mem_nil⟩⟩⟩⟩⟩⟩⟩⟩⟩⟩⟩⟩⟩⟩⟩⟩
theorem lw_p16 : lw_okq (⟨"HopHomesModel", "lying", "(I)I"⟩, 12) := ⟨⟨by decide +kernel, by decide +kernel⟩, List.mem_of_getElem? (i := 607) (by decide +kernel), List.mem_of_getElem? (i := 672) (by decide +kernel), List.mem_of_getElem? (i := 673) (by decide +kernel)⟩
theorem lw_p17 : lw_okq (⟨"HopHomesModel", "of", "(II)I"⟩, 12) := ⟨⟨by decide +kernel, by decide +kernel⟩, List.mem_of_getElem? (i := 607) (by decide +kernel), List.mem_of_getElem? (i := 676) (by decide +kernel), List.mem_of_getElem? (i := 677) (by decide +kernel)⟩
theorem lw_p18 : lw_okq (⟨"HopHomesModel", "copies", "(I)I"⟩, 12) := ⟨⟨by decide +kernel, by decide +kernel⟩, List.mem_of_getElem? (i := 607) (by decide +kernel), List.mem_of_getElem? (i := 680) (by decide +kernel), List.mem_of_getElem? (i := 681) (by decide +kernel)⟩
theorem lw_p19 : lw_okq (⟨"HopHomesModel", "hasCopy", "(II)Z"⟩, 12) := ⟨⟨by decide +kernel, by decide +kernel⟩, List.mem_of_getElem? (i := 607) (by decide +kernel), List.mem_of_getElem? (i := 684) (by decide +kernel), List.mem_of_getElem? (i := 685) (by decide +kernel)⟩
theorem lw_p20 : lw_okq (⟨"HopHomesModel", "puts", "(III)V"⟩, 12) := ⟨⟨by decide +kernel, by decide +kernel⟩, List.mem_of_getElem? (i := 607) (by decide +kernel), List.mem_of_getElem? (i := 688) (by decide +kernel), List.mem_of_getElem? (i := 689) (by decide +kernel)⟩
theorem lw_p21 : lw_okq (⟨"HopHomesModel", "noThread", "(I)Z"⟩, 12) := ⟨⟨by decide +kernel, by decide +kernel⟩, List.mem_of_getElem? (i := 607) (by decide +kernel), List.mem_of_getElem? (i := 700) (by decide +kernel), List.mem_of_getElem? (i := 701) (by decide +kernel)⟩
theorem lw_p22 : lw_okq (⟨"HopHomesModel", "its", "(II)I"⟩, 12) := ⟨⟨by decide +kernel, by decide +kernel⟩, List.mem_of_getElem? (i := 607) (by decide +kernel), List.mem_of_getElem? (i := 704) (by decide +kernel), List.mem_of_getElem? (i := 705) (by decide +kernel)⟩
theorem lw_p23 : lw_okq (⟨"HopHomesModel", "noPage", "(I)Z"⟩, 12) := ⟨⟨by decide +kernel, by decide +kernel⟩, List.mem_of_getElem? (i := 607) (by decide +kernel), List.mem_of_getElem? (i := 716) (by decide +kernel), List.mem_of_getElem? (i := 717) (by decide +kernel)⟩
theorem lw_p24 : lw_okq (⟨"HopHomesModel", "accesses", "(IIZ)I"⟩, 12) := ⟨⟨by decide +kernel, by decide +kernel⟩, List.mem_of_getElem? (i := 607) (by decide +kernel), List.mem_of_getElem? (i := 720) (by decide +kernel), List.mem_of_getElem? (i := 721) (by decide +kernel)⟩
theorem lw_p25 : lw_okq (⟨"HopHomesModel", "source", "(II)I"⟩, 12) := ⟨⟨by decide +kernel, by decide +kernel⟩, List.mem_of_getElem? (i := 607) (by decide +kernel), List.mem_of_getElem? (i := 724) (by decide +kernel), List.mem_of_getElem? (i := 725) (by decide +kernel)⟩
theorem lw_p26 : lw_okq (⟨"HopHomesModel", "pays", "(IIII)I"⟩, 12) := ⟨⟨by decide +kernel, by decide +kernel⟩, List.mem_of_getElem? (i := 607) (by decide +kernel), List.mem_of_getElem? (i := 731) (by decide +kernel), List.mem_of_getElem? (i := 732) (by decide +kernel)⟩
theorem lw_p27 : lw_okq (⟨"HopHomesModel", "adds", "(III)V"⟩, 12) := ⟨⟨by decide +kernel, by decide +kernel⟩, List.mem_of_getElem? (i := 607) (by decide +kernel), List.mem_of_getElem? (i := 735) (by decide +kernel), List.mem_of_getElem? (i := 736) (by decide +kernel)⟩
theorem lw_p28 : lw_okq (⟨"HopHomesModel", "drops", "(III)V"⟩, 12) := ⟨⟨by decide +kernel, by decide +kernel⟩, List.mem_of_getElem? (i := 607) (by decide +kernel), List.mem_of_getElem? (i := 739) (by decide +kernel), List.mem_of_getElem? (i := 740) (by decide +kernel)⟩
theorem lw_p29 : lw_okq (⟨"HopHomesModel", "tells", "(III)V"⟩, 12) := ⟨⟨by decide +kernel, by decide +kernel⟩, List.mem_of_getElem? (i := 607) (by decide +kernel), List.mem_of_getElem? (i := 743) (by decide +kernel), List.mem_of_getElem? (i := 744) (by decide +kernel)⟩
theorem lw_p30 : lw_okq (⟨"HopHomesModel", "asks", "(IIIZII)I"⟩, 12) := ⟨⟨by decide +kernel, by decide +kernel⟩, List.mem_of_getElem? (i := 607) (by decide +kernel), List.mem_of_getElem? (i := 747) (by decide +kernel), List.mem_of_getElem? (i := 748) (by decide +kernel)⟩
theorem lw_p31 : lw_okq (⟨"HopHomesModel", "makes", "(IIII)I"⟩, 12) := ⟨⟨by decide +kernel, by decide +kernel⟩, List.mem_of_getElem? (i := 607) (by decide +kernel), List.mem_of_getElem? (i := 751) (by decide +kernel), List.mem_of_getElem? (i := 752) (by decide +kernel)⟩
def lw_privs_2 : List (MethodName × Nat) := [(⟨"HopHomesModel", "lying", "(I)I"⟩, 12), (⟨"HopHomesModel", "of", "(II)I"⟩, 12), (⟨"HopHomesModel", "copies", "(I)I"⟩, 12), (⟨"HopHomesModel", "hasCopy", "(II)Z"⟩, 12), (⟨"HopHomesModel", "puts", "(III)V"⟩, 12), (⟨"HopHomesModel", "noThread", "(I)Z"⟩, 12), (⟨"HopHomesModel", "its", "(II)I"⟩, 12), (⟨"HopHomesModel", "noPage", "(I)Z"⟩, 12), (⟨"HopHomesModel", "accesses", "(IIZ)I"⟩, 12), (⟨"HopHomesModel", "source", "(II)I"⟩, 12), (⟨"HopHomesModel", "pays", "(IIII)I"⟩, 12), (⟨"HopHomesModel", "adds", "(III)V"⟩, 12), (⟨"HopHomesModel", "drops", "(III)V"⟩, 12), (⟨"HopHomesModel", "tells", "(III)V"⟩, 12), (⟨"HopHomesModel", "asks", "(IIIZII)I"⟩, 12), (⟨"HopHomesModel", "makes", "(IIII)I"⟩, 12)]
theorem lw_r2 : ∀ q ∈ lw_privs_2, lw_okq q := List.forall_mem_cons.mpr ⟨lw_p16, List.forall_mem_cons.mpr ⟨lw_p17, List.forall_mem_cons.mpr ⟨lw_p18, List.forall_mem_cons.mpr ⟨lw_p19, List.forall_mem_cons.mpr ⟨lw_p20, List.forall_mem_cons.mpr ⟨lw_p21, List.forall_mem_cons.mpr ⟨lw_p22, List.forall_mem_cons.mpr ⟨lw_p23, List.forall_mem_cons.mpr ⟨lw_p24, List.forall_mem_cons.mpr ⟨lw_p25, List.forall_mem_cons.mpr ⟨lw_p26, List.forall_mem_cons.mpr ⟨lw_p27, List.forall_mem_cons.mpr ⟨lw_p28, List.forall_mem_cons.mpr ⟨lw_p29, List.forall_mem_cons.mpr ⟨lw_p30, List.forall_mem_cons.mpr ⟨lw_p31, fun _ h => absurd h List.not_mem_nil⟩⟩⟩⟩⟩⟩⟩⟩⟩⟩⟩⟩⟩⟩⟩⟩
theorem lw_p32 : lw_okq (⟨"HopHomesModel", "frees", "(II)Z"⟩, 12) := ⟨⟨by decide +kernel, by decide +kernel⟩, List.mem_of_getElem? (i := 607) (by decide +kernel), List.mem_of_getElem? (i := 755) (by decide +kernel), List.mem_of_getElem? (i := 756) (by decide +kernel)⟩
theorem lw_p33 : lw_okq (⟨"HopHomesModel", "first", "(I)I"⟩, 12) := ⟨⟨by decide +kernel, by decide +kernel⟩, List.mem_of_getElem? (i := 607) (by decide +kernel), List.mem_of_getElem? (i := 759) (by decide +kernel), List.mem_of_getElem? (i := 760) (by decide +kernel)⟩
theorem lw_p34 : lw_okq (⟨"HopHomesModel", "moves", "(III)I"⟩, 12) := ⟨⟨by decide +kernel, by decide +kernel⟩, List.mem_of_getElem? (i := 607) (by decide +kernel), List.mem_of_getElem? (i := 763) (by decide +kernel), List.mem_of_getElem? (i := 764) (by decide +kernel)⟩
theorem lw_p35 : lw_okq (⟨"HopHomesModel", "counters", "()I"⟩, 12) := ⟨⟨by decide +kernel, by decide +kernel⟩, List.mem_of_getElem? (i := 607) (by decide +kernel), List.mem_of_getElem? (i := 775) (by decide +kernel), List.mem_of_getElem? (i := 776) (by decide +kernel)⟩
theorem lw_p36 : lw_okq (⟨"HopHomesModel", "wrong", "()I"⟩, 12) := ⟨⟨by decide +kernel, by decide +kernel⟩, List.mem_of_getElem? (i := 607) (by decide +kernel), List.mem_of_getElem? (i := 791) (by decide +kernel), List.mem_of_getElem? (i := 792) (by decide +kernel)⟩
theorem lw_p37 : lw_okq (⟨"HopHomesModel", "steps", "()I"⟩, 12) := ⟨⟨by decide +kernel, by decide +kernel⟩, List.mem_of_getElem? (i := 607) (by decide +kernel), List.mem_of_getElem? (i := 795) (by decide +kernel), List.mem_of_getElem? (i := 796) (by decide +kernel)⟩
theorem lw_p38 : lw_okq (⟨"HopHomesModel", "takesStep", "()Z"⟩, 12) := ⟨⟨by decide +kernel, by decide +kernel⟩, List.mem_of_getElem? (i := 607) (by decide +kernel), List.mem_of_getElem? (i := 799) (by decide +kernel), List.mem_of_getElem? (i := 800) (by decide +kernel)⟩
theorem lw_p39 : lw_okq (⟨"HopHomesModel", "isDigit", "()Z"⟩, 12) := ⟨⟨by decide +kernel, by decide +kernel⟩, List.mem_of_getElem? (i := 607) (by decide +kernel), List.mem_of_getElem? (i := 803) (by decide +kernel), List.mem_of_getElem? (i := 804) (by decide +kernel)⟩
theorem lw_p40 : lw_okq (⟨"HopHomesModel", "does", "()I"⟩, 12) := ⟨⟨by decide +kernel, by decide +kernel⟩, List.mem_of_getElem? (i := 607) (by decide +kernel), List.mem_of_getElem? (i := 807) (by decide +kernel), List.mem_of_getElem? (i := 808) (by decide +kernel)⟩
theorem lw_p41 : lw_okq (⟨"HopHomesModel", "tries", "(I)I"⟩, 12) := ⟨⟨by decide +kernel, by decide +kernel⟩, List.mem_of_getElem? (i := 607) (by decide +kernel), List.mem_of_getElem? (i := 815) (by decide +kernel), List.mem_of_getElem? (i := 816) (by decide +kernel)⟩
theorem lw_p42 : lw_okq (⟨"HopHomesModel", "threadsAt", "(I)I"⟩, 12) := ⟨⟨by decide +kernel, by decide +kernel⟩, List.mem_of_getElem? (i := 607) (by decide +kernel), List.mem_of_getElem? (i := 839) (by decide +kernel), List.mem_of_getElem? (i := 840) (by decide +kernel)⟩
theorem lw_p43 : lw_okq (⟨"HopHomesModel", "frozen", "(I)I"⟩, 12) := ⟨⟨by decide +kernel, by decide +kernel⟩, List.mem_of_getElem? (i := 607) (by decide +kernel), List.mem_of_getElem? (i := 847) (by decide +kernel), List.mem_of_getElem? (i := 848) (by decide +kernel)⟩
theorem lw_p44 : lw_okq (⟨"HopHomesModel", "burden", "(II)I"⟩, 12) := ⟨⟨by decide +kernel, by decide +kernel⟩, List.mem_of_getElem? (i := 607) (by decide +kernel), List.mem_of_getElem? (i := 867) (by decide +kernel), List.mem_of_getElem? (i := 868) (by decide +kernel)⟩
theorem lw_p45 : lw_okq (⟨"HopHomesModel", "allCopies", "()I"⟩, 12) := ⟨⟨by decide +kernel, by decide +kernel⟩, List.mem_of_getElem? (i := 607) (by decide +kernel), List.mem_of_getElem? (i := 879) (by decide +kernel), List.mem_of_getElem? (i := 880) (by decide +kernel)⟩
theorem lw_p46 : lw_okq (⟨"HopHomesModel", "frozenPages", "()I"⟩, 12) := ⟨⟨by decide +kernel, by decide +kernel⟩, List.mem_of_getElem? (i := 607) (by decide +kernel), List.mem_of_getElem? (i := 883) (by decide +kernel), List.mem_of_getElem? (i := 884) (by decide +kernel)⟩
def lw_privs_3 : List (MethodName × Nat) := [(⟨"HopHomesModel", "frees", "(II)Z"⟩, 12), (⟨"HopHomesModel", "first", "(I)I"⟩, 12), (⟨"HopHomesModel", "moves", "(III)I"⟩, 12), (⟨"HopHomesModel", "counters", "()I"⟩, 12), (⟨"HopHomesModel", "wrong", "()I"⟩, 12), (⟨"HopHomesModel", "steps", "()I"⟩, 12), (⟨"HopHomesModel", "takesStep", "()Z"⟩, 12), (⟨"HopHomesModel", "isDigit", "()Z"⟩, 12), (⟨"HopHomesModel", "does", "()I"⟩, 12), (⟨"HopHomesModel", "tries", "(I)I"⟩, 12), (⟨"HopHomesModel", "threadsAt", "(I)I"⟩, 12), (⟨"HopHomesModel", "frozen", "(I)I"⟩, 12), (⟨"HopHomesModel", "burden", "(II)I"⟩, 12), (⟨"HopHomesModel", "allCopies", "()I"⟩, 12), (⟨"HopHomesModel", "frozenPages", "()I"⟩, 12)]
theorem lw_r3 : ∀ q ∈ lw_privs_3, lw_okq q := List.forall_mem_cons.mpr ⟨lw_p32, List.forall_mem_cons.mpr ⟨lw_p33, List.forall_mem_cons.mpr ⟨lw_p34, List.forall_mem_cons.mpr ⟨lw_p35, List.forall_mem_cons.mpr ⟨lw_p36, List.forall_mem_cons.mpr ⟨lw_p37, List.forall_mem_cons.mpr ⟨lw_p38, List.forall_mem_cons.mpr ⟨lw_p39, List.forall_mem_cons.mpr ⟨lw_p40, List.forall_mem_cons.mpr ⟨lw_p41, List.forall_mem_cons.mpr ⟨lw_p42, List.forall_mem_cons.mpr ⟨lw_p43, List.forall_mem_cons.mpr ⟨lw_p44, List.forall_mem_cons.mpr ⟨lw_p45, List.forall_mem_cons.mpr ⟨lw_p46, fun _ h => absurd h List.not_mem_nil⟩⟩⟩⟩⟩⟩⟩⟩⟩⟩⟩⟩⟩⟩⟩
def lw_privs : List (MethodName × Nat) := lw_privs_1 ++ (lw_privs_2 ++ (lw_privs_3))
def lw_tbl : List Cond := k2_sels lw_privs ++ tables_1
theorem lw_privs_ok : ∀ q ∈ lw_privs, lw_okq q := by
  show ∀ q ∈ lw_privs_1 ++ (lw_privs_2 ++ (lw_privs_3)), lw_okq q
  exact List.forall_mem_append.mpr ⟨lw_r1, List.forall_mem_append.mpr ⟨lw_r2, lw_r3⟩⟩
/-! ===== BEGIN printed: names, fields, word lists, decode rows ===== -/
def RX0 : String := "HopHomes$History"
def TX0 : u_T := fun k => match k with
  | 0 => ("HopHomes$History", "states", "[LHopHomes$Memory;", true)
  | _ => ("HopHomes$History", "size", "I", false)
def tyX0 : Nat → FieldType := fun k => match k with
  | 0 => .array (.object "HopHomes$Memory")
  | _ => .int
abbrev wsX00 : List Cond := u_ws RX0 TX0 2
theorem nmX0 : ∀ a, a < 2 → ∀ b, b < 2 → a ≠ b → (TX0 a).2.1 ≠ (TX0 b).2.1 := by decide +kernel
theorem tyX0_ok : ∀ k, k < 2 → parseFieldDescriptor (TX0 k).2.2.1 = some (tyX0 k) := by decide +kernel
abbrev cX0_init : ByteArray := prog_2_method_1_code
def yX0_init : MethodName := ⟨RX0, "<init>", "()V"⟩
abbrev cX0_remember : ByteArray := prog_2_method_2_code
def yX0_remember : MethodName := ⟨RX0, "remember", "(LHopHomes$Memory;)V"⟩
abbrev cX0_dropOldest : ByteArray := prog_2_method_3_code
def yX0_dropOldest : MethodName := ⟨RX0, "dropOldest", "()V"⟩
abbrev cX0_giveBack : ByteArray := prog_2_method_4_code
def yX0_giveBack : MethodName := ⟨RX0, "giveBack", "(LHopHomes$Memory;)V"⟩
def RX1 : String := "HopHomes$Log"
def TX1 : u_T := fun k => match k with
  | 0 => ("HopHomes$Log", "parts", "[I", true)
  | 1 => ("HopHomes$Log", "size", "I", false)
  | _ => ("HopHomes$Log", "next", "I", false)
def tyX1 : Nat → FieldType := fun k => match k with
  | 0 => .array .int
  | 1 => .int
  | _ => .int
abbrev wsX10 : List Cond := u_ws RX1 TX1 3
theorem nmX1 : ∀ a, a < 3 → ∀ b, b < 3 → a ≠ b → (TX1 a).2.1 ≠ (TX1 b).2.1 := by decide +kernel
theorem tyX1_ok : ∀ k, k < 3 → parseFieldDescriptor (TX1 k).2.2.1 = some (tyX1 k) := by decide +kernel
abbrev cX1_init : ByteArray := prog_3_method_1_code
def yX1_init : MethodName := ⟨RX1, "<init>", "()V"⟩
abbrev cX1_copyFrom : ByteArray := prog_3_method_2_code
def yX1_copyFrom : MethodName := ⟨RX1, "copyFrom", "(LHopHomes$Log;)V"⟩
abbrev cX1_add : ByteArray := prog_3_method_3_code
def yX1_add : MethodName := ⟨RX1, "add", "(IIII)V"⟩
abbrev cX1_partOf : ByteArray := prog_3_method_4_code
def yX1_partOf : MethodName := ⟨RX1, "partOf", "(II)I"⟩
def RX2 : String := "HopHomes$Memory"
def TX2 : u_T := fun k => match k with
  | 0 => ("HopHomes$Memory", "frames", "[I", true)
  | 1 => ("HopHomes$Memory", "settings", "[I", true)
  | 2 => ("HopHomes$Memory", "pages", "[LHopHomes$Page;", true)
  | 3 => ("HopHomes$Memory", "runners", "[LHopHomes$Runner;", true)
  | 4 => ("HopHomes$Memory", "log", "LHopHomes$Log;", true)
  | 5 => ("HopHomes$Memory", "pageCount", "I", false)
  | 6 => ("HopHomes$Memory", "runnerCount", "I", false)
  | 7 => ("HopHomes$Memory", "time", "I", false)
  | 8 => ("HopHomes$Memory", "copiesMade", "I", false)
  | 9 => ("HopHomes$Memory", "copiesGivenWay", "I", false)
  | _ => ("HopHomes$Memory", "denials", "I", false)
def tyX2 : Nat → FieldType := fun k => match k with
  | 0 => .array .int
  | 1 => .array .int
  | 2 => .array (.object "HopHomes$Page")
  | 3 => .array (.object "HopHomes$Runner")
  | 4 => .object "HopHomes$Log"
  | 5 => .int
  | 6 => .int
  | 7 => .int
  | 8 => .int
  | 9 => .int
  | _ => .int
abbrev wsX20 : List Cond := u_ws RX2 TX2 11
theorem nmX2 : ∀ a, a < 11 → ∀ b, b < 11 → a ≠ b → (TX2 a).2.1 ≠ (TX2 b).2.1 := by decide +kernel
theorem tyX2_ok : ∀ k, k < 11 → parseFieldDescriptor (TX2 k).2.2.1 = some (tyX2 k) := by decide +kernel
abbrev cX2_init : ByteArray := prog_4_method_1_code
def yX2_init : MethodName := ⟨RX2, "<init>", "()V"⟩
abbrev cX2_copyFrom : ByteArray := prog_4_method_2_code
def yX2_copyFrom : MethodName := ⟨RX2, "copyFrom", "(LHopHomes$Memory;)V"⟩
abbrev cX2_pageAt : ByteArray := prog_4_method_3_code
def yX2_pageAt : MethodName := ⟨RX2, "pageAt", "(I)LHopHomes$Page;"⟩
abbrev cX2_runnerAt : ByteArray := prog_4_method_4_code
def yX2_runnerAt : MethodName := ⟨RX2, "runnerAt", "(I)LHopHomes$Runner;"⟩
abbrev cX2_letRead : ByteArray := prog_4_method_5_code
def yX2_letRead : MethodName := ⟨RX2, "letRead", "(LHopHomes$Runner;LHopHomes$Page;)I"⟩
abbrev cX2_letWrite : ByteArray := prog_4_method_6_code
def yX2_letWrite : MethodName := ⟨RX2, "letWrite", "(LHopHomes$Runner;LHopHomes$Page;)I"⟩
abbrev cX2_charge : ByteArray := prog_4_method_7_code
def yX2_charge : MethodName := ⟨RX2, "charge", "(LHopHomes$Runner;LHopHomes$Page;II)I"⟩
abbrev cX2_askPolicy : ByteArray := prog_4_method_8_code
def yX2_askPolicy : MethodName := ⟨RX2, "askPolicy", "(LHopHomes$Runner;LHopHomes$Page;I)I"⟩
abbrev cX2_makeCopy : ByteArray := prog_4_method_9_code
def yX2_makeCopy : MethodName := ⟨RX2, "makeCopy", "(LHopHomes$Runner;LHopHomes$Page;I)I"⟩
abbrev cX2_move : ByteArray := prog_4_method_10_code
def yX2_move : MethodName := ⟨RX2, "move", "(LHopHomes$Runner;LHopHomes$Page;)I"⟩
abbrev cX2_makeRoom : ByteArray := prog_4_method_11_code
def yX2_makeRoom : MethodName := ⟨RX2, "makeRoom", "(LHopHomes$Page;I)Z"⟩
abbrev cX2_giveWay : ByteArray := prog_4_method_12_code
def yX2_giveWay : MethodName := ⟨RX2, "giveWay", "(LHopHomes$Page;I)V"⟩
abbrev cX2_firstToGiveWay : ByteArray := prog_4_method_13_code
def yX2_firstToGiveWay : MethodName := ⟨RX2, "firstToGiveWay", "(I)LHopHomes$Page;"⟩
abbrev cX2_freeFrames : ByteArray := prog_4_method_14_code
def yX2_freeFrames : MethodName := ⟨RX2, "freeFrames", "(I)I"⟩
abbrev cX2_pagesIn : ByteArray := prog_4_method_15_code
def yX2_pagesIn : MethodName := ⟨RX2, "pagesIn", "(I)I"⟩
abbrev cX2_copiesIn : ByteArray := prog_4_method_16_code
def yX2_copiesIn : MethodName := ⟨RX2, "copiesIn", "(I)I"⟩
abbrev cX2_copiesInAllHomes : ByteArray := prog_4_method_17_code
def yX2_copiesInAllHomes : MethodName := ⟨RX2, "copiesInAllHomes", "()I"⟩
abbrev cX2_runnersAt : ByteArray := prog_4_method_18_code
def yX2_runnersAt : MethodName := ⟨RX2, "runnersAt", "(I)I"⟩
abbrev cX2_paidByAll : ByteArray := prog_4_method_19_code
def yX2_paidByAll : MethodName := ⟨RX2, "paidByAll", "()I"⟩
abbrev cX2_hopsPaidByAll : ByteArray := prog_4_method_20_code
def yX2_hopsPaidByAll : MethodName := ⟨RX2, "hopsPaidByAll", "()I"⟩
abbrev cX2_movingsOfAll : ByteArray := prog_4_method_21_code
def yX2_movingsOfAll : MethodName := ⟨RX2, "movingsOfAll", "()I"⟩
abbrev cX2_frozenPages : ByteArray := prog_4_method_22_code
def yX2_frozenPages : MethodName := ⟨RX2, "frozenPages", "()I"⟩
abbrev cX2_sumOfCounters : ByteArray := prog_4_method_23_code
def yX2_sumOfCounters : MethodName := ⟨RX2, "sumOfCounters", "()I"⟩
def RX3 : String := "HopHomes$Page"
def TX3 : u_T := fun k => match k with
  | 0 => ("HopHomes$Page", "number", "I", true)
  | 1 => ("HopHomes$Page", "counters", "[I", true)
  | 2 => ("HopHomes$Page", "latestUses", "[I", true)
  | 3 => ("HopHomes$Page", "home", "I", false)
  | 4 => ("HopHomes$Page", "copyBits", "I", false)
  | 5 => ("HopHomes$Page", "hopsPaid", "I", false)
  | 6 => ("HopHomes$Page", "writes", "I", false)
  | 7 => ("HopHomes$Page", "movings", "I", false)
  | 8 => ("HopHomes$Page", "accesses", "I", false)
  | 9 => ("HopHomes$Page", "latestWrite", "I", false)
  | 10 => ("HopHomes$Page", "latestMoving", "I", false)
  | 11 => ("HopHomes$Page", "movingBefore", "I", false)
  | _ => ("HopHomes$Page", "lastFrozenAccess", "I", false)
def tyX3 : Nat → FieldType := fun k => match k with
  | 0 => .int
  | 1 => .array .int
  | 2 => .array .int
  | 3 => .int
  | 4 => .int
  | 5 => .int
  | 6 => .int
  | 7 => .int
  | 8 => .int
  | 9 => .int
  | 10 => .int
  | 11 => .int
  | _ => .int
abbrev wsX30 : List Cond := u_ws RX3 TX3 13
theorem nmX3 : ∀ a, a < 13 → ∀ b, b < 13 → a ≠ b → (TX3 a).2.1 ≠ (TX3 b).2.1 := by decide +kernel
theorem tyX3_ok : ∀ k, k < 13 → parseFieldDescriptor (TX3 k).2.2.1 = some (tyX3 k) := by decide +kernel
abbrev cX3_init : ByteArray := prog_5_method_1_code
def yX3_init : MethodName := ⟨RX3, "<init>", "(I)V"⟩
abbrev cX3_copyFrom : ByteArray := prog_5_method_2_code
def yX3_copyFrom : MethodName := ⟨RX3, "copyFrom", "(LHopHomes$Page;)V"⟩
abbrev cX3_hasCopyIn : ByteArray := prog_5_method_3_code
def yX3_hasCopyIn : MethodName := ⟨RX3, "hasCopyIn", "(I)Z"⟩
abbrev cX3_placeCopyIn : ByteArray := prog_5_method_4_code
def yX3_placeCopyIn : MethodName := ⟨RX3, "placeCopyIn", "(II)V"⟩
abbrev cX3_removeCopyFrom : ByteArray := prog_5_method_5_code
def yX3_removeCopyFrom : MethodName := ⟨RX3, "removeCopyFrom", "(I)V"⟩
abbrev cX3_nearestTo : ByteArray := prog_5_method_6_code
def yX3_nearestTo : MethodName := ⟨RX3, "nearestTo", "(I)I"⟩
abbrev cX3_hopsToCopies : ByteArray := prog_5_method_7_code
def yX3_hopsToCopies : MethodName := ⟨RX3, "hopsToCopies", "()I"⟩
abbrev cX3_growCounter : ByteArray := prog_5_method_8_code
def yX3_growCounter : MethodName := ⟨RX3, "growCounter", "(II)V"⟩
abbrev cX3_halveCounters : ByteArray := prog_5_method_9_code
def yX3_halveCounters : MethodName := ⟨RX3, "halveCounters", "()V"⟩
abbrev cX3_sumOfCounters : ByteArray := prog_5_method_10_code
def yX3_sumOfCounters : MethodName := ⟨RX3, "sumOfCounters", "()I"⟩
abbrev cX3_burdenAt : ByteArray := prog_5_method_11_code
def yX3_burdenAt : MethodName := ⟨RX3, "burdenAt", "(I)I"⟩
abbrev cX3_wasWrittenLately : ByteArray := prog_5_method_12_code
def yX3_wasWrittenLately : MethodName := ⟨RX3, "wasWrittenLately", "()Z"⟩
abbrev cX3_frozenAccesses : ByteArray := prog_5_method_13_code
def yX3_frozenAccesses : MethodName := ⟨RX3, "frozenAccesses", "()I"⟩
abbrev cX3_wantsToMoveTo : ByteArray := prog_5_method_14_code
def yX3_wantsToMoveTo : MethodName := ⟨RX3, "wantsToMoveTo", "(I)Z"⟩
abbrev cX3_moveTo : ByteArray := prog_5_method_15_code
def yX3_moveTo : MethodName := ⟨RX3, "moveTo", "(I)Z"⟩
def RX4 : String := "HopHomes$Runner"
def TX4 : u_T := fun k => match k with
  | 0 => ("HopHomes$Runner", "home", "I", false)
  | 1 => ("HopHomes$Runner", "paid", "I", false)
  | 2 => ("HopHomes$Runner", "hopsPaid", "I", false)
  | 3 => ("HopHomes$Runner", "reads", "I", false)
  | _ => ("HopHomes$Runner", "writes", "I", false)
def tyX4 : Nat → FieldType := fun k => match k with
  | 0 => .int
  | 1 => .int
  | 2 => .int
  | 3 => .int
  | _ => .int
abbrev wsX40 : List Cond := u_ws RX4 TX4 5
theorem nmX4 : ∀ a, a < 5 → ∀ b, b < 5 → a ≠ b → (TX4 a).2.1 ≠ (TX4 b).2.1 := by decide +kernel
theorem tyX4_ok : ∀ k, k < 5 → parseFieldDescriptor (TX4 k).2.2.1 = some (tyX4 k) := by decide +kernel
abbrev cX4_init : ByteArray := prog_6_method_1_code
def yX4_init : MethodName := ⟨RX4, "<init>", "()V"⟩
abbrev cX4_copyFrom : ByteArray := prog_6_method_2_code
def yX4_copyFrom : MethodName := ⟨RX4, "copyFrom", "(LHopHomes$Runner;)V"⟩
def RX5 : String := "HopHomes$Trace"
def TX5 : u_T := fun k => match k with
  | 0 => ("HopHomes$Trace", "text", "[C", true)
  | 1 => ("HopHomes$Trace", "length", "I", false)
  | 2 => ("HopHomes$Trace", "kinds", "[C", true)
  | 3 => ("HopHomes$Trace", "runners", "[I", true)
  | 4 => ("HopHomes$Trace", "targets", "[I", true)
  | _ => ("HopHomes$Trace", "steps", "I", false)
def tyX5 : Nat → FieldType := fun k => match k with
  | 0 => .array .char
  | 1 => .int
  | 2 => .array .char
  | 3 => .array .int
  | 4 => .array .int
  | _ => .int
abbrev wsX50 : List Cond := u_ws RX5 TX5 6
theorem nmX5 : ∀ a, a < 6 → ∀ b, b < 6 → a ≠ b → (TX5 a).2.1 ≠ (TX5 b).2.1 := by decide +kernel
theorem tyX5_ok : ∀ k, k < 6 → parseFieldDescriptor (TX5 k).2.2.1 = some (tyX5 k) := by decide +kernel
abbrev cX5_init : ByteArray := prog_7_method_1_code
def yX5_init : MethodName := ⟨RX5, "<init>", "()V"⟩
abbrev cX5_findFault : ByteArray := prog_7_method_2_code
def yX5_findFault : MethodName := ⟨RX5, "findFault", "()I"⟩
abbrev cX5_allowedBehind : ByteArray := prog_7_method_3_code
def yX5_allowedBehind : MethodName := ⟨RX5, "allowedBehind", "(IC)I"⟩
abbrev cX5_takeKind : ByteArray := prog_7_method_4_code
def yX5_takeKind : MethodName := ⟨RX5, "takeKind", "(C)I"⟩
abbrev cX5_takeRunner : ByteArray := prog_7_method_5_code
def yX5_takeRunner : MethodName := ⟨RX5, "takeRunner", "(C)I"⟩
abbrev cX5_takeTarget : ByteArray := prog_7_method_6_code
def yX5_takeTarget : MethodName := ⟨RX5, "takeTarget", "(C)I"⟩
abbrev cX5_takeDigitOrEnd : ByteArray := prog_7_method_7_code
def yX5_takeDigitOrEnd : MethodName := ⟨RX5, "takeDigitOrEnd", "(C)I"⟩
abbrev cX5_isDigit : ByteArray := prog_7_method_8_code
def yX5_isDigit : MethodName := ⟨RX5, "isDigit", "(C)Z"⟩
abbrev cX5_isKnownTo : ByteArray := prog_7_method_9_code
def yX5_isKnownTo : MethodName := ⟨RX5, "isKnownTo", "(LHopHomes$Memory;)Z"⟩
abbrev cX5_runOn : ByteArray := prog_7_method_10_code
def yX5_runOn : MethodName := ⟨RX5, "runOn", "(LHopHomes$Memory;)I"⟩
def RX6 : String := "HopHomes"
def TX6 : u_T := fun k => match k with
  | 0 => ("HopHomes", "now", "LHopHomes$Memory;", true)
  | 1 => ("HopHomes", "tried", "LHopHomes$Memory;", true)
  | 2 => ("HopHomes", "snapshot", "LHopHomes$Memory;", true)
  | 3 => ("HopHomes", "history", "LHopHomes$History;", true)
  | 4 => ("HopHomes", "trace", "LHopHomes$Trace;", true)
  | _ => ("HopHomes", "hasSnapshot", "Z", false)
def tyX6 : Nat → FieldType := fun k => match k with
  | 0 => .object "HopHomes$Memory"
  | 1 => .object "HopHomes$Memory"
  | 2 => .object "HopHomes$Memory"
  | 3 => .object "HopHomes$History"
  | 4 => .object "HopHomes$Trace"
  | _ => .boolean
abbrev wsX60 : List Cond := u_ws RX6 TX6 6
theorem nmX6 : ∀ a, a < 6 → ∀ b, b < 6 → a ≠ b → (TX6 a).2.1 ≠ (TX6 b).2.1 := by decide +kernel
theorem tyX6_ok : ∀ k, k < 6 → parseFieldDescriptor (TX6 k).2.2.1 = some (tyX6 k) := by decide +kernel
abbrev cX6_init : ByteArray := prog_1_method_1_code
def yX6_init : MethodName := ⟨RX6, "<init>", "()V"⟩
abbrev cX6_setFrames : ByteArray := prog_1_method_2_code
def yX6_setFrames : MethodName := ⟨RX6, "setFrames", "(II)I"⟩
abbrev cX6_addPage : ByteArray := prog_1_method_3_code
def yX6_addPage : MethodName := ⟨RX6, "addPage", "(I)I"⟩
abbrev cX6_addThread : ByteArray := prog_1_method_4_code
def yX6_addThread : MethodName := ⟨RX6, "addThread", "(I)I"⟩
abbrev cX6_go : ByteArray := prog_1_method_5_code
def yX6_go : MethodName := ⟨RX6, "go", "(II)I"⟩
abbrev cX6_set : ByteArray := prog_1_method_6_code
def yX6_set : MethodName := ⟨RX6, "set", "(II)I"⟩
abbrev cX6_read : ByteArray := prog_1_method_7_code
def yX6_read : MethodName := ⟨RX6, "read", "(II)I"⟩
abbrev cX6_write : ByteArray := prog_1_method_8_code
def yX6_write : MethodName := ⟨RX6, "write", "(II)I"⟩
abbrev cX6_fade : ByteArray := prog_1_method_9_code
def yX6_fade : MethodName := ⟨RX6, "fade", "()I"⟩
abbrev cX6_type : ByteArray := prog_1_method_10_code
def yX6_type : MethodName := ⟨RX6, "type", "(C)I"⟩
abbrev cX6_clearText : ByteArray := prog_1_method_11_code
def yX6_clearText : MethodName := ⟨RX6, "clearText", "()I"⟩
abbrev cX6_perform : ByteArray := prog_1_method_12_code
def yX6_perform : MethodName := ⟨RX6, "perform", "()I"⟩
abbrev cX6_undo : ByteArray := prog_1_method_13_code
def yX6_undo : MethodName := ⟨RX6, "undo", "()I"⟩
abbrev cX6_keep : ByteArray := prog_1_method_14_code
def yX6_keep : MethodName := ⟨RX6, "keep", "()I"⟩
abbrev cX6_restore : ByteArray := prog_1_method_15_code
def yX6_restore : MethodName := ⟨RX6, "restore", "()I"⟩
abbrev cX6_home : ByteArray := prog_1_method_16_code
def yX6_home : MethodName := ⟨RX6, "home", "(II)I"⟩
abbrev cX6_page : ByteArray := prog_1_method_17_code
def yX6_page : MethodName := ⟨RX6, "page", "(II)I"⟩
abbrev cX6_thread : ByteArray := prog_1_method_18_code
def yX6_thread : MethodName := ⟨RX6, "thread", "(II)I"⟩
abbrev cX6_hops : ByteArray := prog_1_method_19_code
def yX6_hops : MethodName := ⟨RX6, "hops", "(II)I"⟩
abbrev cX6_wouldPay : ByteArray := prog_1_method_20_code
def yX6_wouldPay : MethodName := ⟨RX6, "wouldPay", "(IIZ)I"⟩
abbrev cX6_trial : ByteArray := prog_1_method_21_code
def yX6_trial : MethodName := ⟨RX6, "trial", "(I)I"⟩
abbrev cX6_bestPolicy : ByteArray := prog_1_method_22_code
def yX6_bestPolicy : MethodName := ⟨RX6, "bestPolicy", "()I"⟩
abbrev cX6_bestHome : ByteArray := prog_1_method_23_code
def yX6_bestHome : MethodName := ⟨RX6, "bestHome", "(I)I"⟩
abbrev cX6_event : ByteArray := prog_1_method_24_code
def yX6_event : MethodName := ⟨RX6, "event", "(II)I"⟩
abbrev cX6_count : ByteArray := prog_1_method_25_code
def yX6_count : MethodName := ⟨RX6, "count", "(I)I"⟩
abbrev cX6_errorOfTrace : ByteArray := prog_1_method_26_code
def yX6_errorOfTrace : MethodName := ⟨RX6, "errorOfTrace", "()I"⟩
abbrev cX6_takeForTrial : ByteArray := prog_1_method_27_code
def yX6_takeForTrial : MethodName := ⟨RX6, "takeForTrial", "(I)V"⟩
abbrev cX6_isHome : ByteArray := prog_1_method_28_code
def yX6_isHome : MethodName := ⟨RX6, "isHome", "(I)Z"⟩
abbrev cX6_isSetting : ByteArray := prog_1_method_29_code
def yX6_isSetting : MethodName := ⟨RX6, "isSetting", "(II)Z"⟩
abbrev cX6_distance : ByteArray := prog_1_method_30_code
def yX6_distance : MethodName := ⟨RX6, "distance", "(II)I"⟩
def RX7 : String := "HopHomesModel"
def TX7 : u_T := fun k => match k with
  | 0 => ("HopHomesModel", "now", "[I", true)
  | 1 => ("HopHomesModel", "history", "[I", true)
  | 2 => ("HopHomesModel", "kept", "I", false)
  | 3 => ("HopHomesModel", "slot", "[I", true)
  | 4 => ("HopHomesModel", "isFilled", "Z", false)
  | 5 => ("HopHomesModel", "spare", "[I", true)
  | 6 => ("HopHomesModel", "typed", "I", false)
  | 7 => ("HopHomesModel", "text", "[C", true)
  | 8 => ("HopHomesModel", "at", "I", false)
  | 9 => ("HopHomesModel", "kind", "I", false)
  | 10 => ("HopHomesModel", "readThread", "I", false)
  | _ => ("HopHomesModel", "number", "I", false)
def tyX7 : Nat → FieldType := fun k => match k with
  | 0 => .array .int
  | 1 => .array .int
  | 2 => .int
  | 3 => .array .int
  | 4 => .boolean
  | 5 => .array .int
  | 6 => .int
  | 7 => .array .char
  | 8 => .int
  | 9 => .int
  | 10 => .int
  | _ => .int
abbrev wsX70 : List Cond := u_ws RX7 TX7 12
theorem nmX7 : ∀ a, a < 12 → ∀ b, b < 12 → a ≠ b → (TX7 a).2.1 ≠ (TX7 b).2.1 := by decide +kernel
theorem tyX7_ok : ∀ k, k < 12 → parseFieldDescriptor (TX7 k).2.2.1 = some (tyX7 k) := by decide +kernel
abbrev cX7_init : ByteArray := prog_9_method_1_code
def yX7_init : MethodName := ⟨RX7, "<init>", "()V"⟩
abbrev cX7_in : ByteArray := prog_9_method_2_code
def yX7_in : MethodName := ⟨RX7, "in", "(III)Z"⟩
abbrev cX7_of : ByteArray := prog_9_method_3_code
def yX7_of : MethodName := ⟨RX7, "of", "(II)I"⟩
abbrev cX7_puts : ByteArray := prog_9_method_4_code
def yX7_puts : MethodName := ⟨RX7, "puts", "(III)V"⟩
abbrev cX7_its : ByteArray := prog_9_method_5_code
def yX7_its : MethodName := ⟨RX7, "its", "(II)I"⟩
abbrev cX7_adds : ByteArray := prog_9_method_6_code
def yX7_adds : MethodName := ⟨RX7, "adds", "(III)V"⟩
abbrev cX7_noHome : ByteArray := prog_9_method_7_code
def yX7_noHome : MethodName := ⟨RX7, "noHome", "(I)Z"⟩
abbrev cX7_noPage : ByteArray := prog_9_method_8_code
def yX7_noPage : MethodName := ⟨RX7, "noPage", "(I)Z"⟩
abbrev cX7_noThread : ByteArray := prog_9_method_9_code
def yX7_noThread : MethodName := ⟨RX7, "noThread", "(I)Z"⟩
abbrev cX7_apart : ByteArray := prog_9_method_10_code
def yX7_apart : MethodName := ⟨RX7, "apart", "(II)I"⟩
abbrev cX7_record : ByteArray := prog_9_method_11_code
def yX7_record : MethodName := ⟨RX7, "record", "()V"⟩
abbrev cX7_tells : ByteArray := prog_9_method_12_code
def yX7_tells : MethodName := ⟨RX7, "tells", "(III)V"⟩
abbrev cX7_hasCopy : ByteArray := prog_9_method_13_code
def yX7_hasCopy : MethodName := ⟨RX7, "hasCopy", "(II)Z"⟩
abbrev cX7_lying : ByteArray := prog_9_method_14_code
def yX7_lying : MethodName := ⟨RX7, "lying", "(I)I"⟩
abbrev cX7_copies : ByteArray := prog_9_method_15_code
def yX7_copies : MethodName := ⟨RX7, "copies", "(I)I"⟩
abbrev cX7_isFull : ByteArray := prog_9_method_16_code
def yX7_isFull : MethodName := ⟨RX7, "isFull", "(I)Z"⟩
abbrev cX7_setFrames : ByteArray := prog_9_method_17_code
def yX7_setFrames : MethodName := ⟨RX7, "setFrames", "(II)I"⟩
abbrev cX7_addPage : ByteArray := prog_9_method_18_code
def yX7_addPage : MethodName := ⟨RX7, "addPage", "(I)I"⟩
abbrev cX7_addThread : ByteArray := prog_9_method_19_code
def yX7_addThread : MethodName := ⟨RX7, "addThread", "(I)I"⟩
abbrev cX7_go : ByteArray := prog_9_method_20_code
def yX7_go : MethodName := ⟨RX7, "go", "(II)I"⟩
abbrev cX7_set : ByteArray := prog_9_method_21_code
def yX7_set : MethodName := ⟨RX7, "set", "(II)I"⟩
abbrev cX7_pays : ByteArray := prog_9_method_22_code
def yX7_pays : MethodName := ⟨RX7, "pays", "(IIII)I"⟩
abbrev cX7_source : ByteArray := prog_9_method_23_code
def yX7_source : MethodName := ⟨RX7, "source", "(II)I"⟩
abbrev cX7_drops : ByteArray := prog_9_method_24_code
def yX7_drops : MethodName := ⟨RX7, "drops", "(III)V"⟩
abbrev cX7_first : ByteArray := prog_9_method_25_code
def yX7_first : MethodName := ⟨RX7, "first", "(I)I"⟩
abbrev cX7_frees : ByteArray := prog_9_method_26_code
def yX7_frees : MethodName := ⟨RX7, "frees", "(II)Z"⟩
abbrev cX7_makes : ByteArray := prog_9_method_27_code
def yX7_makes : MethodName := ⟨RX7, "makes", "(IIII)I"⟩
abbrev cX7_moves : ByteArray := prog_9_method_28_code
def yX7_moves : MethodName := ⟨RX7, "moves", "(III)I"⟩
abbrev cX7_accesses : ByteArray := prog_9_method_29_code
def yX7_accesses : MethodName := ⟨RX7, "accesses", "(IIZ)I"⟩
abbrev cX7_asks : ByteArray := prog_9_method_30_code
def yX7_asks : MethodName := ⟨RX7, "asks", "(IIIZII)I"⟩
abbrev cX7_read : ByteArray := prog_9_method_31_code
def yX7_read : MethodName := ⟨RX7, "read", "(II)I"⟩
abbrev cX7_write : ByteArray := prog_9_method_32_code
def yX7_write : MethodName := ⟨RX7, "write", "(II)I"⟩
abbrev cX7_counters : ByteArray := prog_9_method_33_code
def yX7_counters : MethodName := ⟨RX7, "counters", "()I"⟩
abbrev cX7_fade : ByteArray := prog_9_method_34_code
def yX7_fade : MethodName := ⟨RX7, "fade", "()I"⟩
abbrev cX7_type : ByteArray := prog_9_method_35_code
def yX7_type : MethodName := ⟨RX7, "type", "(C)I"⟩
abbrev cX7_clearText : ByteArray := prog_9_method_36_code
def yX7_clearText : MethodName := ⟨RX7, "clearText", "()I"⟩
abbrev cX7_isDigit : ByteArray := prog_9_method_37_code
def yX7_isDigit : MethodName := ⟨RX7, "isDigit", "()Z"⟩
abbrev cX7_takesStep : ByteArray := prog_9_method_38_code
def yX7_takesStep : MethodName := ⟨RX7, "takesStep", "()Z"⟩
abbrev cX7_steps : ByteArray := prog_9_method_39_code
def yX7_steps : MethodName := ⟨RX7, "steps", "()I"⟩
abbrev cX7_wrong : ByteArray := prog_9_method_40_code
def yX7_wrong : MethodName := ⟨RX7, "wrong", "()I"⟩
abbrev cX7_does : ByteArray := prog_9_method_41_code
def yX7_does : MethodName := ⟨RX7, "does", "()I"⟩
abbrev cX7_perform : ByteArray := prog_9_method_42_code
def yX7_perform : MethodName := ⟨RX7, "perform", "()I"⟩
abbrev cX7_tries : ByteArray := prog_9_method_43_code
def yX7_tries : MethodName := ⟨RX7, "tries", "(I)I"⟩
abbrev cX7_trial : ByteArray := prog_9_method_44_code
def yX7_trial : MethodName := ⟨RX7, "trial", "(I)I"⟩
abbrev cX7_bestPolicy : ByteArray := prog_9_method_45_code
def yX7_bestPolicy : MethodName := ⟨RX7, "bestPolicy", "()I"⟩
abbrev cX7_undo : ByteArray := prog_9_method_46_code
def yX7_undo : MethodName := ⟨RX7, "undo", "()I"⟩
abbrev cX7_keep : ByteArray := prog_9_method_47_code
def yX7_keep : MethodName := ⟨RX7, "keep", "()I"⟩
abbrev cX7_restore : ByteArray := prog_9_method_48_code
def yX7_restore : MethodName := ⟨RX7, "restore", "()I"⟩
abbrev cX7_threadsAt : ByteArray := prog_9_method_49_code
def yX7_threadsAt : MethodName := ⟨RX7, "threadsAt", "(I)I"⟩
abbrev cX7_home : ByteArray := prog_9_method_50_code
def yX7_home : MethodName := ⟨RX7, "home", "(II)I"⟩
abbrev cX7_frozen : ByteArray := prog_9_method_51_code
def yX7_frozen : MethodName := ⟨RX7, "frozen", "(I)I"⟩
abbrev cX7_page : ByteArray := prog_9_method_52_code
def yX7_page : MethodName := ⟨RX7, "page", "(II)I"⟩
abbrev cX7_thread : ByteArray := prog_9_method_53_code
def yX7_thread : MethodName := ⟨RX7, "thread", "(II)I"⟩
abbrev cX7_hops : ByteArray := prog_9_method_54_code
def yX7_hops : MethodName := ⟨RX7, "hops", "(II)I"⟩
abbrev cX7_wouldPay : ByteArray := prog_9_method_55_code
def yX7_wouldPay : MethodName := ⟨RX7, "wouldPay", "(IIZ)I"⟩
abbrev cX7_burden : ByteArray := prog_9_method_56_code
def yX7_burden : MethodName := ⟨RX7, "burden", "(II)I"⟩
abbrev cX7_bestHome : ByteArray := prog_9_method_57_code
def yX7_bestHome : MethodName := ⟨RX7, "bestHome", "(I)I"⟩
abbrev cX7_event : ByteArray := prog_9_method_58_code
def yX7_event : MethodName := ⟨RX7, "event", "(II)I"⟩
abbrev cX7_frozenPages : ByteArray := prog_9_method_59_code
def yX7_frozenPages : MethodName := ⟨RX7, "frozenPages", "()I"⟩
abbrev cX7_allCopies : ByteArray := prog_9_method_60_code
def yX7_allCopies : MethodName := ⟨RX7, "allCopies", "()I"⟩
abbrev cX7_count : ByteArray := prog_9_method_61_code
def yX7_count : MethodName := ⟨RX7, "count", "(I)I"⟩
def RJ9 : String := "java/lang/Math"
def TJ9 : u_T := fun k => match k with
  | _ => ("", "", "", false)
def tyJ9 : Nat → FieldType := fun k => match k with
  | _ => .int
abbrev wsJ90 : List Cond := u_ws RJ9 TJ9 0
theorem nmJ9 : ∀ a, a < 0 → ∀ b, b < 0 → a ≠ b → (TJ9 a).2.1 ≠ (TJ9 b).2.1 := by decide +kernel
theorem tyJ9_ok : ∀ k, k < 0 → parseFieldDescriptor (TJ9 k).2.2.1 = some (tyJ9 k) := by decide +kernel
abbrev cJ9_floorMod_7cf53 : ByteArray := prog_10_method_50_code
def yJ9_floorMod_7cf53 : MethodName := ⟨RJ9, "floorMod", "(II)I"⟩
abbrev cJ9_abs_0f7a4 : ByteArray := prog_10_method_59_code
def yJ9_abs_0f7a4 : MethodName := ⟨RJ9, "abs", "(I)I"⟩
abbrev cJ9_max_7cf53 : ByteArray := prog_10_method_65_code
def yJ9_max_7cf53 : MethodName := ⟨RJ9, "max", "(II)I"⟩
abbrev cJ9_min_7cf53 : ByteArray := prog_10_method_69_code
def yJ9_min_7cf53 : MethodName := ⟨RJ9, "min", "(II)I"⟩
def RJ10 : String := "java/lang/System"
def TJ10 : u_T := fun k => match k with
  | _ => ("", "", "", false)
def tyJ10 : Nat → FieldType := fun k => match k with
  | _ => .int
abbrev wsJ100 : List Cond := u_ws RJ10 TJ10 0
theorem nmJ10 : ∀ a, a < 0 → ∀ b, b < 0 → a ≠ b → (TJ10 a).2.1 ≠ (TJ10 b).2.1 := by decide +kernel
theorem tyJ10_ok : ∀ k, k < 0 → parseFieldDescriptor (TJ10 k).2.2.1 = some (tyJ10 k) := by decide +kernel
def RL : String := "HopHomesLaw"
abbrev cL_law : ByteArray := code
def yL_law : MethodName := ⟨RL, "law", "([I)Z"⟩

section
-- ===== PART A: goes FIRST, ahead of the names: the tables' words, and 'selects' of the private methods out of them =====
/-- a private method of a class that the tables say can be made, by its rows of tables_1 -/
def lw_okq (q : MethodName × Nat) : Prop := (q.1.cls ≠ "java/lang/invoke/MethodHandle" ∧ q.1.cls ≠ "java/lang/invoke/VarHandle") ∧ Cond.instantiable q.1.cls q.2 ∈ tables_1 ∧ Cond.privateMethod q.1 ∈ tables_1 ∧ Cond.instanceMethod q.1 ∈ tables_1
theorem lw_p0 : lw_okq (⟨"LookBench$Rules", "wipe", "()V"⟩, 5) := ⟨⟨by decide +kernel, by decide +kernel⟩, List.mem_of_getElem? (i := 70) (by decide +kernel), List.mem_of_getElem? (i := 227) (by decide +kernel), List.mem_of_getElem? (i := 228) (by decide +kernel)⟩
theorem lw_p1 : lw_okq (⟨"LookBench$Rules", "mark", "(I)V"⟩, 5) := ⟨⟨by decide +kernel, by decide +kernel⟩, List.mem_of_getElem? (i := 70) (by decide +kernel), List.mem_of_getElem? (i := 231) (by decide +kernel), List.mem_of_getElem? (i := 232) (by decide +kernel)⟩
theorem lw_p2 : lw_okq (⟨"LookBench$Rules", "shareWorths", "(IJI)V"⟩, 5) := ⟨⟨by decide +kernel, by decide +kernel⟩, List.mem_of_getElem? (i := 70) (by decide +kernel), List.mem_of_getElem? (i := 267) (by decide +kernel), List.mem_of_getElem? (i := 268) (by decide +kernel)⟩
theorem lw_p3 : lw_okq (⟨"LookBench$Rules", "worthOf", "(I)I"⟩, 5) := ⟨⟨by decide +kernel, by decide +kernel⟩, List.mem_of_getElem? (i := 70) (by decide +kernel), List.mem_of_getElem? (i := 271) (by decide +kernel), List.mem_of_getElem? (i := 272) (by decide +kernel)⟩
theorem lw_p4 : lw_okq (⟨"LookBench$Rules", "isLeast", "(ZI)Z"⟩, 5) := ⟨⟨by decide +kernel, by decide +kernel⟩, List.mem_of_getElem? (i := 70) (by decide +kernel), List.mem_of_getElem? (i := 317) (by decide +kernel), List.mem_of_getElem? (i := 318) (by decide +kernel)⟩
theorem lw_p5 : lw_okq (⟨"LookBench$Plans", "prepare", "()V"⟩, 7) := ⟨⟨by decide +kernel, by decide +kernel⟩, List.mem_of_getElem? (i := 114) (by decide +kernel), List.mem_of_getElem? (i := 392) (by decide +kernel), List.mem_of_getElem? (i := 393) (by decide +kernel)⟩
theorem lw_p6 : lw_okq (⟨"LookBench$Plans", "fillSure", "(II)V"⟩, 7) := ⟨⟨by decide +kernel, by decide +kernel⟩, List.mem_of_getElem? (i := 114) (by decide +kernel), List.mem_of_getElem? (i := 399) (by decide +kernel), List.mem_of_getElem? (i := 400) (by decide +kernel)⟩
theorem lw_p7 : lw_okq (⟨"LookBench$Plans", "fill", "(IIIIJI)V"⟩, 7) := ⟨⟨by decide +kernel, by decide +kernel⟩, List.mem_of_getElem? (i := 114) (by decide +kernel), List.mem_of_getElem? (i := 403) (by decide +kernel), List.mem_of_getElem? (i := 404) (by decide +kernel)⟩
theorem lw_p8 : lw_okq (⟨"LookBench$Plans", "settle", "(IJI)V"⟩, 7) := ⟨⟨by decide +kernel, by decide +kernel⟩, List.mem_of_getElem? (i := 114) (by decide +kernel), List.mem_of_getElem? (i := 407) (by decide +kernel), List.mem_of_getElem? (i := 408) (by decide +kernel)⟩
theorem lw_p9 : lw_okq (⟨"LookBench$Plans", "stateOf", "(II)I"⟩, 7) := ⟨⟨by decide +kernel, by decide +kernel⟩, List.mem_of_getElem? (i := 114) (by decide +kernel), List.mem_of_getElem? (i := 414) (by decide +kernel), List.mem_of_getElem? (i := 415) (by decide +kernel)⟩
theorem lw_p10 : lw_okq (⟨"LookBench$Plans", "nextOfBest", "(IIJ)I"⟩, 7) := ⟨⟨by decide +kernel, by decide +kernel⟩, List.mem_of_getElem? (i := 114) (by decide +kernel), List.mem_of_getElem? (i := 427) (by decide +kernel), List.mem_of_getElem? (i := 428) (by decide +kernel)⟩
theorem lw_p11 : lw_okq (⟨"LookBench$Plans", "meanFrom", "(IIJ)J"⟩, 7) := ⟨⟨by decide +kernel, by decide +kernel⟩, List.mem_of_getElem? (i := 114) (by decide +kernel), List.mem_of_getElem? (i := 431) (by decide +kernel), List.mem_of_getElem? (i := 432) (by decide +kernel)⟩
theorem lw_p12 : lw_okq (⟨"LookBench$Plans", "nextOfWorst", "(II)I"⟩, 7) := ⟨⟨by decide +kernel, by decide +kernel⟩, List.mem_of_getElem? (i := 114) (by decide +kernel), List.mem_of_getElem? (i := 435) (by decide +kernel), List.mem_of_getElem? (i := 436) (by decide +kernel)⟩
theorem lw_p13 : lw_okq (⟨"LookBench$Plans", "worstFrom", "(II)I"⟩, 7) := ⟨⟨by decide +kernel, by decide +kernel⟩, List.mem_of_getElem? (i := 114) (by decide +kernel), List.mem_of_getElem? (i := 439) (by decide +kernel), List.mem_of_getElem? (i := 440) (by decide +kernel)⟩
theorem lw_p14 : lw_okq (⟨"LookBench$Bounds", "boundOfSide", "(Z)J"⟩, 3) := ⟨⟨by decide +kernel, by decide +kernel⟩, List.mem_of_getElem? (i := 142) (by decide +kernel), List.mem_of_getElem? (i := 454) (by decide +kernel), List.mem_of_getElem? (i := 455) (by decide +kernel)⟩
theorem lw_p15 : lw_okq (⟨"LookBench$Bounds", "leastProof", "(ZI)I"⟩, 3) := ⟨⟨by decide +kernel, by decide +kernel⟩, List.mem_of_getElem? (i := 142) (by decide +kernel), List.mem_of_getElem? (i := 459) (by decide +kernel), List.mem_of_getElem? (i := 460) (by decide +kernel)⟩
def lw_privs_1 : List (MethodName × Nat) := [(⟨"LookBench$Rules", "wipe", "()V"⟩, 5), (⟨"LookBench$Rules", "mark", "(I)V"⟩, 5), (⟨"LookBench$Rules", "shareWorths", "(IJI)V"⟩, 5), (⟨"LookBench$Rules", "worthOf", "(I)I"⟩, 5), (⟨"LookBench$Rules", "isLeast", "(ZI)Z"⟩, 5), (⟨"LookBench$Plans", "prepare", "()V"⟩, 7), (⟨"LookBench$Plans", "fillSure", "(II)V"⟩, 7), (⟨"LookBench$Plans", "fill", "(IIIIJI)V"⟩, 7), (⟨"LookBench$Plans", "settle", "(IJI)V"⟩, 7), (⟨"LookBench$Plans", "stateOf", "(II)I"⟩, 7), (⟨"LookBench$Plans", "nextOfBest", "(IIJ)I"⟩, 7), (⟨"LookBench$Plans", "meanFrom", "(IIJ)J"⟩, 7), (⟨"LookBench$Plans", "nextOfWorst", "(II)I"⟩, 7), (⟨"LookBench$Plans", "worstFrom", "(II)I"⟩, 7), (⟨"LookBench$Bounds", "boundOfSide", "(Z)J"⟩, 3), (⟨"LookBench$Bounds", "leastProof", "(ZI)I"⟩, 3)]
theorem lw_r1 : ∀ q ∈ lw_privs_1, lw_okq q := List.forall_mem_cons.mpr ⟨lw_p0, List.forall_mem_cons.mpr ⟨lw_p1, List.forall_mem_cons.mpr ⟨lw_p2, List.forall_mem_cons.mpr ⟨lw_p3, List.forall_mem_cons.mpr ⟨lw_p4, List.forall_mem_cons.mpr ⟨lw_p5, List.forall_mem_cons.mpr ⟨lw_p6, List.forall_mem_cons.mpr ⟨lw_p7, List.forall_mem_cons.mpr ⟨lw_p8, List.forall_mem_cons.mpr ⟨lw_p9, List.forall_mem_cons.mpr ⟨lw_p10, List.forall_mem_cons.mpr ⟨lw_p11, List.forall_mem_cons.mpr ⟨lw_p12, List.forall_mem_cons.mpr ⟨lw_p13, List.forall_mem_cons.mpr ⟨lw_p14, List.forall_mem_cons.mpr ⟨lw_p15, fun _ h => absurd h List.not_mem_nil⟩⟩⟩⟩⟩⟩⟩⟩⟩⟩⟩⟩⟩⟩⟩⟩
theorem lw_p16 : lw_okq (⟨"LookBench$Plans", "orderMeanFrom", "(III)J"⟩, 7) := ⟨⟨by decide +kernel, by decide +kernel⟩, List.mem_of_getElem? (i := 114) (by decide +kernel), List.mem_of_getElem? (i := 475) (by decide +kernel), List.mem_of_getElem? (i := 476) (by decide +kernel)⟩
theorem lw_p17 : lw_okq (⟨"LookBench$Plans", "orderWorstFrom", "(III)I"⟩, 7) := ⟨⟨by decide +kernel, by decide +kernel⟩, List.mem_of_getElem? (i := 114) (by decide +kernel), List.mem_of_getElem? (i := 484) (by decide +kernel), List.mem_of_getElem? (i := 485) (by decide +kernel)⟩
theorem lw_p18 : lw_okq (⟨"LookBench", "follow", "(II)I"⟩, 6) := ⟨⟨by decide +kernel, by decide +kernel⟩, List.mem_of_getElem? (i := 11) (by decide +kernel), List.mem_of_getElem? (i := 532) (by decide +kernel), List.mem_of_getElem? (i := 533) (by decide +kernel)⟩
theorem lw_p19 : lw_okq (⟨"LookBenchModel", "isPart", "(I)Z"⟩, 17) := ⟨⟨by decide +kernel, by decide +kernel⟩, List.mem_of_getElem? (i := 548) (by decide +kernel), List.mem_of_getElem? (i := 619) (by decide +kernel), List.mem_of_getElem? (i := 620) (by decide +kernel)⟩
theorem lw_p20 : lw_okq (⟨"LookBenchModel", "settings", "()I"⟩, 17) := ⟨⟨by decide +kernel, by decide +kernel⟩, List.mem_of_getElem? (i := 548) (by decide +kernel), List.mem_of_getElem? (i := 628) (by decide +kernel), List.mem_of_getElem? (i := 629) (by decide +kernel)⟩
theorem lw_p21 : lw_okq (⟨"LookBenchModel", "added", "()I"⟩, 17) := ⟨⟨by decide +kernel, by decide +kernel⟩, List.mem_of_getElem? (i := 548) (by decide +kernel), List.mem_of_getElem? (i := 632) (by decide +kernel), List.mem_of_getElem? (i := 633) (by decide +kernel)⟩
theorem lw_p22 : lw_okq (⟨"LookBenchModel", "isRule", "(I)Z"⟩, 17) := ⟨⟨by decide +kernel, by decide +kernel⟩, List.mem_of_getElem? (i := 548) (by decide +kernel), List.mem_of_getElem? (i := 640) (by decide +kernel), List.mem_of_getElem? (i := 641) (by decide +kernel)⟩
theorem lw_p23 : lw_okq (⟨"LookBenchModel", "isLeast", "(II)Z"⟩, 17) := ⟨⟨by decide +kernel, by decide +kernel⟩, List.mem_of_getElem? (i := 548) (by decide +kernel), List.mem_of_getElem? (i := 674) (by decide +kernel), List.mem_of_getElem? (i := 675) (by decide +kernel)⟩
theorem lw_p24 : lw_okq (⟨"LookBenchModel", "isEnough", "(II)Z"⟩, 17) := ⟨⟨by decide +kernel, by decide +kernel⟩, List.mem_of_getElem? (i := 548) (by decide +kernel), List.mem_of_getElem? (i := 678) (by decide +kernel), List.mem_of_getElem? (i := 679) (by decide +kernel)⟩
theorem lw_p25 : lw_okq (⟨"LookBenchModel", "isGood", "(I)Z"⟩, 17) := ⟨⟨by decide +kernel, by decide +kernel⟩, List.mem_of_getElem? (i := 548) (by decide +kernel), List.mem_of_getElem? (i := 682) (by decide +kernel), List.mem_of_getElem? (i := 683) (by decide +kernel)⟩
theorem lw_p26 : lw_okq (⟨"LookBenchModel", "now", "()I"⟩, 17) := ⟨⟨by decide +kernel, by decide +kernel⟩, List.mem_of_getElem? (i := 548) (by decide +kernel), List.mem_of_getElem? (i := 703) (by decide +kernel), List.mem_of_getElem? (i := 704) (by decide +kernel)⟩
theorem lw_p27 : lw_okq (⟨"LookBenchModel", "sureAt", "(I)I"⟩, 17) := ⟨⟨by decide +kernel, by decide +kernel⟩, List.mem_of_getElem? (i := 548) (by decide +kernel), List.mem_of_getElem? (i := 707) (by decide +kernel), List.mem_of_getElem? (i := 708) (by decide +kernel)⟩
theorem lw_p28 : lw_okq (⟨"LookBenchModel", "setOf", "(II)I"⟩, 17) := ⟨⟨by decide +kernel, by decide +kernel⟩, List.mem_of_getElem? (i := 548) (by decide +kernel), List.mem_of_getElem? (i := 711) (by decide +kernel), List.mem_of_getElem? (i := 712) (by decide +kernel)⟩
theorem lw_p29 : lw_okq (⟨"LookBenchModel", "digit", "(II)I"⟩, 17) := ⟨⟨by decide +kernel, by decide +kernel⟩, List.mem_of_getElem? (i := 548) (by decide +kernel), List.mem_of_getElem? (i := 715) (by decide +kernel), List.mem_of_getElem? (i := 716) (by decide +kernel)⟩
theorem lw_p30 : lw_okq (⟨"LookBenchModel", "left", "(I)J"⟩, 17) := ⟨⟨by decide +kernel, by decide +kernel⟩, List.mem_of_getElem? (i := 548) (by decide +kernel), List.mem_of_getElem? (i := 723) (by decide +kernel), List.mem_of_getElem? (i := 724) (by decide +kernel)⟩
theorem lw_p31 : lw_okq (⟨"LookBenchModel", "plans", "()V"⟩, 17) := ⟨⟨by decide +kernel, by decide +kernel⟩, List.mem_of_getElem? (i := 548) (by decide +kernel), List.mem_of_getElem? (i := 731) (by decide +kernel), List.mem_of_getElem? (i := 732) (by decide +kernel)⟩
def lw_privs_2 : List (MethodName × Nat) := [(⟨"LookBench$Plans", "orderMeanFrom", "(III)J"⟩, 7), (⟨"LookBench$Plans", "orderWorstFrom", "(III)I"⟩, 7), (⟨"LookBench", "follow", "(II)I"⟩, 6), (⟨"LookBenchModel", "isPart", "(I)Z"⟩, 17), (⟨"LookBenchModel", "settings", "()I"⟩, 17), (⟨"LookBenchModel", "added", "()I"⟩, 17), (⟨"LookBenchModel", "isRule", "(I)Z"⟩, 17), (⟨"LookBenchModel", "isLeast", "(II)Z"⟩, 17), (⟨"LookBenchModel", "isEnough", "(II)Z"⟩, 17), (⟨"LookBenchModel", "isGood", "(I)Z"⟩, 17), (⟨"LookBenchModel", "now", "()I"⟩, 17), (⟨"LookBenchModel", "sureAt", "(I)I"⟩, 17), (⟨"LookBenchModel", "setOf", "(II)I"⟩, 17), (⟨"LookBenchModel", "digit", "(II)I"⟩, 17), (⟨"LookBenchModel", "left", "(I)J"⟩, 17), (⟨"LookBenchModel", "plans", "()V"⟩, 17)]
theorem lw_r2 : ∀ q ∈ lw_privs_2, lw_okq q := List.forall_mem_cons.mpr ⟨lw_p16, List.forall_mem_cons.mpr ⟨lw_p17, List.forall_mem_cons.mpr ⟨lw_p18, List.forall_mem_cons.mpr ⟨lw_p19, List.forall_mem_cons.mpr ⟨lw_p20, List.forall_mem_cons.mpr ⟨lw_p21, List.forall_mem_cons.mpr ⟨lw_p22, List.forall_mem_cons.mpr ⟨lw_p23, List.forall_mem_cons.mpr ⟨lw_p24, List.forall_mem_cons.mpr ⟨lw_p25, List.forall_mem_cons.mpr ⟨lw_p26, List.forall_mem_cons.mpr ⟨lw_p27, List.forall_mem_cons.mpr ⟨lw_p28, List.forall_mem_cons.mpr ⟨lw_p29, List.forall_mem_cons.mpr ⟨lw_p30, List.forall_mem_cons.mpr ⟨lw_p31, fun _ h => absurd h List.not_mem_nil⟩⟩⟩⟩⟩⟩⟩⟩⟩⟩⟩⟩⟩⟩⟩⟩
theorem lw_p32 : lw_okq (⟨"LookBenchModel", "seenIn", "(I)I"⟩, 17) := ⟨⟨by decide +kernel, by decide +kernel⟩, List.mem_of_getElem? (i := 548) (by decide +kernel), List.mem_of_getElem? (i := 735) (by decide +kernel), List.mem_of_getElem? (i := 736) (by decide +kernel)⟩
theorem lw_p33 : lw_okq (⟨"LookBenchModel", "plan", "(I)V"⟩, 17) := ⟨⟨by decide +kernel, by decide +kernel⟩, List.mem_of_getElem? (i := 548) (by decide +kernel), List.mem_of_getElem? (i := 739) (by decide +kernel), List.mem_of_getElem? (i := 740) (by decide +kernel)⟩
theorem lw_p34 : lw_okq (⟨"LookBenchModel", "isSuch", "(II)Z"⟩, 17) := ⟨⟨by decide +kernel, by decide +kernel⟩, List.mem_of_getElem? (i := 548) (by decide +kernel), List.mem_of_getElem? (i := 743) (by decide +kernel), List.mem_of_getElem? (i := 744) (by decide +kernel)⟩
theorem lw_p35 : lw_okq (⟨"LookBenchModel", "weight", "(I)J"⟩, 17) := ⟨⟨by decide +kernel, by decide +kernel⟩, List.mem_of_getElem? (i := 548) (by decide +kernel), List.mem_of_getElem? (i := 747) (by decide +kernel), List.mem_of_getElem? (i := 748) (by decide +kernel)⟩
theorem lw_p36 : lw_okq (⟨"LookBenchModel", "shown", "(II)I"⟩, 17) := ⟨⟨by decide +kernel, by decide +kernel⟩, List.mem_of_getElem? (i := 548) (by decide +kernel), List.mem_of_getElem? (i := 751) (by decide +kernel), List.mem_of_getElem? (i := 752) (by decide +kernel)⟩
theorem lw_p37 : lw_okq (⟨"LookBenchModel", "byOrder", "(II)I"⟩, 17) := ⟨⟨by decide +kernel, by decide +kernel⟩, List.mem_of_getElem? (i := 548) (by decide +kernel), List.mem_of_getElem? (i := 755) (by decide +kernel), List.mem_of_getElem? (i := 756) (by decide +kernel)⟩
theorem lw_p38 : lw_okq (⟨"LookBenchModel", "orderNext", "(I)I"⟩, 17) := ⟨⟨by decide +kernel, by decide +kernel⟩, List.mem_of_getElem? (i := 548) (by decide +kernel), List.mem_of_getElem? (i := 759) (by decide +kernel), List.mem_of_getElem? (i := 760) (by decide +kernel)⟩
theorem lw_p39 : lw_okq (⟨"LookBenchModel", "placeOf", "(I)I"⟩, 17) := ⟨⟨by decide +kernel, by decide +kernel⟩, List.mem_of_getElem? (i := 548) (by decide +kernel), List.mem_of_getElem? (i := 771) (by decide +kernel), List.mem_of_getElem? (i := 772) (by decide +kernel)⟩
theorem lw_p40 : lw_okq (⟨"LookBenchModel", "ratioUp", "(I)I"⟩, 17) := ⟨⟨by decide +kernel, by decide +kernel⟩, List.mem_of_getElem? (i := 548) (by decide +kernel), List.mem_of_getElem? (i := 779) (by decide +kernel), List.mem_of_getElem? (i := 780) (by decide +kernel)⟩
theorem lw_p41 : lw_okq (⟨"LookBenchModel", "down", "(IZ)I"⟩, 17) := ⟨⟨by decide +kernel, by decide +kernel⟩, List.mem_of_getElem? (i := 548) (by decide +kernel), List.mem_of_getElem? (i := 783) (by decide +kernel), List.mem_of_getElem? (i := 784) (by decide +kernel)⟩
def lw_privs_3 : List (MethodName × Nat) := [(⟨"LookBenchModel", "seenIn", "(I)I"⟩, 17), (⟨"LookBenchModel", "plan", "(I)V"⟩, 17), (⟨"LookBenchModel", "isSuch", "(II)Z"⟩, 17), (⟨"LookBenchModel", "weight", "(I)J"⟩, 17), (⟨"LookBenchModel", "shown", "(II)I"⟩, 17), (⟨"LookBenchModel", "byOrder", "(II)I"⟩, 17), (⟨"LookBenchModel", "orderNext", "(I)I"⟩, 17), (⟨"LookBenchModel", "placeOf", "(I)I"⟩, 17), (⟨"LookBenchModel", "ratioUp", "(I)I"⟩, 17), (⟨"LookBenchModel", "down", "(IZ)I"⟩, 17)]
theorem lw_r3 : ∀ q ∈ lw_privs_3, lw_okq q := List.forall_mem_cons.mpr ⟨lw_p32, List.forall_mem_cons.mpr ⟨lw_p33, List.forall_mem_cons.mpr ⟨lw_p34, List.forall_mem_cons.mpr ⟨lw_p35, List.forall_mem_cons.mpr ⟨lw_p36, List.forall_mem_cons.mpr ⟨lw_p37, List.forall_mem_cons.mpr ⟨lw_p38, List.forall_mem_cons.mpr ⟨lw_p39, List.forall_mem_cons.mpr ⟨lw_p40, List.forall_mem_cons.mpr ⟨lw_p41, fun _ h => absurd h List.not_mem_nil⟩⟩⟩⟩⟩⟩⟩⟩⟩⟩
def lw_privs : List (MethodName × Nat) := lw_privs_1 ++ (lw_privs_2 ++ (lw_privs_3))
def lw_tbl : List Cond := k2_sels lw_privs ++ tables_1
theorem lw_privs_ok : ∀ q ∈ lw_privs, lw_okq q := by
  show ∀ q ∈ lw_privs_1 ++ (lw_privs_2 ++ (lw_privs_3)), lw_okq q
  exact List.forall_mem_append.mpr ⟨lw_r1, List.forall_mem_append.mpr ⟨lw_r2, lw_r3⟩⟩
end
section
/-! ===== BEGIN words of one list among another's, by their places ===== -/
theorem goodIn_r {big : List Cond} (ws : List Cond) (ps : List Nat) (hp : ws = ps.filterMap (fun i => big[i]?)) (h : ws.all goodWord = true) : GoodIn big ws := by
  intro w hw
  have h1 := List.all_eq_true.mp h w hw
  rw [hp] at hw
  obtain ⟨i, -, hi⟩ := List.mem_filterMap.mp hw
  have hm : w ∈ big := by first | exact List.mem_of_getElem? hi | exact List.getElem?_mem hi
  exact ⟨hm, good_of_word h1⟩
theorem goodIn_app {big a b : List Cond} (ha : GoodIn big a) (hb : GoodIn big b) : GoodIn big (a ++ b) := fun w h => (List.mem_append.mp h).elim (ha w) (hb w)
theorem goodIn_ca {big a b : List Cond} {c : Cond} (ha : GoodIn big (c :: a)) (hb : GoodIn big b) : GoodIn big (c :: (a ++ b)) := fun w h => (List.mem_cons.mp h).elim (fun e => ha w (List.mem_cons.mpr (Or.inl e))) (fun h => (List.mem_append.mp h).elim (fun h => ha w (List.mem_cons.mpr (Or.inr h))) (hb w))
theorem goodIn_sub {big ws : List Cond} (hm : ∀ w ∈ ws, w ∈ big) (h : ws.all goodWord = true) : GoodIn big ws := fun w hw => ⟨hm w hw, good_of_word (List.all_eq_true.mp h w hw)⟩
/-! ===== END ===== -/

/-! ===== BEGIN printed: names, fields, word lists, decode rows ===== -/
def RX0 : String := "LookBench$Bounds"
def TX0 : u_T := fun k => match k with
  | 0 => ("LookBench$Bounds", "shelf", "LLookBench$Shelf;", true)
  | 1 => ("LookBench$Bounds", "rules", "LLookBench$Rules;", true)
  | _ => ("LookBench$Bounds", "leastPrice", "[I", true)
def tyX0 : Nat → FieldType := fun k => match k with
  | 0 => .object "LookBench$Shelf"
  | 1 => .object "LookBench$Rules"
  | _ => .array .int
abbrev wsX00 : List Cond := u_ws RX0 TX0 3
theorem nmX0 : ∀ a, a < 3 → ∀ b, b < 3 → a ≠ b → (TX0 a).2.1 ≠ (TX0 b).2.1 := by decide +kernel
theorem tyX0_ok : ∀ k, k < 3 → parseFieldDescriptor (TX0 k).2.2.1 = some (tyX0 k) := by decide +kernel
abbrev cX0_init : ByteArray := prog_2_method_1_code
def yX0_init : MethodName := ⟨RX0, "<init>", "(LLookBench$Shelf;LLookBench$Rules;)V"⟩
abbrev cX0_goodWeights : ByteArray := prog_2_method_2_code
def yX0_goodWeights : MethodName := ⟨RX0, "goodWeights", "()J"⟩
abbrev cX0_matters : ByteArray := prog_2_method_3_code
def yX0_matters : MethodName := ⟨RX0, "matters", "(I)J"⟩
abbrev cX0_bound : ByteArray := prog_2_method_4_code
def yX0_bound : MethodName := ⟨RX0, "bound", "()J"⟩
abbrev cX0_boundOfSide : ByteArray := prog_2_method_5_code
def yX0_boundOfSide : MethodName := ⟨RX0, "boundOfSide", "(Z)J"⟩
abbrev cX0_leastProof : ByteArray := prog_2_method_6_code
def yX0_leastProof : MethodName := ⟨RX0, "leastProof", "(ZI)I"⟩
def RX1 : String := "LookBench$Plans"
def TX1 : u_T := fun k => match k with
  | 0 => ("LookBench$Plans", "shelf", "LLookBench$Shelf;", true)
  | 1 => ("LookBench$Plans", "rules", "LLookBench$Rules;", true)
  | 2 => ("LookBench$Plans", "queue", "LLookBench$Queue;", true)
  | 3 => ("LookBench$Plans", "open", "[I", true)
  | 4 => ("LookBench$Plans", "best", "[J", false)
  | 5 => ("LookBench$Plans", "worst", "[I", false)
  | _ => ("LookBench$Plans", "fresh", "Z", false)
def tyX1 : Nat → FieldType := fun k => match k with
  | 0 => .object "LookBench$Shelf"
  | 1 => .object "LookBench$Rules"
  | 2 => .object "LookBench$Queue"
  | 3 => .array .int
  | 4 => .array .long
  | 5 => .array .int
  | _ => .boolean
abbrev wsX10 : List Cond := u_ws RX1 TX1 7
theorem nmX1 : ∀ a, a < 7 → ∀ b, b < 7 → a ≠ b → (TX1 a).2.1 ≠ (TX1 b).2.1 := by decide +kernel
theorem tyX1_ok : ∀ k, k < 7 → parseFieldDescriptor (TX1 k).2.2.1 = some (tyX1 k) := by decide +kernel
abbrev cX1_init : ByteArray := prog_3_method_1_code
def yX1_init : MethodName := ⟨RX1, "<init>", "(LLookBench$Shelf;LLookBench$Rules;LLookBench$Queue;)V"⟩
abbrev cX1_forget : ByteArray := prog_3_method_2_code
def yX1_forget : MethodName := ⟨RX1, "forget", "()V"⟩
abbrev cX1_bestMean : ByteArray := prog_3_method_3_code
def yX1_bestMean : MethodName := ⟨RX1, "bestMean", "(II)J"⟩
abbrev cX1_worstPrice : ByteArray := prog_3_method_4_code
def yX1_worstPrice : MethodName := ⟨RX1, "worstPrice", "(II)I"⟩
abbrev cX1_gain : ByteArray := prog_3_method_5_code
def yX1_gain : MethodName := ⟨RX1, "gain", "(I)J"⟩
abbrev cX1_next : ByteArray := prog_3_method_6_code
def yX1_next : MethodName := ⟨RX1, "next", "(III)I"⟩
abbrev cX1_orderMean : ByteArray := prog_3_method_7_code
def yX1_orderMean : MethodName := ⟨RX1, "orderMean", "()J"⟩
abbrev cX1_orderWorst : ByteArray := prog_3_method_8_code
def yX1_orderWorst : MethodName := ⟨RX1, "orderWorst", "()I"⟩
abbrev cX1_orderMeanFrom : ByteArray := prog_3_method_9_code
def yX1_orderMeanFrom : MethodName := ⟨RX1, "orderMeanFrom", "(III)J"⟩
abbrev cX1_orderWorstFrom : ByteArray := prog_3_method_10_code
def yX1_orderWorstFrom : MethodName := ⟨RX1, "orderWorstFrom", "(III)I"⟩
abbrev cX1_nextOfBest : ByteArray := prog_3_method_11_code
def yX1_nextOfBest : MethodName := ⟨RX1, "nextOfBest", "(IIJ)I"⟩
abbrev cX1_nextOfWorst : ByteArray := prog_3_method_12_code
def yX1_nextOfWorst : MethodName := ⟨RX1, "nextOfWorst", "(II)I"⟩
abbrev cX1_meanFrom : ByteArray := prog_3_method_13_code
def yX1_meanFrom : MethodName := ⟨RX1, "meanFrom", "(IIJ)J"⟩
abbrev cX1_worstFrom : ByteArray := prog_3_method_14_code
def yX1_worstFrom : MethodName := ⟨RX1, "worstFrom", "(II)I"⟩
abbrev cX1_stateOf : ByteArray := prog_3_method_15_code
def yX1_stateOf : MethodName := ⟨RX1, "stateOf", "(II)I"⟩
abbrev cX1_prepare : ByteArray := prog_3_method_16_code
def yX1_prepare : MethodName := ⟨RX1, "prepare", "()V"⟩
abbrev cX1_fill : ByteArray := prog_3_method_17_code
def yX1_fill : MethodName := ⟨RX1, "fill", "(IIIIJI)V"⟩
abbrev cX1_fillSure : ByteArray := prog_3_method_18_code
def yX1_fillSure : MethodName := ⟨RX1, "fillSure", "(II)V"⟩
abbrev cX1_settle : ByteArray := prog_3_method_19_code
def yX1_settle : MethodName := ⟨RX1, "settle", "(IJI)V"⟩
def RX2 : String := "LookBench$Queue"
def TX2 : u_T := fun k => match k with
  | 0 => ("LookBench$Queue", "row", "[I", true)
  | _ => ("LookBench$Queue", "count", "I", false)
def tyX2 : Nat → FieldType := fun k => match k with
  | 0 => .array .int
  | _ => .int
abbrev wsX20 : List Cond := u_ws RX2 TX2 2
theorem nmX2 : ∀ a, a < 2 → ∀ b, b < 2 → a ≠ b → (TX2 a).2.1 ≠ (TX2 b).2.1 := by decide +kernel
theorem tyX2_ok : ∀ k, k < 2 → parseFieldDescriptor (TX2 k).2.2.1 = some (tyX2 k) := by decide +kernel
abbrev cX2_init : ByteArray := prog_4_method_1_code
def yX2_init : MethodName := ⟨RX2, "<init>", "()V"⟩
abbrev cX2_clear : ByteArray := prog_4_method_2_code
def yX2_clear : MethodName := ⟨RX2, "clear", "()V"⟩
abbrev cX2_holds : ByteArray := prog_4_method_3_code
def yX2_holds : MethodName := ⟨RX2, "holds", "(I)Z"⟩
abbrev cX2_append : ByteArray := prog_4_method_4_code
def yX2_append : MethodName := ⟨RX2, "append", "(I)V"⟩
abbrev cX2_fillByRatios : ByteArray := prog_4_method_5_code
def yX2_fillByRatios : MethodName := ⟨RX2, "fillByRatios", "(LLookBench$Shelf;Z)V"⟩
abbrev cX2_firstOutside : ByteArray := prog_4_method_6_code
def yX2_firstOutside : MethodName := ⟨RX2, "firstOutside", "(II)I"⟩
abbrev cX2_isDearer : ByteArray := prog_4_method_7_code
def yX2_isDearer : MethodName := ⟨RX2, "isDearer", "(LLookBench$Shelf;ZII)Z"⟩
def RX3 : String := "LookBench$Rules"
def TX3 : u_T := fun k => match k with
  | 0 => ("LookBench$Rules", "words", "[J", true)
  | 1 => ("LookBench$Rules", "worth", "[I", true)
  | 2 => ("LookBench$Rules", "parts", "I", false)
  | 3 => ("LookBench$Rules", "count", "I", false)
  | _ => ("LookBench$Rules", "system", "I", false)
def tyX3 : Nat → FieldType := fun k => match k with
  | 0 => .array .long
  | 1 => .array .int
  | 2 => .int
  | 3 => .int
  | _ => .int
abbrev wsX30 : List Cond := u_ws RX3 TX3 5
theorem nmX3 : ∀ a, a < 5 → ∀ b, b < 5 → a ≠ b → (TX3 a).2.1 ≠ (TX3 b).2.1 := by decide +kernel
theorem tyX3_ok : ∀ k, k < 5 → parseFieldDescriptor (TX3 k).2.2.1 = some (tyX3 k) := by decide +kernel
abbrev cX3_init : ByteArray := prog_5_method_1_code
def yX3_init : MethodName := ⟨RX3, "<init>", "()V"⟩
abbrev cX3_begin : ByteArray := prog_5_method_2_code
def yX3_begin : MethodName := ⟨RX3, "begin", "(I)V"⟩
abbrev cX3_has : ByteArray := prog_5_method_3_code
def yX3_has : MethodName := ⟨RX3, "has", "(I)Z"⟩
abbrev cX3_hasRoom : ByteArray := prog_5_method_4_code
def yX3_hasRoom : MethodName := ⟨RX3, "hasRoom", "()Z"⟩
abbrev cX3_hasSystem : ByteArray := prog_5_method_5_code
def yX3_hasSystem : MethodName := ⟨RX3, "hasSystem", "()Z"⟩
abbrev cX3_isGood : ByteArray := prog_5_method_6_code
def yX3_isGood : MethodName := ⟨RX3, "isGood", "(II)Z"⟩
abbrev cX3_isSystemGood : ByteArray := prog_5_method_7_code
def yX3_isSystemGood : MethodName := ⟨RX3, "isSystemGood", "(I)Z"⟩
abbrev cX3_verdict : ByteArray := prog_5_method_8_code
def yX3_verdict : MethodName := ⟨RX3, "verdict", "(II)I"⟩
abbrev cX3_addSingle : ByteArray := prog_5_method_9_code
def yX3_addSingle : MethodName := ⟨RX3, "addSingle", "(I)I"⟩
abbrev cX3_addRow : ByteArray := prog_5_method_10_code
def yX3_addRow : MethodName := ⟨RX3, "addRow", "(II)I"⟩
abbrev cX3_addSide : ByteArray := prog_5_method_11_code
def yX3_addSide : MethodName := ⟨RX3, "addSide", "(II)I"⟩
abbrev cX3_addSome : ByteArray := prog_5_method_12_code
def yX3_addSome : MethodName := ⟨RX3, "addSome", "(IJII)I"⟩
abbrev cX3_addDual : ByteArray := prog_5_method_13_code
def yX3_addDual : MethodName := ⟨RX3, "addDual", "(I)I"⟩
abbrev cX3_firstUnlike : ByteArray := prog_5_method_14_code
def yX3_firstUnlike : MethodName := ⟨RX3, "firstUnlike", "(II)I"⟩
abbrev cX3_countLeast : ByteArray := prog_5_method_15_code
def yX3_countLeast : MethodName := ⟨RX3, "countLeast", "(Z)I"⟩
abbrev cX3_findLeast : ByteArray := prog_5_method_16_code
def yX3_findLeast : MethodName := ⟨RX3, "findLeast", "(ZI)I"⟩
abbrev cX3_settles : ByteArray := prog_5_method_17_code
def yX3_settles : MethodName := ⟨RX3, "settles", "(ZI)Z"⟩
abbrev cX3_isLeast : ByteArray := prog_5_method_18_code
def yX3_isLeast : MethodName := ⟨RX3, "isLeast", "(ZI)Z"⟩
abbrev cX3_wipe : ByteArray := prog_5_method_19_code
def yX3_wipe : MethodName := ⟨RX3, "wipe", "()V"⟩
abbrev cX3_mark : ByteArray := prog_5_method_20_code
def yX3_mark : MethodName := ⟨RX3, "mark", "(I)V"⟩
abbrev cX3_shareWorths : ByteArray := prog_5_method_21_code
def yX3_shareWorths : MethodName := ⟨RX3, "shareWorths", "(IJI)V"⟩
abbrev cX3_worthOf : ByteArray := prog_5_method_22_code
def yX3_worthOf : MethodName := ⟨RX3, "worthOf", "(I)I"⟩
def RX4 : String := "LookBench$Shelf"
def TX4 : u_T := fun k => match k with
  | 0 => ("LookBench$Shelf", "goods", "[I", true)
  | 1 => ("LookBench$Shelf", "bads", "[I", true)
  | 2 => ("LookBench$Shelf", "prices", "[I", true)
  | 3 => ("LookBench$Shelf", "count", "I", false)
  | 4 => ("LookBench$Shelf", "seen", "I", false)
  | _ => ("LookBench$Shelf", "seenGood", "I", false)
def tyX4 : Nat → FieldType := fun k => match k with
  | 0 => .array .int
  | 1 => .array .int
  | 2 => .array .int
  | 3 => .int
  | 4 => .int
  | _ => .int
abbrev wsX40 : List Cond := u_ws RX4 TX4 6
theorem nmX4 : ∀ a, a < 6 → ∀ b, b < 6 → a ≠ b → (TX4 a).2.1 ≠ (TX4 b).2.1 := by decide +kernel
theorem tyX4_ok : ∀ k, k < 6 → parseFieldDescriptor (TX4 k).2.2.1 = some (tyX4 k) := by decide +kernel
abbrev cX4_init : ByteArray := prog_6_method_1_code
def yX4_init : MethodName := ⟨RX4, "<init>", "()V"⟩
abbrev cX4_lay : ByteArray := prog_6_method_2_code
def yX4_lay : MethodName := ⟨RX4, "lay", "(I)V"⟩
abbrev cX4_change : ByteArray := prog_6_method_3_code
def yX4_change : MethodName := ⟨RX4, "change", "(IIII)V"⟩
abbrev cX4_has : ByteArray := prog_6_method_4_code
def yX4_has : MethodName := ⟨RX4, "has", "(I)Z"⟩
abbrev cX4_hasSet : ByteArray := prog_6_method_5_code
def yX4_hasSet : MethodName := ⟨RX4, "hasSet", "(I)Z"⟩
abbrev cX4_unseen : ByteArray := prog_6_method_6_code
def yX4_unseen : MethodName := ⟨RX4, "unseen", "()I"⟩
abbrev cX4_fits : ByteArray := prog_6_method_7_code
def yX4_fits : MethodName := ⟨RX4, "fits", "(I)Z"⟩
abbrev cX4_note : ByteArray := prog_6_method_8_code
def yX4_note : MethodName := ⟨RX4, "note", "(II)V"⟩
abbrev cX4_noted : ByteArray := prog_6_method_9_code
def yX4_noted : MethodName := ⟨RX4, "noted", "(I)I"⟩
abbrev cX4_left : ByteArray := prog_6_method_10_code
def yX4_left : MethodName := ⟨RX4, "left", "(II)J"⟩
abbrev cX4_weight : ByteArray := prog_6_method_11_code
def yX4_weight : MethodName := ⟨RX4, "weight", "(I)J"⟩
abbrev cX4_priceOfSet : ByteArray := prog_6_method_12_code
def yX4_priceOfSet : MethodName := ⟨RX4, "priceOfSet", "(I)I"⟩
def RX5 : String := "LookBench$Trail"
def TX5 : u_T := fun k => match k with
  | 0 => ("LookBench$Trail", "looks", "[I", true)
  | _ => ("LookBench$Trail", "count", "I", false)
def tyX5 : Nat → FieldType := fun k => match k with
  | 0 => .array .int
  | _ => .int
abbrev wsX50 : List Cond := u_ws RX5 TX5 2
theorem nmX5 : ∀ a, a < 2 → ∀ b, b < 2 → a ≠ b → (TX5 a).2.1 ≠ (TX5 b).2.1 := by decide +kernel
theorem tyX5_ok : ∀ k, k < 2 → parseFieldDescriptor (TX5 k).2.2.1 = some (tyX5 k) := by decide +kernel
abbrev cX5_init : ByteArray := prog_7_method_1_code
def yX5_init : MethodName := ⟨RX5, "<init>", "()V"⟩
abbrev cX5_append : ByteArray := prog_7_method_2_code
def yX5_append : MethodName := ⟨RX5, "append", "(I)V"⟩
def RX6 : String := "LookBench"
def TX6 : u_T := fun k => match k with
  | 0 => ("LookBench", "shelf", "LLookBench$Shelf;", true)
  | 1 => ("LookBench", "rules", "LLookBench$Rules;", true)
  | 2 => ("LookBench", "queue", "LLookBench$Queue;", true)
  | 3 => ("LookBench", "plans", "LLookBench$Plans;", true)
  | 4 => ("LookBench", "bounds", "LLookBench$Bounds;", true)
  | _ => ("LookBench", "trail", "LLookBench$Trail;", true)
def tyX6 : Nat → FieldType := fun k => match k with
  | 0 => .object "LookBench$Shelf"
  | 1 => .object "LookBench$Rules"
  | 2 => .object "LookBench$Queue"
  | 3 => .object "LookBench$Plans"
  | 4 => .object "LookBench$Bounds"
  | _ => .object "LookBench$Trail"
abbrev wsX60 : List Cond := u_ws RX6 TX6 6
theorem nmX6 : ∀ a, a < 6 → ∀ b, b < 6 → a ≠ b → (TX6 a).2.1 ≠ (TX6 b).2.1 := by decide +kernel
theorem tyX6_ok : ∀ k, k < 6 → parseFieldDescriptor (TX6 k).2.2.1 = some (tyX6 k) := by decide +kernel
abbrev cX6_init : ByteArray := prog_1_method_1_code
def yX6_init : MethodName := ⟨RX6, "<init>", "()V"⟩
abbrev cX6_parts : ByteArray := prog_1_method_2_code
def yX6_parts : MethodName := ⟨RX6, "parts", "(I)Z"⟩
abbrev cX6_part : ByteArray := prog_1_method_3_code
def yX6_part : MethodName := ⟨RX6, "part", "(IIII)Z"⟩
abbrev cX6_single : ByteArray := prog_1_method_4_code
def yX6_single : MethodName := ⟨RX6, "single", "(I)I"⟩
abbrev cX6_row : ByteArray := prog_1_method_5_code
def yX6_row : MethodName := ⟨RX6, "row", "(II)I"⟩
abbrev cX6_side : ByteArray := prog_1_method_6_code
def yX6_side : MethodName := ⟨RX6, "side", "(II)I"⟩
abbrev cX6_some : ByteArray := prog_1_method_7_code
def yX6_some : MethodName := ⟨RX6, "some", "(IJII)I"⟩
abbrev cX6_dual : ByteArray := prog_1_method_8_code
def yX6_dual : MethodName := ⟨RX6, "dual", "(I)I"⟩
abbrev cX6_system : ByteArray := prog_1_method_9_code
def yX6_system : MethodName := ⟨RX6, "system", "(I)Z"⟩
abbrev cX6_says : ByteArray := prog_1_method_10_code
def yX6_says : MethodName := ⟨RX6, "says", "(II)I"⟩
abbrev cX6_differ : ByteArray := prog_1_method_11_code
def yX6_differ : MethodName := ⟨RX6, "differ", "(II)I"⟩
abbrev cX6_sets : ByteArray := prog_1_method_12_code
def yX6_sets : MethodName := ⟨RX6, "sets", "(I)I"⟩
abbrev cX6_set : ByteArray := prog_1_method_13_code
def yX6_set : MethodName := ⟨RX6, "set", "(II)I"⟩
abbrev cX6_see : ByteArray := prog_1_method_14_code
def yX6_see : MethodName := ⟨RX6, "see", "(II)Z"⟩
abbrev cX6_partOf : ByteArray := prog_1_method_15_code
def yX6_partOf : MethodName := ⟨RX6, "partOf", "(II)I"⟩
abbrev cX6_sure : ByteArray := prog_1_method_16_code
def yX6_sure : MethodName := ⟨RX6, "sure", "()I"⟩
abbrev cX6_told : ByteArray := prog_1_method_17_code
def yX6_told : MethodName := ⟨RX6, "told", "(I)J"⟩
abbrev cX6_of : ByteArray := prog_1_method_18_code
def yX6_of : MethodName := ⟨RX6, "of", "(II)J"⟩
abbrev cX6_order : ByteArray := prog_1_method_19_code
def yX6_order : MethodName := ⟨RX6, "order", "(I)I"⟩
abbrev cX6_ratios : ByteArray := prog_1_method_20_code
def yX6_ratios : MethodName := ⟨RX6, "ratios", "(ZZ)I"⟩
abbrev cX6_ordered : ByteArray := prog_1_method_21_code
def yX6_ordered : MethodName := ⟨RX6, "ordered", "(I)I"⟩
abbrev cX6_run : ByteArray := prog_1_method_22_code
def yX6_run : MethodName := ⟨RX6, "run", "(II)I"⟩
abbrev cX6_looked : ByteArray := prog_1_method_23_code
def yX6_looked : MethodName := ⟨RX6, "looked", "(I)I"⟩
abbrev cX6_about : ByteArray := prog_1_method_24_code
def yX6_about : MethodName := ⟨RX6, "about", "(I)I"⟩
abbrev cX6_follow : ByteArray := prog_1_method_25_code
def yX6_follow : MethodName := ⟨RX6, "follow", "(II)I"⟩
def RX7 : String := "LookBenchModel"
def TX7 : u_T := fun k => match k with
  | 0 => ("LookBenchModel", "parts", "I", false)
  | 1 => ("LookBenchModel", "good", "[I", true)
  | 2 => ("LookBenchModel", "bad", "[I", true)
  | 3 => ("LookBenchModel", "price", "[I", true)
  | 4 => ("LookBenchModel", "rules", "I", false)
  | 5 => ("LookBenchModel", "says", "[Z", true)
  | 6 => ("LookBenchModel", "system", "I", false)
  | 7 => ("LookBenchModel", "seen", "[I", true)
  | 8 => ("LookBenchModel", "ordered", "I", false)
  | 9 => ("LookBenchModel", "order", "[I", true)
  | 10 => ("LookBenchModel", "looks", "I", false)
  | 11 => ("LookBenchModel", "looked", "[I", true)
  | 12 => ("LookBenchModel", "best", "[J", true)
  | 13 => ("LookBenchModel", "bestNext", "[I", true)
  | 14 => ("LookBenchModel", "worst", "[I", true)
  | 15 => ("LookBenchModel", "worstNext", "[I", true)
  | _ => ("LookBenchModel", "three", "[I", true)
def tyX7 : Nat → FieldType := fun k => match k with
  | 0 => .int
  | 1 => .array .int
  | 2 => .array .int
  | 3 => .array .int
  | 4 => .int
  | 5 => .array .boolean
  | 6 => .int
  | 7 => .array .int
  | 8 => .int
  | 9 => .array .int
  | 10 => .int
  | 11 => .array .int
  | 12 => .array .long
  | 13 => .array .int
  | 14 => .array .int
  | 15 => .array .int
  | _ => .array .int
abbrev wsX70 : List Cond := u_ws RX7 TX7 17
theorem nmX7 : ∀ a, a < 17 → ∀ b, b < 17 → a ≠ b → (TX7 a).2.1 ≠ (TX7 b).2.1 := by decide +kernel
theorem tyX7_ok : ∀ k, k < 17 → parseFieldDescriptor (TX7 k).2.2.1 = some (tyX7 k) := by decide +kernel
abbrev cX7_init : ByteArray := prog_9_method_1_code
def yX7_init : MethodName := ⟨RX7, "<init>", "()V"⟩
abbrev cX7_in : ByteArray := prog_9_method_2_code
def yX7_in : MethodName := ⟨RX7, "in", "(JJJ)Z"⟩
abbrev cX7_isPart : ByteArray := prog_9_method_3_code
def yX7_isPart : MethodName := ⟨RX7, "isPart", "(I)Z"⟩
abbrev cX7_isRule : ByteArray := prog_9_method_4_code
def yX7_isRule : MethodName := ⟨RX7, "isRule", "(I)Z"⟩
abbrev cX7_settings : ByteArray := prog_9_method_5_code
def yX7_settings : MethodName := ⟨RX7, "settings", "()I"⟩
abbrev cX7_parts : ByteArray := prog_9_method_6_code
def yX7_parts : MethodName := ⟨RX7, "parts", "(I)Z"⟩
abbrev cX7_part : ByteArray := prog_9_method_7_code
def yX7_part : MethodName := ⟨RX7, "part", "(IIII)Z"⟩
abbrev cX7_added : ByteArray := prog_9_method_8_code
def yX7_added : MethodName := ⟨RX7, "added", "()I"⟩
abbrev cX7_single : ByteArray := prog_9_method_9_code
def yX7_single : MethodName := ⟨RX7, "single", "(I)I"⟩
abbrev cX7_row : ByteArray := prog_9_method_10_code
def yX7_row : MethodName := ⟨RX7, "row", "(II)I"⟩
abbrev cX7_side : ByteArray := prog_9_method_11_code
def yX7_side : MethodName := ⟨RX7, "side", "(II)I"⟩
abbrev cX7_some : ByteArray := prog_9_method_12_code
def yX7_some : MethodName := ⟨RX7, "some", "(IJII)I"⟩
abbrev cX7_dual : ByteArray := prog_9_method_13_code
def yX7_dual : MethodName := ⟨RX7, "dual", "(I)I"⟩
abbrev cX7_system : ByteArray := prog_9_method_14_code
def yX7_system : MethodName := ⟨RX7, "system", "(I)Z"⟩
abbrev cX7_says : ByteArray := prog_9_method_15_code
def yX7_says : MethodName := ⟨RX7, "says", "(II)I"⟩
abbrev cX7_differ : ByteArray := prog_9_method_16_code
def yX7_differ : MethodName := ⟨RX7, "differ", "(II)I"⟩
abbrev cX7_isGood : ByteArray := prog_9_method_17_code
def yX7_isGood : MethodName := ⟨RX7, "isGood", "(I)Z"⟩
abbrev cX7_isLeast : ByteArray := prog_9_method_18_code
def yX7_isLeast : MethodName := ⟨RX7, "isLeast", "(II)Z"⟩
abbrev cX7_isEnough : ByteArray := prog_9_method_19_code
def yX7_isEnough : MethodName := ⟨RX7, "isEnough", "(II)Z"⟩
abbrev cX7_sets : ByteArray := prog_9_method_20_code
def yX7_sets : MethodName := ⟨RX7, "sets", "(I)I"⟩
abbrev cX7_set : ByteArray := prog_9_method_21_code
def yX7_set : MethodName := ⟨RX7, "set", "(II)I"⟩
abbrev cX7_see : ByteArray := prog_9_method_22_code
def yX7_see : MethodName := ⟨RX7, "see", "(II)Z"⟩
abbrev cX7_partOf : ByteArray := prog_9_method_23_code
def yX7_partOf : MethodName := ⟨RX7, "partOf", "(II)I"⟩
abbrev cX7_now : ByteArray := prog_9_method_24_code
def yX7_now : MethodName := ⟨RX7, "now", "()I"⟩
abbrev cX7_digit : ByteArray := prog_9_method_25_code
def yX7_digit : MethodName := ⟨RX7, "digit", "(II)I"⟩
abbrev cX7_setOf : ByteArray := prog_9_method_26_code
def yX7_setOf : MethodName := ⟨RX7, "setOf", "(II)I"⟩
abbrev cX7_sureAt : ByteArray := prog_9_method_27_code
def yX7_sureAt : MethodName := ⟨RX7, "sureAt", "(I)I"⟩
abbrev cX7_sure : ByteArray := prog_9_method_28_code
def yX7_sure : MethodName := ⟨RX7, "sure", "()I"⟩
abbrev cX7_weight : ByteArray := prog_9_method_29_code
def yX7_weight : MethodName := ⟨RX7, "weight", "(I)J"⟩
abbrev cX7_left : ByteArray := prog_9_method_30_code
def yX7_left : MethodName := ⟨RX7, "left", "(I)J"⟩
abbrev cX7_isSuch : ByteArray := prog_9_method_31_code
def yX7_isSuch : MethodName := ⟨RX7, "isSuch", "(II)Z"⟩
abbrev cX7_plans : ByteArray := prog_9_method_32_code
def yX7_plans : MethodName := ⟨RX7, "plans", "()V"⟩
abbrev cX7_seenIn : ByteArray := prog_9_method_33_code
def yX7_seenIn : MethodName := ⟨RX7, "seenIn", "(I)I"⟩
abbrev cX7_plan : ByteArray := prog_9_method_34_code
def yX7_plan : MethodName := ⟨RX7, "plan", "(I)V"⟩
abbrev cX7_orderNext : ByteArray := prog_9_method_35_code
def yX7_orderNext : MethodName := ⟨RX7, "orderNext", "(I)I"⟩
abbrev cX7_byOrder : ByteArray := prog_9_method_36_code
def yX7_byOrder : MethodName := ⟨RX7, "byOrder", "(II)I"⟩
abbrev cX7_shown : ByteArray := prog_9_method_37_code
def yX7_shown : MethodName := ⟨RX7, "shown", "(II)I"⟩
abbrev cX7_told : ByteArray := prog_9_method_38_code
def yX7_told : MethodName := ⟨RX7, "told", "(I)J"⟩
abbrev cX7_of : ByteArray := prog_9_method_39_code
def yX7_of : MethodName := ⟨RX7, "of", "(II)J"⟩
abbrev cX7_placeOf : ByteArray := prog_9_method_40_code
def yX7_placeOf : MethodName := ⟨RX7, "placeOf", "(I)I"⟩
abbrev cX7_order : ByteArray := prog_9_method_41_code
def yX7_order : MethodName := ⟨RX7, "order", "(I)I"⟩
abbrev cX7_ratios : ByteArray := prog_9_method_42_code
def yX7_ratios : MethodName := ⟨RX7, "ratios", "(ZZ)I"⟩
abbrev cX7_ratioUp : ByteArray := prog_9_method_43_code
def yX7_ratioUp : MethodName := ⟨RX7, "ratioUp", "(I)I"⟩
abbrev cX7_down : ByteArray := prog_9_method_44_code
def yX7_down : MethodName := ⟨RX7, "down", "(IZ)I"⟩
abbrev cX7_ordered : ByteArray := prog_9_method_45_code
def yX7_ordered : MethodName := ⟨RX7, "ordered", "(I)I"⟩
abbrev cX7_run : ByteArray := prog_9_method_46_code
def yX7_run : MethodName := ⟨RX7, "run", "(II)I"⟩
abbrev cX7_looked : ByteArray := prog_9_method_47_code
def yX7_looked : MethodName := ⟨RX7, "looked", "(I)I"⟩
abbrev cX7_about : ByteArray := prog_9_method_48_code
def yX7_about : MethodName := ⟨RX7, "about", "(I)I"⟩
def RJ9 : String := "java/lang/Math"
def TJ9 : u_T := fun k => match k with
  | _ => ("", "", "", false)
def tyJ9 : Nat → FieldType := fun k => match k with
  | _ => .int
abbrev wsJ90 : List Cond := u_ws RJ9 TJ9 0
theorem nmJ9 : ∀ a, a < 0 → ∀ b, b < 0 → a ≠ b → (TJ9 a).2.1 ≠ (TJ9 b).2.1 := by decide +kernel
theorem tyJ9_ok : ∀ k, k < 0 → parseFieldDescriptor (TJ9 k).2.2.1 = some (tyJ9 k) := by decide +kernel
abbrev cJ9_max_7cf53 : ByteArray := prog_10_method_65_code
def yJ9_max_7cf53 : MethodName := ⟨RJ9, "max", "(II)I"⟩
abbrev cJ9_min_7cf53 : ByteArray := prog_10_method_69_code
def yJ9_min_7cf53 : MethodName := ⟨RJ9, "min", "(II)I"⟩
def RL : String := "LookBenchLaw"
abbrev cL_law : ByteArray := code
def yL_law : MethodName := ⟨RL, "law", "([I)Z"⟩
def wsX0_init : List Cond := .code yX0_init cX0_init 3 none :: ([.methodLink RX0 3 objectInit, .instanceMethod objectInit, .code objectInit ⟨#[0xb1]⟩ 1 none, .arrayClass .int, .fieldLink RX0 9 "LookBench$Bounds" "leastPrice" "[I", .fieldLink RX0 15 "LookBench$Bounds" "shelf" "LLookBench$Shelf;", .fieldLink RX0 19 "LookBench$Bounds" "rules" "LLookBench$Rules;"] ++ wsX00)
def wsX4_fits : List Cond := .code yX4_fits cX4_fits 2 (some .boolean) :: ([.fieldLink RX4 29 "LookBench$Shelf" "seen" "I", .fieldLink RX4 32 "LookBench$Shelf" "seenGood" "I"] ++ wsX40)
def wsX3_isGood : List Cond := .code yX3_isGood cX3_isGood 3 (some .boolean) :: ([.fieldLink RX3 11 "LookBench$Rules" "words" "[J"] ++ wsX30)
def wsX3_isSystemGood : List Cond := .code yX3_isSystemGood cX3_isSystemGood 2 (some .boolean) :: ([.fieldLink RX3 30 "LookBench$Rules" "system" "I", .methodLink RX3 37 yX3_isGood, .instanceMethod yX3_isGood, .selects RX3 yX3_isGood yX3_isGood, .initialized RX3, .code yX3_isGood cX3_isGood 3 (some .boolean), .fieldLink RX3 11 "LookBench$Rules" "words" "[J"] ++ wsX30)
def wsX4_left : List Cond := .code yX4_left cX4_left 6 (some .long) :: ([.fieldLink RX4 25 "LookBench$Shelf" "count" "I", .fieldLink RX4 9 "LookBench$Shelf" "goods" "[I", .fieldLink RX4 15 "LookBench$Shelf" "bads" "[I"] ++ wsX40)
def wsX4_weight : List Cond := .code yX4_weight cX4_weight 2 (some .long) :: ([.fieldLink RX4 25 "LookBench$Shelf" "count" "I", .methodLink RX4 39 yX4_left, .instanceMethod yX4_left, .selects RX4 yX4_left yX4_left, .initialized RX4, .code yX4_left cX4_left 6 (some .long), .fieldLink RX4 9 "LookBench$Shelf" "goods" "[I", .fieldLink RX4 15 "LookBench$Shelf" "bads" "[I"] ++ wsX40)
def wsX0_goodWeights_r1 : List Cond := [Cond.fieldLink RX0 15 "LookBench$Bounds" "shelf" "LLookBench$Shelf;", Cond.fieldLink RX0 19 "LookBench$Bounds" "rules" "LLookBench$Rules;", Cond.methodLink RX0 29 yX4_fits, Cond.instanceMethod yX4_fits, Cond.selects RX4 yX4_fits yX4_fits, Cond.initialized RX4, Cond.code yX4_fits cX4_fits 2 (some .boolean), Cond.fieldLink RX4 29 "LookBench$Shelf" "seen" "I", Cond.fieldLink RX4 32 "LookBench$Shelf" "seenGood" "I", Cond.methodLink RX0 33 yX3_isSystemGood, Cond.instanceMethod yX3_isSystemGood, Cond.selects RX3 yX3_isSystemGood yX3_isSystemGood, Cond.initialized RX3, Cond.code yX3_isSystemGood cX3_isSystemGood 2 (some .boolean), Cond.fieldLink RX3 30 "LookBench$Rules" "system" "I", Cond.methodLink RX3 37 yX3_isGood, Cond.instanceMethod yX3_isGood, Cond.selects RX3 yX3_isGood yX3_isGood, Cond.code yX3_isGood cX3_isGood 3 (some .boolean), Cond.fieldLink RX3 11 "LookBench$Rules" "words" "[J", Cond.methodLink RX0 38 yX4_weight, Cond.instanceMethod yX4_weight, Cond.selects RX4 yX4_weight yX4_weight, Cond.code yX4_weight cX4_weight 2 (some .long)]
def wsX0_goodWeights_r2 : List Cond := [Cond.fieldLink RX4 25 "LookBench$Shelf" "count" "I", Cond.methodLink RX4 39 yX4_left, Cond.instanceMethod yX4_left, Cond.selects RX4 yX4_left yX4_left, Cond.code yX4_left cX4_left 6 (some .long), Cond.fieldLink RX4 9 "LookBench$Shelf" "goods" "[I", Cond.fieldLink RX4 15 "LookBench$Shelf" "bads" "[I"]
def wsX0_goodWeights : List Cond := .code yX0_goodWeights cX0_goodWeights 4 (some .long) :: ((wsX0_goodWeights_r1 ++ wsX0_goodWeights_r2) ++ wsX00 ++ wsX40 ++ wsX30)
def wsX0_matters_r1 : List Cond := [Cond.fieldLink RX0 15 "LookBench$Bounds" "shelf" "LLookBench$Shelf;", Cond.fieldLink RX0 19 "LookBench$Bounds" "rules" "LLookBench$Rules;", Cond.methodLink RX0 29 yX4_fits, Cond.instanceMethod yX4_fits, Cond.selects RX4 yX4_fits yX4_fits, Cond.initialized RX4, Cond.code yX4_fits cX4_fits 2 (some .boolean), Cond.fieldLink RX4 29 "LookBench$Shelf" "seen" "I", Cond.fieldLink RX4 32 "LookBench$Shelf" "seenGood" "I", Cond.methodLink RX0 33 yX3_isSystemGood, Cond.instanceMethod yX3_isSystemGood, Cond.selects RX3 yX3_isSystemGood yX3_isSystemGood, Cond.initialized RX3, Cond.code yX3_isSystemGood cX3_isSystemGood 2 (some .boolean), Cond.fieldLink RX3 30 "LookBench$Rules" "system" "I", Cond.methodLink RX3 37 yX3_isGood, Cond.instanceMethod yX3_isGood, Cond.selects RX3 yX3_isGood yX3_isGood, Cond.code yX3_isGood cX3_isGood 3 (some .boolean), Cond.fieldLink RX3 11 "LookBench$Rules" "words" "[J", Cond.methodLink RX0 38 yX4_weight, Cond.instanceMethod yX4_weight, Cond.selects RX4 yX4_weight yX4_weight, Cond.code yX4_weight cX4_weight 2 (some .long)]
def wsX0_matters_r2 : List Cond := [Cond.fieldLink RX4 25 "LookBench$Shelf" "count" "I", Cond.methodLink RX4 39 yX4_left, Cond.instanceMethod yX4_left, Cond.selects RX4 yX4_left yX4_left, Cond.code yX4_left cX4_left 6 (some .long), Cond.fieldLink RX4 9 "LookBench$Shelf" "goods" "[I", Cond.fieldLink RX4 15 "LookBench$Shelf" "bads" "[I"]
def wsX0_matters : List Cond := .code yX0_matters cX0_matters 5 (some .long) :: ((wsX0_matters_r1 ++ wsX0_matters_r2) ++ wsX00 ++ wsX40 ++ wsX30)
def wsX3_settles : List Cond := .code yX3_settles cX3_settles 4 (some .boolean) :: ([.fieldLink RX3 23 "LookBench$Rules" "parts" "I", .methodLink RX3 41 yX3_isSystemGood, .instanceMethod yX3_isSystemGood, .selects RX3 yX3_isSystemGood yX3_isSystemGood, .initialized RX3, .code yX3_isSystemGood cX3_isSystemGood 2 (some .boolean), .fieldLink RX3 30 "LookBench$Rules" "system" "I", .methodLink RX3 37 yX3_isGood, .instanceMethod yX3_isGood, .selects RX3 yX3_isGood yX3_isGood, .code yX3_isGood cX3_isGood 3 (some .boolean), .fieldLink RX3 11 "LookBench$Rules" "words" "[J"] ++ wsX30)
def wsX4_unseen : List Cond := .code yX4_unseen cX4_unseen 1 (some .int) :: ([.fieldLink RX4 25 "LookBench$Shelf" "count" "I", .fieldLink RX4 29 "LookBench$Shelf" "seen" "I"] ++ wsX40)
def wsX4_priceOfSet : List Cond := .code yX4_priceOfSet cX4_priceOfSet 4 (some .int) :: ([.fieldLink RX4 25 "LookBench$Shelf" "count" "I", .fieldLink RX4 18 "LookBench$Shelf" "prices" "[I"] ++ wsX40)
def wsX0_leastProof_r1 : List Cond := [Cond.fieldLink RX0 15 "LookBench$Bounds" "shelf" "LLookBench$Shelf;", Cond.fieldLink RX0 19 "LookBench$Bounds" "rules" "LLookBench$Rules;", Cond.fieldLink RX0 9 "LookBench$Bounds" "leastPrice" "[I", Cond.methodLink RX0 62 Lib.Math.min.name, Cond.static Lib.Math.min.name, Cond.initialized "java/lang/Math", Cond.code Lib.Math.min.name Lib.Math.min.code 2 (some .int), Cond.methodLink RX0 54 yX4_unseen, Cond.instanceMethod yX4_unseen, Cond.selects RX4 yX4_unseen yX4_unseen, Cond.initialized RX4, Cond.code yX4_unseen cX4_unseen 1 (some .int), Cond.fieldLink RX4 25 "LookBench$Shelf" "count" "I", Cond.fieldLink RX4 29 "LookBench$Shelf" "seen" "I", Cond.methodLink RX0 58 yX4_priceOfSet, Cond.instanceMethod yX4_priceOfSet, Cond.selects RX4 yX4_priceOfSet yX4_priceOfSet, Cond.code yX4_priceOfSet cX4_priceOfSet 4 (some .int), Cond.fieldLink RX4 18 "LookBench$Shelf" "prices" "[I", Cond.methodLink RX0 46 yX3_settles, Cond.instanceMethod yX3_settles, Cond.selects RX3 yX3_settles yX3_settles, Cond.initialized RX3, Cond.code yX3_settles cX3_settles 4 (some .boolean)]
def wsX0_leastProof_r2 : List Cond := [Cond.fieldLink RX3 23 "LookBench$Rules" "parts" "I", Cond.methodLink RX3 41 yX3_isSystemGood, Cond.instanceMethod yX3_isSystemGood, Cond.selects RX3 yX3_isSystemGood yX3_isSystemGood, Cond.code yX3_isSystemGood cX3_isSystemGood 2 (some .boolean), Cond.fieldLink RX3 30 "LookBench$Rules" "system" "I", Cond.methodLink RX3 37 yX3_isGood, Cond.instanceMethod yX3_isGood, Cond.selects RX3 yX3_isGood yX3_isGood, Cond.code yX3_isGood cX3_isGood 3 (some .boolean), Cond.fieldLink RX3 11 "LookBench$Rules" "words" "[J"]
def wsX0_leastProof : List Cond := .code yX0_leastProof cX0_leastProof 7 (some .int) :: ((wsX0_leastProof_r1 ++ wsX0_leastProof_r2) ++ wsX00 ++ wsX40 ++ wsX30)
def wsX0_boundOfSide_r1 : List Cond := [Cond.fieldLink RX0 15 "LookBench$Bounds" "shelf" "LLookBench$Shelf;", Cond.fieldLink RX0 19 "LookBench$Bounds" "rules" "LLookBench$Rules;", Cond.fieldLink RX0 9 "LookBench$Bounds" "leastPrice" "[I", Cond.methodLink RX0 29 yX4_fits, Cond.instanceMethod yX4_fits, Cond.selects RX4 yX4_fits yX4_fits, Cond.initialized RX4, Cond.code yX4_fits cX4_fits 2 (some .boolean), Cond.fieldLink RX4 29 "LookBench$Shelf" "seen" "I", Cond.fieldLink RX4 32 "LookBench$Shelf" "seenGood" "I", Cond.methodLink RX0 46 yX3_settles, Cond.instanceMethod yX3_settles, Cond.selects RX3 yX3_settles yX3_settles, Cond.initialized RX3, Cond.code yX3_settles cX3_settles 4 (some .boolean), Cond.fieldLink RX3 23 "LookBench$Rules" "parts" "I", Cond.methodLink RX3 41 yX3_isSystemGood, Cond.instanceMethod yX3_isSystemGood, Cond.selects RX3 yX3_isSystemGood yX3_isSystemGood, Cond.code yX3_isSystemGood cX3_isSystemGood 2 (some .boolean), Cond.fieldLink RX3 30 "LookBench$Rules" "system" "I", Cond.methodLink RX3 37 yX3_isGood, Cond.instanceMethod yX3_isGood, Cond.selects RX3 yX3_isGood yX3_isGood]
def wsX0_boundOfSide_r2 : List Cond := [Cond.code yX3_isGood cX3_isGood 3 (some .boolean), Cond.fieldLink RX3 11 "LookBench$Rules" "words" "[J", Cond.methodLink RX0 50 yX0_leastProof, Cond.instanceMethod yX0_leastProof, Cond.selects RX0 yX0_leastProof yX0_leastProof, Cond.initialized RX0, Cond.code yX0_leastProof cX0_leastProof 7 (some .int), Cond.methodLink RX0 62 Lib.Math.min.name, Cond.static Lib.Math.min.name, Cond.initialized "java/lang/Math", Cond.code Lib.Math.min.name Lib.Math.min.code 2 (some .int), Cond.methodLink RX0 54 yX4_unseen, Cond.instanceMethod yX4_unseen, Cond.selects RX4 yX4_unseen yX4_unseen, Cond.code yX4_unseen cX4_unseen 1 (some .int), Cond.fieldLink RX4 25 "LookBench$Shelf" "count" "I", Cond.methodLink RX0 58 yX4_priceOfSet, Cond.instanceMethod yX4_priceOfSet, Cond.selects RX4 yX4_priceOfSet yX4_priceOfSet, Cond.code yX4_priceOfSet cX4_priceOfSet 4 (some .int), Cond.fieldLink RX4 18 "LookBench$Shelf" "prices" "[I", Cond.methodLink RX0 38 yX4_weight, Cond.instanceMethod yX4_weight, Cond.selects RX4 yX4_weight yX4_weight]
def wsX0_boundOfSide_r3 : List Cond := [Cond.code yX4_weight cX4_weight 2 (some .long), Cond.methodLink RX4 39 yX4_left, Cond.instanceMethod yX4_left, Cond.selects RX4 yX4_left yX4_left, Cond.code yX4_left cX4_left 6 (some .long), Cond.fieldLink RX4 9 "LookBench$Shelf" "goods" "[I", Cond.fieldLink RX4 15 "LookBench$Shelf" "bads" "[I"]
def wsX0_boundOfSide : List Cond := .code yX0_boundOfSide cX0_boundOfSide 7 (some .long) :: ((wsX0_boundOfSide_r1 ++ (wsX0_boundOfSide_r2 ++ wsX0_boundOfSide_r3)) ++ wsX00 ++ wsX40 ++ wsX30)
def wsX0_bound_r1 : List Cond := [Cond.methodLink RX0 42 yX0_boundOfSide, Cond.instanceMethod yX0_boundOfSide, Cond.selects RX0 yX0_boundOfSide yX0_boundOfSide, Cond.initialized RX0, Cond.code yX0_boundOfSide cX0_boundOfSide 7 (some .long), Cond.fieldLink RX0 15 "LookBench$Bounds" "shelf" "LLookBench$Shelf;", Cond.fieldLink RX0 19 "LookBench$Bounds" "rules" "LLookBench$Rules;", Cond.fieldLink RX0 9 "LookBench$Bounds" "leastPrice" "[I", Cond.methodLink RX0 29 yX4_fits, Cond.instanceMethod yX4_fits, Cond.selects RX4 yX4_fits yX4_fits, Cond.initialized RX4, Cond.code yX4_fits cX4_fits 2 (some .boolean), Cond.fieldLink RX4 29 "LookBench$Shelf" "seen" "I", Cond.fieldLink RX4 32 "LookBench$Shelf" "seenGood" "I", Cond.methodLink RX0 46 yX3_settles, Cond.instanceMethod yX3_settles, Cond.selects RX3 yX3_settles yX3_settles, Cond.initialized RX3, Cond.code yX3_settles cX3_settles 4 (some .boolean), Cond.fieldLink RX3 23 "LookBench$Rules" "parts" "I", Cond.methodLink RX3 41 yX3_isSystemGood, Cond.instanceMethod yX3_isSystemGood, Cond.selects RX3 yX3_isSystemGood yX3_isSystemGood]
def wsX0_bound_r2 : List Cond := [Cond.code yX3_isSystemGood cX3_isSystemGood 2 (some .boolean), Cond.fieldLink RX3 30 "LookBench$Rules" "system" "I", Cond.methodLink RX3 37 yX3_isGood, Cond.instanceMethod yX3_isGood, Cond.selects RX3 yX3_isGood yX3_isGood, Cond.code yX3_isGood cX3_isGood 3 (some .boolean), Cond.fieldLink RX3 11 "LookBench$Rules" "words" "[J", Cond.methodLink RX0 50 yX0_leastProof, Cond.instanceMethod yX0_leastProof, Cond.selects RX0 yX0_leastProof yX0_leastProof, Cond.code yX0_leastProof cX0_leastProof 7 (some .int), Cond.methodLink RX0 62 Lib.Math.min.name, Cond.static Lib.Math.min.name, Cond.initialized "java/lang/Math", Cond.code Lib.Math.min.name Lib.Math.min.code 2 (some .int), Cond.methodLink RX0 54 yX4_unseen, Cond.instanceMethod yX4_unseen, Cond.selects RX4 yX4_unseen yX4_unseen, Cond.code yX4_unseen cX4_unseen 1 (some .int), Cond.fieldLink RX4 25 "LookBench$Shelf" "count" "I", Cond.methodLink RX0 58 yX4_priceOfSet, Cond.instanceMethod yX4_priceOfSet, Cond.selects RX4 yX4_priceOfSet yX4_priceOfSet, Cond.code yX4_priceOfSet cX4_priceOfSet 4 (some .int)]
def wsX0_bound_r3 : List Cond := [Cond.fieldLink RX4 18 "LookBench$Shelf" "prices" "[I", Cond.methodLink RX0 38 yX4_weight, Cond.instanceMethod yX4_weight, Cond.selects RX4 yX4_weight yX4_weight, Cond.code yX4_weight cX4_weight 2 (some .long), Cond.methodLink RX4 39 yX4_left, Cond.instanceMethod yX4_left, Cond.selects RX4 yX4_left yX4_left, Cond.code yX4_left cX4_left 6 (some .long), Cond.fieldLink RX4 9 "LookBench$Shelf" "goods" "[I", Cond.fieldLink RX4 15 "LookBench$Shelf" "bads" "[I"]
def wsX0_bound : List Cond := .code yX0_bound cX0_bound 1 (some .long) :: ((wsX0_bound_r1 ++ (wsX0_bound_r2 ++ wsX0_bound_r3)) ++ wsX00 ++ wsX40 ++ wsX30)
def wsX1_init : List Cond := .code yX1_init cX1_init 4 none :: ([.methodLink RX1 3 objectInit, .instanceMethod objectInit, .code objectInit ⟨#[0xb1]⟩ 1 none, .arrayClass .int, .fieldLink RX1 9 "LookBench$Plans" "open" "[I", .arrayClass .long, .fieldLink RX1 15 "LookBench$Plans" "best" "[J", .fieldLink RX1 19 "LookBench$Plans" "worst" "[I", .fieldLink RX1 22 "LookBench$Plans" "shelf" "LLookBench$Shelf;", .fieldLink RX1 26 "LookBench$Plans" "rules" "LLookBench$Rules;", .fieldLink RX1 30 "LookBench$Plans" "queue" "LLookBench$Queue;"] ++ wsX10)
def wsX1_forget : List Cond := .code yX1_forget cX1_forget 1 none :: ([.fieldLink RX1 34 "LookBench$Plans" "fresh" "Z"] ++ wsX10)
def wsX3_verdict : List Cond := .code yX3_verdict cX3_verdict 3 (some .int) :: ([.methodLink RX3 41 yX3_isSystemGood, .instanceMethod yX3_isSystemGood, .selects RX3 yX3_isSystemGood yX3_isSystemGood, .initialized RX3, .code yX3_isSystemGood cX3_isSystemGood 2 (some .boolean), .fieldLink RX3 30 "LookBench$Rules" "system" "I", .methodLink RX3 37 yX3_isGood, .instanceMethod yX3_isGood, .selects RX3 yX3_isGood yX3_isGood, .code yX3_isGood cX3_isGood 3 (some .boolean), .fieldLink RX3 11 "LookBench$Rules" "words" "[J"] ++ wsX30)
def wsX1_fillSure : List Cond := .code yX1_fillSure cX1_fillSure 4 none :: ([.fieldLink RX1 15 "LookBench$Plans" "best" "[J", .fieldLink RX1 19 "LookBench$Plans" "worst" "[I"] ++ wsX10)
def wsX1_settle : List Cond := .code yX1_settle cX1_settle 18 none :: ([.fieldLink RX1 15 "LookBench$Plans" "best" "[J", .fieldLink RX1 19 "LookBench$Plans" "worst" "[I", .fieldLink RX1 22 "LookBench$Plans" "shelf" "LLookBench$Shelf;", .constantLong RX1 131 (9223372036854775807), .constant RX1 135 (2147483647), .fieldLink RX1 9 "LookBench$Plans" "open" "[I", .fieldLink RX1 54 "LookBench$Plans" "THREES" "[I"] ++ wsX10 ++ wsX40)
def wsX1_fill_r1 : List Cond := [Cond.fieldLink RX1 54 "LookBench$Plans" "THREES" "[I", Cond.fieldLink RX1 26 "LookBench$Plans" "rules" "LLookBench$Rules;", Cond.fieldLink RX1 22 "LookBench$Plans" "shelf" "LLookBench$Shelf;", Cond.fieldLink RX1 9 "LookBench$Plans" "open" "[I", Cond.methodLink RX1 115 yX1_settle, Cond.instanceMethod yX1_settle, Cond.selects RX1 yX1_settle yX1_settle, Cond.initialized RX1, Cond.code yX1_settle cX1_settle 18 none, Cond.fieldLink RX1 15 "LookBench$Plans" "best" "[J", Cond.fieldLink RX1 19 "LookBench$Plans" "worst" "[I", Cond.constantLong RX1 131 (9223372036854775807), Cond.constant RX1 135 (2147483647), Cond.methodLink RX1 119 yX3_isSystemGood, Cond.instanceMethod yX3_isSystemGood, Cond.selects RX3 yX3_isSystemGood yX3_isSystemGood, Cond.initialized RX3, Cond.code yX3_isSystemGood cX3_isSystemGood 2 (some .boolean), Cond.fieldLink RX3 30 "LookBench$Rules" "system" "I", Cond.methodLink RX3 37 yX3_isGood, Cond.instanceMethod yX3_isGood, Cond.selects RX3 yX3_isGood yX3_isGood, Cond.code yX3_isGood cX3_isGood 3 (some .boolean), Cond.fieldLink RX3 11 "LookBench$Rules" "words" "[J"]
def wsX1_fill_r2 : List Cond := [Cond.methodLink RX1 107 yX1_fillSure, Cond.instanceMethod yX1_fillSure, Cond.selects RX1 yX1_fillSure yX1_fillSure, Cond.code yX1_fillSure cX1_fillSure 4 none, Cond.methodLink RX1 111 yX1_fill, Cond.instanceMethod yX1_fill, Cond.selects RX1 yX1_fill yX1_fill]
def wsX1_fill : List Cond := .code yX1_fill cX1_fill 11 none :: ((wsX1_fill_r1 ++ wsX1_fill_r2) ++ wsX10 ++ wsX40 ++ wsX30)
def wsX1_prepare_r1 : List Cond := [Cond.fieldLink RX1 34 "LookBench$Plans" "fresh" "Z", Cond.fieldLink RX1 54 "LookBench$Plans" "THREES" "[I", Cond.fieldLink RX1 22 "LookBench$Plans" "shelf" "LLookBench$Shelf;", Cond.fieldLink RX1 15 "LookBench$Plans" "best" "[J", Cond.arrayClass .long, Cond.arrayClass .int, Cond.fieldLink RX1 19 "LookBench$Plans" "worst" "[I", Cond.fieldLink RX1 26 "LookBench$Plans" "rules" "LLookBench$Rules;", Cond.methodLink RX1 60 yX3_verdict, Cond.instanceMethod yX3_verdict, Cond.selects RX3 yX3_verdict yX3_verdict, Cond.initialized RX3, Cond.code yX3_verdict cX3_verdict 3 (some .int), Cond.methodLink RX3 41 yX3_isSystemGood, Cond.instanceMethod yX3_isSystemGood, Cond.selects RX3 yX3_isSystemGood yX3_isSystemGood, Cond.code yX3_isSystemGood cX3_isSystemGood 2 (some .boolean), Cond.fieldLink RX3 30 "LookBench$Rules" "system" "I", Cond.methodLink RX3 37 yX3_isGood, Cond.instanceMethod yX3_isGood, Cond.selects RX3 yX3_isGood yX3_isGood, Cond.code yX3_isGood cX3_isGood 3 (some .boolean), Cond.fieldLink RX3 11 "LookBench$Rules" "words" "[J", Cond.methodLink RX1 107 yX1_fillSure]
def wsX1_prepare_r2 : List Cond := [Cond.instanceMethod yX1_fillSure, Cond.selects RX1 yX1_fillSure yX1_fillSure, Cond.initialized RX1, Cond.code yX1_fillSure cX1_fillSure 4 none, Cond.methodLink RX1 111 yX1_fill, Cond.instanceMethod yX1_fill, Cond.selects RX1 yX1_fill yX1_fill, Cond.code yX1_fill cX1_fill 11 none, Cond.fieldLink RX1 9 "LookBench$Plans" "open" "[I", Cond.methodLink RX1 115 yX1_settle, Cond.instanceMethod yX1_settle, Cond.selects RX1 yX1_settle yX1_settle, Cond.code yX1_settle cX1_settle 18 none, Cond.constantLong RX1 131 (9223372036854775807), Cond.constant RX1 135 (2147483647), Cond.methodLink RX1 119 yX3_isSystemGood]
def wsX1_prepare : List Cond := .code yX1_prepare cX1_prepare 3 none :: ((wsX1_prepare_r1 ++ wsX1_prepare_r2) ++ wsX10 ++ wsX40 ++ wsX30)
def wsX1_stateOf : List Cond := .code yX1_stateOf cX1_stateOf 5 (some .int) :: ([.fieldLink RX1 22 "LookBench$Plans" "shelf" "LLookBench$Shelf;", .fieldLink RX1 54 "LookBench$Plans" "THREES" "[I"] ++ wsX10 ++ wsX40)
def wsX1_bestMean_r1 : List Cond := [Cond.fieldLink RX1 15 "LookBench$Plans" "best" "[J", Cond.methodLink RX1 38 yX1_prepare, Cond.instanceMethod yX1_prepare, Cond.selects RX1 yX1_prepare yX1_prepare, Cond.initialized RX1, Cond.code yX1_prepare cX1_prepare 3 none, Cond.fieldLink RX1 34 "LookBench$Plans" "fresh" "Z", Cond.fieldLink RX1 54 "LookBench$Plans" "THREES" "[I", Cond.fieldLink RX1 22 "LookBench$Plans" "shelf" "LLookBench$Shelf;", Cond.arrayClass .long, Cond.arrayClass .int, Cond.fieldLink RX1 19 "LookBench$Plans" "worst" "[I", Cond.fieldLink RX1 26 "LookBench$Plans" "rules" "LLookBench$Rules;", Cond.methodLink RX1 60 yX3_verdict, Cond.instanceMethod yX3_verdict, Cond.selects RX3 yX3_verdict yX3_verdict, Cond.initialized RX3, Cond.code yX3_verdict cX3_verdict 3 (some .int), Cond.methodLink RX3 41 yX3_isSystemGood, Cond.instanceMethod yX3_isSystemGood, Cond.selects RX3 yX3_isSystemGood yX3_isSystemGood, Cond.code yX3_isSystemGood cX3_isSystemGood 2 (some .boolean), Cond.fieldLink RX3 30 "LookBench$Rules" "system" "I", Cond.methodLink RX3 37 yX3_isGood]
def wsX1_bestMean_r2 : List Cond := [Cond.instanceMethod yX3_isGood, Cond.selects RX3 yX3_isGood yX3_isGood, Cond.code yX3_isGood cX3_isGood 3 (some .boolean), Cond.fieldLink RX3 11 "LookBench$Rules" "words" "[J", Cond.methodLink RX1 107 yX1_fillSure, Cond.instanceMethod yX1_fillSure, Cond.selects RX1 yX1_fillSure yX1_fillSure, Cond.code yX1_fillSure cX1_fillSure 4 none, Cond.methodLink RX1 111 yX1_fill, Cond.instanceMethod yX1_fill, Cond.selects RX1 yX1_fill yX1_fill, Cond.code yX1_fill cX1_fill 11 none, Cond.fieldLink RX1 9 "LookBench$Plans" "open" "[I", Cond.methodLink RX1 115 yX1_settle, Cond.instanceMethod yX1_settle, Cond.selects RX1 yX1_settle yX1_settle, Cond.code yX1_settle cX1_settle 18 none, Cond.constantLong RX1 131 (9223372036854775807), Cond.constant RX1 135 (2147483647), Cond.methodLink RX1 119 yX3_isSystemGood, Cond.methodLink RX1 41 yX1_stateOf, Cond.instanceMethod yX1_stateOf, Cond.selects RX1 yX1_stateOf yX1_stateOf, Cond.code yX1_stateOf cX1_stateOf 5 (some .int)]
def wsX1_bestMean : List Cond := .code yX1_bestMean cX1_bestMean 3 (some .long) :: ((wsX1_bestMean_r1 ++ wsX1_bestMean_r2) ++ wsX10 ++ wsX40 ++ wsX30)
def wsX1_worstPrice_r1 : List Cond := [Cond.fieldLink RX1 19 "LookBench$Plans" "worst" "[I", Cond.methodLink RX1 38 yX1_prepare, Cond.instanceMethod yX1_prepare, Cond.selects RX1 yX1_prepare yX1_prepare, Cond.initialized RX1, Cond.code yX1_prepare cX1_prepare 3 none, Cond.fieldLink RX1 34 "LookBench$Plans" "fresh" "Z", Cond.fieldLink RX1 54 "LookBench$Plans" "THREES" "[I", Cond.fieldLink RX1 22 "LookBench$Plans" "shelf" "LLookBench$Shelf;", Cond.fieldLink RX1 15 "LookBench$Plans" "best" "[J", Cond.arrayClass .long, Cond.arrayClass .int, Cond.fieldLink RX1 26 "LookBench$Plans" "rules" "LLookBench$Rules;", Cond.methodLink RX1 60 yX3_verdict, Cond.instanceMethod yX3_verdict, Cond.selects RX3 yX3_verdict yX3_verdict, Cond.initialized RX3, Cond.code yX3_verdict cX3_verdict 3 (some .int), Cond.methodLink RX3 41 yX3_isSystemGood, Cond.instanceMethod yX3_isSystemGood, Cond.selects RX3 yX3_isSystemGood yX3_isSystemGood, Cond.code yX3_isSystemGood cX3_isSystemGood 2 (some .boolean), Cond.fieldLink RX3 30 "LookBench$Rules" "system" "I", Cond.methodLink RX3 37 yX3_isGood]
def wsX1_worstPrice_r2 : List Cond := [Cond.instanceMethod yX3_isGood, Cond.selects RX3 yX3_isGood yX3_isGood, Cond.code yX3_isGood cX3_isGood 3 (some .boolean), Cond.fieldLink RX3 11 "LookBench$Rules" "words" "[J", Cond.methodLink RX1 107 yX1_fillSure, Cond.instanceMethod yX1_fillSure, Cond.selects RX1 yX1_fillSure yX1_fillSure, Cond.code yX1_fillSure cX1_fillSure 4 none, Cond.methodLink RX1 111 yX1_fill, Cond.instanceMethod yX1_fill, Cond.selects RX1 yX1_fill yX1_fill, Cond.code yX1_fill cX1_fill 11 none, Cond.fieldLink RX1 9 "LookBench$Plans" "open" "[I", Cond.methodLink RX1 115 yX1_settle, Cond.instanceMethod yX1_settle, Cond.selects RX1 yX1_settle yX1_settle, Cond.code yX1_settle cX1_settle 18 none, Cond.constantLong RX1 131 (9223372036854775807), Cond.constant RX1 135 (2147483647), Cond.methodLink RX1 119 yX3_isSystemGood, Cond.methodLink RX1 41 yX1_stateOf, Cond.instanceMethod yX1_stateOf, Cond.selects RX1 yX1_stateOf yX1_stateOf, Cond.code yX1_stateOf cX1_stateOf 5 (some .int)]
def wsX1_worstPrice : List Cond := .code yX1_worstPrice cX1_worstPrice 3 (some .int) :: ((wsX1_worstPrice_r1 ++ wsX1_worstPrice_r2) ++ wsX10 ++ wsX40 ++ wsX30)
def wsX1_gain_r1 : List Cond := [Cond.fieldLink RX1 22 "LookBench$Plans" "shelf" "LLookBench$Shelf;", Cond.fieldLink RX1 15 "LookBench$Plans" "best" "[J", Cond.fieldLink RX1 54 "LookBench$Plans" "THREES" "[I", Cond.methodLink RX1 38 yX1_prepare, Cond.instanceMethod yX1_prepare, Cond.selects RX1 yX1_prepare yX1_prepare, Cond.initialized RX1, Cond.code yX1_prepare cX1_prepare 3 none, Cond.fieldLink RX1 34 "LookBench$Plans" "fresh" "Z", Cond.arrayClass .long, Cond.arrayClass .int, Cond.fieldLink RX1 19 "LookBench$Plans" "worst" "[I", Cond.fieldLink RX1 26 "LookBench$Plans" "rules" "LLookBench$Rules;", Cond.methodLink RX1 60 yX3_verdict, Cond.instanceMethod yX3_verdict, Cond.selects RX3 yX3_verdict yX3_verdict, Cond.initialized RX3, Cond.code yX3_verdict cX3_verdict 3 (some .int), Cond.methodLink RX3 41 yX3_isSystemGood, Cond.instanceMethod yX3_isSystemGood, Cond.selects RX3 yX3_isSystemGood yX3_isSystemGood, Cond.code yX3_isSystemGood cX3_isSystemGood 2 (some .boolean), Cond.fieldLink RX3 30 "LookBench$Rules" "system" "I", Cond.methodLink RX3 37 yX3_isGood]
def wsX1_gain_r2 : List Cond := [Cond.instanceMethod yX3_isGood, Cond.selects RX3 yX3_isGood yX3_isGood, Cond.code yX3_isGood cX3_isGood 3 (some .boolean), Cond.fieldLink RX3 11 "LookBench$Rules" "words" "[J", Cond.methodLink RX1 107 yX1_fillSure, Cond.instanceMethod yX1_fillSure, Cond.selects RX1 yX1_fillSure yX1_fillSure, Cond.code yX1_fillSure cX1_fillSure 4 none, Cond.methodLink RX1 111 yX1_fill, Cond.instanceMethod yX1_fill, Cond.selects RX1 yX1_fill yX1_fill, Cond.code yX1_fill cX1_fill 11 none, Cond.fieldLink RX1 9 "LookBench$Plans" "open" "[I", Cond.methodLink RX1 115 yX1_settle, Cond.instanceMethod yX1_settle, Cond.selects RX1 yX1_settle yX1_settle, Cond.code yX1_settle cX1_settle 18 none, Cond.constantLong RX1 131 (9223372036854775807), Cond.constant RX1 135 (2147483647), Cond.methodLink RX1 119 yX3_isSystemGood, Cond.methodLink RX1 41 yX1_stateOf, Cond.instanceMethod yX1_stateOf, Cond.selects RX1 yX1_stateOf yX1_stateOf, Cond.code yX1_stateOf cX1_stateOf 5 (some .int)]
def wsX1_gain : List Cond := .code yX1_gain cX1_gain 3 (some .long) :: ((wsX1_gain_r1 ++ wsX1_gain_r2) ++ wsX10 ++ wsX40 ++ wsX30)
def wsX2_firstOutside : List Cond := .code yX2_firstOutside cX2_firstOutside 4 (some .int) :: ([.fieldLink RX2 15 "LookBench$Queue" "count" "I", .fieldLink RX2 9 "LookBench$Queue" "row" "[I"] ++ wsX20)
def wsX1_meanFrom : List Cond := .code yX1_meanFrom cX1_meanFrom 5 (some .long) :: ([.fieldLink RX1 22 "LookBench$Plans" "shelf" "LLookBench$Shelf;", .fieldLink RX1 15 "LookBench$Plans" "best" "[J", .fieldLink RX1 54 "LookBench$Plans" "THREES" "[I"] ++ wsX10 ++ wsX40)
def wsX1_nextOfBest : List Cond := .code yX1_nextOfBest cX1_nextOfBest 6 (some .int) :: ([.fieldLink RX1 22 "LookBench$Plans" "shelf" "LLookBench$Shelf;", .fieldLink RX1 15 "LookBench$Plans" "best" "[J", .methodLink RX1 100 yX1_meanFrom, .instanceMethod yX1_meanFrom, .selects RX1 yX1_meanFrom yX1_meanFrom, .initialized RX1, .code yX1_meanFrom cX1_meanFrom 5 (some .long), .fieldLink RX1 54 "LookBench$Plans" "THREES" "[I"] ++ wsX10 ++ wsX40)
def wsX1_worstFrom : List Cond := .code yX1_worstFrom cX1_worstFrom 3 (some .int) :: ([.fieldLink RX1 22 "LookBench$Plans" "shelf" "LLookBench$Shelf;", .fieldLink RX1 19 "LookBench$Plans" "worst" "[I", .fieldLink RX1 54 "LookBench$Plans" "THREES" "[I", .methodLink RX1 95 Lib.Math.max.name, .static Lib.Math.max.name, .initialized "java/lang/Math", .code Lib.Math.max.name Lib.Math.max.code 2 (some .int)] ++ wsX10 ++ wsX40)
def wsX1_nextOfWorst : List Cond := .code yX1_nextOfWorst cX1_nextOfWorst 4 (some .int) :: ([.fieldLink RX1 22 "LookBench$Plans" "shelf" "LLookBench$Shelf;", .fieldLink RX1 19 "LookBench$Plans" "worst" "[I", .methodLink RX1 104 yX1_worstFrom, .instanceMethod yX1_worstFrom, .selects RX1 yX1_worstFrom yX1_worstFrom, .initialized RX1, .code yX1_worstFrom cX1_worstFrom 3 (some .int), .fieldLink RX1 54 "LookBench$Plans" "THREES" "[I", .methodLink RX1 95 Lib.Math.max.name, .static Lib.Math.max.name, .initialized "java/lang/Math", .code Lib.Math.max.name Lib.Math.max.code 2 (some .int)] ++ wsX10 ++ wsX40)
def wsX1_next_r1 : List Cond := [Cond.fieldLink RX1 22 "LookBench$Plans" "shelf" "LLookBench$Shelf;", Cond.fieldLink RX1 26 "LookBench$Plans" "rules" "LLookBench$Rules;", Cond.fieldLink RX1 30 "LookBench$Plans" "queue" "LLookBench$Queue;", Cond.methodLink RX1 60 yX3_verdict, Cond.instanceMethod yX3_verdict, Cond.selects RX3 yX3_verdict yX3_verdict, Cond.initialized RX3, Cond.code yX3_verdict cX3_verdict 3 (some .int), Cond.methodLink RX3 41 yX3_isSystemGood, Cond.instanceMethod yX3_isSystemGood, Cond.selects RX3 yX3_isSystemGood yX3_isSystemGood, Cond.code yX3_isSystemGood cX3_isSystemGood 2 (some .boolean), Cond.fieldLink RX3 30 "LookBench$Rules" "system" "I", Cond.methodLink RX3 37 yX3_isGood, Cond.instanceMethod yX3_isGood, Cond.selects RX3 yX3_isGood yX3_isGood, Cond.code yX3_isGood cX3_isGood 3 (some .boolean), Cond.fieldLink RX3 11 "LookBench$Rules" "words" "[J", Cond.methodLink RX1 65 yX2_firstOutside, Cond.instanceMethod yX2_firstOutside, Cond.selects RX2 yX2_firstOutside yX2_firstOutside, Cond.initialized RX2, Cond.code yX2_firstOutside cX2_firstOutside 4 (some .int), Cond.fieldLink RX2 15 "LookBench$Queue" "count" "I"]
def wsX1_next_r2 : List Cond := [Cond.fieldLink RX2 9 "LookBench$Queue" "row" "[I", Cond.methodLink RX1 38 yX1_prepare, Cond.instanceMethod yX1_prepare, Cond.selects RX1 yX1_prepare yX1_prepare, Cond.initialized RX1, Cond.code yX1_prepare cX1_prepare 3 none, Cond.fieldLink RX1 34 "LookBench$Plans" "fresh" "Z", Cond.fieldLink RX1 54 "LookBench$Plans" "THREES" "[I", Cond.fieldLink RX1 15 "LookBench$Plans" "best" "[J", Cond.arrayClass .long, Cond.arrayClass .int, Cond.fieldLink RX1 19 "LookBench$Plans" "worst" "[I", Cond.methodLink RX1 107 yX1_fillSure, Cond.instanceMethod yX1_fillSure, Cond.selects RX1 yX1_fillSure yX1_fillSure, Cond.code yX1_fillSure cX1_fillSure 4 none, Cond.methodLink RX1 111 yX1_fill, Cond.instanceMethod yX1_fill, Cond.selects RX1 yX1_fill yX1_fill, Cond.code yX1_fill cX1_fill 11 none, Cond.fieldLink RX1 9 "LookBench$Plans" "open" "[I", Cond.methodLink RX1 115 yX1_settle, Cond.instanceMethod yX1_settle, Cond.selects RX1 yX1_settle yX1_settle]
def wsX1_next_r3 : List Cond := [Cond.code yX1_settle cX1_settle 18 none, Cond.constantLong RX1 131 (9223372036854775807), Cond.constant RX1 135 (2147483647), Cond.methodLink RX1 119 yX3_isSystemGood, Cond.methodLink RX1 41 yX1_stateOf, Cond.instanceMethod yX1_stateOf, Cond.selects RX1 yX1_stateOf yX1_stateOf, Cond.code yX1_stateOf cX1_stateOf 5 (some .int), Cond.methodLink RX1 70 yX4_left, Cond.instanceMethod yX4_left, Cond.selects RX4 yX4_left yX4_left, Cond.initialized RX4, Cond.code yX4_left cX4_left 6 (some .long), Cond.fieldLink RX4 25 "LookBench$Shelf" "count" "I", Cond.fieldLink RX4 9 "LookBench$Shelf" "goods" "[I", Cond.fieldLink RX4 15 "LookBench$Shelf" "bads" "[I", Cond.methodLink RX1 74 yX1_nextOfBest, Cond.instanceMethod yX1_nextOfBest, Cond.selects RX1 yX1_nextOfBest yX1_nextOfBest, Cond.code yX1_nextOfBest cX1_nextOfBest 6 (some .int), Cond.methodLink RX1 100 yX1_meanFrom, Cond.instanceMethod yX1_meanFrom, Cond.selects RX1 yX1_meanFrom yX1_meanFrom, Cond.code yX1_meanFrom cX1_meanFrom 5 (some .long)]
def wsX1_next_r4 : List Cond := [Cond.methodLink RX1 78 yX1_nextOfWorst, Cond.instanceMethod yX1_nextOfWorst, Cond.selects RX1 yX1_nextOfWorst yX1_nextOfWorst, Cond.code yX1_nextOfWorst cX1_nextOfWorst 4 (some .int), Cond.methodLink RX1 104 yX1_worstFrom, Cond.instanceMethod yX1_worstFrom, Cond.selects RX1 yX1_worstFrom yX1_worstFrom, Cond.code yX1_worstFrom cX1_worstFrom 3 (some .int), Cond.methodLink RX1 95 Lib.Math.max.name, Cond.static Lib.Math.max.name, Cond.initialized "java/lang/Math", Cond.code Lib.Math.max.name Lib.Math.max.code 2 (some .int)]
def wsX1_next : List Cond := .code yX1_next cX1_next 6 (some .int) :: ((wsX1_next_r1 ++ (wsX1_next_r2 ++ (wsX1_next_r3 ++ wsX1_next_r4))) ++ wsX10 ++ wsX40 ++ wsX30 ++ wsX20)
def wsX1_orderMeanFrom_r1 : List Cond := [Cond.fieldLink RX1 22 "LookBench$Plans" "shelf" "LLookBench$Shelf;", Cond.methodLink RX1 89 yX1_next, Cond.instanceMethod yX1_next, Cond.selects RX1 yX1_next yX1_next, Cond.initialized RX1, Cond.code yX1_next cX1_next 6 (some .int), Cond.fieldLink RX1 26 "LookBench$Plans" "rules" "LLookBench$Rules;", Cond.fieldLink RX1 30 "LookBench$Plans" "queue" "LLookBench$Queue;", Cond.methodLink RX1 60 yX3_verdict, Cond.instanceMethod yX3_verdict, Cond.selects RX3 yX3_verdict yX3_verdict, Cond.initialized RX3, Cond.code yX3_verdict cX3_verdict 3 (some .int), Cond.methodLink RX3 41 yX3_isSystemGood, Cond.instanceMethod yX3_isSystemGood, Cond.selects RX3 yX3_isSystemGood yX3_isSystemGood, Cond.code yX3_isSystemGood cX3_isSystemGood 2 (some .boolean), Cond.fieldLink RX3 30 "LookBench$Rules" "system" "I", Cond.methodLink RX3 37 yX3_isGood, Cond.instanceMethod yX3_isGood, Cond.selects RX3 yX3_isGood yX3_isGood, Cond.code yX3_isGood cX3_isGood 3 (some .boolean), Cond.fieldLink RX3 11 "LookBench$Rules" "words" "[J", Cond.methodLink RX1 65 yX2_firstOutside]
def wsX1_orderMeanFrom_r2 : List Cond := [Cond.instanceMethod yX2_firstOutside, Cond.selects RX2 yX2_firstOutside yX2_firstOutside, Cond.initialized RX2, Cond.code yX2_firstOutside cX2_firstOutside 4 (some .int), Cond.fieldLink RX2 15 "LookBench$Queue" "count" "I", Cond.fieldLink RX2 9 "LookBench$Queue" "row" "[I", Cond.methodLink RX1 38 yX1_prepare, Cond.instanceMethod yX1_prepare, Cond.selects RX1 yX1_prepare yX1_prepare, Cond.code yX1_prepare cX1_prepare 3 none, Cond.fieldLink RX1 34 "LookBench$Plans" "fresh" "Z", Cond.fieldLink RX1 54 "LookBench$Plans" "THREES" "[I", Cond.fieldLink RX1 15 "LookBench$Plans" "best" "[J", Cond.arrayClass .long, Cond.arrayClass .int, Cond.fieldLink RX1 19 "LookBench$Plans" "worst" "[I", Cond.methodLink RX1 107 yX1_fillSure, Cond.instanceMethod yX1_fillSure, Cond.selects RX1 yX1_fillSure yX1_fillSure, Cond.code yX1_fillSure cX1_fillSure 4 none, Cond.methodLink RX1 111 yX1_fill, Cond.instanceMethod yX1_fill, Cond.selects RX1 yX1_fill yX1_fill, Cond.code yX1_fill cX1_fill 11 none]
def wsX1_orderMeanFrom_r3 : List Cond := [Cond.fieldLink RX1 9 "LookBench$Plans" "open" "[I", Cond.methodLink RX1 115 yX1_settle, Cond.instanceMethod yX1_settle, Cond.selects RX1 yX1_settle yX1_settle, Cond.code yX1_settle cX1_settle 18 none, Cond.constantLong RX1 131 (9223372036854775807), Cond.constant RX1 135 (2147483647), Cond.methodLink RX1 119 yX3_isSystemGood, Cond.methodLink RX1 41 yX1_stateOf, Cond.instanceMethod yX1_stateOf, Cond.selects RX1 yX1_stateOf yX1_stateOf, Cond.code yX1_stateOf cX1_stateOf 5 (some .int), Cond.methodLink RX1 70 yX4_left, Cond.instanceMethod yX4_left, Cond.selects RX4 yX4_left yX4_left, Cond.initialized RX4, Cond.code yX4_left cX4_left 6 (some .long), Cond.fieldLink RX4 25 "LookBench$Shelf" "count" "I", Cond.fieldLink RX4 9 "LookBench$Shelf" "goods" "[I", Cond.fieldLink RX4 15 "LookBench$Shelf" "bads" "[I", Cond.methodLink RX1 74 yX1_nextOfBest, Cond.instanceMethod yX1_nextOfBest, Cond.selects RX1 yX1_nextOfBest yX1_nextOfBest, Cond.code yX1_nextOfBest cX1_nextOfBest 6 (some .int)]
def wsX1_orderMeanFrom_r4 : List Cond := [Cond.methodLink RX1 100 yX1_meanFrom, Cond.instanceMethod yX1_meanFrom, Cond.selects RX1 yX1_meanFrom yX1_meanFrom, Cond.code yX1_meanFrom cX1_meanFrom 5 (some .long), Cond.methodLink RX1 78 yX1_nextOfWorst, Cond.instanceMethod yX1_nextOfWorst, Cond.selects RX1 yX1_nextOfWorst yX1_nextOfWorst, Cond.code yX1_nextOfWorst cX1_nextOfWorst 4 (some .int), Cond.methodLink RX1 104 yX1_worstFrom, Cond.instanceMethod yX1_worstFrom, Cond.selects RX1 yX1_worstFrom yX1_worstFrom, Cond.code yX1_worstFrom cX1_worstFrom 3 (some .int), Cond.methodLink RX1 95 Lib.Math.max.name, Cond.static Lib.Math.max.name, Cond.initialized "java/lang/Math", Cond.code Lib.Math.max.name Lib.Math.max.code 2 (some .int), Cond.methodLink RX1 81 yX1_orderMeanFrom, Cond.instanceMethod yX1_orderMeanFrom, Cond.selects RX1 yX1_orderMeanFrom yX1_orderMeanFrom]
def wsX1_orderMeanFrom : List Cond := .code yX1_orderMeanFrom cX1_orderMeanFrom 7 (some .long) :: ((wsX1_orderMeanFrom_r1 ++ (wsX1_orderMeanFrom_r2 ++ (wsX1_orderMeanFrom_r3 ++ wsX1_orderMeanFrom_r4))) ++ wsX10 ++ wsX40 ++ wsX30 ++ wsX20)
def wsX1_orderMean_r1 : List Cond := [Cond.fieldLink RX1 22 "LookBench$Plans" "shelf" "LLookBench$Shelf;", Cond.methodLink RX1 81 yX1_orderMeanFrom, Cond.instanceMethod yX1_orderMeanFrom, Cond.selects RX1 yX1_orderMeanFrom yX1_orderMeanFrom, Cond.initialized RX1, Cond.code yX1_orderMeanFrom cX1_orderMeanFrom 7 (some .long), Cond.methodLink RX1 89 yX1_next, Cond.instanceMethod yX1_next, Cond.selects RX1 yX1_next yX1_next, Cond.code yX1_next cX1_next 6 (some .int), Cond.fieldLink RX1 26 "LookBench$Plans" "rules" "LLookBench$Rules;", Cond.fieldLink RX1 30 "LookBench$Plans" "queue" "LLookBench$Queue;", Cond.methodLink RX1 60 yX3_verdict, Cond.instanceMethod yX3_verdict, Cond.selects RX3 yX3_verdict yX3_verdict, Cond.initialized RX3, Cond.code yX3_verdict cX3_verdict 3 (some .int), Cond.methodLink RX3 41 yX3_isSystemGood, Cond.instanceMethod yX3_isSystemGood, Cond.selects RX3 yX3_isSystemGood yX3_isSystemGood, Cond.code yX3_isSystemGood cX3_isSystemGood 2 (some .boolean), Cond.fieldLink RX3 30 "LookBench$Rules" "system" "I", Cond.methodLink RX3 37 yX3_isGood, Cond.instanceMethod yX3_isGood]
def wsX1_orderMean_r2 : List Cond := [Cond.selects RX3 yX3_isGood yX3_isGood, Cond.code yX3_isGood cX3_isGood 3 (some .boolean), Cond.fieldLink RX3 11 "LookBench$Rules" "words" "[J", Cond.methodLink RX1 65 yX2_firstOutside, Cond.instanceMethod yX2_firstOutside, Cond.selects RX2 yX2_firstOutside yX2_firstOutside, Cond.initialized RX2, Cond.code yX2_firstOutside cX2_firstOutside 4 (some .int), Cond.fieldLink RX2 15 "LookBench$Queue" "count" "I", Cond.fieldLink RX2 9 "LookBench$Queue" "row" "[I", Cond.methodLink RX1 38 yX1_prepare, Cond.instanceMethod yX1_prepare, Cond.selects RX1 yX1_prepare yX1_prepare, Cond.code yX1_prepare cX1_prepare 3 none, Cond.fieldLink RX1 34 "LookBench$Plans" "fresh" "Z", Cond.fieldLink RX1 54 "LookBench$Plans" "THREES" "[I", Cond.fieldLink RX1 15 "LookBench$Plans" "best" "[J", Cond.arrayClass .long, Cond.arrayClass .int, Cond.fieldLink RX1 19 "LookBench$Plans" "worst" "[I", Cond.methodLink RX1 107 yX1_fillSure, Cond.instanceMethod yX1_fillSure, Cond.selects RX1 yX1_fillSure yX1_fillSure, Cond.code yX1_fillSure cX1_fillSure 4 none]
def wsX1_orderMean_r3 : List Cond := [Cond.methodLink RX1 111 yX1_fill, Cond.instanceMethod yX1_fill, Cond.selects RX1 yX1_fill yX1_fill, Cond.code yX1_fill cX1_fill 11 none, Cond.fieldLink RX1 9 "LookBench$Plans" "open" "[I", Cond.methodLink RX1 115 yX1_settle, Cond.instanceMethod yX1_settle, Cond.selects RX1 yX1_settle yX1_settle, Cond.code yX1_settle cX1_settle 18 none, Cond.constantLong RX1 131 (9223372036854775807), Cond.constant RX1 135 (2147483647), Cond.methodLink RX1 119 yX3_isSystemGood, Cond.methodLink RX1 41 yX1_stateOf, Cond.instanceMethod yX1_stateOf, Cond.selects RX1 yX1_stateOf yX1_stateOf, Cond.code yX1_stateOf cX1_stateOf 5 (some .int), Cond.methodLink RX1 70 yX4_left, Cond.instanceMethod yX4_left, Cond.selects RX4 yX4_left yX4_left, Cond.initialized RX4, Cond.code yX4_left cX4_left 6 (some .long), Cond.fieldLink RX4 25 "LookBench$Shelf" "count" "I", Cond.fieldLink RX4 9 "LookBench$Shelf" "goods" "[I", Cond.fieldLink RX4 15 "LookBench$Shelf" "bads" "[I"]
def wsX1_orderMean_r4 : List Cond := [Cond.methodLink RX1 74 yX1_nextOfBest, Cond.instanceMethod yX1_nextOfBest, Cond.selects RX1 yX1_nextOfBest yX1_nextOfBest, Cond.code yX1_nextOfBest cX1_nextOfBest 6 (some .int), Cond.methodLink RX1 100 yX1_meanFrom, Cond.instanceMethod yX1_meanFrom, Cond.selects RX1 yX1_meanFrom yX1_meanFrom, Cond.code yX1_meanFrom cX1_meanFrom 5 (some .long), Cond.methodLink RX1 78 yX1_nextOfWorst, Cond.instanceMethod yX1_nextOfWorst, Cond.selects RX1 yX1_nextOfWorst yX1_nextOfWorst, Cond.code yX1_nextOfWorst cX1_nextOfWorst 4 (some .int), Cond.methodLink RX1 104 yX1_worstFrom, Cond.instanceMethod yX1_worstFrom, Cond.selects RX1 yX1_worstFrom yX1_worstFrom, Cond.code yX1_worstFrom cX1_worstFrom 3 (some .int), Cond.methodLink RX1 95 Lib.Math.max.name, Cond.static Lib.Math.max.name, Cond.initialized "java/lang/Math", Cond.code Lib.Math.max.name Lib.Math.max.code 2 (some .int)]
def wsX1_orderMean : List Cond := .code yX1_orderMean cX1_orderMean 1 (some .long) :: ((wsX1_orderMean_r1 ++ (wsX1_orderMean_r2 ++ (wsX1_orderMean_r3 ++ wsX1_orderMean_r4))) ++ wsX10 ++ wsX40 ++ wsX30 ++ wsX20)
def wsX1_orderWorstFrom_r1 : List Cond := [Cond.fieldLink RX1 22 "LookBench$Plans" "shelf" "LLookBench$Shelf;", Cond.methodLink RX1 95 Lib.Math.max.name, Cond.static Lib.Math.max.name, Cond.initialized "java/lang/Math", Cond.code Lib.Math.max.name Lib.Math.max.code 2 (some .int), Cond.methodLink RX1 89 yX1_next, Cond.instanceMethod yX1_next, Cond.selects RX1 yX1_next yX1_next, Cond.initialized RX1, Cond.code yX1_next cX1_next 6 (some .int), Cond.fieldLink RX1 26 "LookBench$Plans" "rules" "LLookBench$Rules;", Cond.fieldLink RX1 30 "LookBench$Plans" "queue" "LLookBench$Queue;", Cond.methodLink RX1 60 yX3_verdict, Cond.instanceMethod yX3_verdict, Cond.selects RX3 yX3_verdict yX3_verdict, Cond.initialized RX3, Cond.code yX3_verdict cX3_verdict 3 (some .int), Cond.methodLink RX3 41 yX3_isSystemGood, Cond.instanceMethod yX3_isSystemGood, Cond.selects RX3 yX3_isSystemGood yX3_isSystemGood, Cond.code yX3_isSystemGood cX3_isSystemGood 2 (some .boolean), Cond.fieldLink RX3 30 "LookBench$Rules" "system" "I", Cond.methodLink RX3 37 yX3_isGood, Cond.instanceMethod yX3_isGood]
def wsX1_orderWorstFrom_r2 : List Cond := [Cond.selects RX3 yX3_isGood yX3_isGood, Cond.code yX3_isGood cX3_isGood 3 (some .boolean), Cond.fieldLink RX3 11 "LookBench$Rules" "words" "[J", Cond.methodLink RX1 65 yX2_firstOutside, Cond.instanceMethod yX2_firstOutside, Cond.selects RX2 yX2_firstOutside yX2_firstOutside, Cond.initialized RX2, Cond.code yX2_firstOutside cX2_firstOutside 4 (some .int), Cond.fieldLink RX2 15 "LookBench$Queue" "count" "I", Cond.fieldLink RX2 9 "LookBench$Queue" "row" "[I", Cond.methodLink RX1 38 yX1_prepare, Cond.instanceMethod yX1_prepare, Cond.selects RX1 yX1_prepare yX1_prepare, Cond.code yX1_prepare cX1_prepare 3 none, Cond.fieldLink RX1 34 "LookBench$Plans" "fresh" "Z", Cond.fieldLink RX1 54 "LookBench$Plans" "THREES" "[I", Cond.fieldLink RX1 15 "LookBench$Plans" "best" "[J", Cond.arrayClass .long, Cond.arrayClass .int, Cond.fieldLink RX1 19 "LookBench$Plans" "worst" "[I", Cond.methodLink RX1 107 yX1_fillSure, Cond.instanceMethod yX1_fillSure, Cond.selects RX1 yX1_fillSure yX1_fillSure, Cond.code yX1_fillSure cX1_fillSure 4 none]
def wsX1_orderWorstFrom_r3 : List Cond := [Cond.methodLink RX1 111 yX1_fill, Cond.instanceMethod yX1_fill, Cond.selects RX1 yX1_fill yX1_fill, Cond.code yX1_fill cX1_fill 11 none, Cond.fieldLink RX1 9 "LookBench$Plans" "open" "[I", Cond.methodLink RX1 115 yX1_settle, Cond.instanceMethod yX1_settle, Cond.selects RX1 yX1_settle yX1_settle, Cond.code yX1_settle cX1_settle 18 none, Cond.constantLong RX1 131 (9223372036854775807), Cond.constant RX1 135 (2147483647), Cond.methodLink RX1 119 yX3_isSystemGood, Cond.methodLink RX1 41 yX1_stateOf, Cond.instanceMethod yX1_stateOf, Cond.selects RX1 yX1_stateOf yX1_stateOf, Cond.code yX1_stateOf cX1_stateOf 5 (some .int), Cond.methodLink RX1 70 yX4_left, Cond.instanceMethod yX4_left, Cond.selects RX4 yX4_left yX4_left, Cond.initialized RX4, Cond.code yX4_left cX4_left 6 (some .long), Cond.fieldLink RX4 25 "LookBench$Shelf" "count" "I", Cond.fieldLink RX4 9 "LookBench$Shelf" "goods" "[I", Cond.fieldLink RX4 15 "LookBench$Shelf" "bads" "[I"]
def wsX1_orderWorstFrom_r4 : List Cond := [Cond.methodLink RX1 74 yX1_nextOfBest, Cond.instanceMethod yX1_nextOfBest, Cond.selects RX1 yX1_nextOfBest yX1_nextOfBest, Cond.code yX1_nextOfBest cX1_nextOfBest 6 (some .int), Cond.methodLink RX1 100 yX1_meanFrom, Cond.instanceMethod yX1_meanFrom, Cond.selects RX1 yX1_meanFrom yX1_meanFrom, Cond.code yX1_meanFrom cX1_meanFrom 5 (some .long), Cond.methodLink RX1 78 yX1_nextOfWorst, Cond.instanceMethod yX1_nextOfWorst, Cond.selects RX1 yX1_nextOfWorst yX1_nextOfWorst, Cond.code yX1_nextOfWorst cX1_nextOfWorst 4 (some .int), Cond.methodLink RX1 104 yX1_worstFrom, Cond.instanceMethod yX1_worstFrom, Cond.selects RX1 yX1_worstFrom yX1_worstFrom, Cond.code yX1_worstFrom cX1_worstFrom 3 (some .int), Cond.methodLink RX1 85 yX1_orderWorstFrom, Cond.instanceMethod yX1_orderWorstFrom, Cond.selects RX1 yX1_orderWorstFrom yX1_orderWorstFrom]
def wsX1_orderWorstFrom : List Cond := .code yX1_orderWorstFrom cX1_orderWorstFrom 7 (some .int) :: ((wsX1_orderWorstFrom_r1 ++ (wsX1_orderWorstFrom_r2 ++ (wsX1_orderWorstFrom_r3 ++ wsX1_orderWorstFrom_r4))) ++ wsX10 ++ wsX40 ++ wsX30 ++ wsX20)
def wsX1_orderWorst_r1 : List Cond := [Cond.fieldLink RX1 22 "LookBench$Plans" "shelf" "LLookBench$Shelf;", Cond.methodLink RX1 85 yX1_orderWorstFrom, Cond.instanceMethod yX1_orderWorstFrom, Cond.selects RX1 yX1_orderWorstFrom yX1_orderWorstFrom, Cond.initialized RX1, Cond.code yX1_orderWorstFrom cX1_orderWorstFrom 7 (some .int), Cond.methodLink RX1 95 Lib.Math.max.name, Cond.static Lib.Math.max.name, Cond.initialized "java/lang/Math", Cond.code Lib.Math.max.name Lib.Math.max.code 2 (some .int), Cond.methodLink RX1 89 yX1_next, Cond.instanceMethod yX1_next, Cond.selects RX1 yX1_next yX1_next, Cond.code yX1_next cX1_next 6 (some .int), Cond.fieldLink RX1 26 "LookBench$Plans" "rules" "LLookBench$Rules;", Cond.fieldLink RX1 30 "LookBench$Plans" "queue" "LLookBench$Queue;", Cond.methodLink RX1 60 yX3_verdict, Cond.instanceMethod yX3_verdict, Cond.selects RX3 yX3_verdict yX3_verdict, Cond.initialized RX3, Cond.code yX3_verdict cX3_verdict 3 (some .int), Cond.methodLink RX3 41 yX3_isSystemGood, Cond.instanceMethod yX3_isSystemGood, Cond.selects RX3 yX3_isSystemGood yX3_isSystemGood]
def wsX1_orderWorst_r2 : List Cond := [Cond.code yX3_isSystemGood cX3_isSystemGood 2 (some .boolean), Cond.fieldLink RX3 30 "LookBench$Rules" "system" "I", Cond.methodLink RX3 37 yX3_isGood, Cond.instanceMethod yX3_isGood, Cond.selects RX3 yX3_isGood yX3_isGood, Cond.code yX3_isGood cX3_isGood 3 (some .boolean), Cond.fieldLink RX3 11 "LookBench$Rules" "words" "[J", Cond.methodLink RX1 65 yX2_firstOutside, Cond.instanceMethod yX2_firstOutside, Cond.selects RX2 yX2_firstOutside yX2_firstOutside, Cond.initialized RX2, Cond.code yX2_firstOutside cX2_firstOutside 4 (some .int), Cond.fieldLink RX2 15 "LookBench$Queue" "count" "I", Cond.fieldLink RX2 9 "LookBench$Queue" "row" "[I", Cond.methodLink RX1 38 yX1_prepare, Cond.instanceMethod yX1_prepare, Cond.selects RX1 yX1_prepare yX1_prepare, Cond.code yX1_prepare cX1_prepare 3 none, Cond.fieldLink RX1 34 "LookBench$Plans" "fresh" "Z", Cond.fieldLink RX1 54 "LookBench$Plans" "THREES" "[I", Cond.fieldLink RX1 15 "LookBench$Plans" "best" "[J", Cond.arrayClass .long, Cond.arrayClass .int, Cond.fieldLink RX1 19 "LookBench$Plans" "worst" "[I"]
def wsX1_orderWorst_r3 : List Cond := [Cond.methodLink RX1 107 yX1_fillSure, Cond.instanceMethod yX1_fillSure, Cond.selects RX1 yX1_fillSure yX1_fillSure, Cond.code yX1_fillSure cX1_fillSure 4 none, Cond.methodLink RX1 111 yX1_fill, Cond.instanceMethod yX1_fill, Cond.selects RX1 yX1_fill yX1_fill, Cond.code yX1_fill cX1_fill 11 none, Cond.fieldLink RX1 9 "LookBench$Plans" "open" "[I", Cond.methodLink RX1 115 yX1_settle, Cond.instanceMethod yX1_settle, Cond.selects RX1 yX1_settle yX1_settle, Cond.code yX1_settle cX1_settle 18 none, Cond.constantLong RX1 131 (9223372036854775807), Cond.constant RX1 135 (2147483647), Cond.methodLink RX1 119 yX3_isSystemGood, Cond.methodLink RX1 41 yX1_stateOf, Cond.instanceMethod yX1_stateOf, Cond.selects RX1 yX1_stateOf yX1_stateOf, Cond.code yX1_stateOf cX1_stateOf 5 (some .int), Cond.methodLink RX1 70 yX4_left, Cond.instanceMethod yX4_left, Cond.selects RX4 yX4_left yX4_left, Cond.initialized RX4]
def wsX1_orderWorst_r4 : List Cond := [Cond.code yX4_left cX4_left 6 (some .long), Cond.fieldLink RX4 25 "LookBench$Shelf" "count" "I", Cond.fieldLink RX4 9 "LookBench$Shelf" "goods" "[I", Cond.fieldLink RX4 15 "LookBench$Shelf" "bads" "[I", Cond.methodLink RX1 74 yX1_nextOfBest, Cond.instanceMethod yX1_nextOfBest, Cond.selects RX1 yX1_nextOfBest yX1_nextOfBest, Cond.code yX1_nextOfBest cX1_nextOfBest 6 (some .int), Cond.methodLink RX1 100 yX1_meanFrom, Cond.instanceMethod yX1_meanFrom, Cond.selects RX1 yX1_meanFrom yX1_meanFrom, Cond.code yX1_meanFrom cX1_meanFrom 5 (some .long), Cond.methodLink RX1 78 yX1_nextOfWorst, Cond.instanceMethod yX1_nextOfWorst, Cond.selects RX1 yX1_nextOfWorst yX1_nextOfWorst, Cond.code yX1_nextOfWorst cX1_nextOfWorst 4 (some .int), Cond.methodLink RX1 104 yX1_worstFrom, Cond.instanceMethod yX1_worstFrom, Cond.selects RX1 yX1_worstFrom yX1_worstFrom, Cond.code yX1_worstFrom cX1_worstFrom 3 (some .int)]
def wsX1_orderWorst : List Cond := .code yX1_orderWorst cX1_orderWorst 1 (some .int) :: ((wsX1_orderWorst_r1 ++ (wsX1_orderWorst_r2 ++ (wsX1_orderWorst_r3 ++ wsX1_orderWorst_r4))) ++ wsX10 ++ wsX40 ++ wsX30 ++ wsX20)
def wsX2_init : List Cond := .code yX2_init cX2_init 1 none :: ([.methodLink RX2 3 objectInit, .instanceMethod objectInit, .code objectInit ⟨#[0xb1]⟩ 1 none, .arrayClass .int, .fieldLink RX2 9 "LookBench$Queue" "row" "[I"] ++ wsX20)
def wsX2_clear : List Cond := .code yX2_clear cX2_clear 1 none :: ([.fieldLink RX2 15 "LookBench$Queue" "count" "I"] ++ wsX20)
def wsX2_holds : List Cond := .code yX2_holds cX2_holds 3 (some .boolean) :: ([.fieldLink RX2 15 "LookBench$Queue" "count" "I", .fieldLink RX2 9 "LookBench$Queue" "row" "[I"] ++ wsX20)
def wsX2_append : List Cond := .code yX2_append cX2_append 2 none :: ([.fieldLink RX2 15 "LookBench$Queue" "count" "I", .fieldLink RX2 9 "LookBench$Queue" "row" "[I"] ++ wsX20)
def wsX2_isDearer : List Cond := .code yX2_isDearer cX2_isDearer 7 (some .boolean) :: ([] ++ wsX40)
def wsX2_fillByRatios : List Cond := .code yX2_fillByRatios cX2_fillByRatios 5 none :: ([.fieldLink RX2 9 "LookBench$Queue" "row" "[I", .fieldLink RX2 15 "LookBench$Queue" "count" "I", .methodLink RX2 22 yX2_isDearer, .static yX2_isDearer, .initialized RX2, .code yX2_isDearer cX2_isDearer 7 (some .boolean)] ++ wsX40 ++ wsX20)
def wsX3_begin : List Cond := .code yX3_begin cX3_begin 2 none :: ([.fieldLink RX3 23 "LookBench$Rules" "parts" "I", .fieldLink RX3 27 "LookBench$Rules" "count" "I", .fieldLink RX3 30 "LookBench$Rules" "system" "I"] ++ wsX30)
def wsX3_init : List Cond := .code yX3_init cX3_init 1 none :: ([.methodLink RX3 3 objectInit, .instanceMethod objectInit, .code objectInit ⟨#[0xb1]⟩ 1 none, .arrayClass .long, .fieldLink RX3 11 "LookBench$Rules" "words" "[J", .arrayClass .int, .fieldLink RX3 15 "LookBench$Rules" "worth" "[I", .methodLink RX3 19 yX3_begin, .instanceMethod yX3_begin, .selects RX3 yX3_begin yX3_begin, .initialized RX3, .code yX3_begin cX3_begin 2 none, .fieldLink RX3 23 "LookBench$Rules" "parts" "I", .fieldLink RX3 27 "LookBench$Rules" "count" "I", .fieldLink RX3 30 "LookBench$Rules" "system" "I"] ++ wsX30)
def wsX3_has : List Cond := .code yX3_has cX3_has 2 (some .boolean) :: ([.fieldLink RX3 27 "LookBench$Rules" "count" "I"] ++ wsX30)
def wsX3_hasRoom : List Cond := .code yX3_hasRoom cX3_hasRoom 1 (some .boolean) :: ([.fieldLink RX3 27 "LookBench$Rules" "count" "I"] ++ wsX30)
def wsX3_hasSystem : List Cond := .code yX3_hasSystem cX3_hasSystem 1 (some .boolean) :: ([.fieldLink RX3 30 "LookBench$Rules" "system" "I", .methodLink RX3 33 yX3_has, .instanceMethod yX3_has, .selects RX3 yX3_has yX3_has, .initialized RX3, .code yX3_has cX3_has 2 (some .boolean), .fieldLink RX3 27 "LookBench$Rules" "count" "I"] ++ wsX30)
def wsX3_wipe : List Cond := .code yX3_wipe cX3_wipe 2 none :: ([.fieldLink RX3 11 "LookBench$Rules" "words" "[J", .fieldLink RX3 27 "LookBench$Rules" "count" "I"] ++ wsX30)
def wsX3_mark : List Cond := .code yX3_mark cX3_mark 2 none :: ([.fieldLink RX3 11 "LookBench$Rules" "words" "[J", .fieldLink RX3 27 "LookBench$Rules" "count" "I"] ++ wsX30)
def wsX3_addSingle : List Cond := .code yX3_addSingle cX3_addSingle 3 (some .int) :: ([.fieldLink RX3 23 "LookBench$Rules" "parts" "I", .fieldLink RX3 27 "LookBench$Rules" "count" "I", .methodLink RX3 44 yX3_wipe, .instanceMethod yX3_wipe, .selects RX3 yX3_wipe yX3_wipe, .initialized RX3, .code yX3_wipe cX3_wipe 2 none, .fieldLink RX3 11 "LookBench$Rules" "words" "[J", .methodLink RX3 47 yX3_mark, .instanceMethod yX3_mark, .selects RX3 yX3_mark yX3_mark, .code yX3_mark cX3_mark 2 none] ++ wsX30)
def wsX3_addRow : List Cond := .code yX3_addRow cX3_addRow 4 (some .int) :: ([.fieldLink RX3 11 "LookBench$Rules" "words" "[J", .fieldLink RX3 27 "LookBench$Rules" "count" "I"] ++ wsX30)
def wsX3_addSide : List Cond := .code yX3_addSide cX3_addSide 4 (some .int) :: ([.fieldLink RX3 11 "LookBench$Rules" "words" "[J", .fieldLink RX3 27 "LookBench$Rules" "count" "I"] ++ wsX30)
def wsX3_shareWorths : List Cond := .code yX3_shareWorths cX3_shareWorths 10 none :: ([.fieldLink RX3 23 "LookBench$Rules" "parts" "I", .fieldLink RX3 15 "LookBench$Rules" "worth" "[I"] ++ wsX30)
def wsX3_worthOf : List Cond := .code yX3_worthOf cX3_worthOf 4 (some .int) :: ([.fieldLink RX3 23 "LookBench$Rules" "parts" "I", .fieldLink RX3 15 "LookBench$Rules" "worth" "[I"] ++ wsX30)
def wsX3_addSome : List Cond := .code yX3_addSome cX3_addSome 7 (some .int) :: ([.fieldLink RX3 23 "LookBench$Rules" "parts" "I", .fieldLink RX3 27 "LookBench$Rules" "count" "I", .methodLink RX3 50 yX3_shareWorths, .instanceMethod yX3_shareWorths, .selects RX3 yX3_shareWorths yX3_shareWorths, .initialized RX3, .code yX3_shareWorths cX3_shareWorths 10 none, .fieldLink RX3 15 "LookBench$Rules" "worth" "[I", .methodLink RX3 44 yX3_wipe, .instanceMethod yX3_wipe, .selects RX3 yX3_wipe yX3_wipe, .code yX3_wipe cX3_wipe 2 none, .fieldLink RX3 11 "LookBench$Rules" "words" "[J", .methodLink RX3 54 yX3_worthOf, .instanceMethod yX3_worthOf, .selects RX3 yX3_worthOf yX3_worthOf, .code yX3_worthOf cX3_worthOf 4 (some .int), .methodLink RX3 47 yX3_mark, .instanceMethod yX3_mark, .selects RX3 yX3_mark yX3_mark, .code yX3_mark cX3_mark 2 none] ++ wsX30)
def wsX3_addDual : List Cond := .code yX3_addDual cX3_addDual 4 (some .int) :: ([.fieldLink RX3 23 "LookBench$Rules" "parts" "I", .fieldLink RX3 27 "LookBench$Rules" "count" "I", .methodLink RX3 44 yX3_wipe, .instanceMethod yX3_wipe, .selects RX3 yX3_wipe yX3_wipe, .initialized RX3, .code yX3_wipe cX3_wipe 2 none, .fieldLink RX3 11 "LookBench$Rules" "words" "[J", .methodLink RX3 37 yX3_isGood, .instanceMethod yX3_isGood, .selects RX3 yX3_isGood yX3_isGood, .code yX3_isGood cX3_isGood 3 (some .boolean), .methodLink RX3 47 yX3_mark, .instanceMethod yX3_mark, .selects RX3 yX3_mark yX3_mark, .code yX3_mark cX3_mark 2 none] ++ wsX30)
def wsX3_firstUnlike : List Cond := .code yX3_firstUnlike cX3_firstUnlike 4 (some .int) :: ([.fieldLink RX3 23 "LookBench$Rules" "parts" "I", .methodLink RX3 37 yX3_isGood, .instanceMethod yX3_isGood, .selects RX3 yX3_isGood yX3_isGood, .initialized RX3, .code yX3_isGood cX3_isGood 3 (some .boolean), .fieldLink RX3 11 "LookBench$Rules" "words" "[J"] ++ wsX30)
def wsX3_isLeast : List Cond := .code yX3_isLeast cX3_isLeast 4 (some .boolean) :: ([.fieldLink RX3 23 "LookBench$Rules" "parts" "I", .methodLink RX3 62 yX3_settles, .instanceMethod yX3_settles, .selects RX3 yX3_settles yX3_settles, .initialized RX3, .code yX3_settles cX3_settles 4 (some .boolean), .methodLink RX3 41 yX3_isSystemGood, .instanceMethod yX3_isSystemGood, .selects RX3 yX3_isSystemGood yX3_isSystemGood, .code yX3_isSystemGood cX3_isSystemGood 2 (some .boolean), .fieldLink RX3 30 "LookBench$Rules" "system" "I", .methodLink RX3 37 yX3_isGood, .instanceMethod yX3_isGood, .selects RX3 yX3_isGood yX3_isGood, .code yX3_isGood cX3_isGood 3 (some .boolean), .fieldLink RX3 11 "LookBench$Rules" "words" "[J"] ++ wsX30)
def wsX3_countLeast : List Cond := .code yX3_countLeast cX3_countLeast 4 (some .int) :: ([.fieldLink RX3 23 "LookBench$Rules" "parts" "I", .methodLink RX3 58 yX3_isLeast, .instanceMethod yX3_isLeast, .selects RX3 yX3_isLeast yX3_isLeast, .initialized RX3, .code yX3_isLeast cX3_isLeast 4 (some .boolean), .methodLink RX3 62 yX3_settles, .instanceMethod yX3_settles, .selects RX3 yX3_settles yX3_settles, .code yX3_settles cX3_settles 4 (some .boolean), .methodLink RX3 41 yX3_isSystemGood, .instanceMethod yX3_isSystemGood, .selects RX3 yX3_isSystemGood yX3_isSystemGood, .code yX3_isSystemGood cX3_isSystemGood 2 (some .boolean), .fieldLink RX3 30 "LookBench$Rules" "system" "I", .methodLink RX3 37 yX3_isGood, .instanceMethod yX3_isGood, .selects RX3 yX3_isGood yX3_isGood, .code yX3_isGood cX3_isGood 3 (some .boolean), .fieldLink RX3 11 "LookBench$Rules" "words" "[J"] ++ wsX30)
def wsX3_findLeast : List Cond := .code yX3_findLeast cX3_findLeast 5 (some .int) :: ([.fieldLink RX3 23 "LookBench$Rules" "parts" "I", .methodLink RX3 58 yX3_isLeast, .instanceMethod yX3_isLeast, .selects RX3 yX3_isLeast yX3_isLeast, .initialized RX3, .code yX3_isLeast cX3_isLeast 4 (some .boolean), .methodLink RX3 62 yX3_settles, .instanceMethod yX3_settles, .selects RX3 yX3_settles yX3_settles, .code yX3_settles cX3_settles 4 (some .boolean), .methodLink RX3 41 yX3_isSystemGood, .instanceMethod yX3_isSystemGood, .selects RX3 yX3_isSystemGood yX3_isSystemGood, .code yX3_isSystemGood cX3_isSystemGood 2 (some .boolean), .fieldLink RX3 30 "LookBench$Rules" "system" "I", .methodLink RX3 37 yX3_isGood, .instanceMethod yX3_isGood, .selects RX3 yX3_isGood yX3_isGood, .code yX3_isGood cX3_isGood 3 (some .boolean), .fieldLink RX3 11 "LookBench$Rules" "words" "[J"] ++ wsX30)
def wsX4_change : List Cond := .code yX4_change cX4_change 5 none :: ([.fieldLink RX4 9 "LookBench$Shelf" "goods" "[I", .fieldLink RX4 15 "LookBench$Shelf" "bads" "[I", .fieldLink RX4 18 "LookBench$Shelf" "prices" "[I"] ++ wsX40)
def wsX4_lay : List Cond := .code yX4_lay cX4_lay 3 none :: ([.fieldLink RX4 25 "LookBench$Shelf" "count" "I", .fieldLink RX4 29 "LookBench$Shelf" "seen" "I", .fieldLink RX4 32 "LookBench$Shelf" "seenGood" "I", .methodLink RX4 35 yX4_change, .instanceMethod yX4_change, .selects RX4 yX4_change yX4_change, .initialized RX4, .code yX4_change cX4_change 5 none, .fieldLink RX4 9 "LookBench$Shelf" "goods" "[I", .fieldLink RX4 15 "LookBench$Shelf" "bads" "[I", .fieldLink RX4 18 "LookBench$Shelf" "prices" "[I"] ++ wsX40)
def wsX4_init : List Cond := .code yX4_init cX4_init 1 none :: ([.methodLink RX4 3 objectInit, .instanceMethod objectInit, .code objectInit ⟨#[0xb1]⟩ 1 none, .arrayClass .int, .fieldLink RX4 9 "LookBench$Shelf" "goods" "[I", .fieldLink RX4 15 "LookBench$Shelf" "bads" "[I", .fieldLink RX4 18 "LookBench$Shelf" "prices" "[I", .methodLink RX4 21 yX4_lay, .instanceMethod yX4_lay, .selects RX4 yX4_lay yX4_lay, .initialized RX4, .code yX4_lay cX4_lay 3 none, .fieldLink RX4 25 "LookBench$Shelf" "count" "I", .fieldLink RX4 29 "LookBench$Shelf" "seen" "I", .fieldLink RX4 32 "LookBench$Shelf" "seenGood" "I", .methodLink RX4 35 yX4_change, .instanceMethod yX4_change, .selects RX4 yX4_change yX4_change, .code yX4_change cX4_change 5 none] ++ wsX40)
def wsX4_has : List Cond := .code yX4_has cX4_has 2 (some .boolean) :: ([.fieldLink RX4 25 "LookBench$Shelf" "count" "I"] ++ wsX40)
def wsX4_hasSet : List Cond := .code yX4_hasSet cX4_hasSet 2 (some .boolean) :: ([.fieldLink RX4 25 "LookBench$Shelf" "count" "I"] ++ wsX40)
def wsX4_note : List Cond := .code yX4_note cX4_note 4 none :: ([.fieldLink RX4 29 "LookBench$Shelf" "seen" "I", .fieldLink RX4 32 "LookBench$Shelf" "seenGood" "I"] ++ wsX40)
def wsX4_noted : List Cond := .code yX4_noted cX4_noted 2 (some .int) :: ([.fieldLink RX4 29 "LookBench$Shelf" "seen" "I", .fieldLink RX4 32 "LookBench$Shelf" "seenGood" "I"] ++ wsX40)
def wsX5_init : List Cond := .code yX5_init cX5_init 1 none :: ([.methodLink RX5 3 objectInit, .instanceMethod objectInit, .code objectInit ⟨#[0xb1]⟩ 1 none, .arrayClass .int, .fieldLink RX5 9 "LookBench$Trail" "looks" "[I"] ++ wsX50)
def wsX5_append : List Cond := .code yX5_append cX5_append 2 none :: ([.fieldLink RX5 15 "LookBench$Trail" "count" "I", .fieldLink RX5 9 "LookBench$Trail" "looks" "[I"] ++ wsX50)
def wsX6_init_r1 : List Cond := [Cond.methodLink RX6 1 objectInit, Cond.instanceMethod objectInit, Cond.code objectInit ⟨#[0xb1]⟩ 1 none, Cond.classLink RX6 7 RX4, Cond.instantiable RX4 6, Cond.initialized RX4, Cond.fieldLink RX6 10 "LookBench" "shelf" "LLookBench$Shelf;", Cond.classLink RX6 16 RX3, Cond.instantiable RX3 5, Cond.initialized RX3, Cond.fieldLink RX6 19 "LookBench" "rules" "LLookBench$Rules;", Cond.classLink RX6 23 RX2, Cond.instantiable RX2 2, Cond.initialized RX2, Cond.fieldLink RX6 26 "LookBench" "queue" "LLookBench$Queue;", Cond.classLink RX6 30 RX1, Cond.instantiable RX1 7, Cond.initialized RX1, Cond.fieldLink RX6 35 "LookBench" "plans" "LLookBench$Plans;", Cond.classLink RX6 39 RX0, Cond.instantiable RX0 3, Cond.initialized RX0, Cond.fieldLink RX6 44 "LookBench" "bounds" "LLookBench$Bounds;", Cond.classLink RX6 48 RX5]
def wsX6_init_r2 : List Cond := [Cond.instantiable RX5 2, Cond.initialized RX5, Cond.fieldLink RX6 51 "LookBench" "trail" "LLookBench$Trail;", Cond.methodLink RX6 9 yX4_init, Cond.instanceMethod yX4_init, Cond.code yX4_init cX4_init 1 none, Cond.methodLink RX4 3 objectInit, Cond.arrayClass .int, Cond.fieldLink RX4 9 "LookBench$Shelf" "goods" "[I", Cond.fieldLink RX4 15 "LookBench$Shelf" "bads" "[I", Cond.fieldLink RX4 18 "LookBench$Shelf" "prices" "[I", Cond.methodLink RX4 21 yX4_lay, Cond.instanceMethod yX4_lay, Cond.selects RX4 yX4_lay yX4_lay, Cond.code yX4_lay cX4_lay 3 none, Cond.fieldLink RX4 25 "LookBench$Shelf" "count" "I", Cond.fieldLink RX4 29 "LookBench$Shelf" "seen" "I", Cond.fieldLink RX4 32 "LookBench$Shelf" "seenGood" "I", Cond.methodLink RX4 35 yX4_change, Cond.instanceMethod yX4_change, Cond.selects RX4 yX4_change yX4_change, Cond.code yX4_change cX4_change 5 none, Cond.methodLink RX6 18 yX3_init, Cond.instanceMethod yX3_init]
def wsX6_init_r3 : List Cond := [Cond.code yX3_init cX3_init 1 none, Cond.methodLink RX3 3 objectInit, Cond.arrayClass .long, Cond.fieldLink RX3 11 "LookBench$Rules" "words" "[J", Cond.fieldLink RX3 15 "LookBench$Rules" "worth" "[I", Cond.methodLink RX3 19 yX3_begin, Cond.instanceMethod yX3_begin, Cond.selects RX3 yX3_begin yX3_begin, Cond.code yX3_begin cX3_begin 2 none, Cond.fieldLink RX3 23 "LookBench$Rules" "parts" "I", Cond.fieldLink RX3 27 "LookBench$Rules" "count" "I", Cond.fieldLink RX3 30 "LookBench$Rules" "system" "I", Cond.instanceMethod yX2_init, Cond.code yX2_init cX2_init 1 none, Cond.methodLink RX2 3 objectInit, Cond.fieldLink RX2 9 "LookBench$Queue" "row" "[I", Cond.methodLink RX6 32 yX1_init, Cond.instanceMethod yX1_init, Cond.code yX1_init cX1_init 4 none, Cond.methodLink RX1 3 objectInit, Cond.fieldLink RX1 9 "LookBench$Plans" "open" "[I", Cond.fieldLink RX1 15 "LookBench$Plans" "best" "[J", Cond.fieldLink RX1 19 "LookBench$Plans" "worst" "[I", Cond.fieldLink RX1 22 "LookBench$Plans" "shelf" "LLookBench$Shelf;"]
def wsX6_init_r4 : List Cond := [Cond.fieldLink RX1 26 "LookBench$Plans" "rules" "LLookBench$Rules;", Cond.fieldLink RX1 30 "LookBench$Plans" "queue" "LLookBench$Queue;", Cond.methodLink RX6 41 yX0_init, Cond.instanceMethod yX0_init, Cond.code yX0_init cX0_init 3 none, Cond.methodLink RX0 3 objectInit, Cond.fieldLink RX0 9 "LookBench$Bounds" "leastPrice" "[I", Cond.fieldLink RX0 15 "LookBench$Bounds" "shelf" "LLookBench$Shelf;", Cond.fieldLink RX0 19 "LookBench$Bounds" "rules" "LLookBench$Rules;", Cond.instanceMethod yX5_init, Cond.code yX5_init cX5_init 1 none, Cond.methodLink RX5 3 objectInit, Cond.fieldLink RX5 9 "LookBench$Trail" "looks" "[I"]
def wsX6_init : List Cond := .code yX6_init cX6_init 1 none :: ((wsX6_init_r1 ++ (wsX6_init_r2 ++ (wsX6_init_r3 ++ wsX6_init_r4))) ++ wsX40 ++ wsX60 ++ wsX30 ++ wsX20 ++ wsX10 ++ wsX00 ++ wsX50)
def wsX6_parts_r1 : List Cond := [Cond.fieldLink RX6 10 "LookBench" "shelf" "LLookBench$Shelf;", Cond.fieldLink RX6 19 "LookBench" "rules" "LLookBench$Rules;", Cond.fieldLink RX6 26 "LookBench" "queue" "LLookBench$Queue;", Cond.fieldLink RX6 35 "LookBench" "plans" "LLookBench$Plans;", Cond.methodLink RX6 55 yX4_lay, Cond.instanceMethod yX4_lay, Cond.selects RX4 yX4_lay yX4_lay, Cond.initialized RX4, Cond.code yX4_lay cX4_lay 3 none, Cond.fieldLink RX4 25 "LookBench$Shelf" "count" "I", Cond.fieldLink RX4 29 "LookBench$Shelf" "seen" "I", Cond.fieldLink RX4 32 "LookBench$Shelf" "seenGood" "I", Cond.methodLink RX4 35 yX4_change, Cond.instanceMethod yX4_change, Cond.selects RX4 yX4_change yX4_change, Cond.code yX4_change cX4_change 5 none, Cond.fieldLink RX4 9 "LookBench$Shelf" "goods" "[I", Cond.fieldLink RX4 15 "LookBench$Shelf" "bads" "[I", Cond.fieldLink RX4 18 "LookBench$Shelf" "prices" "[I", Cond.methodLink RX6 59 yX3_begin, Cond.instanceMethod yX3_begin, Cond.selects RX3 yX3_begin yX3_begin, Cond.initialized RX3, Cond.code yX3_begin cX3_begin 2 none]
def wsX6_parts_r2 : List Cond := [Cond.fieldLink RX3 23 "LookBench$Rules" "parts" "I", Cond.fieldLink RX3 27 "LookBench$Rules" "count" "I", Cond.fieldLink RX3 30 "LookBench$Rules" "system" "I", Cond.methodLink RX6 62 yX2_clear, Cond.instanceMethod yX2_clear, Cond.selects RX2 yX2_clear yX2_clear, Cond.initialized RX2, Cond.code yX2_clear cX2_clear 1 none, Cond.fieldLink RX2 15 "LookBench$Queue" "count" "I", Cond.methodLink RX6 65 yX1_forget, Cond.instanceMethod yX1_forget, Cond.selects RX1 yX1_forget yX1_forget, Cond.initialized RX1, Cond.code yX1_forget cX1_forget 1 none, Cond.fieldLink RX1 34 "LookBench$Plans" "fresh" "Z"]
def wsX6_parts : List Cond := .code yX6_parts cX6_parts 2 (some .boolean) :: ((wsX6_parts_r1 ++ wsX6_parts_r2) ++ wsX60 ++ wsX40 ++ wsX30 ++ wsX20 ++ wsX10)
def wsX6_part : List Cond := .code yX6_part cX6_part 5 (some .boolean) :: ([.fieldLink RX6 10 "LookBench" "shelf" "LLookBench$Shelf;", .fieldLink RX6 35 "LookBench" "plans" "LLookBench$Plans;", .methodLink RX6 68 yX4_has, .instanceMethod yX4_has, .selects RX4 yX4_has yX4_has, .initialized RX4, .code yX4_has cX4_has 2 (some .boolean), .fieldLink RX4 25 "LookBench$Shelf" "count" "I", .methodLink RX6 72 yX4_change, .instanceMethod yX4_change, .selects RX4 yX4_change yX4_change, .code yX4_change cX4_change 5 none, .fieldLink RX4 9 "LookBench$Shelf" "goods" "[I", .fieldLink RX4 15 "LookBench$Shelf" "bads" "[I", .fieldLink RX4 18 "LookBench$Shelf" "prices" "[I", .methodLink RX6 65 yX1_forget, .instanceMethod yX1_forget, .selects RX1 yX1_forget yX1_forget, .initialized RX1, .code yX1_forget cX1_forget 1 none, .fieldLink RX1 34 "LookBench$Plans" "fresh" "Z"] ++ wsX60 ++ wsX40 ++ wsX10)
def wsX6_single_r1 : List Cond := [Cond.fieldLink RX6 10 "LookBench" "shelf" "LLookBench$Shelf;", Cond.fieldLink RX6 19 "LookBench" "rules" "LLookBench$Rules;", Cond.methodLink RX6 68 yX4_has, Cond.instanceMethod yX4_has, Cond.selects RX4 yX4_has yX4_has, Cond.initialized RX4, Cond.code yX4_has cX4_has 2 (some .boolean), Cond.fieldLink RX4 25 "LookBench$Shelf" "count" "I", Cond.methodLink RX6 76 yX3_hasRoom, Cond.instanceMethod yX3_hasRoom, Cond.selects RX3 yX3_hasRoom yX3_hasRoom, Cond.initialized RX3, Cond.code yX3_hasRoom cX3_hasRoom 1 (some .boolean), Cond.fieldLink RX3 27 "LookBench$Rules" "count" "I", Cond.methodLink RX6 80 yX3_addSingle, Cond.instanceMethod yX3_addSingle, Cond.selects RX3 yX3_addSingle yX3_addSingle, Cond.code yX3_addSingle cX3_addSingle 3 (some .int), Cond.fieldLink RX3 23 "LookBench$Rules" "parts" "I", Cond.methodLink RX3 44 yX3_wipe, Cond.instanceMethod yX3_wipe, Cond.selects RX3 yX3_wipe yX3_wipe, Cond.code yX3_wipe cX3_wipe 2 none, Cond.fieldLink RX3 11 "LookBench$Rules" "words" "[J"]
def wsX6_single_r2 : List Cond := [Cond.methodLink RX3 47 yX3_mark, Cond.instanceMethod yX3_mark, Cond.selects RX3 yX3_mark yX3_mark, Cond.code yX3_mark cX3_mark 2 none]
def wsX6_single : List Cond := .code yX6_single cX6_single 2 (some .int) :: ((wsX6_single_r1 ++ wsX6_single_r2) ++ wsX60 ++ wsX40 ++ wsX30)
def wsX6_row : List Cond := .code yX6_row cX6_row 3 (some .int) :: ([.fieldLink RX6 19 "LookBench" "rules" "LLookBench$Rules;", .methodLink RX6 84 yX3_has, .instanceMethod yX3_has, .selects RX3 yX3_has yX3_has, .initialized RX3, .code yX3_has cX3_has 2 (some .boolean), .fieldLink RX3 27 "LookBench$Rules" "count" "I", .methodLink RX6 76 yX3_hasRoom, .instanceMethod yX3_hasRoom, .selects RX3 yX3_hasRoom yX3_hasRoom, .code yX3_hasRoom cX3_hasRoom 1 (some .boolean), .methodLink RX6 85 yX3_addRow, .instanceMethod yX3_addRow, .selects RX3 yX3_addRow yX3_addRow, .code yX3_addRow cX3_addRow 4 (some .int), .fieldLink RX3 11 "LookBench$Rules" "words" "[J"] ++ wsX60 ++ wsX30)
def wsX6_side : List Cond := .code yX6_side cX6_side 3 (some .int) :: ([.fieldLink RX6 19 "LookBench" "rules" "LLookBench$Rules;", .methodLink RX6 84 yX3_has, .instanceMethod yX3_has, .selects RX3 yX3_has yX3_has, .initialized RX3, .code yX3_has cX3_has 2 (some .boolean), .fieldLink RX3 27 "LookBench$Rules" "count" "I", .methodLink RX6 76 yX3_hasRoom, .instanceMethod yX3_hasRoom, .selects RX3 yX3_hasRoom yX3_hasRoom, .code yX3_hasRoom cX3_hasRoom 1 (some .boolean), .methodLink RX6 89 yX3_addSide, .instanceMethod yX3_addSide, .selects RX3 yX3_addSide yX3_addSide, .code yX3_addSide cX3_addSide 4 (some .int), .fieldLink RX3 11 "LookBench$Rules" "words" "[J"] ++ wsX60 ++ wsX30)
def wsX6_some_r1 : List Cond := [Cond.fieldLink RX6 10 "LookBench" "shelf" "LLookBench$Shelf;", Cond.fieldLink RX6 19 "LookBench" "rules" "LLookBench$Rules;", Cond.methodLink RX6 92 yX4_hasSet, Cond.instanceMethod yX4_hasSet, Cond.selects RX4 yX4_hasSet yX4_hasSet, Cond.initialized RX4, Cond.code yX4_hasSet cX4_hasSet 2 (some .boolean), Cond.fieldLink RX4 25 "LookBench$Shelf" "count" "I", Cond.methodLink RX6 76 yX3_hasRoom, Cond.instanceMethod yX3_hasRoom, Cond.selects RX3 yX3_hasRoom yX3_hasRoom, Cond.initialized RX3, Cond.code yX3_hasRoom cX3_hasRoom 1 (some .boolean), Cond.fieldLink RX3 27 "LookBench$Rules" "count" "I", Cond.methodLink RX6 95 yX3_addSome, Cond.instanceMethod yX3_addSome, Cond.selects RX3 yX3_addSome yX3_addSome, Cond.code yX3_addSome cX3_addSome 7 (some .int), Cond.fieldLink RX3 23 "LookBench$Rules" "parts" "I", Cond.methodLink RX3 50 yX3_shareWorths, Cond.instanceMethod yX3_shareWorths, Cond.selects RX3 yX3_shareWorths yX3_shareWorths, Cond.code yX3_shareWorths cX3_shareWorths 10 none, Cond.fieldLink RX3 15 "LookBench$Rules" "worth" "[I"]
def wsX6_some_r2 : List Cond := [Cond.methodLink RX3 44 yX3_wipe, Cond.instanceMethod yX3_wipe, Cond.selects RX3 yX3_wipe yX3_wipe, Cond.code yX3_wipe cX3_wipe 2 none, Cond.fieldLink RX3 11 "LookBench$Rules" "words" "[J", Cond.methodLink RX3 54 yX3_worthOf, Cond.instanceMethod yX3_worthOf, Cond.selects RX3 yX3_worthOf yX3_worthOf, Cond.code yX3_worthOf cX3_worthOf 4 (some .int), Cond.methodLink RX3 47 yX3_mark, Cond.instanceMethod yX3_mark, Cond.selects RX3 yX3_mark yX3_mark, Cond.code yX3_mark cX3_mark 2 none]
def wsX6_some : List Cond := .code yX6_some cX6_some 6 (some .int) :: ((wsX6_some_r1 ++ wsX6_some_r2) ++ wsX60 ++ wsX40 ++ wsX30)
def wsX6_dual_r1 : List Cond := [Cond.fieldLink RX6 19 "LookBench" "rules" "LLookBench$Rules;", Cond.methodLink RX6 84 yX3_has, Cond.instanceMethod yX3_has, Cond.selects RX3 yX3_has yX3_has, Cond.initialized RX3, Cond.code yX3_has cX3_has 2 (some .boolean), Cond.fieldLink RX3 27 "LookBench$Rules" "count" "I", Cond.methodLink RX6 76 yX3_hasRoom, Cond.instanceMethod yX3_hasRoom, Cond.selects RX3 yX3_hasRoom yX3_hasRoom, Cond.code yX3_hasRoom cX3_hasRoom 1 (some .boolean), Cond.methodLink RX6 99 yX3_addDual, Cond.instanceMethod yX3_addDual, Cond.selects RX3 yX3_addDual yX3_addDual, Cond.code yX3_addDual cX3_addDual 4 (some .int), Cond.fieldLink RX3 23 "LookBench$Rules" "parts" "I", Cond.methodLink RX3 44 yX3_wipe, Cond.instanceMethod yX3_wipe, Cond.selects RX3 yX3_wipe yX3_wipe, Cond.code yX3_wipe cX3_wipe 2 none, Cond.fieldLink RX3 11 "LookBench$Rules" "words" "[J", Cond.methodLink RX3 37 yX3_isGood, Cond.instanceMethod yX3_isGood, Cond.selects RX3 yX3_isGood yX3_isGood]
def wsX6_dual_r2 : List Cond := [Cond.code yX3_isGood cX3_isGood 3 (some .boolean), Cond.methodLink RX3 47 yX3_mark, Cond.instanceMethod yX3_mark, Cond.selects RX3 yX3_mark yX3_mark, Cond.code yX3_mark cX3_mark 2 none]
def wsX6_dual : List Cond := .code yX6_dual cX6_dual 2 (some .int) :: ((wsX6_dual_r1 ++ wsX6_dual_r2) ++ wsX60 ++ wsX30)
def wsX6_system : List Cond := .code yX6_system cX6_system 2 (some .boolean) :: ([.fieldLink RX6 19 "LookBench" "rules" "LLookBench$Rules;", .fieldLink RX6 35 "LookBench" "plans" "LLookBench$Plans;", .methodLink RX6 84 yX3_has, .instanceMethod yX3_has, .selects RX3 yX3_has yX3_has, .initialized RX3, .code yX3_has cX3_has 2 (some .boolean), .fieldLink RX3 27 "LookBench$Rules" "count" "I", .methodLink RX6 65 yX1_forget, .instanceMethod yX1_forget, .selects RX1 yX1_forget yX1_forget, .initialized RX1, .code yX1_forget cX1_forget 1 none, .fieldLink RX1 34 "LookBench$Plans" "fresh" "Z"] ++ wsX60 ++ wsX30 ++ wsX10)
def wsX6_says : List Cond := .code yX6_says cX6_says 3 (some .int) :: ([.fieldLink RX6 19 "LookBench" "rules" "LLookBench$Rules;", .fieldLink RX6 10 "LookBench" "shelf" "LLookBench$Shelf;", .methodLink RX6 84 yX3_has, .instanceMethod yX3_has, .selects RX3 yX3_has yX3_has, .initialized RX3, .code yX3_has cX3_has 2 (some .boolean), .fieldLink RX3 27 "LookBench$Rules" "count" "I", .methodLink RX6 92 yX4_hasSet, .instanceMethod yX4_hasSet, .selects RX4 yX4_hasSet yX4_hasSet, .initialized RX4, .code yX4_hasSet cX4_hasSet 2 (some .boolean), .fieldLink RX4 25 "LookBench$Shelf" "count" "I", .methodLink RX6 106 yX3_isGood, .instanceMethod yX3_isGood, .selects RX3 yX3_isGood yX3_isGood, .code yX3_isGood cX3_isGood 3 (some .boolean), .fieldLink RX3 11 "LookBench$Rules" "words" "[J"] ++ wsX60 ++ wsX30 ++ wsX40)
def wsX6_differ : List Cond := .code yX6_differ cX6_differ 3 (some .int) :: ([.fieldLink RX6 19 "LookBench" "rules" "LLookBench$Rules;", .methodLink RX6 84 yX3_has, .instanceMethod yX3_has, .selects RX3 yX3_has yX3_has, .initialized RX3, .code yX3_has cX3_has 2 (some .boolean), .fieldLink RX3 27 "LookBench$Rules" "count" "I", .methodLink RX6 110 yX3_firstUnlike, .instanceMethod yX3_firstUnlike, .selects RX3 yX3_firstUnlike yX3_firstUnlike, .code yX3_firstUnlike cX3_firstUnlike 4 (some .int), .fieldLink RX3 23 "LookBench$Rules" "parts" "I", .methodLink RX3 37 yX3_isGood, .instanceMethod yX3_isGood, .selects RX3 yX3_isGood yX3_isGood, .code yX3_isGood cX3_isGood 3 (some .boolean), .fieldLink RX3 11 "LookBench$Rules" "words" "[J"] ++ wsX60 ++ wsX30)
def wsX6_sets_r1 : List Cond := [Cond.fieldLink RX6 19 "LookBench" "rules" "LLookBench$Rules;", Cond.methodLink RX6 113 yX3_hasSystem, Cond.instanceMethod yX3_hasSystem, Cond.selects RX3 yX3_hasSystem yX3_hasSystem, Cond.initialized RX3, Cond.code yX3_hasSystem cX3_hasSystem 1 (some .boolean), Cond.fieldLink RX3 30 "LookBench$Rules" "system" "I", Cond.methodLink RX3 33 yX3_has, Cond.instanceMethod yX3_has, Cond.selects RX3 yX3_has yX3_has, Cond.code yX3_has cX3_has 2 (some .boolean), Cond.fieldLink RX3 27 "LookBench$Rules" "count" "I", Cond.methodLink RX6 116 yX3_countLeast, Cond.instanceMethod yX3_countLeast, Cond.selects RX3 yX3_countLeast yX3_countLeast, Cond.code yX3_countLeast cX3_countLeast 4 (some .int), Cond.fieldLink RX3 23 "LookBench$Rules" "parts" "I", Cond.methodLink RX3 58 yX3_isLeast, Cond.instanceMethod yX3_isLeast, Cond.selects RX3 yX3_isLeast yX3_isLeast, Cond.code yX3_isLeast cX3_isLeast 4 (some .boolean), Cond.methodLink RX3 62 yX3_settles, Cond.instanceMethod yX3_settles, Cond.selects RX3 yX3_settles yX3_settles]
def wsX6_sets_r2 : List Cond := [Cond.code yX3_settles cX3_settles 4 (some .boolean), Cond.methodLink RX3 41 yX3_isSystemGood, Cond.instanceMethod yX3_isSystemGood, Cond.selects RX3 yX3_isSystemGood yX3_isSystemGood, Cond.code yX3_isSystemGood cX3_isSystemGood 2 (some .boolean), Cond.methodLink RX3 37 yX3_isGood, Cond.instanceMethod yX3_isGood, Cond.selects RX3 yX3_isGood yX3_isGood, Cond.code yX3_isGood cX3_isGood 3 (some .boolean), Cond.fieldLink RX3 11 "LookBench$Rules" "words" "[J"]
def wsX6_sets : List Cond := .code yX6_sets cX6_sets 2 (some .int) :: ((wsX6_sets_r1 ++ wsX6_sets_r2) ++ wsX60 ++ wsX30)
def wsX6_set_r1 : List Cond := [Cond.fieldLink RX6 19 "LookBench" "rules" "LLookBench$Rules;", Cond.methodLink RX6 113 yX3_hasSystem, Cond.instanceMethod yX3_hasSystem, Cond.selects RX3 yX3_hasSystem yX3_hasSystem, Cond.initialized RX3, Cond.code yX3_hasSystem cX3_hasSystem 1 (some .boolean), Cond.fieldLink RX3 30 "LookBench$Rules" "system" "I", Cond.methodLink RX3 33 yX3_has, Cond.instanceMethod yX3_has, Cond.selects RX3 yX3_has yX3_has, Cond.code yX3_has cX3_has 2 (some .boolean), Cond.fieldLink RX3 27 "LookBench$Rules" "count" "I", Cond.methodLink RX6 120 yX3_findLeast, Cond.instanceMethod yX3_findLeast, Cond.selects RX3 yX3_findLeast yX3_findLeast, Cond.code yX3_findLeast cX3_findLeast 5 (some .int), Cond.fieldLink RX3 23 "LookBench$Rules" "parts" "I", Cond.methodLink RX3 58 yX3_isLeast, Cond.instanceMethod yX3_isLeast, Cond.selects RX3 yX3_isLeast yX3_isLeast, Cond.code yX3_isLeast cX3_isLeast 4 (some .boolean), Cond.methodLink RX3 62 yX3_settles, Cond.instanceMethod yX3_settles, Cond.selects RX3 yX3_settles yX3_settles]
def wsX6_set_r2 : List Cond := [Cond.code yX3_settles cX3_settles 4 (some .boolean), Cond.methodLink RX3 41 yX3_isSystemGood, Cond.instanceMethod yX3_isSystemGood, Cond.selects RX3 yX3_isSystemGood yX3_isSystemGood, Cond.code yX3_isSystemGood cX3_isSystemGood 2 (some .boolean), Cond.methodLink RX3 37 yX3_isGood, Cond.instanceMethod yX3_isGood, Cond.selects RX3 yX3_isGood yX3_isGood, Cond.code yX3_isGood cX3_isGood 3 (some .boolean), Cond.fieldLink RX3 11 "LookBench$Rules" "words" "[J"]
def wsX6_set : List Cond := .code yX6_set cX6_set 3 (some .int) :: ((wsX6_set_r1 ++ wsX6_set_r2) ++ wsX60 ++ wsX30)
def wsX6_see : List Cond := .code yX6_see cX6_see 3 (some .boolean) :: ([.fieldLink RX6 10 "LookBench" "shelf" "LLookBench$Shelf;", .methodLink RX6 68 yX4_has, .instanceMethod yX4_has, .selects RX4 yX4_has yX4_has, .initialized RX4, .code yX4_has cX4_has 2 (some .boolean), .fieldLink RX4 25 "LookBench$Shelf" "count" "I", .methodLink RX6 124 yX4_note, .instanceMethod yX4_note, .selects RX4 yX4_note yX4_note, .code yX4_note cX4_note 4 none, .fieldLink RX4 29 "LookBench$Shelf" "seen" "I", .fieldLink RX4 32 "LookBench$Shelf" "seenGood" "I"] ++ wsX60 ++ wsX40)
def wsX6_partOf : List Cond := .code yX6_partOf cX6_partOf 3 (some .int) :: ([.fieldLink RX6 10 "LookBench" "shelf" "LLookBench$Shelf;", .methodLink RX6 68 yX4_has, .instanceMethod yX4_has, .selects RX4 yX4_has yX4_has, .initialized RX4, .code yX4_has cX4_has 2 (some .boolean), .fieldLink RX4 25 "LookBench$Shelf" "count" "I", .methodLink RX6 138 yX4_noted, .instanceMethod yX4_noted, .selects RX4 yX4_noted yX4_noted, .code yX4_noted cX4_noted 2 (some .int), .fieldLink RX4 29 "LookBench$Shelf" "seen" "I", .fieldLink RX4 32 "LookBench$Shelf" "seenGood" "I"] ++ wsX60 ++ wsX40)
def wsX6_sure_r1 : List Cond := [Cond.fieldLink RX6 19 "LookBench" "rules" "LLookBench$Rules;", Cond.fieldLink RX6 10 "LookBench" "shelf" "LLookBench$Shelf;", Cond.methodLink RX6 113 yX3_hasSystem, Cond.instanceMethod yX3_hasSystem, Cond.selects RX3 yX3_hasSystem yX3_hasSystem, Cond.initialized RX3, Cond.code yX3_hasSystem cX3_hasSystem 1 (some .boolean), Cond.fieldLink RX3 30 "LookBench$Rules" "system" "I", Cond.methodLink RX3 33 yX3_has, Cond.instanceMethod yX3_has, Cond.selects RX3 yX3_has yX3_has, Cond.code yX3_has cX3_has 2 (some .boolean), Cond.fieldLink RX3 27 "LookBench$Rules" "count" "I", Cond.methodLink RX6 144 yX4_unseen, Cond.instanceMethod yX4_unseen, Cond.selects RX4 yX4_unseen yX4_unseen, Cond.initialized RX4, Cond.code yX4_unseen cX4_unseen 1 (some .int), Cond.fieldLink RX4 25 "LookBench$Shelf" "count" "I", Cond.fieldLink RX4 29 "LookBench$Shelf" "seen" "I", Cond.methodLink RX6 148 yX3_verdict, Cond.instanceMethod yX3_verdict, Cond.selects RX3 yX3_verdict yX3_verdict, Cond.code yX3_verdict cX3_verdict 3 (some .int)]
def wsX6_sure_r2 : List Cond := [Cond.methodLink RX3 41 yX3_isSystemGood, Cond.instanceMethod yX3_isSystemGood, Cond.selects RX3 yX3_isSystemGood yX3_isSystemGood, Cond.code yX3_isSystemGood cX3_isSystemGood 2 (some .boolean), Cond.methodLink RX3 37 yX3_isGood, Cond.instanceMethod yX3_isGood, Cond.selects RX3 yX3_isGood yX3_isGood, Cond.code yX3_isGood cX3_isGood 3 (some .boolean), Cond.fieldLink RX3 11 "LookBench$Rules" "words" "[J"]
def wsX6_sure : List Cond := .code yX6_sure cX6_sure 1 (some .int) :: ((wsX6_sure_r1 ++ wsX6_sure_r2) ++ wsX60 ++ wsX40 ++ wsX30)
def wsX6_told_r1 : List Cond := [Cond.fieldLink RX6 10 "LookBench" "shelf" "LLookBench$Shelf;", Cond.fieldLink RX6 19 "LookBench" "rules" "LLookBench$Rules;", Cond.constantLong RX6 158 (-2), Cond.fieldLink RX6 44 "LookBench" "bounds" "LLookBench$Bounds;", Cond.fieldLink RX6 35 "LookBench" "plans" "LLookBench$Plans;", Cond.methodLink RX6 154 yX4_left, Cond.instanceMethod yX4_left, Cond.selects RX4 yX4_left yX4_left, Cond.initialized RX4, Cond.code yX4_left cX4_left 6 (some .long), Cond.fieldLink RX4 25 "LookBench$Shelf" "count" "I", Cond.fieldLink RX4 9 "LookBench$Shelf" "goods" "[I", Cond.fieldLink RX4 15 "LookBench$Shelf" "bads" "[I", Cond.methodLink RX6 113 yX3_hasSystem, Cond.instanceMethod yX3_hasSystem, Cond.selects RX3 yX3_hasSystem yX3_hasSystem, Cond.initialized RX3, Cond.code yX3_hasSystem cX3_hasSystem 1 (some .boolean), Cond.fieldLink RX3 30 "LookBench$Rules" "system" "I", Cond.methodLink RX3 33 yX3_has, Cond.instanceMethod yX3_has, Cond.selects RX3 yX3_has yX3_has, Cond.code yX3_has cX3_has 2 (some .boolean), Cond.fieldLink RX3 27 "LookBench$Rules" "count" "I"]
def wsX6_told_r2 : List Cond := [Cond.methodLink RX6 160 yX0_goodWeights, Cond.instanceMethod yX0_goodWeights, Cond.selects RX0 yX0_goodWeights yX0_goodWeights, Cond.initialized RX0, Cond.code yX0_goodWeights cX0_goodWeights 4 (some .long), Cond.fieldLink RX0 15 "LookBench$Bounds" "shelf" "LLookBench$Shelf;", Cond.fieldLink RX0 19 "LookBench$Bounds" "rules" "LLookBench$Rules;", Cond.methodLink RX0 29 yX4_fits, Cond.instanceMethod yX4_fits, Cond.selects RX4 yX4_fits yX4_fits, Cond.code yX4_fits cX4_fits 2 (some .boolean), Cond.fieldLink RX4 29 "LookBench$Shelf" "seen" "I", Cond.fieldLink RX4 32 "LookBench$Shelf" "seenGood" "I", Cond.methodLink RX0 33 yX3_isSystemGood, Cond.instanceMethod yX3_isSystemGood, Cond.selects RX3 yX3_isSystemGood yX3_isSystemGood, Cond.code yX3_isSystemGood cX3_isSystemGood 2 (some .boolean), Cond.methodLink RX3 37 yX3_isGood, Cond.instanceMethod yX3_isGood, Cond.selects RX3 yX3_isGood yX3_isGood, Cond.code yX3_isGood cX3_isGood 3 (some .boolean), Cond.fieldLink RX3 11 "LookBench$Rules" "words" "[J", Cond.methodLink RX0 38 yX4_weight, Cond.instanceMethod yX4_weight]
def wsX6_told_r3 : List Cond := [Cond.selects RX4 yX4_weight yX4_weight, Cond.code yX4_weight cX4_weight 2 (some .long), Cond.methodLink RX4 39 yX4_left, Cond.methodLink RX6 164 yX1_bestMean, Cond.instanceMethod yX1_bestMean, Cond.selects RX1 yX1_bestMean yX1_bestMean, Cond.initialized RX1, Cond.code yX1_bestMean cX1_bestMean 3 (some .long), Cond.fieldLink RX1 15 "LookBench$Plans" "best" "[J", Cond.methodLink RX1 38 yX1_prepare, Cond.instanceMethod yX1_prepare, Cond.selects RX1 yX1_prepare yX1_prepare, Cond.code yX1_prepare cX1_prepare 3 none, Cond.fieldLink RX1 34 "LookBench$Plans" "fresh" "Z", Cond.fieldLink RX1 54 "LookBench$Plans" "THREES" "[I", Cond.fieldLink RX1 22 "LookBench$Plans" "shelf" "LLookBench$Shelf;", Cond.arrayClass .long, Cond.arrayClass .int, Cond.fieldLink RX1 19 "LookBench$Plans" "worst" "[I", Cond.fieldLink RX1 26 "LookBench$Plans" "rules" "LLookBench$Rules;", Cond.methodLink RX1 60 yX3_verdict, Cond.instanceMethod yX3_verdict, Cond.selects RX3 yX3_verdict yX3_verdict, Cond.code yX3_verdict cX3_verdict 3 (some .int)]
def wsX6_told_r4 : List Cond := [Cond.methodLink RX3 41 yX3_isSystemGood, Cond.methodLink RX1 107 yX1_fillSure, Cond.instanceMethod yX1_fillSure, Cond.selects RX1 yX1_fillSure yX1_fillSure, Cond.code yX1_fillSure cX1_fillSure 4 none, Cond.methodLink RX1 111 yX1_fill, Cond.instanceMethod yX1_fill, Cond.selects RX1 yX1_fill yX1_fill, Cond.code yX1_fill cX1_fill 11 none, Cond.fieldLink RX1 9 "LookBench$Plans" "open" "[I", Cond.methodLink RX1 115 yX1_settle, Cond.instanceMethod yX1_settle, Cond.selects RX1 yX1_settle yX1_settle, Cond.code yX1_settle cX1_settle 18 none, Cond.constantLong RX1 131 (9223372036854775807), Cond.constant RX1 135 (2147483647), Cond.methodLink RX1 119 yX3_isSystemGood, Cond.methodLink RX1 41 yX1_stateOf, Cond.instanceMethod yX1_stateOf, Cond.selects RX1 yX1_stateOf yX1_stateOf, Cond.code yX1_stateOf cX1_stateOf 5 (some .int), Cond.methodLink RX6 167 yX1_next, Cond.instanceMethod yX1_next, Cond.selects RX1 yX1_next yX1_next]
def wsX6_told_r5 : List Cond := [Cond.code yX1_next cX1_next 6 (some .int), Cond.fieldLink RX1 30 "LookBench$Plans" "queue" "LLookBench$Queue;", Cond.methodLink RX1 65 yX2_firstOutside, Cond.instanceMethod yX2_firstOutside, Cond.selects RX2 yX2_firstOutside yX2_firstOutside, Cond.initialized RX2, Cond.code yX2_firstOutside cX2_firstOutside 4 (some .int), Cond.fieldLink RX2 15 "LookBench$Queue" "count" "I", Cond.fieldLink RX2 9 "LookBench$Queue" "row" "[I", Cond.methodLink RX1 70 yX4_left, Cond.methodLink RX1 74 yX1_nextOfBest, Cond.instanceMethod yX1_nextOfBest, Cond.selects RX1 yX1_nextOfBest yX1_nextOfBest, Cond.code yX1_nextOfBest cX1_nextOfBest 6 (some .int), Cond.methodLink RX1 100 yX1_meanFrom, Cond.instanceMethod yX1_meanFrom, Cond.selects RX1 yX1_meanFrom yX1_meanFrom, Cond.code yX1_meanFrom cX1_meanFrom 5 (some .long), Cond.methodLink RX1 78 yX1_nextOfWorst, Cond.instanceMethod yX1_nextOfWorst, Cond.selects RX1 yX1_nextOfWorst yX1_nextOfWorst, Cond.code yX1_nextOfWorst cX1_nextOfWorst 4 (some .int), Cond.methodLink RX1 104 yX1_worstFrom, Cond.instanceMethod yX1_worstFrom]
def wsX6_told_r6 : List Cond := [Cond.selects RX1 yX1_worstFrom yX1_worstFrom, Cond.code yX1_worstFrom cX1_worstFrom 3 (some .int), Cond.methodLink RX1 95 Lib.Math.max.name, Cond.static Lib.Math.max.name, Cond.initialized "java/lang/Math", Cond.code Lib.Math.max.name Lib.Math.max.code 2 (some .int), Cond.methodLink RX6 171 yX1_worstPrice, Cond.instanceMethod yX1_worstPrice, Cond.selects RX1 yX1_worstPrice yX1_worstPrice, Cond.code yX1_worstPrice cX1_worstPrice 3 (some .int), Cond.methodLink RX6 174 yX0_bound, Cond.instanceMethod yX0_bound, Cond.selects RX0 yX0_bound yX0_bound, Cond.code yX0_bound cX0_bound 1 (some .long), Cond.methodLink RX0 42 yX0_boundOfSide, Cond.instanceMethod yX0_boundOfSide, Cond.selects RX0 yX0_boundOfSide yX0_boundOfSide, Cond.code yX0_boundOfSide cX0_boundOfSide 7 (some .long), Cond.fieldLink RX0 9 "LookBench$Bounds" "leastPrice" "[I", Cond.methodLink RX0 46 yX3_settles, Cond.instanceMethod yX3_settles, Cond.selects RX3 yX3_settles yX3_settles, Cond.code yX3_settles cX3_settles 4 (some .boolean), Cond.fieldLink RX3 23 "LookBench$Rules" "parts" "I"]
def wsX6_told_r7 : List Cond := [Cond.methodLink RX0 50 yX0_leastProof, Cond.instanceMethod yX0_leastProof, Cond.selects RX0 yX0_leastProof yX0_leastProof, Cond.code yX0_leastProof cX0_leastProof 7 (some .int), Cond.methodLink RX0 62 Lib.Math.min.name, Cond.static Lib.Math.min.name, Cond.code Lib.Math.min.name Lib.Math.min.code 2 (some .int), Cond.methodLink RX0 54 yX4_unseen, Cond.instanceMethod yX4_unseen, Cond.selects RX4 yX4_unseen yX4_unseen, Cond.code yX4_unseen cX4_unseen 1 (some .int), Cond.methodLink RX0 58 yX4_priceOfSet, Cond.instanceMethod yX4_priceOfSet, Cond.selects RX4 yX4_priceOfSet yX4_priceOfSet, Cond.code yX4_priceOfSet cX4_priceOfSet 4 (some .int), Cond.fieldLink RX4 18 "LookBench$Shelf" "prices" "[I", Cond.methodLink RX6 177 yX1_orderMean, Cond.instanceMethod yX1_orderMean, Cond.selects RX1 yX1_orderMean yX1_orderMean, Cond.code yX1_orderMean cX1_orderMean 1 (some .long), Cond.methodLink RX1 81 yX1_orderMeanFrom, Cond.instanceMethod yX1_orderMeanFrom, Cond.selects RX1 yX1_orderMeanFrom yX1_orderMeanFrom, Cond.code yX1_orderMeanFrom cX1_orderMeanFrom 7 (some .long)]
def wsX6_told_r8 : List Cond := [Cond.methodLink RX1 89 yX1_next, Cond.methodLink RX6 180 yX1_orderWorst, Cond.instanceMethod yX1_orderWorst, Cond.selects RX1 yX1_orderWorst yX1_orderWorst, Cond.code yX1_orderWorst cX1_orderWorst 1 (some .int), Cond.methodLink RX1 85 yX1_orderWorstFrom, Cond.instanceMethod yX1_orderWorstFrom, Cond.selects RX1 yX1_orderWorstFrom yX1_orderWorstFrom, Cond.code yX1_orderWorstFrom cX1_orderWorstFrom 7 (some .int)]
def wsX6_told : List Cond := .code yX6_told cX6_told 4 (some .long) :: ((wsX6_told_r1 ++ (wsX6_told_r2 ++ (wsX6_told_r3 ++ (wsX6_told_r4 ++ (wsX6_told_r5 ++ (wsX6_told_r6 ++ (wsX6_told_r7 ++ wsX6_told_r8))))))) ++ wsX60 ++ wsX40 ++ wsX30 ++ wsX00 ++ wsX10 ++ wsX20)
def wsX6_of_r1 : List Cond := [Cond.fieldLink RX6 10 "LookBench" "shelf" "LLookBench$Shelf;", Cond.fieldLink RX6 19 "LookBench" "rules" "LLookBench$Rules;", Cond.constantLong RX6 158 (-2), Cond.fieldLink RX6 35 "LookBench" "plans" "LLookBench$Plans;", Cond.fieldLink RX6 44 "LookBench" "bounds" "LLookBench$Bounds;", Cond.methodLink RX6 68 yX4_has, Cond.instanceMethod yX4_has, Cond.selects RX4 yX4_has yX4_has, Cond.initialized RX4, Cond.code yX4_has cX4_has 2 (some .boolean), Cond.fieldLink RX4 25 "LookBench$Shelf" "count" "I", Cond.methodLink RX6 138 yX4_noted, Cond.instanceMethod yX4_noted, Cond.selects RX4 yX4_noted yX4_noted, Cond.code yX4_noted cX4_noted 2 (some .int), Cond.fieldLink RX4 29 "LookBench$Shelf" "seen" "I", Cond.fieldLink RX4 32 "LookBench$Shelf" "seenGood" "I", Cond.methodLink RX6 113 yX3_hasSystem, Cond.instanceMethod yX3_hasSystem, Cond.selects RX3 yX3_hasSystem yX3_hasSystem, Cond.initialized RX3, Cond.code yX3_hasSystem cX3_hasSystem 1 (some .boolean), Cond.fieldLink RX3 30 "LookBench$Rules" "system" "I", Cond.methodLink RX3 33 yX3_has]
def wsX6_of_r2 : List Cond := [Cond.instanceMethod yX3_has, Cond.selects RX3 yX3_has yX3_has, Cond.code yX3_has cX3_has 2 (some .boolean), Cond.fieldLink RX3 27 "LookBench$Rules" "count" "I", Cond.methodLink RX6 183 yX1_gain, Cond.instanceMethod yX1_gain, Cond.selects RX1 yX1_gain yX1_gain, Cond.initialized RX1, Cond.code yX1_gain cX1_gain 3 (some .long), Cond.fieldLink RX1 22 "LookBench$Plans" "shelf" "LLookBench$Shelf;", Cond.fieldLink RX1 15 "LookBench$Plans" "best" "[J", Cond.fieldLink RX1 54 "LookBench$Plans" "THREES" "[I", Cond.methodLink RX1 38 yX1_prepare, Cond.instanceMethod yX1_prepare, Cond.selects RX1 yX1_prepare yX1_prepare, Cond.code yX1_prepare cX1_prepare 3 none, Cond.fieldLink RX1 34 "LookBench$Plans" "fresh" "Z", Cond.arrayClass .long, Cond.arrayClass .int, Cond.fieldLink RX1 19 "LookBench$Plans" "worst" "[I", Cond.fieldLink RX1 26 "LookBench$Plans" "rules" "LLookBench$Rules;", Cond.methodLink RX1 60 yX3_verdict, Cond.instanceMethod yX3_verdict, Cond.selects RX3 yX3_verdict yX3_verdict]
def wsX6_of_r3 : List Cond := [Cond.code yX3_verdict cX3_verdict 3 (some .int), Cond.methodLink RX3 41 yX3_isSystemGood, Cond.instanceMethod yX3_isSystemGood, Cond.selects RX3 yX3_isSystemGood yX3_isSystemGood, Cond.code yX3_isSystemGood cX3_isSystemGood 2 (some .boolean), Cond.methodLink RX3 37 yX3_isGood, Cond.instanceMethod yX3_isGood, Cond.selects RX3 yX3_isGood yX3_isGood, Cond.code yX3_isGood cX3_isGood 3 (some .boolean), Cond.fieldLink RX3 11 "LookBench$Rules" "words" "[J", Cond.methodLink RX1 107 yX1_fillSure, Cond.instanceMethod yX1_fillSure, Cond.selects RX1 yX1_fillSure yX1_fillSure, Cond.code yX1_fillSure cX1_fillSure 4 none, Cond.methodLink RX1 111 yX1_fill, Cond.instanceMethod yX1_fill, Cond.selects RX1 yX1_fill yX1_fill, Cond.code yX1_fill cX1_fill 11 none, Cond.fieldLink RX1 9 "LookBench$Plans" "open" "[I", Cond.methodLink RX1 115 yX1_settle, Cond.instanceMethod yX1_settle, Cond.selects RX1 yX1_settle yX1_settle, Cond.code yX1_settle cX1_settle 18 none, Cond.constantLong RX1 131 (9223372036854775807)]
def wsX6_of_r4 : List Cond := [Cond.constant RX1 135 (2147483647), Cond.methodLink RX1 119 yX3_isSystemGood, Cond.methodLink RX1 41 yX1_stateOf, Cond.instanceMethod yX1_stateOf, Cond.selects RX1 yX1_stateOf yX1_stateOf, Cond.code yX1_stateOf cX1_stateOf 5 (some .int), Cond.methodLink RX6 187 yX0_matters, Cond.instanceMethod yX0_matters, Cond.selects RX0 yX0_matters yX0_matters, Cond.initialized RX0, Cond.code yX0_matters cX0_matters 5 (some .long), Cond.fieldLink RX0 15 "LookBench$Bounds" "shelf" "LLookBench$Shelf;", Cond.fieldLink RX0 19 "LookBench$Bounds" "rules" "LLookBench$Rules;", Cond.methodLink RX0 29 yX4_fits, Cond.instanceMethod yX4_fits, Cond.selects RX4 yX4_fits yX4_fits, Cond.code yX4_fits cX4_fits 2 (some .boolean), Cond.methodLink RX0 33 yX3_isSystemGood, Cond.methodLink RX0 38 yX4_weight, Cond.instanceMethod yX4_weight, Cond.selects RX4 yX4_weight yX4_weight, Cond.code yX4_weight cX4_weight 2 (some .long), Cond.methodLink RX4 39 yX4_left, Cond.instanceMethod yX4_left]
def wsX6_of_r5 : List Cond := [Cond.selects RX4 yX4_left yX4_left, Cond.code yX4_left cX4_left 6 (some .long), Cond.fieldLink RX4 9 "LookBench$Shelf" "goods" "[I", Cond.fieldLink RX4 15 "LookBench$Shelf" "bads" "[I"]
def wsX6_of : List Cond := .code yX6_of cX6_of 3 (some .long) :: ((wsX6_of_r1 ++ (wsX6_of_r2 ++ (wsX6_of_r3 ++ (wsX6_of_r4 ++ wsX6_of_r5)))) ++ wsX60 ++ wsX40 ++ wsX30 ++ wsX10 ++ wsX00)
def wsX6_order : List Cond := .code yX6_order cX6_order 2 (some .int) :: ([.fieldLink RX6 10 "LookBench" "shelf" "LLookBench$Shelf;", .fieldLink RX6 26 "LookBench" "queue" "LLookBench$Queue;", .methodLink RX6 68 yX4_has, .instanceMethod yX4_has, .selects RX4 yX4_has yX4_has, .initialized RX4, .code yX4_has cX4_has 2 (some .boolean), .fieldLink RX4 25 "LookBench$Shelf" "count" "I", .methodLink RX6 190 yX2_holds, .instanceMethod yX2_holds, .selects RX2 yX2_holds yX2_holds, .initialized RX2, .code yX2_holds cX2_holds 3 (some .boolean), .fieldLink RX2 15 "LookBench$Queue" "count" "I", .fieldLink RX2 9 "LookBench$Queue" "row" "[I", .methodLink RX6 193 yX2_append, .instanceMethod yX2_append, .selects RX2 yX2_append yX2_append, .code yX2_append cX2_append 2 none] ++ wsX60 ++ wsX20 ++ wsX40)
def wsX6_ratios : List Cond := .code yX6_ratios cX6_ratios 3 (some .int) :: ([.fieldLink RX6 26 "LookBench" "queue" "LLookBench$Queue;", .fieldLink RX6 10 "LookBench" "shelf" "LLookBench$Shelf;", .methodLink RX6 62 yX2_clear, .instanceMethod yX2_clear, .selects RX2 yX2_clear yX2_clear, .initialized RX2, .code yX2_clear cX2_clear 1 none, .fieldLink RX2 15 "LookBench$Queue" "count" "I", .methodLink RX6 199 yX2_fillByRatios, .instanceMethod yX2_fillByRatios, .selects RX2 yX2_fillByRatios yX2_fillByRatios, .code yX2_fillByRatios cX2_fillByRatios 5 none, .fieldLink RX2 9 "LookBench$Queue" "row" "[I", .methodLink RX2 22 yX2_isDearer, .static yX2_isDearer, .code yX2_isDearer cX2_isDearer 7 (some .boolean)] ++ wsX60 ++ wsX20 ++ wsX40)
def wsX6_ordered : List Cond := .code yX6_ordered cX6_ordered 2 (some .int) :: ([.fieldLink RX6 26 "LookBench" "queue" "LLookBench$Queue;"] ++ wsX60 ++ wsX20)
def wsX6_follow_r1 : List Cond := [Cond.fieldLink RX6 51 "LookBench" "trail" "LLookBench$Trail;", Cond.fieldLink RX6 10 "LookBench" "shelf" "LLookBench$Shelf;", Cond.fieldLink RX6 35 "LookBench" "plans" "LLookBench$Plans;", Cond.methodLink RX6 167 yX1_next, Cond.instanceMethod yX1_next, Cond.selects RX1 yX1_next yX1_next, Cond.initialized RX1, Cond.code yX1_next cX1_next 6 (some .int), Cond.fieldLink RX1 22 "LookBench$Plans" "shelf" "LLookBench$Shelf;", Cond.fieldLink RX1 26 "LookBench$Plans" "rules" "LLookBench$Rules;", Cond.fieldLink RX1 30 "LookBench$Plans" "queue" "LLookBench$Queue;", Cond.methodLink RX1 60 yX3_verdict, Cond.instanceMethod yX3_verdict, Cond.selects RX3 yX3_verdict yX3_verdict, Cond.initialized RX3, Cond.code yX3_verdict cX3_verdict 3 (some .int), Cond.methodLink RX3 41 yX3_isSystemGood, Cond.instanceMethod yX3_isSystemGood, Cond.selects RX3 yX3_isSystemGood yX3_isSystemGood, Cond.code yX3_isSystemGood cX3_isSystemGood 2 (some .boolean), Cond.fieldLink RX3 30 "LookBench$Rules" "system" "I", Cond.methodLink RX3 37 yX3_isGood, Cond.instanceMethod yX3_isGood, Cond.selects RX3 yX3_isGood yX3_isGood]
def wsX6_follow_r2 : List Cond := [Cond.code yX3_isGood cX3_isGood 3 (some .boolean), Cond.fieldLink RX3 11 "LookBench$Rules" "words" "[J", Cond.methodLink RX1 65 yX2_firstOutside, Cond.instanceMethod yX2_firstOutside, Cond.selects RX2 yX2_firstOutside yX2_firstOutside, Cond.initialized RX2, Cond.code yX2_firstOutside cX2_firstOutside 4 (some .int), Cond.fieldLink RX2 15 "LookBench$Queue" "count" "I", Cond.fieldLink RX2 9 "LookBench$Queue" "row" "[I", Cond.methodLink RX1 38 yX1_prepare, Cond.instanceMethod yX1_prepare, Cond.selects RX1 yX1_prepare yX1_prepare, Cond.code yX1_prepare cX1_prepare 3 none, Cond.fieldLink RX1 34 "LookBench$Plans" "fresh" "Z", Cond.fieldLink RX1 54 "LookBench$Plans" "THREES" "[I", Cond.fieldLink RX1 15 "LookBench$Plans" "best" "[J", Cond.arrayClass .long, Cond.arrayClass .int, Cond.fieldLink RX1 19 "LookBench$Plans" "worst" "[I", Cond.methodLink RX1 107 yX1_fillSure, Cond.instanceMethod yX1_fillSure, Cond.selects RX1 yX1_fillSure yX1_fillSure, Cond.code yX1_fillSure cX1_fillSure 4 none, Cond.methodLink RX1 111 yX1_fill]
def wsX6_follow_r3 : List Cond := [Cond.instanceMethod yX1_fill, Cond.selects RX1 yX1_fill yX1_fill, Cond.code yX1_fill cX1_fill 11 none, Cond.fieldLink RX1 9 "LookBench$Plans" "open" "[I", Cond.methodLink RX1 115 yX1_settle, Cond.instanceMethod yX1_settle, Cond.selects RX1 yX1_settle yX1_settle, Cond.code yX1_settle cX1_settle 18 none, Cond.constantLong RX1 131 (9223372036854775807), Cond.constant RX1 135 (2147483647), Cond.methodLink RX1 119 yX3_isSystemGood, Cond.methodLink RX1 41 yX1_stateOf, Cond.instanceMethod yX1_stateOf, Cond.selects RX1 yX1_stateOf yX1_stateOf, Cond.code yX1_stateOf cX1_stateOf 5 (some .int), Cond.methodLink RX1 70 yX4_left, Cond.instanceMethod yX4_left, Cond.selects RX4 yX4_left yX4_left, Cond.initialized RX4, Cond.code yX4_left cX4_left 6 (some .long), Cond.fieldLink RX4 25 "LookBench$Shelf" "count" "I", Cond.fieldLink RX4 9 "LookBench$Shelf" "goods" "[I", Cond.fieldLink RX4 15 "LookBench$Shelf" "bads" "[I", Cond.methodLink RX1 74 yX1_nextOfBest]
def wsX6_follow_r4 : List Cond := [Cond.instanceMethod yX1_nextOfBest, Cond.selects RX1 yX1_nextOfBest yX1_nextOfBest, Cond.code yX1_nextOfBest cX1_nextOfBest 6 (some .int), Cond.methodLink RX1 100 yX1_meanFrom, Cond.instanceMethod yX1_meanFrom, Cond.selects RX1 yX1_meanFrom yX1_meanFrom, Cond.code yX1_meanFrom cX1_meanFrom 5 (some .long), Cond.methodLink RX1 78 yX1_nextOfWorst, Cond.instanceMethod yX1_nextOfWorst, Cond.selects RX1 yX1_nextOfWorst yX1_nextOfWorst, Cond.code yX1_nextOfWorst cX1_nextOfWorst 4 (some .int), Cond.methodLink RX1 104 yX1_worstFrom, Cond.instanceMethod yX1_worstFrom, Cond.selects RX1 yX1_worstFrom yX1_worstFrom, Cond.code yX1_worstFrom cX1_worstFrom 3 (some .int), Cond.methodLink RX1 95 Lib.Math.max.name, Cond.static Lib.Math.max.name, Cond.initialized "java/lang/Math", Cond.code Lib.Math.max.name Lib.Math.max.code 2 (some .int), Cond.methodLink RX6 218 yX5_append, Cond.instanceMethod yX5_append, Cond.selects RX5 yX5_append yX5_append, Cond.initialized RX5, Cond.code yX5_append cX5_append 2 none]
def wsX6_follow_r5 : List Cond := [Cond.fieldLink RX5 15 "LookBench$Trail" "count" "I", Cond.fieldLink RX5 9 "LookBench$Trail" "looks" "[I"]
def wsX6_follow : List Cond := .code yX6_follow cX6_follow 7 (some .int) :: ((wsX6_follow_r1 ++ (wsX6_follow_r2 ++ (wsX6_follow_r3 ++ (wsX6_follow_r4 ++ wsX6_follow_r5)))) ++ wsX60 ++ wsX50 ++ wsX40 ++ wsX10 ++ wsX30 ++ wsX20)
def wsX6_run_r1 : List Cond := [Cond.fieldLink RX6 19 "LookBench" "rules" "LLookBench$Rules;", Cond.fieldLink RX6 10 "LookBench" "shelf" "LLookBench$Shelf;", Cond.methodLink RX6 113 yX3_hasSystem, Cond.instanceMethod yX3_hasSystem, Cond.selects RX3 yX3_hasSystem yX3_hasSystem, Cond.initialized RX3, Cond.code yX3_hasSystem cX3_hasSystem 1 (some .boolean), Cond.fieldLink RX3 30 "LookBench$Rules" "system" "I", Cond.methodLink RX3 33 yX3_has, Cond.instanceMethod yX3_has, Cond.selects RX3 yX3_has yX3_has, Cond.code yX3_has cX3_has 2 (some .boolean), Cond.fieldLink RX3 27 "LookBench$Rules" "count" "I", Cond.methodLink RX6 92 yX4_hasSet, Cond.instanceMethod yX4_hasSet, Cond.selects RX4 yX4_hasSet yX4_hasSet, Cond.initialized RX4, Cond.code yX4_hasSet cX4_hasSet 2 (some .boolean), Cond.fieldLink RX4 25 "LookBench$Shelf" "count" "I", Cond.methodLink RX6 206 yX4_fits, Cond.instanceMethod yX4_fits, Cond.selects RX4 yX4_fits yX4_fits, Cond.code yX4_fits cX4_fits 2 (some .boolean), Cond.fieldLink RX4 29 "LookBench$Shelf" "seen" "I"]
def wsX6_run_r2 : List Cond := [Cond.fieldLink RX4 32 "LookBench$Shelf" "seenGood" "I", Cond.methodLink RX6 209 yX6_follow, Cond.instanceMethod yX6_follow, Cond.selects RX6 yX6_follow yX6_follow, Cond.initialized RX6, Cond.code yX6_follow cX6_follow 7 (some .int), Cond.fieldLink RX6 51 "LookBench" "trail" "LLookBench$Trail;", Cond.fieldLink RX6 35 "LookBench" "plans" "LLookBench$Plans;", Cond.methodLink RX6 167 yX1_next, Cond.instanceMethod yX1_next, Cond.selects RX1 yX1_next yX1_next, Cond.initialized RX1, Cond.code yX1_next cX1_next 6 (some .int), Cond.fieldLink RX1 22 "LookBench$Plans" "shelf" "LLookBench$Shelf;", Cond.fieldLink RX1 26 "LookBench$Plans" "rules" "LLookBench$Rules;", Cond.fieldLink RX1 30 "LookBench$Plans" "queue" "LLookBench$Queue;", Cond.methodLink RX1 60 yX3_verdict, Cond.instanceMethod yX3_verdict, Cond.selects RX3 yX3_verdict yX3_verdict, Cond.code yX3_verdict cX3_verdict 3 (some .int), Cond.methodLink RX3 41 yX3_isSystemGood, Cond.instanceMethod yX3_isSystemGood, Cond.selects RX3 yX3_isSystemGood yX3_isSystemGood, Cond.code yX3_isSystemGood cX3_isSystemGood 2 (some .boolean)]
def wsX6_run_r3 : List Cond := [Cond.methodLink RX3 37 yX3_isGood, Cond.instanceMethod yX3_isGood, Cond.selects RX3 yX3_isGood yX3_isGood, Cond.code yX3_isGood cX3_isGood 3 (some .boolean), Cond.fieldLink RX3 11 "LookBench$Rules" "words" "[J", Cond.methodLink RX1 65 yX2_firstOutside, Cond.instanceMethod yX2_firstOutside, Cond.selects RX2 yX2_firstOutside yX2_firstOutside, Cond.initialized RX2, Cond.code yX2_firstOutside cX2_firstOutside 4 (some .int), Cond.fieldLink RX2 15 "LookBench$Queue" "count" "I", Cond.fieldLink RX2 9 "LookBench$Queue" "row" "[I", Cond.methodLink RX1 38 yX1_prepare, Cond.instanceMethod yX1_prepare, Cond.selects RX1 yX1_prepare yX1_prepare, Cond.code yX1_prepare cX1_prepare 3 none, Cond.fieldLink RX1 34 "LookBench$Plans" "fresh" "Z", Cond.fieldLink RX1 54 "LookBench$Plans" "THREES" "[I", Cond.fieldLink RX1 15 "LookBench$Plans" "best" "[J", Cond.arrayClass .long, Cond.arrayClass .int, Cond.fieldLink RX1 19 "LookBench$Plans" "worst" "[I", Cond.methodLink RX1 107 yX1_fillSure, Cond.instanceMethod yX1_fillSure]
def wsX6_run_r4 : List Cond := [Cond.selects RX1 yX1_fillSure yX1_fillSure, Cond.code yX1_fillSure cX1_fillSure 4 none, Cond.methodLink RX1 111 yX1_fill, Cond.instanceMethod yX1_fill, Cond.selects RX1 yX1_fill yX1_fill, Cond.code yX1_fill cX1_fill 11 none, Cond.fieldLink RX1 9 "LookBench$Plans" "open" "[I", Cond.methodLink RX1 115 yX1_settle, Cond.instanceMethod yX1_settle, Cond.selects RX1 yX1_settle yX1_settle, Cond.code yX1_settle cX1_settle 18 none, Cond.constantLong RX1 131 (9223372036854775807), Cond.constant RX1 135 (2147483647), Cond.methodLink RX1 119 yX3_isSystemGood, Cond.methodLink RX1 41 yX1_stateOf, Cond.instanceMethod yX1_stateOf, Cond.selects RX1 yX1_stateOf yX1_stateOf, Cond.code yX1_stateOf cX1_stateOf 5 (some .int), Cond.methodLink RX1 70 yX4_left, Cond.instanceMethod yX4_left, Cond.selects RX4 yX4_left yX4_left, Cond.code yX4_left cX4_left 6 (some .long), Cond.fieldLink RX4 9 "LookBench$Shelf" "goods" "[I", Cond.fieldLink RX4 15 "LookBench$Shelf" "bads" "[I"]
def wsX6_run_r5 : List Cond := [Cond.methodLink RX1 74 yX1_nextOfBest, Cond.instanceMethod yX1_nextOfBest, Cond.selects RX1 yX1_nextOfBest yX1_nextOfBest, Cond.code yX1_nextOfBest cX1_nextOfBest 6 (some .int), Cond.methodLink RX1 100 yX1_meanFrom, Cond.instanceMethod yX1_meanFrom, Cond.selects RX1 yX1_meanFrom yX1_meanFrom, Cond.code yX1_meanFrom cX1_meanFrom 5 (some .long), Cond.methodLink RX1 78 yX1_nextOfWorst, Cond.instanceMethod yX1_nextOfWorst, Cond.selects RX1 yX1_nextOfWorst yX1_nextOfWorst, Cond.code yX1_nextOfWorst cX1_nextOfWorst 4 (some .int), Cond.methodLink RX1 104 yX1_worstFrom, Cond.instanceMethod yX1_worstFrom, Cond.selects RX1 yX1_worstFrom yX1_worstFrom, Cond.code yX1_worstFrom cX1_worstFrom 3 (some .int), Cond.methodLink RX1 95 Lib.Math.max.name, Cond.static Lib.Math.max.name, Cond.initialized "java/lang/Math", Cond.code Lib.Math.max.name Lib.Math.max.code 2 (some .int), Cond.methodLink RX6 218 yX5_append, Cond.instanceMethod yX5_append, Cond.selects RX5 yX5_append yX5_append, Cond.initialized RX5]
def wsX6_run_r6 : List Cond := [Cond.code yX5_append cX5_append 2 none, Cond.fieldLink RX5 15 "LookBench$Trail" "count" "I", Cond.fieldLink RX5 9 "LookBench$Trail" "looks" "[I"]
def wsX6_run : List Cond := .code yX6_run cX6_run 3 (some .int) :: ((wsX6_run_r1 ++ (wsX6_run_r2 ++ (wsX6_run_r3 ++ (wsX6_run_r4 ++ (wsX6_run_r5 ++ wsX6_run_r6))))) ++ wsX60 ++ wsX30 ++ wsX40 ++ wsX50 ++ wsX10 ++ wsX20)
def wsX6_looked : List Cond := .code yX6_looked cX6_looked 2 (some .int) :: ([.fieldLink RX6 51 "LookBench" "trail" "LLookBench$Trail;"] ++ wsX60 ++ wsX50)
def wsX6_about : List Cond := .code yX6_about cX6_about 2 (some .int) :: ([.fieldLink RX6 10 "LookBench" "shelf" "LLookBench$Shelf;", .fieldLink RX6 19 "LookBench" "rules" "LLookBench$Rules;", .fieldLink RX6 26 "LookBench" "queue" "LLookBench$Queue;", .fieldLink RX6 51 "LookBench" "trail" "LLookBench$Trail;"] ++ wsX60 ++ wsX40 ++ wsX30 ++ wsX20 ++ wsX50)
def wsX7_init : List Cond := .code yX7_init cX7_init 1 none :: ([.methodLink RX7 1 objectInit, .instanceMethod objectInit, .code objectInit ⟨#[0xb1]⟩ 1 none, .fieldLink RX7 7 "LookBenchModel" "parts" "I", .arrayClass .int, .fieldLink RX7 13 "LookBenchModel" "good" "[I", .fieldLink RX7 17 "LookBenchModel" "bad" "[I", .fieldLink RX7 20 "LookBenchModel" "price" "[I", .arrayClass .boolean, .fieldLink RX7 23 "LookBenchModel" "says" "[Z", .fieldLink RX7 27 "LookBenchModel" "system" "I", .fieldLink RX7 30 "LookBenchModel" "seen" "[I", .fieldLink RX7 33 "LookBenchModel" "order" "[I", .fieldLink RX7 36 "LookBenchModel" "looked" "[I", .arrayClass .long, .fieldLink RX7 39 "LookBenchModel" "best" "[J", .fieldLink RX7 43 "LookBenchModel" "bestNext" "[I", .fieldLink RX7 46 "LookBenchModel" "worst" "[I", .fieldLink RX7 49 "LookBenchModel" "worstNext" "[I", .fieldLink RX7 52 "LookBenchModel" "three" "[I"] ++ wsX70)
def wsX7_in : List Cond := .code yX7_in cX7_in 6 (some .boolean) :: ([])
def wsX7_isPart : List Cond := .code yX7_isPart cX7_isPart 2 (some .boolean) :: ([.fieldLink RX7 7 "LookBenchModel" "parts" "I", .methodLink RX7 55 yX7_in, .static yX7_in, .initialized RX7, .code yX7_in cX7_in 6 (some .boolean)] ++ wsX70)
def wsX7_isRule : List Cond := .code yX7_isRule cX7_isRule 2 (some .boolean) :: ([.fieldLink RX7 59 "LookBenchModel" "rules" "I", .methodLink RX7 55 yX7_in, .static yX7_in, .initialized RX7, .code yX7_in cX7_in 6 (some .boolean)] ++ wsX70)
def wsX7_settings : List Cond := .code yX7_settings cX7_settings 1 (some .int) :: ([.fieldLink RX7 7 "LookBenchModel" "parts" "I"] ++ wsX70)
def wsX7_parts : List Cond := .code yX7_parts cX7_parts 3 (some .boolean) :: ([.constantLong RX7 62 (9), .fieldLink RX7 7 "LookBenchModel" "parts" "I", .fieldLink RX7 13 "LookBenchModel" "good" "[I", .fieldLink RX7 17 "LookBenchModel" "bad" "[I", .fieldLink RX7 20 "LookBenchModel" "price" "[I", .fieldLink RX7 30 "LookBenchModel" "seen" "[I", .fieldLink RX7 59 "LookBenchModel" "rules" "I", .fieldLink RX7 27 "LookBenchModel" "system" "I", .fieldLink RX7 64 "LookBenchModel" "ordered" "I", .fieldLink RX7 67 "LookBenchModel" "looks" "I", .methodLink RX7 55 yX7_in, .static yX7_in, .initialized RX7, .code yX7_in cX7_in 6 (some .boolean)] ++ wsX70)
def wsX7_part : List Cond := .code yX7_part cX7_part 5 (some .boolean) :: ([.constantLong RX7 62 (9), .constantLong RX7 74 (1000), .fieldLink RX7 13 "LookBenchModel" "good" "[I", .fieldLink RX7 17 "LookBenchModel" "bad" "[I", .fieldLink RX7 20 "LookBenchModel" "price" "[I", .methodLink RX7 70 yX7_isPart, .instanceMethod yX7_isPart, .selects RX7 yX7_isPart yX7_isPart, .initialized RX7, .code yX7_isPart cX7_isPart 2 (some .boolean), .fieldLink RX7 7 "LookBenchModel" "parts" "I", .methodLink RX7 55 yX7_in, .static yX7_in, .code yX7_in cX7_in 6 (some .boolean)] ++ wsX70)
def wsX7_added : List Cond := .code yX7_added cX7_added 1 (some .int) :: ([.fieldLink RX7 59 "LookBenchModel" "rules" "I"] ++ wsX70)
def wsX7_single : List Cond := .code yX7_single cX7_single 3 (some .int) :: ([.fieldLink RX7 59 "LookBenchModel" "rules" "I", .fieldLink RX7 23 "LookBenchModel" "says" "[Z", .methodLink RX7 70 yX7_isPart, .instanceMethod yX7_isPart, .selects RX7 yX7_isPart yX7_isPart, .initialized RX7, .code yX7_isPart cX7_isPart 2 (some .boolean), .fieldLink RX7 7 "LookBenchModel" "parts" "I", .methodLink RX7 55 yX7_in, .static yX7_in, .code yX7_in cX7_in 6 (some .boolean), .methodLink RX7 76 yX7_settings, .instanceMethod yX7_settings, .selects RX7 yX7_settings yX7_settings, .code yX7_settings cX7_settings 1 (some .int), .methodLink RX7 80 yX7_added, .instanceMethod yX7_added, .selects RX7 yX7_added yX7_added, .code yX7_added cX7_added 1 (some .int)] ++ wsX70)
def wsX7_row : List Cond := .code yX7_row cX7_row 4 (some .int) :: ([.fieldLink RX7 59 "LookBenchModel" "rules" "I", .fieldLink RX7 23 "LookBenchModel" "says" "[Z", .methodLink RX7 83 yX7_isRule, .instanceMethod yX7_isRule, .selects RX7 yX7_isRule yX7_isRule, .initialized RX7, .code yX7_isRule cX7_isRule 2 (some .boolean), .methodLink RX7 55 yX7_in, .static yX7_in, .code yX7_in cX7_in 6 (some .boolean), .methodLink RX7 76 yX7_settings, .instanceMethod yX7_settings, .selects RX7 yX7_settings yX7_settings, .code yX7_settings cX7_settings 1 (some .int), .fieldLink RX7 7 "LookBenchModel" "parts" "I", .methodLink RX7 80 yX7_added, .instanceMethod yX7_added, .selects RX7 yX7_added yX7_added, .code yX7_added cX7_added 1 (some .int)] ++ wsX70)
def wsX7_side : List Cond := .code yX7_side cX7_side 4 (some .int) :: ([.fieldLink RX7 59 "LookBenchModel" "rules" "I", .fieldLink RX7 23 "LookBenchModel" "says" "[Z", .methodLink RX7 83 yX7_isRule, .instanceMethod yX7_isRule, .selects RX7 yX7_isRule yX7_isRule, .initialized RX7, .code yX7_isRule cX7_isRule 2 (some .boolean), .methodLink RX7 55 yX7_in, .static yX7_in, .code yX7_in cX7_in 6 (some .boolean), .methodLink RX7 76 yX7_settings, .instanceMethod yX7_settings, .selects RX7 yX7_settings yX7_settings, .code yX7_settings cX7_settings 1 (some .int), .fieldLink RX7 7 "LookBenchModel" "parts" "I", .methodLink RX7 80 yX7_added, .instanceMethod yX7_added, .selects RX7 yX7_added yX7_added, .code yX7_added cX7_added 1 (some .int)] ++ wsX70)
def wsX7_some : List Cond := .code yX7_some cX7_some 11 (some .int) :: ([.constantLong RX7 86 (3), .constantLong RX7 88 (100), .fieldLink RX7 59 "LookBenchModel" "rules" "I", .fieldLink RX7 7 "LookBenchModel" "parts" "I", .fieldLink RX7 23 "LookBenchModel" "says" "[Z", .methodLink RX7 76 yX7_settings, .instanceMethod yX7_settings, .selects RX7 yX7_settings yX7_settings, .initialized RX7, .code yX7_settings cX7_settings 1 (some .int), .methodLink RX7 55 yX7_in, .static yX7_in, .code yX7_in cX7_in 6 (some .boolean), .methodLink RX7 80 yX7_added, .instanceMethod yX7_added, .selects RX7 yX7_added yX7_added, .code yX7_added cX7_added 1 (some .int)] ++ wsX70)
def wsX7_dual : List Cond := .code yX7_dual cX7_dual 3 (some .int) :: ([.fieldLink RX7 59 "LookBenchModel" "rules" "I", .fieldLink RX7 23 "LookBenchModel" "says" "[Z", .methodLink RX7 83 yX7_isRule, .instanceMethod yX7_isRule, .selects RX7 yX7_isRule yX7_isRule, .initialized RX7, .code yX7_isRule cX7_isRule 2 (some .boolean), .methodLink RX7 55 yX7_in, .static yX7_in, .code yX7_in cX7_in 6 (some .boolean), .methodLink RX7 76 yX7_settings, .instanceMethod yX7_settings, .selects RX7 yX7_settings yX7_settings, .code yX7_settings cX7_settings 1 (some .int), .fieldLink RX7 7 "LookBenchModel" "parts" "I", .methodLink RX7 80 yX7_added, .instanceMethod yX7_added, .selects RX7 yX7_added yX7_added, .code yX7_added cX7_added 1 (some .int)] ++ wsX70)
def wsX7_system : List Cond := .code yX7_system cX7_system 2 (some .boolean) :: ([.fieldLink RX7 27 "LookBenchModel" "system" "I", .methodLink RX7 83 yX7_isRule, .instanceMethod yX7_isRule, .selects RX7 yX7_isRule yX7_isRule, .initialized RX7, .code yX7_isRule cX7_isRule 2 (some .boolean), .fieldLink RX7 59 "LookBenchModel" "rules" "I", .methodLink RX7 55 yX7_in, .static yX7_in, .code yX7_in cX7_in 6 (some .boolean)] ++ wsX70)
def wsX7_says : List Cond := .code yX7_says cX7_says 3 (some .int) :: ([.fieldLink RX7 23 "LookBenchModel" "says" "[Z", .methodLink RX7 83 yX7_isRule, .instanceMethod yX7_isRule, .selects RX7 yX7_isRule yX7_isRule, .initialized RX7, .code yX7_isRule cX7_isRule 2 (some .boolean), .fieldLink RX7 59 "LookBenchModel" "rules" "I", .methodLink RX7 55 yX7_in, .static yX7_in, .code yX7_in cX7_in 6 (some .boolean), .methodLink RX7 76 yX7_settings, .instanceMethod yX7_settings, .selects RX7 yX7_settings yX7_settings, .code yX7_settings cX7_settings 1 (some .int), .fieldLink RX7 7 "LookBenchModel" "parts" "I"] ++ wsX70)
def wsX7_differ : List Cond := .code yX7_differ cX7_differ 4 (some .int) :: ([.fieldLink RX7 23 "LookBenchModel" "says" "[Z", .methodLink RX7 83 yX7_isRule, .instanceMethod yX7_isRule, .selects RX7 yX7_isRule yX7_isRule, .initialized RX7, .code yX7_isRule cX7_isRule 2 (some .boolean), .fieldLink RX7 59 "LookBenchModel" "rules" "I", .methodLink RX7 55 yX7_in, .static yX7_in, .code yX7_in cX7_in 6 (some .boolean), .methodLink RX7 76 yX7_settings, .instanceMethod yX7_settings, .selects RX7 yX7_settings yX7_settings, .code yX7_settings cX7_settings 1 (some .int), .fieldLink RX7 7 "LookBenchModel" "parts" "I"] ++ wsX70)
def wsX7_isGood : List Cond := .code yX7_isGood cX7_isGood 2 (some .boolean) :: ([.fieldLink RX7 23 "LookBenchModel" "says" "[Z", .fieldLink RX7 27 "LookBenchModel" "system" "I"] ++ wsX70)
def wsX7_isEnough : List Cond := .code yX7_isEnough cX7_isEnough 3 (some .boolean) :: ([.methodLink RX7 94 yX7_isGood, .instanceMethod yX7_isGood, .selects RX7 yX7_isGood yX7_isGood, .initialized RX7, .code yX7_isGood cX7_isGood 2 (some .boolean), .fieldLink RX7 23 "LookBenchModel" "says" "[Z", .fieldLink RX7 27 "LookBenchModel" "system" "I", .methodLink RX7 76 yX7_settings, .instanceMethod yX7_settings, .selects RX7 yX7_settings yX7_settings, .code yX7_settings cX7_settings 1 (some .int), .fieldLink RX7 7 "LookBenchModel" "parts" "I"] ++ wsX70)
def wsX7_isLeast : List Cond := .code yX7_isLeast cX7_isLeast 5 (some .boolean) :: ([.fieldLink RX7 7 "LookBenchModel" "parts" "I", .methodLink RX7 90 yX7_isEnough, .instanceMethod yX7_isEnough, .selects RX7 yX7_isEnough yX7_isEnough, .initialized RX7, .code yX7_isEnough cX7_isEnough 3 (some .boolean), .methodLink RX7 94 yX7_isGood, .instanceMethod yX7_isGood, .selects RX7 yX7_isGood yX7_isGood, .code yX7_isGood cX7_isGood 2 (some .boolean), .fieldLink RX7 23 "LookBenchModel" "says" "[Z", .fieldLink RX7 27 "LookBenchModel" "system" "I", .methodLink RX7 76 yX7_settings, .instanceMethod yX7_settings, .selects RX7 yX7_settings yX7_settings, .code yX7_settings cX7_settings 1 (some .int)] ++ wsX70)
def wsX7_sets : List Cond := .code yX7_sets cX7_sets 4 (some .int) :: ([.fieldLink RX7 27 "LookBenchModel" "system" "I", .methodLink RX7 55 yX7_in, .static yX7_in, .initialized RX7, .code yX7_in cX7_in 6 (some .boolean), .methodLink RX7 76 yX7_settings, .instanceMethod yX7_settings, .selects RX7 yX7_settings yX7_settings, .code yX7_settings cX7_settings 1 (some .int), .fieldLink RX7 7 "LookBenchModel" "parts" "I", .methodLink RX7 97 yX7_isLeast, .instanceMethod yX7_isLeast, .selects RX7 yX7_isLeast yX7_isLeast, .code yX7_isLeast cX7_isLeast 5 (some .boolean), .methodLink RX7 90 yX7_isEnough, .instanceMethod yX7_isEnough, .selects RX7 yX7_isEnough yX7_isEnough, .code yX7_isEnough cX7_isEnough 3 (some .boolean), .methodLink RX7 94 yX7_isGood, .instanceMethod yX7_isGood, .selects RX7 yX7_isGood yX7_isGood, .code yX7_isGood cX7_isGood 2 (some .boolean), .fieldLink RX7 23 "LookBenchModel" "says" "[Z"] ++ wsX70)
def wsX7_set : List Cond := .code yX7_set cX7_set 5 (some .int) :: ([.fieldLink RX7 27 "LookBenchModel" "system" "I", .methodLink RX7 55 yX7_in, .static yX7_in, .initialized RX7, .code yX7_in cX7_in 6 (some .boolean), .methodLink RX7 76 yX7_settings, .instanceMethod yX7_settings, .selects RX7 yX7_settings yX7_settings, .code yX7_settings cX7_settings 1 (some .int), .fieldLink RX7 7 "LookBenchModel" "parts" "I", .methodLink RX7 97 yX7_isLeast, .instanceMethod yX7_isLeast, .selects RX7 yX7_isLeast yX7_isLeast, .code yX7_isLeast cX7_isLeast 5 (some .boolean), .methodLink RX7 90 yX7_isEnough, .instanceMethod yX7_isEnough, .selects RX7 yX7_isEnough yX7_isEnough, .code yX7_isEnough cX7_isEnough 3 (some .boolean), .methodLink RX7 94 yX7_isGood, .instanceMethod yX7_isGood, .selects RX7 yX7_isGood yX7_isGood, .code yX7_isGood cX7_isGood 2 (some .boolean), .fieldLink RX7 23 "LookBenchModel" "says" "[Z"] ++ wsX70)
def wsX7_see : List Cond := .code yX7_see cX7_see 3 (some .boolean) :: ([.constantLong RX7 100 (-1), .fieldLink RX7 30 "LookBenchModel" "seen" "[I", .methodLink RX7 70 yX7_isPart, .instanceMethod yX7_isPart, .selects RX7 yX7_isPart yX7_isPart, .initialized RX7, .code yX7_isPart cX7_isPart 2 (some .boolean), .fieldLink RX7 7 "LookBenchModel" "parts" "I", .methodLink RX7 55 yX7_in, .static yX7_in, .code yX7_in cX7_in 6 (some .boolean)] ++ wsX70)
def wsX7_partOf : List Cond := .code yX7_partOf cX7_partOf 3 (some .int) :: ([.fieldLink RX7 13 "LookBenchModel" "good" "[I", .fieldLink RX7 17 "LookBenchModel" "bad" "[I", .fieldLink RX7 20 "LookBenchModel" "price" "[I", .fieldLink RX7 30 "LookBenchModel" "seen" "[I", .methodLink RX7 70 yX7_isPart, .instanceMethod yX7_isPart, .selects RX7 yX7_isPart yX7_isPart, .initialized RX7, .code yX7_isPart cX7_isPart 2 (some .boolean), .fieldLink RX7 7 "LookBenchModel" "parts" "I", .methodLink RX7 55 yX7_in, .static yX7_in, .code yX7_in cX7_in 6 (some .boolean)] ++ wsX70)
def wsX7_now : List Cond := .code yX7_now cX7_now 3 (some .int) :: ([.fieldLink RX7 7 "LookBenchModel" "parts" "I", .fieldLink RX7 52 "LookBenchModel" "three" "[I", .fieldLink RX7 30 "LookBenchModel" "seen" "[I"] ++ wsX70)
def wsX7_digit : List Cond := .code yX7_digit cX7_digit 3 (some .int) :: ([.fieldLink RX7 52 "LookBenchModel" "three" "[I"] ++ wsX70)
def wsX7_setOf : List Cond := .code yX7_setOf cX7_setOf 5 (some .int) :: ([.fieldLink RX7 7 "LookBenchModel" "parts" "I", .methodLink RX7 102 yX7_digit, .instanceMethod yX7_digit, .selects RX7 yX7_digit yX7_digit, .initialized RX7, .code yX7_digit cX7_digit 3 (some .int), .fieldLink RX7 52 "LookBenchModel" "three" "[I"] ++ wsX70)
def wsX7_sureAt : List Cond := .code yX7_sureAt cX7_sureAt 2 (some .int) :: ([.methodLink RX7 106 yX7_setOf, .instanceMethod yX7_setOf, .selects RX7 yX7_setOf yX7_setOf, .initialized RX7, .code yX7_setOf cX7_setOf 5 (some .int), .fieldLink RX7 7 "LookBenchModel" "parts" "I", .methodLink RX7 102 yX7_digit, .instanceMethod yX7_digit, .selects RX7 yX7_digit yX7_digit, .code yX7_digit cX7_digit 3 (some .int), .fieldLink RX7 52 "LookBenchModel" "three" "[I", .methodLink RX7 94 yX7_isGood, .instanceMethod yX7_isGood, .selects RX7 yX7_isGood yX7_isGood, .code yX7_isGood cX7_isGood 2 (some .boolean), .fieldLink RX7 23 "LookBenchModel" "says" "[Z", .fieldLink RX7 27 "LookBenchModel" "system" "I", .methodLink RX7 76 yX7_settings, .instanceMethod yX7_settings, .selects RX7 yX7_settings yX7_settings, .code yX7_settings cX7_settings 1 (some .int)] ++ wsX70)
def wsX7_sure_r1 : List Cond := [Cond.fieldLink RX7 27 "LookBenchModel" "system" "I", Cond.methodLink RX7 109 yX7_now, Cond.instanceMethod yX7_now, Cond.selects RX7 yX7_now yX7_now, Cond.initialized RX7, Cond.code yX7_now cX7_now 3 (some .int), Cond.fieldLink RX7 7 "LookBenchModel" "parts" "I", Cond.fieldLink RX7 52 "LookBenchModel" "three" "[I", Cond.fieldLink RX7 30 "LookBenchModel" "seen" "[I", Cond.methodLink RX7 112 yX7_sureAt, Cond.instanceMethod yX7_sureAt, Cond.selects RX7 yX7_sureAt yX7_sureAt, Cond.code yX7_sureAt cX7_sureAt 2 (some .int), Cond.methodLink RX7 106 yX7_setOf, Cond.instanceMethod yX7_setOf, Cond.selects RX7 yX7_setOf yX7_setOf, Cond.code yX7_setOf cX7_setOf 5 (some .int), Cond.methodLink RX7 102 yX7_digit, Cond.instanceMethod yX7_digit, Cond.selects RX7 yX7_digit yX7_digit, Cond.code yX7_digit cX7_digit 3 (some .int), Cond.methodLink RX7 94 yX7_isGood, Cond.instanceMethod yX7_isGood, Cond.selects RX7 yX7_isGood yX7_isGood]
def wsX7_sure_r2 : List Cond := [Cond.code yX7_isGood cX7_isGood 2 (some .boolean), Cond.fieldLink RX7 23 "LookBenchModel" "says" "[Z", Cond.methodLink RX7 76 yX7_settings, Cond.instanceMethod yX7_settings, Cond.selects RX7 yX7_settings yX7_settings, Cond.code yX7_settings cX7_settings 1 (some .int)]
def wsX7_sure : List Cond := .code yX7_sure cX7_sure 1 (some .int) :: ((wsX7_sure_r1 ++ wsX7_sure_r2) ++ wsX70)
def wsX7_weight : List Cond := .code yX7_weight cX7_weight 5 (some .long) :: ([.fieldLink RX7 7 "LookBenchModel" "parts" "I", .fieldLink RX7 13 "LookBenchModel" "good" "[I", .fieldLink RX7 17 "LookBenchModel" "bad" "[I"] ++ wsX70)
def wsX7_left : List Cond := .code yX7_left cX7_left 6 (some .long) :: ([.fieldLink RX7 7 "LookBenchModel" "parts" "I", .fieldLink RX7 13 "LookBenchModel" "good" "[I", .fieldLink RX7 17 "LookBenchModel" "bad" "[I", .methodLink RX7 102 yX7_digit, .instanceMethod yX7_digit, .selects RX7 yX7_digit yX7_digit, .initialized RX7, .code yX7_digit cX7_digit 3 (some .int), .fieldLink RX7 52 "LookBenchModel" "three" "[I"] ++ wsX70)
def wsX7_isSuch : List Cond := .code yX7_isSuch cX7_isSuch 6 (some .boolean) :: ([.fieldLink RX7 7 "LookBenchModel" "parts" "I", .methodLink RX7 102 yX7_digit, .instanceMethod yX7_digit, .selects RX7 yX7_digit yX7_digit, .initialized RX7, .code yX7_digit cX7_digit 3 (some .int), .fieldLink RX7 52 "LookBenchModel" "three" "[I"] ++ wsX70)
def wsX7_seenIn : List Cond := .code yX7_seenIn cX7_seenIn 4 (some .int) :: ([.fieldLink RX7 7 "LookBenchModel" "parts" "I", .methodLink RX7 102 yX7_digit, .instanceMethod yX7_digit, .selects RX7 yX7_digit yX7_digit, .initialized RX7, .code yX7_digit cX7_digit 3 (some .int), .fieldLink RX7 52 "LookBenchModel" "three" "[I"] ++ wsX70)
def wsX7_plan_r1 : List Cond := [Cond.fieldLink RX7 39 "LookBenchModel" "best" "[J", Cond.fieldLink RX7 46 "LookBenchModel" "worst" "[I", Cond.fieldLink RX7 43 "LookBenchModel" "bestNext" "[I", Cond.fieldLink RX7 49 "LookBenchModel" "worstNext" "[I", Cond.fieldLink RX7 7 "LookBenchModel" "parts" "I", Cond.fieldLink RX7 52 "LookBenchModel" "three" "[I", Cond.fieldLink RX7 20 "LookBenchModel" "price" "[I", Cond.methodLink RX7 112 yX7_sureAt, Cond.instanceMethod yX7_sureAt, Cond.selects RX7 yX7_sureAt yX7_sureAt, Cond.initialized RX7, Cond.code yX7_sureAt cX7_sureAt 2 (some .int), Cond.methodLink RX7 106 yX7_setOf, Cond.instanceMethod yX7_setOf, Cond.selects RX7 yX7_setOf yX7_setOf, Cond.code yX7_setOf cX7_setOf 5 (some .int), Cond.methodLink RX7 102 yX7_digit, Cond.instanceMethod yX7_digit, Cond.selects RX7 yX7_digit yX7_digit, Cond.code yX7_digit cX7_digit 3 (some .int), Cond.methodLink RX7 94 yX7_isGood, Cond.instanceMethod yX7_isGood, Cond.selects RX7 yX7_isGood yX7_isGood, Cond.code yX7_isGood cX7_isGood 2 (some .boolean)]
def wsX7_plan_r2 : List Cond := [Cond.fieldLink RX7 23 "LookBenchModel" "says" "[Z", Cond.fieldLink RX7 27 "LookBenchModel" "system" "I", Cond.methodLink RX7 76 yX7_settings, Cond.instanceMethod yX7_settings, Cond.selects RX7 yX7_settings yX7_settings, Cond.code yX7_settings cX7_settings 1 (some .int), Cond.methodLink RX7 123 yX7_left, Cond.instanceMethod yX7_left, Cond.selects RX7 yX7_left yX7_left, Cond.code yX7_left cX7_left 6 (some .long), Cond.fieldLink RX7 13 "LookBenchModel" "good" "[I", Cond.fieldLink RX7 17 "LookBenchModel" "bad" "[I"]
def wsX7_plan : List Cond := .code yX7_plan cX7_plan 10 none :: ((wsX7_plan_r1 ++ wsX7_plan_r2) ++ wsX70)
def wsX7_plans_r1 : List Cond := [Cond.fieldLink RX7 7 "LookBenchModel" "parts" "I", Cond.fieldLink RX7 52 "LookBenchModel" "three" "[I", Cond.methodLink RX7 116 yX7_seenIn, Cond.instanceMethod yX7_seenIn, Cond.selects RX7 yX7_seenIn yX7_seenIn, Cond.initialized RX7, Cond.code yX7_seenIn cX7_seenIn 4 (some .int), Cond.methodLink RX7 102 yX7_digit, Cond.instanceMethod yX7_digit, Cond.selects RX7 yX7_digit yX7_digit, Cond.code yX7_digit cX7_digit 3 (some .int), Cond.methodLink RX7 119 yX7_plan, Cond.instanceMethod yX7_plan, Cond.selects RX7 yX7_plan yX7_plan, Cond.code yX7_plan cX7_plan 10 none, Cond.fieldLink RX7 39 "LookBenchModel" "best" "[J", Cond.fieldLink RX7 46 "LookBenchModel" "worst" "[I", Cond.fieldLink RX7 43 "LookBenchModel" "bestNext" "[I", Cond.fieldLink RX7 49 "LookBenchModel" "worstNext" "[I", Cond.fieldLink RX7 20 "LookBenchModel" "price" "[I", Cond.methodLink RX7 112 yX7_sureAt, Cond.instanceMethod yX7_sureAt, Cond.selects RX7 yX7_sureAt yX7_sureAt, Cond.code yX7_sureAt cX7_sureAt 2 (some .int)]
def wsX7_plans_r2 : List Cond := [Cond.methodLink RX7 106 yX7_setOf, Cond.instanceMethod yX7_setOf, Cond.selects RX7 yX7_setOf yX7_setOf, Cond.code yX7_setOf cX7_setOf 5 (some .int), Cond.methodLink RX7 94 yX7_isGood, Cond.instanceMethod yX7_isGood, Cond.selects RX7 yX7_isGood yX7_isGood, Cond.code yX7_isGood cX7_isGood 2 (some .boolean), Cond.fieldLink RX7 23 "LookBenchModel" "says" "[Z", Cond.fieldLink RX7 27 "LookBenchModel" "system" "I", Cond.methodLink RX7 76 yX7_settings, Cond.instanceMethod yX7_settings, Cond.selects RX7 yX7_settings yX7_settings, Cond.code yX7_settings cX7_settings 1 (some .int), Cond.methodLink RX7 123 yX7_left, Cond.instanceMethod yX7_left, Cond.selects RX7 yX7_left yX7_left, Cond.code yX7_left cX7_left 6 (some .long), Cond.fieldLink RX7 13 "LookBenchModel" "good" "[I", Cond.fieldLink RX7 17 "LookBenchModel" "bad" "[I"]
def wsX7_plans : List Cond := .code yX7_plans cX7_plans 4 none :: ((wsX7_plans_r1 ++ wsX7_plans_r2) ++ wsX70)
def wsX7_orderNext : List Cond := .code yX7_orderNext cX7_orderNext 3 (some .int) :: ([.fieldLink RX7 64 "LookBenchModel" "ordered" "I", .fieldLink RX7 33 "LookBenchModel" "order" "[I", .fieldLink RX7 7 "LookBenchModel" "parts" "I", .methodLink RX7 102 yX7_digit, .instanceMethod yX7_digit, .selects RX7 yX7_digit yX7_digit, .initialized RX7, .code yX7_digit cX7_digit 3 (some .int), .fieldLink RX7 52 "LookBenchModel" "three" "[I"] ++ wsX70)
def wsX7_byOrder_r1 : List Cond := [Cond.fieldLink RX7 20 "LookBenchModel" "price" "[I", Cond.fieldLink RX7 52 "LookBenchModel" "three" "[I", Cond.methodLink RX7 112 yX7_sureAt, Cond.instanceMethod yX7_sureAt, Cond.selects RX7 yX7_sureAt yX7_sureAt, Cond.initialized RX7, Cond.code yX7_sureAt cX7_sureAt 2 (some .int), Cond.methodLink RX7 106 yX7_setOf, Cond.instanceMethod yX7_setOf, Cond.selects RX7 yX7_setOf yX7_setOf, Cond.code yX7_setOf cX7_setOf 5 (some .int), Cond.fieldLink RX7 7 "LookBenchModel" "parts" "I", Cond.methodLink RX7 102 yX7_digit, Cond.instanceMethod yX7_digit, Cond.selects RX7 yX7_digit yX7_digit, Cond.code yX7_digit cX7_digit 3 (some .int), Cond.methodLink RX7 94 yX7_isGood, Cond.instanceMethod yX7_isGood, Cond.selects RX7 yX7_isGood yX7_isGood, Cond.code yX7_isGood cX7_isGood 2 (some .boolean), Cond.fieldLink RX7 23 "LookBenchModel" "says" "[Z", Cond.fieldLink RX7 27 "LookBenchModel" "system" "I", Cond.methodLink RX7 76 yX7_settings, Cond.instanceMethod yX7_settings]
def wsX7_byOrder_r2 : List Cond := [Cond.selects RX7 yX7_settings yX7_settings, Cond.code yX7_settings cX7_settings 1 (some .int), Cond.methodLink RX7 127 yX7_orderNext, Cond.instanceMethod yX7_orderNext, Cond.selects RX7 yX7_orderNext yX7_orderNext, Cond.code yX7_orderNext cX7_orderNext 3 (some .int), Cond.fieldLink RX7 64 "LookBenchModel" "ordered" "I", Cond.fieldLink RX7 33 "LookBenchModel" "order" "[I"]
def wsX7_byOrder : List Cond := .code yX7_byOrder cX7_byOrder 6 (some .int) :: ((wsX7_byOrder_r1 ++ wsX7_byOrder_r2) ++ wsX70)
def wsX7_shown_r1 : List Cond := [Cond.fieldLink RX7 7 "LookBenchModel" "parts" "I", Cond.fieldLink RX7 52 "LookBenchModel" "three" "[I", Cond.fieldLink RX7 20 "LookBenchModel" "price" "[I", Cond.methodLink RX7 76 yX7_settings, Cond.instanceMethod yX7_settings, Cond.selects RX7 yX7_settings yX7_settings, Cond.initialized RX7, Cond.code yX7_settings cX7_settings 1 (some .int), Cond.methodLink RX7 102 yX7_digit, Cond.instanceMethod yX7_digit, Cond.selects RX7 yX7_digit yX7_digit, Cond.code yX7_digit cX7_digit 3 (some .int), Cond.methodLink RX7 112 yX7_sureAt, Cond.instanceMethod yX7_sureAt, Cond.selects RX7 yX7_sureAt yX7_sureAt, Cond.code yX7_sureAt cX7_sureAt 2 (some .int), Cond.methodLink RX7 106 yX7_setOf, Cond.instanceMethod yX7_setOf, Cond.selects RX7 yX7_setOf yX7_setOf, Cond.code yX7_setOf cX7_setOf 5 (some .int), Cond.methodLink RX7 94 yX7_isGood, Cond.instanceMethod yX7_isGood, Cond.selects RX7 yX7_isGood yX7_isGood, Cond.code yX7_isGood cX7_isGood 2 (some .boolean)]
def wsX7_shown_r2 : List Cond := [Cond.fieldLink RX7 23 "LookBenchModel" "says" "[Z", Cond.fieldLink RX7 27 "LookBenchModel" "system" "I"]
def wsX7_shown : List Cond := .code yX7_shown cX7_shown 9 (some .int) :: ((wsX7_shown_r1 ++ wsX7_shown_r2) ++ wsX70)
def wsX7_told_r1 : List Cond := [Cond.fieldLink RX7 27 "LookBenchModel" "system" "I", Cond.constantLong RX7 130 (8), Cond.constantLong RX7 132 (-2), Cond.constantLong RX7 134 (2), Cond.constantLong RX7 136 (5), Cond.fieldLink RX7 39 "LookBenchModel" "best" "[J", Cond.fieldLink RX7 43 "LookBenchModel" "bestNext" "[I", Cond.fieldLink RX7 46 "LookBenchModel" "worst" "[I", Cond.fieldLink RX7 49 "LookBenchModel" "worstNext" "[I", Cond.methodLink RX7 109 yX7_now, Cond.instanceMethod yX7_now, Cond.selects RX7 yX7_now yX7_now, Cond.initialized RX7, Cond.code yX7_now cX7_now 3 (some .int), Cond.fieldLink RX7 7 "LookBenchModel" "parts" "I", Cond.fieldLink RX7 52 "LookBenchModel" "three" "[I", Cond.fieldLink RX7 30 "LookBenchModel" "seen" "[I", Cond.methodLink RX7 123 yX7_left, Cond.instanceMethod yX7_left, Cond.selects RX7 yX7_left yX7_left, Cond.code yX7_left cX7_left 6 (some .long), Cond.fieldLink RX7 13 "LookBenchModel" "good" "[I", Cond.fieldLink RX7 17 "LookBenchModel" "bad" "[I", Cond.methodLink RX7 102 yX7_digit]
def wsX7_told_r2 : List Cond := [Cond.instanceMethod yX7_digit, Cond.selects RX7 yX7_digit yX7_digit, Cond.code yX7_digit cX7_digit 3 (some .int), Cond.methodLink RX7 55 yX7_in, Cond.static yX7_in, Cond.code yX7_in cX7_in 6 (some .boolean), Cond.methodLink RX7 138 yX7_plans, Cond.instanceMethod yX7_plans, Cond.selects RX7 yX7_plans yX7_plans, Cond.code yX7_plans cX7_plans 4 none, Cond.methodLink RX7 116 yX7_seenIn, Cond.instanceMethod yX7_seenIn, Cond.selects RX7 yX7_seenIn yX7_seenIn, Cond.code yX7_seenIn cX7_seenIn 4 (some .int), Cond.methodLink RX7 119 yX7_plan, Cond.instanceMethod yX7_plan, Cond.selects RX7 yX7_plan yX7_plan, Cond.code yX7_plan cX7_plan 10 none, Cond.fieldLink RX7 20 "LookBenchModel" "price" "[I", Cond.methodLink RX7 112 yX7_sureAt, Cond.instanceMethod yX7_sureAt, Cond.selects RX7 yX7_sureAt yX7_sureAt, Cond.code yX7_sureAt cX7_sureAt 2 (some .int), Cond.methodLink RX7 106 yX7_setOf]
def wsX7_told_r3 : List Cond := [Cond.instanceMethod yX7_setOf, Cond.selects RX7 yX7_setOf yX7_setOf, Cond.code yX7_setOf cX7_setOf 5 (some .int), Cond.methodLink RX7 94 yX7_isGood, Cond.instanceMethod yX7_isGood, Cond.selects RX7 yX7_isGood yX7_isGood, Cond.code yX7_isGood cX7_isGood 2 (some .boolean), Cond.fieldLink RX7 23 "LookBenchModel" "says" "[Z", Cond.methodLink RX7 76 yX7_settings, Cond.instanceMethod yX7_settings, Cond.selects RX7 yX7_settings yX7_settings, Cond.code yX7_settings cX7_settings 1 (some .int), Cond.methodLink RX7 141 yX7_isSuch, Cond.instanceMethod yX7_isSuch, Cond.selects RX7 yX7_isSuch yX7_isSuch, Cond.code yX7_isSuch cX7_isSuch 6 (some .boolean), Cond.methodLink RX7 144 yX7_weight, Cond.instanceMethod yX7_weight, Cond.selects RX7 yX7_weight yX7_weight, Cond.code yX7_weight cX7_weight 5 (some .long), Cond.methodLink RX7 147 yX7_shown, Cond.instanceMethod yX7_shown, Cond.selects RX7 yX7_shown yX7_shown, Cond.code yX7_shown cX7_shown 9 (some .int)]
def wsX7_told_r4 : List Cond := [Cond.methodLink RX7 150 yX7_byOrder, Cond.instanceMethod yX7_byOrder, Cond.selects RX7 yX7_byOrder yX7_byOrder, Cond.code yX7_byOrder cX7_byOrder 6 (some .int), Cond.methodLink RX7 127 yX7_orderNext, Cond.instanceMethod yX7_orderNext, Cond.selects RX7 yX7_orderNext yX7_orderNext, Cond.code yX7_orderNext cX7_orderNext 3 (some .int), Cond.fieldLink RX7 64 "LookBenchModel" "ordered" "I", Cond.fieldLink RX7 33 "LookBenchModel" "order" "[I"]
def wsX7_told : List Cond := .code yX7_told cX7_told 7 (some .long) :: ((wsX7_told_r1 ++ (wsX7_told_r2 ++ (wsX7_told_r3 ++ wsX7_told_r4))) ++ wsX70)
def wsX7_of_r1 : List Cond := [Cond.fieldLink RX7 30 "LookBenchModel" "seen" "[I", Cond.fieldLink RX7 27 "LookBenchModel" "system" "I", Cond.constantLong RX7 132 (-2), Cond.fieldLink RX7 39 "LookBenchModel" "best" "[J", Cond.fieldLink RX7 52 "LookBenchModel" "three" "[I", Cond.methodLink RX7 70 yX7_isPart, Cond.instanceMethod yX7_isPart, Cond.selects RX7 yX7_isPart yX7_isPart, Cond.initialized RX7, Cond.code yX7_isPart cX7_isPart 2 (some .boolean), Cond.fieldLink RX7 7 "LookBenchModel" "parts" "I", Cond.methodLink RX7 55 yX7_in, Cond.static yX7_in, Cond.code yX7_in cX7_in 6 (some .boolean), Cond.methodLink RX7 109 yX7_now, Cond.instanceMethod yX7_now, Cond.selects RX7 yX7_now yX7_now, Cond.code yX7_now cX7_now 3 (some .int), Cond.methodLink RX7 138 yX7_plans, Cond.instanceMethod yX7_plans, Cond.selects RX7 yX7_plans yX7_plans, Cond.code yX7_plans cX7_plans 4 none, Cond.methodLink RX7 116 yX7_seenIn, Cond.instanceMethod yX7_seenIn]
def wsX7_of_r2 : List Cond := [Cond.selects RX7 yX7_seenIn yX7_seenIn, Cond.code yX7_seenIn cX7_seenIn 4 (some .int), Cond.methodLink RX7 102 yX7_digit, Cond.instanceMethod yX7_digit, Cond.selects RX7 yX7_digit yX7_digit, Cond.code yX7_digit cX7_digit 3 (some .int), Cond.methodLink RX7 119 yX7_plan, Cond.instanceMethod yX7_plan, Cond.selects RX7 yX7_plan yX7_plan, Cond.code yX7_plan cX7_plan 10 none, Cond.fieldLink RX7 46 "LookBenchModel" "worst" "[I", Cond.fieldLink RX7 43 "LookBenchModel" "bestNext" "[I", Cond.fieldLink RX7 49 "LookBenchModel" "worstNext" "[I", Cond.fieldLink RX7 20 "LookBenchModel" "price" "[I", Cond.methodLink RX7 112 yX7_sureAt, Cond.instanceMethod yX7_sureAt, Cond.selects RX7 yX7_sureAt yX7_sureAt, Cond.code yX7_sureAt cX7_sureAt 2 (some .int), Cond.methodLink RX7 106 yX7_setOf, Cond.instanceMethod yX7_setOf, Cond.selects RX7 yX7_setOf yX7_setOf, Cond.code yX7_setOf cX7_setOf 5 (some .int), Cond.methodLink RX7 94 yX7_isGood, Cond.instanceMethod yX7_isGood]
def wsX7_of_r3 : List Cond := [Cond.selects RX7 yX7_isGood yX7_isGood, Cond.code yX7_isGood cX7_isGood 2 (some .boolean), Cond.fieldLink RX7 23 "LookBenchModel" "says" "[Z", Cond.methodLink RX7 76 yX7_settings, Cond.instanceMethod yX7_settings, Cond.selects RX7 yX7_settings yX7_settings, Cond.code yX7_settings cX7_settings 1 (some .int), Cond.methodLink RX7 123 yX7_left, Cond.instanceMethod yX7_left, Cond.selects RX7 yX7_left yX7_left, Cond.code yX7_left cX7_left 6 (some .long), Cond.fieldLink RX7 13 "LookBenchModel" "good" "[I", Cond.fieldLink RX7 17 "LookBenchModel" "bad" "[I", Cond.methodLink RX7 141 yX7_isSuch, Cond.instanceMethod yX7_isSuch, Cond.selects RX7 yX7_isSuch yX7_isSuch, Cond.code yX7_isSuch cX7_isSuch 6 (some .boolean), Cond.methodLink RX7 144 yX7_weight, Cond.instanceMethod yX7_weight, Cond.selects RX7 yX7_weight yX7_weight, Cond.code yX7_weight cX7_weight 5 (some .long)]
def wsX7_of : List Cond := .code yX7_of cX7_of 7 (some .long) :: ((wsX7_of_r1 ++ (wsX7_of_r2 ++ wsX7_of_r3)) ++ wsX70)
def wsX7_placeOf : List Cond := .code yX7_placeOf cX7_placeOf 4 (some .int) :: ([.fieldLink RX7 64 "LookBenchModel" "ordered" "I", .fieldLink RX7 33 "LookBenchModel" "order" "[I"] ++ wsX70)
def wsX7_order : List Cond := .code yX7_order cX7_order 2 (some .int) :: ([.fieldLink RX7 33 "LookBenchModel" "order" "[I", .fieldLink RX7 64 "LookBenchModel" "ordered" "I", .methodLink RX7 70 yX7_isPart, .instanceMethod yX7_isPart, .selects RX7 yX7_isPart yX7_isPart, .initialized RX7, .code yX7_isPart cX7_isPart 2 (some .boolean), .fieldLink RX7 7 "LookBenchModel" "parts" "I", .methodLink RX7 55 yX7_in, .static yX7_in, .code yX7_in cX7_in 6 (some .boolean), .methodLink RX7 153 yX7_placeOf, .instanceMethod yX7_placeOf, .selects RX7 yX7_placeOf yX7_placeOf, .code yX7_placeOf cX7_placeOf 4 (some .int)] ++ wsX70)
def wsX7_ratioUp : List Cond := .code yX7_ratioUp cX7_ratioUp 2 (some .int) :: ([.fieldLink RX7 20 "LookBenchModel" "price" "[I", .fieldLink RX7 13 "LookBenchModel" "good" "[I", .fieldLink RX7 17 "LookBenchModel" "bad" "[I"] ++ wsX70)
def wsX7_down : List Cond := .code yX7_down cX7_down 3 (some .int) :: ([.fieldLink RX7 13 "LookBenchModel" "good" "[I", .fieldLink RX7 17 "LookBenchModel" "bad" "[I"] ++ wsX70)
def wsX7_ratios : List Cond := .code yX7_ratios cX7_ratios 5 (some .int) :: ([.fieldLink RX7 64 "LookBenchModel" "ordered" "I", .fieldLink RX7 7 "LookBenchModel" "parts" "I", .fieldLink RX7 33 "LookBenchModel" "order" "[I", .methodLink RX7 153 yX7_placeOf, .instanceMethod yX7_placeOf, .selects RX7 yX7_placeOf yX7_placeOf, .initialized RX7, .code yX7_placeOf cX7_placeOf 4 (some .int), .methodLink RX7 156 yX7_ratioUp, .instanceMethod yX7_ratioUp, .selects RX7 yX7_ratioUp yX7_ratioUp, .code yX7_ratioUp cX7_ratioUp 2 (some .int), .fieldLink RX7 20 "LookBenchModel" "price" "[I", .fieldLink RX7 13 "LookBenchModel" "good" "[I", .fieldLink RX7 17 "LookBenchModel" "bad" "[I", .methodLink RX7 159 yX7_down, .instanceMethod yX7_down, .selects RX7 yX7_down yX7_down, .code yX7_down cX7_down 3 (some .int)] ++ wsX70)
def wsX7_ordered : List Cond := .code yX7_ordered cX7_ordered 2 (some .int) :: ([.fieldLink RX7 64 "LookBenchModel" "ordered" "I", .fieldLink RX7 33 "LookBenchModel" "order" "[I", .methodLink RX7 55 yX7_in, .static yX7_in, .initialized RX7, .code yX7_in cX7_in 6 (some .boolean)] ++ wsX70)
def wsX7_run_r1 : List Cond := [Cond.constantLong RX7 134 (2), Cond.fieldLink RX7 27 "LookBenchModel" "system" "I", Cond.fieldLink RX7 67 "LookBenchModel" "looks" "I", Cond.fieldLink RX7 43 "LookBenchModel" "bestNext" "[I", Cond.fieldLink RX7 49 "LookBenchModel" "worstNext" "[I", Cond.fieldLink RX7 36 "LookBenchModel" "looked" "[I", Cond.fieldLink RX7 20 "LookBenchModel" "price" "[I", Cond.fieldLink RX7 52 "LookBenchModel" "three" "[I", Cond.methodLink RX7 109 yX7_now, Cond.instanceMethod yX7_now, Cond.selects RX7 yX7_now yX7_now, Cond.initialized RX7, Cond.code yX7_now cX7_now 3 (some .int), Cond.fieldLink RX7 7 "LookBenchModel" "parts" "I", Cond.fieldLink RX7 30 "LookBenchModel" "seen" "[I", Cond.methodLink RX7 55 yX7_in, Cond.static yX7_in, Cond.code yX7_in cX7_in 6 (some .boolean), Cond.methodLink RX7 76 yX7_settings, Cond.instanceMethod yX7_settings, Cond.selects RX7 yX7_settings yX7_settings, Cond.code yX7_settings cX7_settings 1 (some .int), Cond.methodLink RX7 141 yX7_isSuch, Cond.instanceMethod yX7_isSuch]
def wsX7_run_r2 : List Cond := [Cond.selects RX7 yX7_isSuch yX7_isSuch, Cond.code yX7_isSuch cX7_isSuch 6 (some .boolean), Cond.methodLink RX7 102 yX7_digit, Cond.instanceMethod yX7_digit, Cond.selects RX7 yX7_digit yX7_digit, Cond.code yX7_digit cX7_digit 3 (some .int), Cond.methodLink RX7 138 yX7_plans, Cond.instanceMethod yX7_plans, Cond.selects RX7 yX7_plans yX7_plans, Cond.code yX7_plans cX7_plans 4 none, Cond.methodLink RX7 116 yX7_seenIn, Cond.instanceMethod yX7_seenIn, Cond.selects RX7 yX7_seenIn yX7_seenIn, Cond.code yX7_seenIn cX7_seenIn 4 (some .int), Cond.methodLink RX7 119 yX7_plan, Cond.instanceMethod yX7_plan, Cond.selects RX7 yX7_plan yX7_plan, Cond.code yX7_plan cX7_plan 10 none, Cond.fieldLink RX7 39 "LookBenchModel" "best" "[J", Cond.fieldLink RX7 46 "LookBenchModel" "worst" "[I", Cond.methodLink RX7 112 yX7_sureAt, Cond.instanceMethod yX7_sureAt, Cond.selects RX7 yX7_sureAt yX7_sureAt, Cond.code yX7_sureAt cX7_sureAt 2 (some .int)]
def wsX7_run_r3 : List Cond := [Cond.methodLink RX7 106 yX7_setOf, Cond.instanceMethod yX7_setOf, Cond.selects RX7 yX7_setOf yX7_setOf, Cond.code yX7_setOf cX7_setOf 5 (some .int), Cond.methodLink RX7 94 yX7_isGood, Cond.instanceMethod yX7_isGood, Cond.selects RX7 yX7_isGood yX7_isGood, Cond.code yX7_isGood cX7_isGood 2 (some .boolean), Cond.fieldLink RX7 23 "LookBenchModel" "says" "[Z", Cond.methodLink RX7 123 yX7_left, Cond.instanceMethod yX7_left, Cond.selects RX7 yX7_left yX7_left, Cond.code yX7_left cX7_left 6 (some .long), Cond.fieldLink RX7 13 "LookBenchModel" "good" "[I", Cond.fieldLink RX7 17 "LookBenchModel" "bad" "[I", Cond.methodLink RX7 127 yX7_orderNext, Cond.instanceMethod yX7_orderNext, Cond.selects RX7 yX7_orderNext yX7_orderNext, Cond.code yX7_orderNext cX7_orderNext 3 (some .int), Cond.fieldLink RX7 64 "LookBenchModel" "ordered" "I", Cond.fieldLink RX7 33 "LookBenchModel" "order" "[I"]
def wsX7_run : List Cond := .code yX7_run cX7_run 6 (some .int) :: ((wsX7_run_r1 ++ (wsX7_run_r2 ++ wsX7_run_r3)) ++ wsX70)
def wsX7_looked : List Cond := .code yX7_looked cX7_looked 2 (some .int) :: ([.fieldLink RX7 67 "LookBenchModel" "looks" "I", .fieldLink RX7 36 "LookBenchModel" "looked" "[I", .methodLink RX7 55 yX7_in, .static yX7_in, .initialized RX7, .code yX7_in cX7_in 6 (some .boolean)] ++ wsX70)
def wsX7_about : List Cond := .code yX7_about cX7_about 2 (some .int) :: ([.fieldLink RX7 7 "LookBenchModel" "parts" "I", .fieldLink RX7 59 "LookBenchModel" "rules" "I", .fieldLink RX7 27 "LookBenchModel" "system" "I", .fieldLink RX7 64 "LookBenchModel" "ordered" "I", .fieldLink RX7 67 "LookBenchModel" "looks" "I"] ++ wsX70)
def wsJ9_max_7cf53 : List Cond := .code yJ9_max_7cf53 cJ9_max_7cf53 2 (some .int) :: ([])
def wsJ9_min_7cf53 : List Cond := .code yJ9_min_7cf53 cJ9_min_7cf53 2 (some .int) :: ([])
def wsL_law_r1 : List Cond := [Cond.classLink RL 7 RX6, Cond.instantiable RX6 6, Cond.initialized RX6, Cond.classLink RL 10 RX7, Cond.instantiable RX7 17, Cond.initialized RX7, Cond.constantLong RL 37 (4294967295), Cond.methodLink RL 9 yX6_init, Cond.instanceMethod yX6_init, Cond.code yX6_init cX6_init 1 none, Cond.methodLink RX6 1 objectInit, Cond.instanceMethod objectInit, Cond.code objectInit ⟨#[0xb1]⟩ 1 none, Cond.classLink RX6 7 RX4, Cond.instantiable RX4 6, Cond.initialized RX4, Cond.fieldLink RX6 10 "LookBench" "shelf" "LLookBench$Shelf;", Cond.classLink RX6 16 RX3, Cond.instantiable RX3 5, Cond.initialized RX3, Cond.fieldLink RX6 19 "LookBench" "rules" "LLookBench$Rules;", Cond.classLink RX6 23 RX2, Cond.instantiable RX2 2, Cond.initialized RX2]
def wsL_law_r2 : List Cond := [Cond.fieldLink RX6 26 "LookBench" "queue" "LLookBench$Queue;", Cond.classLink RX6 30 RX1, Cond.instantiable RX1 7, Cond.initialized RX1, Cond.fieldLink RX6 35 "LookBench" "plans" "LLookBench$Plans;", Cond.classLink RX6 39 RX0, Cond.instantiable RX0 3, Cond.initialized RX0, Cond.fieldLink RX6 44 "LookBench" "bounds" "LLookBench$Bounds;", Cond.classLink RX6 48 RX5, Cond.instantiable RX5 2, Cond.initialized RX5, Cond.fieldLink RX6 51 "LookBench" "trail" "LLookBench$Trail;", Cond.methodLink RX6 9 yX4_init, Cond.instanceMethod yX4_init, Cond.code yX4_init cX4_init 1 none, Cond.methodLink RX4 3 objectInit, Cond.arrayClass .int, Cond.fieldLink RX4 9 "LookBench$Shelf" "goods" "[I", Cond.fieldLink RX4 15 "LookBench$Shelf" "bads" "[I", Cond.fieldLink RX4 18 "LookBench$Shelf" "prices" "[I", Cond.methodLink RX4 21 yX4_lay, Cond.instanceMethod yX4_lay, Cond.selects RX4 yX4_lay yX4_lay]
def wsL_law_r3 : List Cond := [Cond.code yX4_lay cX4_lay 3 none, Cond.fieldLink RX4 25 "LookBench$Shelf" "count" "I", Cond.fieldLink RX4 29 "LookBench$Shelf" "seen" "I", Cond.fieldLink RX4 32 "LookBench$Shelf" "seenGood" "I", Cond.methodLink RX4 35 yX4_change, Cond.instanceMethod yX4_change, Cond.selects RX4 yX4_change yX4_change, Cond.code yX4_change cX4_change 5 none, Cond.methodLink RX6 18 yX3_init, Cond.instanceMethod yX3_init, Cond.code yX3_init cX3_init 1 none, Cond.methodLink RX3 3 objectInit, Cond.arrayClass .long, Cond.fieldLink RX3 11 "LookBench$Rules" "words" "[J", Cond.fieldLink RX3 15 "LookBench$Rules" "worth" "[I", Cond.methodLink RX3 19 yX3_begin, Cond.instanceMethod yX3_begin, Cond.selects RX3 yX3_begin yX3_begin, Cond.code yX3_begin cX3_begin 2 none, Cond.fieldLink RX3 23 "LookBench$Rules" "parts" "I", Cond.fieldLink RX3 27 "LookBench$Rules" "count" "I", Cond.fieldLink RX3 30 "LookBench$Rules" "system" "I", Cond.instanceMethod yX2_init, Cond.code yX2_init cX2_init 1 none]
def wsL_law_r4 : List Cond := [Cond.methodLink RX2 3 objectInit, Cond.fieldLink RX2 9 "LookBench$Queue" "row" "[I", Cond.methodLink RX6 32 yX1_init, Cond.instanceMethod yX1_init, Cond.code yX1_init cX1_init 4 none, Cond.methodLink RX1 3 objectInit, Cond.fieldLink RX1 9 "LookBench$Plans" "open" "[I", Cond.fieldLink RX1 15 "LookBench$Plans" "best" "[J", Cond.fieldLink RX1 19 "LookBench$Plans" "worst" "[I", Cond.fieldLink RX1 22 "LookBench$Plans" "shelf" "LLookBench$Shelf;", Cond.fieldLink RX1 26 "LookBench$Plans" "rules" "LLookBench$Rules;", Cond.fieldLink RX1 30 "LookBench$Plans" "queue" "LLookBench$Queue;", Cond.methodLink RX6 41 yX0_init, Cond.instanceMethod yX0_init, Cond.code yX0_init cX0_init 3 none, Cond.methodLink RX0 3 objectInit, Cond.fieldLink RX0 9 "LookBench$Bounds" "leastPrice" "[I", Cond.fieldLink RX0 15 "LookBench$Bounds" "shelf" "LLookBench$Shelf;", Cond.fieldLink RX0 19 "LookBench$Bounds" "rules" "LLookBench$Rules;", Cond.instanceMethod yX5_init, Cond.code yX5_init cX5_init 1 none, Cond.methodLink RX5 3 objectInit, Cond.fieldLink RX5 9 "LookBench$Trail" "looks" "[I", Cond.methodLink RL 12 yX7_init]
def wsL_law_r5 : List Cond := [Cond.instanceMethod yX7_init, Cond.code yX7_init cX7_init 1 none, Cond.methodLink RX7 1 objectInit, Cond.fieldLink RX7 7 "LookBenchModel" "parts" "I", Cond.fieldLink RX7 13 "LookBenchModel" "good" "[I", Cond.fieldLink RX7 17 "LookBenchModel" "bad" "[I", Cond.fieldLink RX7 20 "LookBenchModel" "price" "[I", Cond.arrayClass .boolean, Cond.fieldLink RX7 23 "LookBenchModel" "says" "[Z", Cond.fieldLink RX7 27 "LookBenchModel" "system" "I", Cond.fieldLink RX7 30 "LookBenchModel" "seen" "[I", Cond.fieldLink RX7 33 "LookBenchModel" "order" "[I", Cond.fieldLink RX7 36 "LookBenchModel" "looked" "[I", Cond.fieldLink RX7 39 "LookBenchModel" "best" "[J", Cond.fieldLink RX7 43 "LookBenchModel" "bestNext" "[I", Cond.fieldLink RX7 46 "LookBenchModel" "worst" "[I", Cond.fieldLink RX7 49 "LookBenchModel" "worstNext" "[I", Cond.fieldLink RX7 52 "LookBenchModel" "three" "[I", Cond.methodLink RL 13 yX6_parts, Cond.instanceMethod yX6_parts, Cond.selects RX6 yX6_parts yX6_parts, Cond.code yX6_parts cX6_parts 2 (some .boolean), Cond.methodLink RX6 55 yX4_lay, Cond.methodLink RX6 59 yX3_begin]
def wsL_law_r6 : List Cond := [Cond.methodLink RX6 62 yX2_clear, Cond.instanceMethod yX2_clear, Cond.selects RX2 yX2_clear yX2_clear, Cond.code yX2_clear cX2_clear 1 none, Cond.fieldLink RX2 15 "LookBench$Queue" "count" "I", Cond.methodLink RX6 65 yX1_forget, Cond.instanceMethod yX1_forget, Cond.selects RX1 yX1_forget yX1_forget, Cond.code yX1_forget cX1_forget 1 none, Cond.fieldLink RX1 34 "LookBench$Plans" "fresh" "Z", Cond.methodLink RL 17 yX7_parts, Cond.instanceMethod yX7_parts, Cond.selects RX7 yX7_parts yX7_parts, Cond.code yX7_parts cX7_parts 3 (some .boolean), Cond.constantLong RX7 62 (9), Cond.fieldLink RX7 59 "LookBenchModel" "rules" "I", Cond.fieldLink RX7 64 "LookBenchModel" "ordered" "I", Cond.fieldLink RX7 67 "LookBenchModel" "looks" "I", Cond.methodLink RX7 55 yX7_in, Cond.static yX7_in, Cond.code yX7_in cX7_in 6 (some .boolean), Cond.methodLink RL 18 yX6_part, Cond.instanceMethod yX6_part, Cond.selects RX6 yX6_part yX6_part]
def wsL_law_r7 : List Cond := [Cond.code yX6_part cX6_part 5 (some .boolean), Cond.methodLink RX6 68 yX4_has, Cond.instanceMethod yX4_has, Cond.selects RX4 yX4_has yX4_has, Cond.code yX4_has cX4_has 2 (some .boolean), Cond.methodLink RX6 72 yX4_change, Cond.methodLink RL 22 yX7_part, Cond.instanceMethod yX7_part, Cond.selects RX7 yX7_part yX7_part, Cond.code yX7_part cX7_part 5 (some .boolean), Cond.constantLong RX7 74 (1000), Cond.methodLink RX7 70 yX7_isPart, Cond.instanceMethod yX7_isPart, Cond.selects RX7 yX7_isPart yX7_isPart, Cond.code yX7_isPart cX7_isPart 2 (some .boolean), Cond.methodLink RL 23 yX6_single, Cond.instanceMethod yX6_single, Cond.selects RX6 yX6_single yX6_single, Cond.code yX6_single cX6_single 2 (some .int), Cond.methodLink RX6 76 yX3_hasRoom, Cond.instanceMethod yX3_hasRoom, Cond.selects RX3 yX3_hasRoom yX3_hasRoom, Cond.code yX3_hasRoom cX3_hasRoom 1 (some .boolean), Cond.methodLink RX6 80 yX3_addSingle]
def wsL_law_r8 : List Cond := [Cond.instanceMethod yX3_addSingle, Cond.selects RX3 yX3_addSingle yX3_addSingle, Cond.code yX3_addSingle cX3_addSingle 3 (some .int), Cond.methodLink RX3 44 yX3_wipe, Cond.instanceMethod yX3_wipe, Cond.selects RX3 yX3_wipe yX3_wipe, Cond.code yX3_wipe cX3_wipe 2 none, Cond.methodLink RX3 47 yX3_mark, Cond.instanceMethod yX3_mark, Cond.selects RX3 yX3_mark yX3_mark, Cond.code yX3_mark cX3_mark 2 none, Cond.methodLink RL 27 yX7_single, Cond.instanceMethod yX7_single, Cond.selects RX7 yX7_single yX7_single, Cond.code yX7_single cX7_single 3 (some .int), Cond.methodLink RX7 76 yX7_settings, Cond.instanceMethod yX7_settings, Cond.selects RX7 yX7_settings yX7_settings, Cond.code yX7_settings cX7_settings 1 (some .int), Cond.methodLink RX7 80 yX7_added, Cond.instanceMethod yX7_added, Cond.selects RX7 yX7_added yX7_added, Cond.code yX7_added cX7_added 1 (some .int), Cond.methodLink RL 28 yX6_row]
def wsL_law_r9 : List Cond := [Cond.instanceMethod yX6_row, Cond.selects RX6 yX6_row yX6_row, Cond.code yX6_row cX6_row 3 (some .int), Cond.methodLink RX6 84 yX3_has, Cond.instanceMethod yX3_has, Cond.selects RX3 yX3_has yX3_has, Cond.code yX3_has cX3_has 2 (some .boolean), Cond.methodLink RX6 85 yX3_addRow, Cond.instanceMethod yX3_addRow, Cond.selects RX3 yX3_addRow yX3_addRow, Cond.code yX3_addRow cX3_addRow 4 (some .int), Cond.methodLink RL 32 yX7_row, Cond.instanceMethod yX7_row, Cond.selects RX7 yX7_row yX7_row, Cond.code yX7_row cX7_row 4 (some .int), Cond.methodLink RX7 83 yX7_isRule, Cond.instanceMethod yX7_isRule, Cond.selects RX7 yX7_isRule yX7_isRule, Cond.code yX7_isRule cX7_isRule 2 (some .boolean), Cond.methodLink RL 33 yX6_side, Cond.instanceMethod yX6_side, Cond.selects RX6 yX6_side yX6_side, Cond.code yX6_side cX6_side 3 (some .int), Cond.methodLink RX6 89 yX3_addSide]
def wsL_law_r10 : List Cond := [Cond.instanceMethod yX3_addSide, Cond.selects RX3 yX3_addSide yX3_addSide, Cond.code yX3_addSide cX3_addSide 4 (some .int), Cond.methodLink RL 36 yX7_side, Cond.instanceMethod yX7_side, Cond.selects RX7 yX7_side yX7_side, Cond.code yX7_side cX7_side 4 (some .int), Cond.methodLink RL 39 yX6_some, Cond.instanceMethod yX6_some, Cond.selects RX6 yX6_some yX6_some, Cond.code yX6_some cX6_some 6 (some .int), Cond.methodLink RX6 92 yX4_hasSet, Cond.instanceMethod yX4_hasSet, Cond.selects RX4 yX4_hasSet yX4_hasSet, Cond.code yX4_hasSet cX4_hasSet 2 (some .boolean), Cond.methodLink RX6 95 yX3_addSome, Cond.instanceMethod yX3_addSome, Cond.selects RX3 yX3_addSome yX3_addSome, Cond.code yX3_addSome cX3_addSome 7 (some .int), Cond.methodLink RX3 50 yX3_shareWorths, Cond.instanceMethod yX3_shareWorths, Cond.selects RX3 yX3_shareWorths yX3_shareWorths, Cond.code yX3_shareWorths cX3_shareWorths 10 none, Cond.methodLink RX3 54 yX3_worthOf]
def wsL_law_r11 : List Cond := [Cond.instanceMethod yX3_worthOf, Cond.selects RX3 yX3_worthOf yX3_worthOf, Cond.code yX3_worthOf cX3_worthOf 4 (some .int), Cond.methodLink RL 43 yX7_some, Cond.instanceMethod yX7_some, Cond.selects RX7 yX7_some yX7_some, Cond.code yX7_some cX7_some 11 (some .int), Cond.constantLong RX7 86 (3), Cond.constantLong RX7 88 (100), Cond.methodLink RL 44 yX6_dual, Cond.instanceMethod yX6_dual, Cond.selects RX6 yX6_dual yX6_dual, Cond.code yX6_dual cX6_dual 2 (some .int), Cond.methodLink RX6 99 yX3_addDual, Cond.instanceMethod yX3_addDual, Cond.selects RX3 yX3_addDual yX3_addDual, Cond.code yX3_addDual cX3_addDual 4 (some .int), Cond.methodLink RX3 37 yX3_isGood, Cond.instanceMethod yX3_isGood, Cond.selects RX3 yX3_isGood yX3_isGood, Cond.code yX3_isGood cX3_isGood 3 (some .boolean), Cond.methodLink RL 47 yX7_dual, Cond.instanceMethod yX7_dual, Cond.selects RX7 yX7_dual yX7_dual]
def wsL_law_r12 : List Cond := [Cond.code yX7_dual cX7_dual 3 (some .int), Cond.methodLink RL 48 yX6_system, Cond.instanceMethod yX6_system, Cond.selects RX6 yX6_system yX6_system, Cond.code yX6_system cX6_system 2 (some .boolean), Cond.methodLink RL 51 yX7_system, Cond.instanceMethod yX7_system, Cond.selects RX7 yX7_system yX7_system, Cond.code yX7_system cX7_system 2 (some .boolean), Cond.methodLink RL 52 yX6_says, Cond.instanceMethod yX6_says, Cond.selects RX6 yX6_says yX6_says, Cond.code yX6_says cX6_says 3 (some .int), Cond.methodLink RX6 106 yX3_isGood, Cond.methodLink RL 55 yX7_says, Cond.instanceMethod yX7_says, Cond.selects RX7 yX7_says yX7_says, Cond.code yX7_says cX7_says 3 (some .int), Cond.methodLink RL 56 yX6_differ, Cond.instanceMethod yX6_differ, Cond.selects RX6 yX6_differ yX6_differ, Cond.code yX6_differ cX6_differ 3 (some .int), Cond.methodLink RX6 110 yX3_firstUnlike, Cond.instanceMethod yX3_firstUnlike]
def wsL_law_r13 : List Cond := [Cond.selects RX3 yX3_firstUnlike yX3_firstUnlike, Cond.code yX3_firstUnlike cX3_firstUnlike 4 (some .int), Cond.methodLink RL 59 yX7_differ, Cond.instanceMethod yX7_differ, Cond.selects RX7 yX7_differ yX7_differ, Cond.code yX7_differ cX7_differ 4 (some .int), Cond.methodLink RL 60 yX6_sets, Cond.instanceMethod yX6_sets, Cond.selects RX6 yX6_sets yX6_sets, Cond.code yX6_sets cX6_sets 2 (some .int), Cond.methodLink RX6 113 yX3_hasSystem, Cond.instanceMethod yX3_hasSystem, Cond.selects RX3 yX3_hasSystem yX3_hasSystem, Cond.code yX3_hasSystem cX3_hasSystem 1 (some .boolean), Cond.methodLink RX3 33 yX3_has, Cond.methodLink RX6 116 yX3_countLeast, Cond.instanceMethod yX3_countLeast, Cond.selects RX3 yX3_countLeast yX3_countLeast, Cond.code yX3_countLeast cX3_countLeast 4 (some .int), Cond.methodLink RX3 58 yX3_isLeast, Cond.instanceMethod yX3_isLeast, Cond.selects RX3 yX3_isLeast yX3_isLeast, Cond.code yX3_isLeast cX3_isLeast 4 (some .boolean), Cond.methodLink RX3 62 yX3_settles]
def wsL_law_r14 : List Cond := [Cond.instanceMethod yX3_settles, Cond.selects RX3 yX3_settles yX3_settles, Cond.code yX3_settles cX3_settles 4 (some .boolean), Cond.methodLink RX3 41 yX3_isSystemGood, Cond.instanceMethod yX3_isSystemGood, Cond.selects RX3 yX3_isSystemGood yX3_isSystemGood, Cond.code yX3_isSystemGood cX3_isSystemGood 2 (some .boolean), Cond.methodLink RL 63 yX7_sets, Cond.instanceMethod yX7_sets, Cond.selects RX7 yX7_sets yX7_sets, Cond.code yX7_sets cX7_sets 4 (some .int), Cond.methodLink RX7 97 yX7_isLeast, Cond.instanceMethod yX7_isLeast, Cond.selects RX7 yX7_isLeast yX7_isLeast, Cond.code yX7_isLeast cX7_isLeast 5 (some .boolean), Cond.methodLink RX7 90 yX7_isEnough, Cond.instanceMethod yX7_isEnough, Cond.selects RX7 yX7_isEnough yX7_isEnough, Cond.code yX7_isEnough cX7_isEnough 3 (some .boolean), Cond.methodLink RX7 94 yX7_isGood, Cond.instanceMethod yX7_isGood, Cond.selects RX7 yX7_isGood yX7_isGood, Cond.code yX7_isGood cX7_isGood 2 (some .boolean), Cond.methodLink RL 64 yX6_set]
def wsL_law_r15 : List Cond := [Cond.instanceMethod yX6_set, Cond.selects RX6 yX6_set yX6_set, Cond.code yX6_set cX6_set 3 (some .int), Cond.methodLink RX6 120 yX3_findLeast, Cond.instanceMethod yX3_findLeast, Cond.selects RX3 yX3_findLeast yX3_findLeast, Cond.code yX3_findLeast cX3_findLeast 5 (some .int), Cond.methodLink RL 67 yX7_set, Cond.instanceMethod yX7_set, Cond.selects RX7 yX7_set yX7_set, Cond.code yX7_set cX7_set 5 (some .int), Cond.methodLink RL 68 yX6_see, Cond.instanceMethod yX6_see, Cond.selects RX6 yX6_see yX6_see, Cond.code yX6_see cX6_see 3 (some .boolean), Cond.methodLink RX6 124 yX4_note, Cond.instanceMethod yX4_note, Cond.selects RX4 yX4_note yX4_note, Cond.code yX4_note cX4_note 4 none, Cond.methodLink RL 72 yX7_see, Cond.instanceMethod yX7_see, Cond.selects RX7 yX7_see yX7_see, Cond.code yX7_see cX7_see 3 (some .boolean), Cond.constantLong RX7 100 (-1)]
def wsL_law_r16 : List Cond := [Cond.methodLink RL 73 yX6_partOf, Cond.instanceMethod yX6_partOf, Cond.selects RX6 yX6_partOf yX6_partOf, Cond.code yX6_partOf cX6_partOf 3 (some .int), Cond.methodLink RX6 138 yX4_noted, Cond.instanceMethod yX4_noted, Cond.selects RX4 yX4_noted yX4_noted, Cond.code yX4_noted cX4_noted 2 (some .int), Cond.methodLink RL 76 yX7_partOf, Cond.instanceMethod yX7_partOf, Cond.selects RX7 yX7_partOf yX7_partOf, Cond.code yX7_partOf cX7_partOf 3 (some .int), Cond.methodLink RL 77 yX6_sure, Cond.instanceMethod yX6_sure, Cond.selects RX6 yX6_sure yX6_sure, Cond.code yX6_sure cX6_sure 1 (some .int), Cond.methodLink RX6 144 yX4_unseen, Cond.instanceMethod yX4_unseen, Cond.selects RX4 yX4_unseen yX4_unseen, Cond.code yX4_unseen cX4_unseen 1 (some .int), Cond.methodLink RX6 148 yX3_verdict, Cond.instanceMethod yX3_verdict, Cond.selects RX3 yX3_verdict yX3_verdict, Cond.code yX3_verdict cX3_verdict 3 (some .int)]
def wsL_law_r17 : List Cond := [Cond.methodLink RL 81 yX7_sure, Cond.instanceMethod yX7_sure, Cond.selects RX7 yX7_sure yX7_sure, Cond.code yX7_sure cX7_sure 1 (some .int), Cond.methodLink RX7 109 yX7_now, Cond.instanceMethod yX7_now, Cond.selects RX7 yX7_now yX7_now, Cond.code yX7_now cX7_now 3 (some .int), Cond.methodLink RX7 112 yX7_sureAt, Cond.instanceMethod yX7_sureAt, Cond.selects RX7 yX7_sureAt yX7_sureAt, Cond.code yX7_sureAt cX7_sureAt 2 (some .int), Cond.methodLink RX7 106 yX7_setOf, Cond.instanceMethod yX7_setOf, Cond.selects RX7 yX7_setOf yX7_setOf, Cond.code yX7_setOf cX7_setOf 5 (some .int), Cond.methodLink RX7 102 yX7_digit, Cond.instanceMethod yX7_digit, Cond.selects RX7 yX7_digit yX7_digit, Cond.code yX7_digit cX7_digit 3 (some .int), Cond.methodLink RL 82 yX6_told, Cond.instanceMethod yX6_told, Cond.selects RX6 yX6_told yX6_told, Cond.code yX6_told cX6_told 4 (some .long)]
def wsL_law_r18 : List Cond := [Cond.constantLong RX6 158 (-2), Cond.methodLink RX6 154 yX4_left, Cond.instanceMethod yX4_left, Cond.selects RX4 yX4_left yX4_left, Cond.code yX4_left cX4_left 6 (some .long), Cond.methodLink RX6 160 yX0_goodWeights, Cond.instanceMethod yX0_goodWeights, Cond.selects RX0 yX0_goodWeights yX0_goodWeights, Cond.code yX0_goodWeights cX0_goodWeights 4 (some .long), Cond.methodLink RX0 29 yX4_fits, Cond.instanceMethod yX4_fits, Cond.selects RX4 yX4_fits yX4_fits, Cond.code yX4_fits cX4_fits 2 (some .boolean), Cond.methodLink RX0 33 yX3_isSystemGood, Cond.methodLink RX0 38 yX4_weight, Cond.instanceMethod yX4_weight, Cond.selects RX4 yX4_weight yX4_weight, Cond.code yX4_weight cX4_weight 2 (some .long), Cond.methodLink RX4 39 yX4_left, Cond.methodLink RX6 164 yX1_bestMean, Cond.instanceMethod yX1_bestMean, Cond.selects RX1 yX1_bestMean yX1_bestMean, Cond.code yX1_bestMean cX1_bestMean 3 (some .long), Cond.methodLink RX1 38 yX1_prepare]
def wsL_law_r19 : List Cond := [Cond.instanceMethod yX1_prepare, Cond.selects RX1 yX1_prepare yX1_prepare, Cond.code yX1_prepare cX1_prepare 3 none, Cond.fieldLink RX1 54 "LookBench$Plans" "THREES" "[I", Cond.methodLink RX1 60 yX3_verdict, Cond.methodLink RX1 107 yX1_fillSure, Cond.instanceMethod yX1_fillSure, Cond.selects RX1 yX1_fillSure yX1_fillSure, Cond.code yX1_fillSure cX1_fillSure 4 none, Cond.methodLink RX1 111 yX1_fill, Cond.instanceMethod yX1_fill, Cond.selects RX1 yX1_fill yX1_fill, Cond.code yX1_fill cX1_fill 11 none, Cond.methodLink RX1 115 yX1_settle, Cond.instanceMethod yX1_settle, Cond.selects RX1 yX1_settle yX1_settle, Cond.code yX1_settle cX1_settle 18 none, Cond.constantLong RX1 131 (9223372036854775807), Cond.constant RX1 135 (2147483647), Cond.methodLink RX1 119 yX3_isSystemGood, Cond.methodLink RX1 41 yX1_stateOf, Cond.instanceMethod yX1_stateOf, Cond.selects RX1 yX1_stateOf yX1_stateOf, Cond.code yX1_stateOf cX1_stateOf 5 (some .int)]
def wsL_law_r20 : List Cond := [Cond.methodLink RX6 167 yX1_next, Cond.instanceMethod yX1_next, Cond.selects RX1 yX1_next yX1_next, Cond.code yX1_next cX1_next 6 (some .int), Cond.methodLink RX1 65 yX2_firstOutside, Cond.instanceMethod yX2_firstOutside, Cond.selects RX2 yX2_firstOutside yX2_firstOutside, Cond.code yX2_firstOutside cX2_firstOutside 4 (some .int), Cond.methodLink RX1 70 yX4_left, Cond.methodLink RX1 74 yX1_nextOfBest, Cond.instanceMethod yX1_nextOfBest, Cond.selects RX1 yX1_nextOfBest yX1_nextOfBest, Cond.code yX1_nextOfBest cX1_nextOfBest 6 (some .int), Cond.methodLink RX1 100 yX1_meanFrom, Cond.instanceMethod yX1_meanFrom, Cond.selects RX1 yX1_meanFrom yX1_meanFrom, Cond.code yX1_meanFrom cX1_meanFrom 5 (some .long), Cond.methodLink RX1 78 yX1_nextOfWorst, Cond.instanceMethod yX1_nextOfWorst, Cond.selects RX1 yX1_nextOfWorst yX1_nextOfWorst, Cond.code yX1_nextOfWorst cX1_nextOfWorst 4 (some .int), Cond.methodLink RX1 104 yX1_worstFrom, Cond.instanceMethod yX1_worstFrom, Cond.selects RX1 yX1_worstFrom yX1_worstFrom]
def wsL_law_r21 : List Cond := [Cond.code yX1_worstFrom cX1_worstFrom 3 (some .int), Cond.methodLink RX1 95 Lib.Math.max.name, Cond.static Lib.Math.max.name, Cond.initialized "java/lang/Math", Cond.code Lib.Math.max.name Lib.Math.max.code 2 (some .int), Cond.methodLink RX6 171 yX1_worstPrice, Cond.instanceMethod yX1_worstPrice, Cond.selects RX1 yX1_worstPrice yX1_worstPrice, Cond.code yX1_worstPrice cX1_worstPrice 3 (some .int), Cond.methodLink RX6 174 yX0_bound, Cond.instanceMethod yX0_bound, Cond.selects RX0 yX0_bound yX0_bound, Cond.code yX0_bound cX0_bound 1 (some .long), Cond.methodLink RX0 42 yX0_boundOfSide, Cond.instanceMethod yX0_boundOfSide, Cond.selects RX0 yX0_boundOfSide yX0_boundOfSide, Cond.code yX0_boundOfSide cX0_boundOfSide 7 (some .long), Cond.methodLink RX0 46 yX3_settles, Cond.methodLink RX0 50 yX0_leastProof, Cond.instanceMethod yX0_leastProof, Cond.selects RX0 yX0_leastProof yX0_leastProof, Cond.code yX0_leastProof cX0_leastProof 7 (some .int), Cond.methodLink RX0 62 Lib.Math.min.name, Cond.static Lib.Math.min.name]
def wsL_law_r22 : List Cond := [Cond.code Lib.Math.min.name Lib.Math.min.code 2 (some .int), Cond.methodLink RX0 54 yX4_unseen, Cond.methodLink RX0 58 yX4_priceOfSet, Cond.instanceMethod yX4_priceOfSet, Cond.selects RX4 yX4_priceOfSet yX4_priceOfSet, Cond.code yX4_priceOfSet cX4_priceOfSet 4 (some .int), Cond.methodLink RX6 177 yX1_orderMean, Cond.instanceMethod yX1_orderMean, Cond.selects RX1 yX1_orderMean yX1_orderMean, Cond.code yX1_orderMean cX1_orderMean 1 (some .long), Cond.methodLink RX1 81 yX1_orderMeanFrom, Cond.instanceMethod yX1_orderMeanFrom, Cond.selects RX1 yX1_orderMeanFrom yX1_orderMeanFrom, Cond.code yX1_orderMeanFrom cX1_orderMeanFrom 7 (some .long), Cond.methodLink RX1 89 yX1_next, Cond.methodLink RX6 180 yX1_orderWorst, Cond.instanceMethod yX1_orderWorst, Cond.selects RX1 yX1_orderWorst yX1_orderWorst, Cond.code yX1_orderWorst cX1_orderWorst 1 (some .int), Cond.methodLink RX1 85 yX1_orderWorstFrom, Cond.instanceMethod yX1_orderWorstFrom, Cond.selects RX1 yX1_orderWorstFrom yX1_orderWorstFrom, Cond.code yX1_orderWorstFrom cX1_orderWorstFrom 7 (some .int), Cond.methodLink RL 86 yX7_told]
def wsL_law_r23 : List Cond := [Cond.instanceMethod yX7_told, Cond.selects RX7 yX7_told yX7_told, Cond.code yX7_told cX7_told 7 (some .long), Cond.constantLong RX7 130 (8), Cond.constantLong RX7 132 (-2), Cond.constantLong RX7 134 (2), Cond.constantLong RX7 136 (5), Cond.methodLink RX7 123 yX7_left, Cond.instanceMethod yX7_left, Cond.selects RX7 yX7_left yX7_left, Cond.code yX7_left cX7_left 6 (some .long), Cond.methodLink RX7 138 yX7_plans, Cond.instanceMethod yX7_plans, Cond.selects RX7 yX7_plans yX7_plans, Cond.code yX7_plans cX7_plans 4 none, Cond.methodLink RX7 116 yX7_seenIn, Cond.instanceMethod yX7_seenIn, Cond.selects RX7 yX7_seenIn yX7_seenIn, Cond.code yX7_seenIn cX7_seenIn 4 (some .int), Cond.methodLink RX7 119 yX7_plan, Cond.instanceMethod yX7_plan, Cond.selects RX7 yX7_plan yX7_plan, Cond.code yX7_plan cX7_plan 10 none, Cond.methodLink RX7 141 yX7_isSuch]
def wsL_law_r24 : List Cond := [Cond.instanceMethod yX7_isSuch, Cond.selects RX7 yX7_isSuch yX7_isSuch, Cond.code yX7_isSuch cX7_isSuch 6 (some .boolean), Cond.methodLink RX7 144 yX7_weight, Cond.instanceMethod yX7_weight, Cond.selects RX7 yX7_weight yX7_weight, Cond.code yX7_weight cX7_weight 5 (some .long), Cond.methodLink RX7 147 yX7_shown, Cond.instanceMethod yX7_shown, Cond.selects RX7 yX7_shown yX7_shown, Cond.code yX7_shown cX7_shown 9 (some .int), Cond.methodLink RX7 150 yX7_byOrder, Cond.instanceMethod yX7_byOrder, Cond.selects RX7 yX7_byOrder yX7_byOrder, Cond.code yX7_byOrder cX7_byOrder 6 (some .int), Cond.methodLink RX7 127 yX7_orderNext, Cond.instanceMethod yX7_orderNext, Cond.selects RX7 yX7_orderNext yX7_orderNext, Cond.code yX7_orderNext cX7_orderNext 3 (some .int), Cond.methodLink RL 87 yX6_of, Cond.instanceMethod yX6_of, Cond.selects RX6 yX6_of yX6_of, Cond.code yX6_of cX6_of 3 (some .long), Cond.methodLink RX6 183 yX1_gain]
def wsL_law_r25 : List Cond := [Cond.instanceMethod yX1_gain, Cond.selects RX1 yX1_gain yX1_gain, Cond.code yX1_gain cX1_gain 3 (some .long), Cond.methodLink RX6 187 yX0_matters, Cond.instanceMethod yX0_matters, Cond.selects RX0 yX0_matters yX0_matters, Cond.code yX0_matters cX0_matters 5 (some .long), Cond.methodLink RL 91 yX7_of, Cond.instanceMethod yX7_of, Cond.selects RX7 yX7_of yX7_of, Cond.code yX7_of cX7_of 7 (some .long), Cond.methodLink RL 92 yX6_order, Cond.instanceMethod yX6_order, Cond.selects RX6 yX6_order yX6_order, Cond.code yX6_order cX6_order 2 (some .int), Cond.methodLink RX6 190 yX2_holds, Cond.instanceMethod yX2_holds, Cond.selects RX2 yX2_holds yX2_holds, Cond.code yX2_holds cX2_holds 3 (some .boolean), Cond.methodLink RX6 193 yX2_append, Cond.instanceMethod yX2_append, Cond.selects RX2 yX2_append yX2_append, Cond.code yX2_append cX2_append 2 none, Cond.methodLink RL 95 yX7_order]
def wsL_law_r26 : List Cond := [Cond.instanceMethod yX7_order, Cond.selects RX7 yX7_order yX7_order, Cond.code yX7_order cX7_order 2 (some .int), Cond.methodLink RX7 153 yX7_placeOf, Cond.instanceMethod yX7_placeOf, Cond.selects RX7 yX7_placeOf yX7_placeOf, Cond.code yX7_placeOf cX7_placeOf 4 (some .int), Cond.methodLink RL 96 yX6_ratios, Cond.instanceMethod yX6_ratios, Cond.selects RX6 yX6_ratios yX6_ratios, Cond.code yX6_ratios cX6_ratios 3 (some .int), Cond.methodLink RX6 199 yX2_fillByRatios, Cond.instanceMethod yX2_fillByRatios, Cond.selects RX2 yX2_fillByRatios yX2_fillByRatios, Cond.code yX2_fillByRatios cX2_fillByRatios 5 none, Cond.methodLink RX2 22 yX2_isDearer, Cond.static yX2_isDearer, Cond.code yX2_isDearer cX2_isDearer 7 (some .boolean), Cond.methodLink RL 100 yX7_ratios, Cond.instanceMethod yX7_ratios, Cond.selects RX7 yX7_ratios yX7_ratios, Cond.code yX7_ratios cX7_ratios 5 (some .int), Cond.methodLink RX7 156 yX7_ratioUp, Cond.instanceMethod yX7_ratioUp]
def wsL_law_r27 : List Cond := [Cond.selects RX7 yX7_ratioUp yX7_ratioUp, Cond.code yX7_ratioUp cX7_ratioUp 2 (some .int), Cond.methodLink RX7 159 yX7_down, Cond.instanceMethod yX7_down, Cond.selects RX7 yX7_down yX7_down, Cond.code yX7_down cX7_down 3 (some .int), Cond.methodLink RL 101 yX6_ordered, Cond.instanceMethod yX6_ordered, Cond.selects RX6 yX6_ordered yX6_ordered, Cond.code yX6_ordered cX6_ordered 2 (some .int), Cond.methodLink RL 104 yX7_ordered, Cond.instanceMethod yX7_ordered, Cond.selects RX7 yX7_ordered yX7_ordered, Cond.code yX7_ordered cX7_ordered 2 (some .int), Cond.methodLink RL 105 yX6_run, Cond.instanceMethod yX6_run, Cond.selects RX6 yX6_run yX6_run, Cond.code yX6_run cX6_run 3 (some .int), Cond.methodLink RX6 206 yX4_fits, Cond.methodLink RX6 209 yX6_follow, Cond.instanceMethod yX6_follow, Cond.selects RX6 yX6_follow yX6_follow, Cond.code yX6_follow cX6_follow 7 (some .int), Cond.methodLink RX6 218 yX5_append]
def wsL_law_r28 : List Cond := [Cond.instanceMethod yX5_append, Cond.selects RX5 yX5_append yX5_append, Cond.code yX5_append cX5_append 2 none, Cond.fieldLink RX5 15 "LookBench$Trail" "count" "I", Cond.methodLink RL 108 yX7_run, Cond.instanceMethod yX7_run, Cond.selects RX7 yX7_run yX7_run, Cond.code yX7_run cX7_run 6 (some .int), Cond.methodLink RL 109 yX6_looked, Cond.instanceMethod yX6_looked, Cond.selects RX6 yX6_looked yX6_looked, Cond.code yX6_looked cX6_looked 2 (some .int), Cond.methodLink RL 112 yX7_looked, Cond.instanceMethod yX7_looked, Cond.selects RX7 yX7_looked yX7_looked, Cond.code yX7_looked cX7_looked 2 (some .int), Cond.methodLink RL 113 yX6_about, Cond.instanceMethod yX6_about, Cond.selects RX6 yX6_about yX6_about, Cond.code yX6_about cX6_about 2 (some .int), Cond.methodLink RL 116 yX7_about, Cond.instanceMethod yX7_about, Cond.selects RX7 yX7_about yX7_about, Cond.code yX7_about cX7_about 2 (some .int)]
def wsL_law : List Cond := (wsL_law_r1 ++ (wsL_law_r2 ++ (wsL_law_r3 ++ (wsL_law_r4 ++ (wsL_law_r5 ++ (wsL_law_r6 ++ (wsL_law_r7 ++ (wsL_law_r8 ++ (wsL_law_r9 ++ (wsL_law_r10 ++ (wsL_law_r11 ++ (wsL_law_r12 ++ (wsL_law_r13 ++ (wsL_law_r14 ++ (wsL_law_r15 ++ (wsL_law_r16 ++ (wsL_law_r17 ++ (wsL_law_r18 ++ (wsL_law_r19 ++ (wsL_law_r20 ++ (wsL_law_r21 ++ (wsL_law_r22 ++ (wsL_law_r23 ++ (wsL_law_r24 ++ (wsL_law_r25 ++ (wsL_law_r26 ++ (wsL_law_r27 ++ wsL_law_r28))))))))))))))))))))))))))) ++ wsX60 ++ wsX70 ++ wsX40 ++ wsX30 ++ wsX20 ++ wsX10 ++ wsX00 ++ wsX50 ++ ([] : List Cond)
theorem dX0_init_0 : decode cX0_init 0 = .ok (.aload_n 0, 1) := by decide +kernel
theorem dX0_init_1 : decode cX0_init 1 = .ok (.invokespecial 3, 3) := by decide +kernel
theorem dX0_init_4 : decode cX0_init 4 = .ok (.aload_n 0, 1) := by decide +kernel
theorem dX0_init_5 : decode cX0_init 5 = .ok (.sipush 512, 3) := by decide +kernel
theorem dX0_init_8 : decode cX0_init 8 = .ok (.newarray .int, 2) := by decide +kernel
theorem dX0_init_10 : decode cX0_init 10 = .ok (.putfield 9, 3) := by decide +kernel
theorem dX0_init_13 : decode cX0_init 13 = .ok (.aload_n 0, 1) := by decide +kernel
theorem dX0_init_14 : decode cX0_init 14 = .ok (.aload_n 1, 1) := by decide +kernel
theorem dX0_init_15 : decode cX0_init 15 = .ok (.putfield 15, 3) := by decide +kernel
theorem dX0_init_18 : decode cX0_init 18 = .ok (.aload_n 0, 1) := by decide +kernel
theorem dX0_init_19 : decode cX0_init 19 = .ok (.aload_n 2, 1) := by decide +kernel
theorem dX0_init_20 : decode cX0_init 20 = .ok (.putfield 19, 3) := by decide +kernel
theorem dX0_init_23 : decode cX0_init 23 = .ok (.return_, 1) := by decide +kernel
set_option maxRecDepth 20000 in
theorem ggX0_goodWeights_X4_fits : GoodIn wsX0_goodWeights wsX4_fits := goodIn_r _ [7, 8, 9, 35, 36, 37, 38, 39, 40] (by decide +kernel) (by decide +kernel)
set_option maxRecDepth 20000 in
theorem gX0_goodWeights_X4_fits : GoodIn wsX0_goodWeights (wsV RX0 29 RX4 yX4_fits wsX4_fits) := goodIn_app (goodIn_of _ (by decide +kernel)) ggX0_goodWeights_X4_fits
set_option maxRecDepth 20000 in
theorem ggX0_goodWeights_X3_isSystemGood : GoodIn wsX0_goodWeights wsX3_isSystemGood := goodIn_r _ [14, 15, 16, 17, 18, 13, 19, 20, 41, 42, 43, 44, 45] (by decide +kernel) (by decide +kernel)
set_option maxRecDepth 20000 in
theorem gX0_goodWeights_X3_isSystemGood : GoodIn wsX0_goodWeights (wsV RX0 33 RX3 yX3_isSystemGood wsX3_isSystemGood) := goodIn_app (goodIn_of _ (by decide +kernel)) ggX0_goodWeights_X3_isSystemGood
set_option maxRecDepth 20000 in
theorem ggX0_goodWeights_X4_weight : GoodIn wsX0_goodWeights wsX4_weight := goodIn_r _ [24, 25, 26, 27, 28, 6, 29, 30, 31, 35, 36, 37, 38, 39, 40] (by decide +kernel) (by decide +kernel)
set_option maxRecDepth 20000 in
theorem gX0_goodWeights_X4_weight : GoodIn wsX0_goodWeights (wsV RX0 38 RX4 yX4_weight wsX4_weight) := goodIn_app (goodIn_of _ (by decide +kernel)) ggX0_goodWeights_X4_weight
theorem dX0_goodWeights_0 : decode cX0_goodWeights 0 = .ok (.lconst 0, 1) := by decide +kernel
theorem dX0_goodWeights_1 : decode cX0_goodWeights 1 = .ok (.lstore_n 1, 1) := by decide +kernel
theorem dX0_goodWeights_2 : decode cX0_goodWeights 2 = .ok (.iconst 0, 1) := by decide +kernel
theorem dX0_goodWeights_3 : decode cX0_goodWeights 3 = .ok (.istore_n 3, 1) := by decide +kernel
theorem dX0_goodWeights_4 : decode cX0_goodWeights 4 = .ok (.iload_n 3, 1) := by decide +kernel
theorem dX0_goodWeights_5 : decode cX0_goodWeights 5 = .ok (.iconst 1, 1) := by decide +kernel
theorem dX0_goodWeights_6 : decode cX0_goodWeights 6 = .ok (.aload_n 0, 1) := by decide +kernel
theorem dX0_goodWeights_7 : decode cX0_goodWeights 7 = .ok (.getfield 15, 3) := by decide +kernel
theorem dX0_goodWeights_10 : decode cX0_goodWeights 10 = .ok (.getfield 23, 3) := by decide +kernel
theorem dX0_goodWeights_13 : decode cX0_goodWeights 13 = .ok (.ishl, 1) := by decide +kernel
theorem dX0_goodWeights_14 : decode cX0_goodWeights 14 = .ok (.if_icmp .ge 42, 3) := by decide +kernel
theorem dX0_goodWeights_17 : decode cX0_goodWeights 17 = .ok (.aload_n 0, 1) := by decide +kernel
theorem dX0_goodWeights_18 : decode cX0_goodWeights 18 = .ok (.getfield 15, 3) := by decide +kernel
theorem dX0_goodWeights_21 : decode cX0_goodWeights 21 = .ok (.iload_n 3, 1) := by decide +kernel
theorem dX0_goodWeights_22 : decode cX0_goodWeights 22 = .ok (.invokevirtual 29, 3) := by decide +kernel
theorem dX0_goodWeights_25 : decode cX0_goodWeights 25 = .ok (.ifCond .eq 25, 3) := by decide +kernel
theorem dX0_goodWeights_28 : decode cX0_goodWeights 28 = .ok (.aload_n 0, 1) := by decide +kernel
theorem dX0_goodWeights_29 : decode cX0_goodWeights 29 = .ok (.getfield 19, 3) := by decide +kernel
theorem dX0_goodWeights_32 : decode cX0_goodWeights 32 = .ok (.iload_n 3, 1) := by decide +kernel
theorem dX0_goodWeights_33 : decode cX0_goodWeights 33 = .ok (.invokevirtual 33, 3) := by decide +kernel
theorem dX0_goodWeights_36 : decode cX0_goodWeights 36 = .ok (.ifCond .eq 14, 3) := by decide +kernel
theorem dX0_goodWeights_39 : decode cX0_goodWeights 39 = .ok (.lload_n 1, 1) := by decide +kernel
theorem dX0_goodWeights_40 : decode cX0_goodWeights 40 = .ok (.aload_n 0, 1) := by decide +kernel
theorem dX0_goodWeights_41 : decode cX0_goodWeights 41 = .ok (.getfield 15, 3) := by decide +kernel
theorem dX0_goodWeights_44 : decode cX0_goodWeights 44 = .ok (.iload_n 3, 1) := by decide +kernel
theorem dX0_goodWeights_45 : decode cX0_goodWeights 45 = .ok (.invokevirtual 38, 3) := by decide +kernel
theorem dX0_goodWeights_48 : decode cX0_goodWeights 48 = .ok (.ladd, 1) := by decide +kernel
theorem dX0_goodWeights_49 : decode cX0_goodWeights 49 = .ok (.lstore_n 1, 1) := by decide +kernel
theorem dX0_goodWeights_50 : decode cX0_goodWeights 50 = .ok (.iinc 3 1, 3) := by decide +kernel
theorem dX0_goodWeights_53 : decode cX0_goodWeights 53 = .ok (.goto (-49), 3) := by decide +kernel
theorem dX0_goodWeights_56 : decode cX0_goodWeights 56 = .ok (.lload_n 1, 1) := by decide +kernel
theorem dX0_goodWeights_57 : decode cX0_goodWeights 57 = .ok (.lreturn, 1) := by decide +kernel
set_option maxRecDepth 20000 in
theorem ggX0_matters_X4_fits : GoodIn wsX0_matters wsX4_fits := goodIn_r _ [7, 8, 9, 35, 36, 37, 38, 39, 40] (by decide +kernel) (by decide +kernel)
set_option maxRecDepth 20000 in
theorem gX0_matters_X4_fits : GoodIn wsX0_matters (wsV RX0 29 RX4 yX4_fits wsX4_fits) := goodIn_app (goodIn_of _ (by decide +kernel)) ggX0_matters_X4_fits
set_option maxRecDepth 20000 in
theorem ggX0_matters_X3_isSystemGood : GoodIn wsX0_matters wsX3_isSystemGood := goodIn_r _ [14, 15, 16, 17, 18, 13, 19, 20, 41, 42, 43, 44, 45] (by decide +kernel) (by decide +kernel)
set_option maxRecDepth 20000 in
theorem gX0_matters_X3_isSystemGood : GoodIn wsX0_matters (wsV RX0 33 RX3 yX3_isSystemGood wsX3_isSystemGood) := goodIn_app (goodIn_of _ (by decide +kernel)) ggX0_matters_X3_isSystemGood
set_option maxRecDepth 20000 in
theorem ggX0_matters_X4_weight : GoodIn wsX0_matters wsX4_weight := goodIn_r _ [24, 25, 26, 27, 28, 6, 29, 30, 31, 35, 36, 37, 38, 39, 40] (by decide +kernel) (by decide +kernel)
set_option maxRecDepth 20000 in
theorem gX0_matters_X4_weight : GoodIn wsX0_matters (wsV RX0 38 RX4 yX4_weight wsX4_weight) := goodIn_app (goodIn_of _ (by decide +kernel)) ggX0_matters_X4_weight
theorem dX0_matters_0 : decode cX0_matters 0 = .ok (.lconst 0, 1) := by decide +kernel
theorem dX0_matters_1 : decode cX0_matters 1 = .ok (.lstore_n 2, 1) := by decide +kernel
theorem dX0_matters_2 : decode cX0_matters 2 = .ok (.iconst 0, 1) := by decide +kernel
theorem dX0_matters_3 : decode cX0_matters 3 = .ok (.istore 4, 2) := by decide +kernel
theorem dX0_matters_5 : decode cX0_matters 5 = .ok (.iload 4, 2) := by decide +kernel
theorem dX0_matters_7 : decode cX0_matters 7 = .ok (.iconst 1, 1) := by decide +kernel
theorem dX0_matters_8 : decode cX0_matters 8 = .ok (.aload_n 0, 1) := by decide +kernel
theorem dX0_matters_9 : decode cX0_matters 9 = .ok (.getfield 15, 3) := by decide +kernel
theorem dX0_matters_12 : decode cX0_matters 12 = .ok (.getfield 23, 3) := by decide +kernel
theorem dX0_matters_15 : decode cX0_matters 15 = .ok (.ishl, 1) := by decide +kernel
theorem dX0_matters_16 : decode cX0_matters 16 = .ok (.if_icmp .ge 58, 3) := by decide +kernel
theorem dX0_matters_19 : decode cX0_matters 19 = .ok (.aload_n 0, 1) := by decide +kernel
theorem dX0_matters_20 : decode cX0_matters 20 = .ok (.getfield 15, 3) := by decide +kernel
theorem dX0_matters_23 : decode cX0_matters 23 = .ok (.iload 4, 2) := by decide +kernel
theorem dX0_matters_25 : decode cX0_matters 25 = .ok (.invokevirtual 29, 3) := by decide +kernel
theorem dX0_matters_28 : decode cX0_matters 28 = .ok (.ifCond .eq 40, 3) := by decide +kernel
theorem dX0_matters_31 : decode cX0_matters 31 = .ok (.aload_n 0, 1) := by decide +kernel
theorem dX0_matters_32 : decode cX0_matters 32 = .ok (.getfield 19, 3) := by decide +kernel
theorem dX0_matters_35 : decode cX0_matters 35 = .ok (.iload 4, 2) := by decide +kernel
theorem dX0_matters_37 : decode cX0_matters 37 = .ok (.invokevirtual 33, 3) := by decide +kernel
theorem dX0_matters_40 : decode cX0_matters 40 = .ok (.aload_n 0, 1) := by decide +kernel
theorem dX0_matters_41 : decode cX0_matters 41 = .ok (.getfield 19, 3) := by decide +kernel
theorem dX0_matters_44 : decode cX0_matters 44 = .ok (.iload 4, 2) := by decide +kernel
theorem dX0_matters_46 : decode cX0_matters 46 = .ok (.iconst 1, 1) := by decide +kernel
theorem dX0_matters_47 : decode cX0_matters 47 = .ok (.iload_n 1, 1) := by decide +kernel
theorem dX0_matters_48 : decode cX0_matters 48 = .ok (.ishl, 1) := by decide +kernel
theorem dX0_matters_49 : decode cX0_matters 49 = .ok (.ixor, 1) := by decide +kernel
theorem dX0_matters_50 : decode cX0_matters 50 = .ok (.invokevirtual 33, 3) := by decide +kernel
theorem dX0_matters_53 : decode cX0_matters 53 = .ok (.if_icmp .eq 15, 3) := by decide +kernel
theorem dX0_matters_56 : decode cX0_matters 56 = .ok (.lload_n 2, 1) := by decide +kernel
theorem dX0_matters_57 : decode cX0_matters 57 = .ok (.aload_n 0, 1) := by decide +kernel
theorem dX0_matters_58 : decode cX0_matters 58 = .ok (.getfield 15, 3) := by decide +kernel
theorem dX0_matters_61 : decode cX0_matters 61 = .ok (.iload 4, 2) := by decide +kernel
theorem dX0_matters_63 : decode cX0_matters 63 = .ok (.invokevirtual 38, 3) := by decide +kernel
theorem dX0_matters_66 : decode cX0_matters 66 = .ok (.ladd, 1) := by decide +kernel
theorem dX0_matters_67 : decode cX0_matters 67 = .ok (.lstore_n 2, 1) := by decide +kernel
theorem dX0_matters_68 : decode cX0_matters 68 = .ok (.iinc 4 1, 3) := by decide +kernel
theorem dX0_matters_71 : decode cX0_matters 71 = .ok (.goto (-66), 3) := by decide +kernel
theorem dX0_matters_74 : decode cX0_matters 74 = .ok (.lload_n 2, 1) := by decide +kernel
theorem dX0_matters_75 : decode cX0_matters 75 = .ok (.lreturn, 1) := by decide +kernel
set_option maxRecDepth 20000 in
theorem ggX0_bound_X0_boundOfSide : GoodIn wsX0_bound wsX0_boundOfSide := goodIn_r _ [5, 6, 7, 8, 9, 10, 11, 12, 13, 14, 15, 16, 17, 18, 19, 20, 21, 22, 23, 24, 25, 26, 27, 28, 29, 30, 31, 32, 33, 34, 4, 35, 36, 37, 38, 39, 40, 41, 42, 43, 44, 45, 46, 47, 48, 49, 50, 51, 52, 53, 54, 55, 56, 57, 58, 59, 60, 61, 62, 63, 64, 65, 66, 67, 68, 69, 70, 71, 72, 73] (by decide +kernel) (by decide +kernel)
set_option maxRecDepth 20000 in
theorem gX0_bound_X0_boundOfSide : GoodIn wsX0_bound (wsV RX0 42 RX0 yX0_boundOfSide wsX0_boundOfSide) := goodIn_app (goodIn_of _ (by decide +kernel)) ggX0_bound_X0_boundOfSide
theorem dX0_bound_0 : decode cX0_bound 0 = .ok (.aload_n 0, 1) := by decide +kernel
theorem dX0_bound_1 : decode cX0_bound 1 = .ok (.iconst 1, 1) := by decide +kernel
theorem dX0_bound_2 : decode cX0_bound 2 = .ok (.invokevirtual 42, 3) := by decide +kernel
theorem dX0_bound_5 : decode cX0_bound 5 = .ok (.aload_n 0, 1) := by decide +kernel
theorem dX0_bound_6 : decode cX0_bound 6 = .ok (.iconst 0, 1) := by decide +kernel
theorem dX0_bound_7 : decode cX0_bound 7 = .ok (.invokevirtual 42, 3) := by decide +kernel
theorem dX0_bound_10 : decode cX0_bound 10 = .ok (.ladd, 1) := by decide +kernel
theorem dX0_bound_11 : decode cX0_bound 11 = .ok (.lreturn, 1) := by decide +kernel
set_option maxRecDepth 20000 in
theorem ggX0_boundOfSide_X4_fits : GoodIn wsX0_boundOfSide wsX4_fits := goodIn_r _ [8, 9, 10, 59, 60, 61, 62, 63, 64] (by decide +kernel) (by decide +kernel)
set_option maxRecDepth 20000 in
theorem gX0_boundOfSide_X4_fits : GoodIn wsX0_boundOfSide (wsV RX0 29 RX4 yX4_fits wsX4_fits) := goodIn_app (goodIn_of _ (by decide +kernel)) ggX0_boundOfSide_X4_fits
set_option maxRecDepth 20000 in
theorem ggX0_boundOfSide_X3_settles : GoodIn wsX0_boundOfSide wsX3_settles := goodIn_r _ [15, 16, 17, 18, 19, 14, 20, 21, 22, 23, 24, 25, 26, 65, 66, 67, 68, 69] (by decide +kernel) (by decide +kernel)
set_option maxRecDepth 20000 in
theorem gX0_boundOfSide_X3_settles : GoodIn wsX0_boundOfSide (wsV RX0 46 RX3 yX3_settles wsX3_settles) := goodIn_app (goodIn_of _ (by decide +kernel)) ggX0_boundOfSide_X3_settles
set_option maxRecDepth 20000 in
theorem ggX0_boundOfSide_X0_leastProof : GoodIn wsX0_boundOfSide wsX0_leastProof := goodIn_r _ [31, 1, 2, 3, 32, 33, 34, 35, 36, 37, 38, 7, 39, 40, 9, 41, 42, 43, 44, 45, 11, 12, 13, 14, 15, 16, 17, 18, 19, 20, 21, 22, 23, 24, 25, 26, 56, 57, 58, 59, 60, 61, 62, 63, 64, 65, 66, 67, 68, 69] (by decide +kernel) (by decide +kernel)
set_option maxRecDepth 20000 in
theorem gX0_boundOfSide_X0_leastProof : GoodIn wsX0_boundOfSide (wsV RX0 50 RX0 yX0_leastProof wsX0_leastProof) := goodIn_app (goodIn_of _ (by decide +kernel)) ggX0_boundOfSide_X0_leastProof
set_option maxRecDepth 20000 in
theorem ggX0_boundOfSide_X4_weight : GoodIn wsX0_boundOfSide wsX4_weight := goodIn_r _ [49, 40, 50, 51, 52, 7, 53, 54, 55, 59, 60, 61, 62, 63, 64] (by decide +kernel) (by decide +kernel)
set_option maxRecDepth 20000 in
theorem gX0_boundOfSide_X4_weight : GoodIn wsX0_boundOfSide (wsV RX0 38 RX4 yX4_weight wsX4_weight) := goodIn_app (goodIn_of _ (by decide +kernel)) ggX0_boundOfSide_X4_weight
theorem dX0_boundOfSide_0 : decode cX0_boundOfSide 0 = .ok (.lconst 0, 1) := by decide +kernel
theorem dX0_boundOfSide_1 : decode cX0_boundOfSide 1 = .ok (.lstore_n 2, 1) := by decide +kernel
theorem dX0_boundOfSide_2 : decode cX0_boundOfSide 2 = .ok (.iconst 1, 1) := by decide +kernel
theorem dX0_boundOfSide_3 : decode cX0_boundOfSide 3 = .ok (.aload_n 0, 1) := by decide +kernel
theorem dX0_boundOfSide_4 : decode cX0_boundOfSide 4 = .ok (.getfield 15, 3) := by decide +kernel
theorem dX0_boundOfSide_7 : decode cX0_boundOfSide 7 = .ok (.getfield 23, 3) := by decide +kernel
theorem dX0_boundOfSide_10 : decode cX0_boundOfSide 10 = .ok (.ishl, 1) := by decide +kernel
theorem dX0_boundOfSide_11 : decode cX0_boundOfSide 11 = .ok (.iconst 1, 1) := by decide +kernel
theorem dX0_boundOfSide_12 : decode cX0_boundOfSide 12 = .ok (.isub, 1) := by decide +kernel
theorem dX0_boundOfSide_13 : decode cX0_boundOfSide 13 = .ok (.istore 4, 2) := by decide +kernel
theorem dX0_boundOfSide_15 : decode cX0_boundOfSide 15 = .ok (.iconst 0, 1) := by decide +kernel
theorem dX0_boundOfSide_16 : decode cX0_boundOfSide 16 = .ok (.istore 5, 2) := by decide +kernel
theorem dX0_boundOfSide_18 : decode cX0_boundOfSide 18 = .ok (.iload 5, 2) := by decide +kernel
theorem dX0_boundOfSide_20 : decode cX0_boundOfSide 20 = .ok (.iload 4, 2) := by decide +kernel
theorem dX0_boundOfSide_22 : decode cX0_boundOfSide 22 = .ok (.if_icmp .gt 85, 3) := by decide +kernel
theorem dX0_boundOfSide_25 : decode cX0_boundOfSide 25 = .ok (.iload_n 1, 1) := by decide +kernel
theorem dX0_boundOfSide_26 : decode cX0_boundOfSide 26 = .ok (.ifCond .eq 8, 3) := by decide +kernel
theorem dX0_boundOfSide_29 : decode cX0_boundOfSide 29 = .ok (.iload 5, 2) := by decide +kernel
theorem dX0_boundOfSide_31 : decode cX0_boundOfSide 31 = .ok (.goto 8, 3) := by decide +kernel
theorem dX0_boundOfSide_34 : decode cX0_boundOfSide 34 = .ok (.iload 4, 2) := by decide +kernel
theorem dX0_boundOfSide_36 : decode cX0_boundOfSide 36 = .ok (.iload 5, 2) := by decide +kernel
theorem dX0_boundOfSide_38 : decode cX0_boundOfSide 38 = .ok (.ixor, 1) := by decide +kernel
theorem dX0_boundOfSide_39 : decode cX0_boundOfSide 39 = .ok (.istore 6, 2) := by decide +kernel
theorem dX0_boundOfSide_41 : decode cX0_boundOfSide 41 = .ok (.aload_n 0, 1) := by decide +kernel
theorem dX0_boundOfSide_42 : decode cX0_boundOfSide 42 = .ok (.getfield 15, 3) := by decide +kernel
theorem dX0_boundOfSide_45 : decode cX0_boundOfSide 45 = .ok (.iload 6, 2) := by decide +kernel
theorem dX0_boundOfSide_47 : decode cX0_boundOfSide 47 = .ok (.invokevirtual 29, 3) := by decide +kernel
theorem dX0_boundOfSide_50 : decode cX0_boundOfSide 50 = .ok (.ifCond .eq 51, 3) := by decide +kernel
theorem dX0_boundOfSide_53 : decode cX0_boundOfSide 53 = .ok (.aload_n 0, 1) := by decide +kernel
theorem dX0_boundOfSide_54 : decode cX0_boundOfSide 54 = .ok (.getfield 19, 3) := by decide +kernel
theorem dX0_boundOfSide_57 : decode cX0_boundOfSide 57 = .ok (.iload_n 1, 1) := by decide +kernel
theorem dX0_boundOfSide_58 : decode cX0_boundOfSide 58 = .ok (.iload 5, 2) := by decide +kernel
theorem dX0_boundOfSide_60 : decode cX0_boundOfSide 60 = .ok (.invokevirtual 46, 3) := by decide +kernel
theorem dX0_boundOfSide_63 : decode cX0_boundOfSide 63 = .ok (.ifCond .eq 38, 3) := by decide +kernel
theorem dX0_boundOfSide_66 : decode cX0_boundOfSide 66 = .ok (.aload_n 0, 1) := by decide +kernel
theorem dX0_boundOfSide_67 : decode cX0_boundOfSide 67 = .ok (.getfield 9, 3) := by decide +kernel
theorem dX0_boundOfSide_70 : decode cX0_boundOfSide 70 = .ok (.iload 5, 2) := by decide +kernel
theorem dX0_boundOfSide_72 : decode cX0_boundOfSide 72 = .ok (.aload_n 0, 1) := by decide +kernel
theorem dX0_boundOfSide_73 : decode cX0_boundOfSide 73 = .ok (.iload_n 1, 1) := by decide +kernel
theorem dX0_boundOfSide_74 : decode cX0_boundOfSide 74 = .ok (.iload 5, 2) := by decide +kernel
theorem dX0_boundOfSide_76 : decode cX0_boundOfSide 76 = .ok (.invokevirtual 50, 3) := by decide +kernel
theorem dX0_boundOfSide_79 : decode cX0_boundOfSide 79 = .ok (.iastore, 1) := by decide +kernel
theorem dX0_boundOfSide_80 : decode cX0_boundOfSide 80 = .ok (.lload_n 2, 1) := by decide +kernel
theorem dX0_boundOfSide_81 : decode cX0_boundOfSide 81 = .ok (.aload_n 0, 1) := by decide +kernel
theorem dX0_boundOfSide_82 : decode cX0_boundOfSide 82 = .ok (.getfield 15, 3) := by decide +kernel
theorem dX0_boundOfSide_85 : decode cX0_boundOfSide 85 = .ok (.iload 6, 2) := by decide +kernel
theorem dX0_boundOfSide_87 : decode cX0_boundOfSide 87 = .ok (.invokevirtual 38, 3) := by decide +kernel
theorem dX0_boundOfSide_90 : decode cX0_boundOfSide 90 = .ok (.aload_n 0, 1) := by decide +kernel
theorem dX0_boundOfSide_91 : decode cX0_boundOfSide 91 = .ok (.getfield 9, 3) := by decide +kernel
theorem dX0_boundOfSide_94 : decode cX0_boundOfSide 94 = .ok (.iload 5, 2) := by decide +kernel
theorem dX0_boundOfSide_96 : decode cX0_boundOfSide 96 = .ok (.iaload, 1) := by decide +kernel
theorem dX0_boundOfSide_97 : decode cX0_boundOfSide 97 = .ok (.i2l, 1) := by decide +kernel
theorem dX0_boundOfSide_98 : decode cX0_boundOfSide 98 = .ok (.lmul, 1) := by decide +kernel
theorem dX0_boundOfSide_99 : decode cX0_boundOfSide 99 = .ok (.ladd, 1) := by decide +kernel
theorem dX0_boundOfSide_100 : decode cX0_boundOfSide 100 = .ok (.lstore_n 2, 1) := by decide +kernel
theorem dX0_boundOfSide_101 : decode cX0_boundOfSide 101 = .ok (.iinc 5 1, 3) := by decide +kernel
theorem dX0_boundOfSide_104 : decode cX0_boundOfSide 104 = .ok (.goto (-86), 3) := by decide +kernel
theorem dX0_boundOfSide_107 : decode cX0_boundOfSide 107 = .ok (.lload_n 2, 1) := by decide +kernel
theorem dX0_boundOfSide_108 : decode cX0_boundOfSide 108 = .ok (.lreturn, 1) := by decide +kernel
set_option maxRecDepth 20000 in
theorem ggX0_leastProof_X4_unseen : GoodIn wsX0_leastProof wsX4_unseen := goodIn_r _ [12, 13, 14, 39, 40, 41, 42, 43, 44] (by decide +kernel) (by decide +kernel)
set_option maxRecDepth 20000 in
theorem gX0_leastProof_X4_unseen : GoodIn wsX0_leastProof (wsV RX0 54 RX4 yX4_unseen wsX4_unseen) := goodIn_app (goodIn_of _ (by decide +kernel)) ggX0_leastProof_X4_unseen
set_option maxRecDepth 20000 in
theorem ggX0_leastProof_X4_priceOfSet : GoodIn wsX0_leastProof wsX4_priceOfSet := goodIn_r _ [18, 13, 19, 39, 40, 41, 42, 43, 44] (by decide +kernel) (by decide +kernel)
set_option maxRecDepth 20000 in
theorem gX0_leastProof_X4_priceOfSet : GoodIn wsX0_leastProof (wsV RX0 58 RX4 yX4_priceOfSet wsX4_priceOfSet) := goodIn_app (goodIn_of _ (by decide +kernel)) ggX0_leastProof_X4_priceOfSet
set_option maxRecDepth 20000 in
theorem ggX0_leastProof_X3_settles : GoodIn wsX0_leastProof wsX3_settles := goodIn_r _ [24, 25, 26, 27, 28, 23, 29, 30, 31, 32, 33, 34, 35, 45, 46, 47, 48, 49] (by decide +kernel) (by decide +kernel)
set_option maxRecDepth 20000 in
theorem gX0_leastProof_X3_settles : GoodIn wsX0_leastProof (wsV RX0 46 RX3 yX3_settles wsX3_settles) := goodIn_app (goodIn_of _ (by decide +kernel)) ggX0_leastProof_X3_settles
theorem dX0_leastProof_0 : decode cX0_leastProof 0 = .ok (.iload_n 2, 1) := by decide +kernel
theorem dX0_leastProof_1 : decode cX0_leastProof 1 = .ok (.aload_n 0, 1) := by decide +kernel
theorem dX0_leastProof_2 : decode cX0_leastProof 2 = .ok (.getfield 15, 3) := by decide +kernel
theorem dX0_leastProof_5 : decode cX0_leastProof 5 = .ok (.invokevirtual 54, 3) := by decide +kernel
theorem dX0_leastProof_8 : decode cX0_leastProof 8 = .ok (.iand, 1) := by decide +kernel
theorem dX0_leastProof_9 : decode cX0_leastProof 9 = .ok (.istore_n 3, 1) := by decide +kernel
theorem dX0_leastProof_10 : decode cX0_leastProof 10 = .ok (.aload_n 0, 1) := by decide +kernel
theorem dX0_leastProof_11 : decode cX0_leastProof 11 = .ok (.getfield 15, 3) := by decide +kernel
theorem dX0_leastProof_14 : decode cX0_leastProof 14 = .ok (.iload_n 3, 1) := by decide +kernel
theorem dX0_leastProof_15 : decode cX0_leastProof 15 = .ok (.invokevirtual 58, 3) := by decide +kernel
theorem dX0_leastProof_18 : decode cX0_leastProof 18 = .ok (.istore 4, 2) := by decide +kernel
theorem dX0_leastProof_20 : decode cX0_leastProof 20 = .ok (.iconst 0, 1) := by decide +kernel
theorem dX0_leastProof_21 : decode cX0_leastProof 21 = .ok (.istore 5, 2) := by decide +kernel
theorem dX0_leastProof_23 : decode cX0_leastProof 23 = .ok (.iload 5, 2) := by decide +kernel
theorem dX0_leastProof_25 : decode cX0_leastProof 25 = .ok (.aload_n 0, 1) := by decide +kernel
theorem dX0_leastProof_26 : decode cX0_leastProof 26 = .ok (.getfield 15, 3) := by decide +kernel
theorem dX0_leastProof_29 : decode cX0_leastProof 29 = .ok (.getfield 23, 3) := by decide +kernel
theorem dX0_leastProof_32 : decode cX0_leastProof 32 = .ok (.if_icmp .ge 54, 3) := by decide +kernel
theorem dX0_leastProof_35 : decode cX0_leastProof 35 = .ok (.iload_n 2, 1) := by decide +kernel
theorem dX0_leastProof_36 : decode cX0_leastProof 36 = .ok (.iconst 1, 1) := by decide +kernel
theorem dX0_leastProof_37 : decode cX0_leastProof 37 = .ok (.iload 5, 2) := by decide +kernel
theorem dX0_leastProof_39 : decode cX0_leastProof 39 = .ok (.ishl, 1) := by decide +kernel
theorem dX0_leastProof_40 : decode cX0_leastProof 40 = .ok (.ixor, 1) := by decide +kernel
theorem dX0_leastProof_41 : decode cX0_leastProof 41 = .ok (.istore 6, 2) := by decide +kernel
theorem dX0_leastProof_43 : decode cX0_leastProof 43 = .ok (.iload_n 3, 1) := by decide +kernel
theorem dX0_leastProof_44 : decode cX0_leastProof 44 = .ok (.iload 5, 2) := by decide +kernel
theorem dX0_leastProof_46 : decode cX0_leastProof 46 = .ok (.ishr, 1) := by decide +kernel
theorem dX0_leastProof_47 : decode cX0_leastProof 47 = .ok (.iconst 1, 1) := by decide +kernel
theorem dX0_leastProof_48 : decode cX0_leastProof 48 = .ok (.iand, 1) := by decide +kernel
theorem dX0_leastProof_49 : decode cX0_leastProof 49 = .ok (.iconst 1, 1) := by decide +kernel
theorem dX0_leastProof_50 : decode cX0_leastProof 50 = .ok (.if_icmp .ne 30, 3) := by decide +kernel
theorem dX0_leastProof_53 : decode cX0_leastProof 53 = .ok (.aload_n 0, 1) := by decide +kernel
theorem dX0_leastProof_54 : decode cX0_leastProof 54 = .ok (.getfield 19, 3) := by decide +kernel
theorem dX0_leastProof_57 : decode cX0_leastProof 57 = .ok (.iload_n 1, 1) := by decide +kernel
theorem dX0_leastProof_58 : decode cX0_leastProof 58 = .ok (.iload 6, 2) := by decide +kernel
theorem dX0_leastProof_60 : decode cX0_leastProof 60 = .ok (.invokevirtual 46, 3) := by decide +kernel
theorem dX0_leastProof_63 : decode cX0_leastProof 63 = .ok (.ifCond .eq 17, 3) := by decide +kernel
theorem dX0_leastProof_66 : decode cX0_leastProof 66 = .ok (.iload 4, 2) := by decide +kernel
theorem dX0_leastProof_68 : decode cX0_leastProof 68 = .ok (.aload_n 0, 1) := by decide +kernel
theorem dX0_leastProof_69 : decode cX0_leastProof 69 = .ok (.getfield 9, 3) := by decide +kernel
theorem dX0_leastProof_72 : decode cX0_leastProof 72 = .ok (.iload 6, 2) := by decide +kernel
theorem dX0_leastProof_74 : decode cX0_leastProof 74 = .ok (.iaload, 1) := by decide +kernel
theorem dX0_leastProof_75 : decode cX0_leastProof 75 = .ok (.invokestatic 62, 3) := by decide +kernel
theorem dX0_leastProof_78 : decode cX0_leastProof 78 = .ok (.istore 4, 2) := by decide +kernel
theorem dX0_leastProof_80 : decode cX0_leastProof 80 = .ok (.iinc 5 1, 3) := by decide +kernel
theorem dX0_leastProof_83 : decode cX0_leastProof 83 = .ok (.goto (-60), 3) := by decide +kernel
theorem dX0_leastProof_86 : decode cX0_leastProof 86 = .ok (.iload 4, 2) := by decide +kernel
theorem dX0_leastProof_88 : decode cX0_leastProof 88 = .ok (.ireturn, 1) := by decide +kernel
theorem dX1_init_0 : decode cX1_init 0 = .ok (.aload_n 0, 1) := by decide +kernel
theorem dX1_init_1 : decode cX1_init 1 = .ok (.invokespecial 3, 3) := by decide +kernel
theorem dX1_init_4 : decode cX1_init 4 = .ok (.aload_n 0, 1) := by decide +kernel
theorem dX1_init_5 : decode cX1_init 5 = .ok (.bipush 9, 2) := by decide +kernel
theorem dX1_init_7 : decode cX1_init 7 = .ok (.newarray .int, 2) := by decide +kernel
theorem dX1_init_9 : decode cX1_init 9 = .ok (.putfield 9, 3) := by decide +kernel
theorem dX1_init_12 : decode cX1_init 12 = .ok (.aload_n 0, 1) := by decide +kernel
theorem dX1_init_13 : decode cX1_init 13 = .ok (.iconst 0, 1) := by decide +kernel
theorem dX1_init_14 : decode cX1_init 14 = .ok (.newarray .long, 2) := by decide +kernel
theorem dX1_init_16 : decode cX1_init 16 = .ok (.putfield 15, 3) := by decide +kernel
theorem dX1_init_19 : decode cX1_init 19 = .ok (.aload_n 0, 1) := by decide +kernel
theorem dX1_init_20 : decode cX1_init 20 = .ok (.iconst 0, 1) := by decide +kernel
theorem dX1_init_21 : decode cX1_init 21 = .ok (.newarray .int, 2) := by decide +kernel
end
section
theorem dX1_init_23 : decode cX1_init 23 = .ok (.putfield 19, 3) := by decide +kernel
theorem dX1_init_26 : decode cX1_init 26 = .ok (.aload_n 0, 1) := by decide +kernel
theorem dX1_init_27 : decode cX1_init 27 = .ok (.aload_n 1, 1) := by decide +kernel
theorem dX1_init_28 : decode cX1_init 28 = .ok (.putfield 22, 3) := by decide +kernel
theorem dX1_init_31 : decode cX1_init 31 = .ok (.aload_n 0, 1) := by decide +kernel
theorem dX1_init_32 : decode cX1_init 32 = .ok (.aload_n 2, 1) := by decide +kernel
theorem dX1_init_33 : decode cX1_init 33 = .ok (.putfield 26, 3) := by decide +kernel
theorem dX1_init_36 : decode cX1_init 36 = .ok (.aload_n 0, 1) := by decide +kernel
theorem dX1_init_37 : decode cX1_init 37 = .ok (.aload_n 3, 1) := by decide +kernel
theorem dX1_init_38 : decode cX1_init 38 = .ok (.putfield 30, 3) := by decide +kernel
theorem dX1_init_41 : decode cX1_init 41 = .ok (.return_, 1) := by decide +kernel
theorem dX1_forget_0 : decode cX1_forget 0 = .ok (.aload_n 0, 1) := by decide +kernel
theorem dX1_forget_1 : decode cX1_forget 1 = .ok (.iconst 0, 1) := by decide +kernel
theorem dX1_forget_2 : decode cX1_forget 2 = .ok (.putfield 34, 3) := by decide +kernel
theorem dX1_forget_5 : decode cX1_forget 5 = .ok (.return_, 1) := by decide +kernel
set_option maxRecDepth 20000 in
theorem ggX1_bestMean_X1_prepare : GoodIn wsX1_bestMean wsX1_prepare := goodIn_r _ [6, 7, 8, 9, 1, 10, 11, 12, 13, 14, 15, 16, 17, 18, 19, 20, 21, 22, 23, 24, 25, 26, 27, 28, 29, 30, 31, 5, 32, 33, 34, 35, 36, 37, 38, 39, 40, 41, 42, 43, 44, 49, 50, 51, 52, 53, 54, 55, 56, 57, 58, 59, 60, 61, 62, 63, 64, 65, 66] (by decide +kernel) (by decide +kernel)
set_option maxRecDepth 20000 in
theorem gX1_bestMean_X1_prepare : GoodIn wsX1_bestMean (wsV RX1 38 RX1 yX1_prepare wsX1_prepare) := goodIn_app (goodIn_of _ (by decide +kernel)) ggX1_bestMean_X1_prepare
set_option maxRecDepth 20000 in
theorem ggX1_bestMean_X1_stateOf : GoodIn wsX1_bestMean wsX1_stateOf := goodIn_r _ [48, 9, 8, 49, 50, 51, 52, 53, 54, 55, 56, 57, 58, 59, 60, 61] (by decide +kernel) (by decide +kernel)
set_option maxRecDepth 20000 in
theorem gX1_bestMean_X1_stateOf : GoodIn wsX1_bestMean (wsV RX1 41 RX1 yX1_stateOf wsX1_stateOf) := goodIn_app (goodIn_of _ (by decide +kernel)) ggX1_bestMean_X1_stateOf
theorem dX1_bestMean_0 : decode cX1_bestMean 0 = .ok (.aload_n 0, 1) := by decide +kernel
theorem dX1_bestMean_1 : decode cX1_bestMean 1 = .ok (.invokevirtual 38, 3) := by decide +kernel
theorem dX1_bestMean_4 : decode cX1_bestMean 4 = .ok (.aload_n 0, 1) := by decide +kernel
theorem dX1_bestMean_5 : decode cX1_bestMean 5 = .ok (.getfield 15, 3) := by decide +kernel
theorem dX1_bestMean_8 : decode cX1_bestMean 8 = .ok (.aload_n 0, 1) := by decide +kernel
theorem dX1_bestMean_9 : decode cX1_bestMean 9 = .ok (.iload_n 1, 1) := by decide +kernel
theorem dX1_bestMean_10 : decode cX1_bestMean 10 = .ok (.iload_n 2, 1) := by decide +kernel
theorem dX1_bestMean_11 : decode cX1_bestMean 11 = .ok (.invokevirtual 41, 3) := by decide +kernel
theorem dX1_bestMean_14 : decode cX1_bestMean 14 = .ok (.laload, 1) := by decide +kernel
theorem dX1_bestMean_15 : decode cX1_bestMean 15 = .ok (.lreturn, 1) := by decide +kernel
set_option maxRecDepth 20000 in
theorem ggX1_worstPrice_X1_prepare : GoodIn wsX1_worstPrice wsX1_prepare := goodIn_r _ [6, 7, 8, 9, 10, 11, 12, 1, 13, 14, 15, 16, 17, 18, 19, 20, 21, 22, 23, 24, 25, 26, 27, 28, 29, 30, 31, 5, 32, 33, 34, 35, 36, 37, 38, 39, 40, 41, 42, 43, 44, 49, 50, 51, 52, 53, 54, 55, 56, 57, 58, 59, 60, 61, 62, 63, 64, 65, 66] (by decide +kernel) (by decide +kernel)
set_option maxRecDepth 20000 in
theorem gX1_worstPrice_X1_prepare : GoodIn wsX1_worstPrice (wsV RX1 38 RX1 yX1_prepare wsX1_prepare) := goodIn_app (goodIn_of _ (by decide +kernel)) ggX1_worstPrice_X1_prepare
set_option maxRecDepth 20000 in
theorem ggX1_worstPrice_X1_stateOf : GoodIn wsX1_worstPrice wsX1_stateOf := goodIn_r _ [48, 9, 8, 49, 50, 51, 52, 53, 54, 55, 56, 57, 58, 59, 60, 61] (by decide +kernel) (by decide +kernel)
set_option maxRecDepth 20000 in
theorem gX1_worstPrice_X1_stateOf : GoodIn wsX1_worstPrice (wsV RX1 41 RX1 yX1_stateOf wsX1_stateOf) := goodIn_app (goodIn_of _ (by decide +kernel)) ggX1_worstPrice_X1_stateOf
theorem dX1_worstPrice_0 : decode cX1_worstPrice 0 = .ok (.aload_n 0, 1) := by decide +kernel
theorem dX1_worstPrice_1 : decode cX1_worstPrice 1 = .ok (.invokevirtual 38, 3) := by decide +kernel
theorem dX1_worstPrice_4 : decode cX1_worstPrice 4 = .ok (.aload_n 0, 1) := by decide +kernel
theorem dX1_worstPrice_5 : decode cX1_worstPrice 5 = .ok (.getfield 19, 3) := by decide +kernel
theorem dX1_worstPrice_8 : decode cX1_worstPrice 8 = .ok (.aload_n 0, 1) := by decide +kernel
theorem dX1_worstPrice_9 : decode cX1_worstPrice 9 = .ok (.iload_n 1, 1) := by decide +kernel
theorem dX1_worstPrice_10 : decode cX1_worstPrice 10 = .ok (.iload_n 2, 1) := by decide +kernel
theorem dX1_worstPrice_11 : decode cX1_worstPrice 11 = .ok (.invokevirtual 41, 3) := by decide +kernel
theorem dX1_worstPrice_14 : decode cX1_worstPrice 14 = .ok (.iaload, 1) := by decide +kernel
theorem dX1_worstPrice_15 : decode cX1_worstPrice 15 = .ok (.ireturn, 1) := by decide +kernel
set_option maxRecDepth 20000 in
theorem ggX1_gain_X1_prepare : GoodIn wsX1_gain wsX1_prepare := goodIn_r _ [8, 9, 3, 1, 2, 10, 11, 12, 13, 14, 15, 16, 17, 18, 19, 20, 21, 22, 23, 24, 25, 26, 27, 28, 29, 30, 31, 7, 32, 33, 34, 35, 36, 37, 38, 39, 40, 41, 42, 43, 44, 49, 50, 51, 52, 53, 54, 55, 56, 57, 58, 59, 60, 61, 62, 63, 64, 65, 66] (by decide +kernel) (by decide +kernel)
set_option maxRecDepth 20000 in
theorem gX1_gain_X1_prepare : GoodIn wsX1_gain (wsV RX1 38 RX1 yX1_prepare wsX1_prepare) := goodIn_app (goodIn_of _ (by decide +kernel)) ggX1_gain_X1_prepare
set_option maxRecDepth 20000 in
theorem ggX1_gain_X1_stateOf : GoodIn wsX1_gain wsX1_stateOf := goodIn_r _ [48, 1, 3, 49, 50, 51, 52, 53, 54, 55, 56, 57, 58, 59, 60, 61] (by decide +kernel) (by decide +kernel)
set_option maxRecDepth 20000 in
theorem gX1_gain_X1_stateOf : GoodIn wsX1_gain (wsV RX1 41 RX1 yX1_stateOf wsX1_stateOf) := goodIn_app (goodIn_of _ (by decide +kernel)) ggX1_gain_X1_stateOf
theorem dX1_gain_0 : decode cX1_gain 0 = .ok (.aload_n 0, 1) := by decide +kernel
theorem dX1_gain_1 : decode cX1_gain 1 = .ok (.invokevirtual 38, 3) := by decide +kernel
theorem dX1_gain_4 : decode cX1_gain 4 = .ok (.aload_n 0, 1) := by decide +kernel
theorem dX1_gain_5 : decode cX1_gain 5 = .ok (.aload_n 0, 1) := by decide +kernel
theorem dX1_gain_6 : decode cX1_gain 6 = .ok (.getfield 22, 3) := by decide +kernel
theorem dX1_gain_9 : decode cX1_gain 9 = .ok (.getfield 45, 3) := by decide +kernel
theorem dX1_gain_12 : decode cX1_gain 12 = .ok (.aload_n 0, 1) := by decide +kernel
theorem dX1_gain_13 : decode cX1_gain 13 = .ok (.getfield 22, 3) := by decide +kernel
theorem dX1_gain_16 : decode cX1_gain 16 = .ok (.getfield 51, 3) := by decide +kernel
theorem dX1_gain_19 : decode cX1_gain 19 = .ok (.invokevirtual 41, 3) := by decide +kernel
theorem dX1_gain_22 : decode cX1_gain 22 = .ok (.istore_n 2, 1) := by decide +kernel
theorem dX1_gain_23 : decode cX1_gain 23 = .ok (.aload_n 0, 1) := by decide +kernel
theorem dX1_gain_24 : decode cX1_gain 24 = .ok (.getfield 15, 3) := by decide +kernel
theorem dX1_gain_27 : decode cX1_gain 27 = .ok (.iload_n 2, 1) := by decide +kernel
theorem dX1_gain_28 : decode cX1_gain 28 = .ok (.laload, 1) := by decide +kernel
theorem dX1_gain_29 : decode cX1_gain 29 = .ok (.aload_n 0, 1) := by decide +kernel
theorem dX1_gain_30 : decode cX1_gain 30 = .ok (.getfield 15, 3) := by decide +kernel
theorem dX1_gain_33 : decode cX1_gain 33 = .ok (.iload_n 2, 1) := by decide +kernel
theorem dX1_gain_34 : decode cX1_gain 34 = .ok (.getstatic 54, 3) := by decide +kernel
theorem dX1_gain_37 : decode cX1_gain 37 = .ok (.iload_n 1, 1) := by decide +kernel
theorem dX1_gain_38 : decode cX1_gain 38 = .ok (.iaload, 1) := by decide +kernel
theorem dX1_gain_39 : decode cX1_gain 39 = .ok (.iadd, 1) := by decide +kernel
theorem dX1_gain_40 : decode cX1_gain 40 = .ok (.laload, 1) := by decide +kernel
theorem dX1_gain_41 : decode cX1_gain 41 = .ok (.lsub, 1) := by decide +kernel
theorem dX1_gain_42 : decode cX1_gain 42 = .ok (.aload_n 0, 1) := by decide +kernel
theorem dX1_gain_43 : decode cX1_gain 43 = .ok (.getfield 15, 3) := by decide +kernel
theorem dX1_gain_46 : decode cX1_gain 46 = .ok (.iload_n 2, 1) := by decide +kernel
theorem dX1_gain_47 : decode cX1_gain 47 = .ok (.iconst 2, 1) := by decide +kernel
theorem dX1_gain_48 : decode cX1_gain 48 = .ok (.getstatic 54, 3) := by decide +kernel
theorem dX1_gain_51 : decode cX1_gain 51 = .ok (.iload_n 1, 1) := by decide +kernel
theorem dX1_gain_52 : decode cX1_gain 52 = .ok (.iaload, 1) := by decide +kernel
theorem dX1_gain_53 : decode cX1_gain 53 = .ok (.imul, 1) := by decide +kernel
theorem dX1_gain_54 : decode cX1_gain 54 = .ok (.iadd, 1) := by decide +kernel
theorem dX1_gain_55 : decode cX1_gain 55 = .ok (.laload, 1) := by decide +kernel
theorem dX1_gain_56 : decode cX1_gain 56 = .ok (.lsub, 1) := by decide +kernel
theorem dX1_gain_57 : decode cX1_gain 57 = .ok (.lreturn, 1) := by decide +kernel
set_option maxRecDepth 20000 in
theorem ggX1_next_X3_verdict : GoodIn wsX1_next wsX3_verdict := goodIn_r _ [8, 9, 10, 11, 7, 12, 13, 14, 15, 16, 17, 18, 98, 99, 100, 101, 102] (by decide +kernel) (by decide +kernel)
set_option maxRecDepth 20000 in
theorem gX1_next_X3_verdict : GoodIn wsX1_next (wsV RX1 60 RX3 yX3_verdict wsX3_verdict) := goodIn_app (goodIn_of _ (by decide +kernel)) ggX1_next_X3_verdict
set_option maxRecDepth 20000 in
theorem ggX1_next_X2_firstOutside : GoodIn wsX1_next wsX2_firstOutside := goodIn_r _ [23, 24, 25, 103, 104] (by decide +kernel) (by decide +kernel)
set_option maxRecDepth 20000 in
theorem gX1_next_X2_firstOutside : GoodIn wsX1_next (wsV RX1 65 RX2 yX2_firstOutside wsX2_firstOutside) := goodIn_app (goodIn_of _ (by decide +kernel)) ggX1_next_X2_firstOutside
set_option maxRecDepth 20000 in
theorem ggX1_next_X1_prepare : GoodIn wsX1_next wsX1_prepare := goodIn_r _ [30, 31, 32, 1, 33, 34, 35, 36, 2, 4, 5, 6, 7, 8, 9, 10, 11, 12, 13, 14, 15, 16, 17, 18, 37, 38, 39, 29, 40, 41, 42, 43, 44, 45, 46, 47, 48, 49, 50, 51, 52, 85, 86, 87, 88, 89, 90, 91, 92, 93, 94, 95, 96, 97, 98, 99, 100, 101, 102] (by decide +kernel) (by decide +kernel)
set_option maxRecDepth 20000 in
theorem gX1_next_X1_prepare : GoodIn wsX1_next (wsV RX1 38 RX1 yX1_prepare wsX1_prepare) := goodIn_app (goodIn_of _ (by decide +kernel)) ggX1_next_X1_prepare
set_option maxRecDepth 20000 in
theorem ggX1_next_X1_stateOf : GoodIn wsX1_next wsX1_stateOf := goodIn_r _ [56, 1, 32, 85, 86, 87, 88, 89, 90, 91, 92, 93, 94, 95, 96, 97] (by decide +kernel) (by decide +kernel)
set_option maxRecDepth 20000 in
theorem gX1_next_X1_stateOf : GoodIn wsX1_next (wsV RX1 41 RX1 yX1_stateOf wsX1_stateOf) := goodIn_app (goodIn_of _ (by decide +kernel)) ggX1_next_X1_stateOf
set_option maxRecDepth 20000 in
theorem ggX1_next_X4_left : GoodIn wsX1_next wsX4_left := goodIn_r _ [61, 62, 63, 64, 92, 93, 94, 95, 96, 97] (by decide +kernel) (by decide +kernel)
set_option maxRecDepth 20000 in
theorem gX1_next_X4_left : GoodIn wsX1_next (wsV RX1 70 RX4 yX4_left wsX4_left) := goodIn_app (goodIn_of _ (by decide +kernel)) ggX1_next_X4_left
set_option maxRecDepth 20000 in
theorem ggX1_next_X1_nextOfBest : GoodIn wsX1_next wsX1_nextOfBest := goodIn_r _ [68, 1, 33, 69, 70, 71, 29, 72, 32, 85, 86, 87, 88, 89, 90, 91, 92, 93, 94, 95, 96, 97] (by decide +kernel) (by decide +kernel)
set_option maxRecDepth 20000 in
theorem gX1_next_X1_nextOfBest : GoodIn wsX1_next (wsV RX1 74 RX1 yX1_nextOfBest wsX1_nextOfBest) := goodIn_app (goodIn_of _ (by decide +kernel)) ggX1_next_X1_nextOfBest
set_option maxRecDepth 20000 in
theorem ggX1_next_X1_nextOfWorst : GoodIn wsX1_next wsX1_nextOfWorst := goodIn_r _ [76, 1, 36, 77, 78, 79, 29, 80, 32, 81, 82, 83, 84, 85, 86, 87, 88, 89, 90, 91, 92, 93, 94, 95, 96, 97] (by decide +kernel) (by decide +kernel)
set_option maxRecDepth 20000 in
theorem gX1_next_X1_nextOfWorst : GoodIn wsX1_next (wsV RX1 78 RX1 yX1_nextOfWorst wsX1_nextOfWorst) := goodIn_app (goodIn_of _ (by decide +kernel)) ggX1_next_X1_nextOfWorst
theorem dX1_next_0 : decode cX1_next 0 = .ok (.iconst 1, 1) := by decide +kernel
theorem dX1_next_1 : decode cX1_next 1 = .ok (.aload_n 0, 1) := by decide +kernel
theorem dX1_next_2 : decode cX1_next 2 = .ok (.getfield 22, 3) := by decide +kernel
theorem dX1_next_5 : decode cX1_next 5 = .ok (.getfield 57, 3) := by decide +kernel
theorem dX1_next_8 : decode cX1_next 8 = .ok (.ishl, 1) := by decide +kernel
theorem dX1_next_9 : decode cX1_next 9 = .ok (.iconst 1, 1) := by decide +kernel
theorem dX1_next_10 : decode cX1_next 10 = .ok (.isub, 1) := by decide +kernel
theorem dX1_next_11 : decode cX1_next 11 = .ok (.iload_n 2, 1) := by decide +kernel
theorem dX1_next_12 : decode cX1_next 12 = .ok (.iconst (-1), 1) := by decide +kernel
theorem dX1_next_13 : decode cX1_next 13 = .ok (.ixor, 1) := by decide +kernel
theorem dX1_next_14 : decode cX1_next 14 = .ok (.iand, 1) := by decide +kernel
theorem dX1_next_15 : decode cX1_next 15 = .ok (.istore 4, 2) := by decide +kernel
theorem dX1_next_17 : decode cX1_next 17 = .ok (.aload_n 0, 1) := by decide +kernel
theorem dX1_next_18 : decode cX1_next 18 = .ok (.getfield 26, 3) := by decide +kernel
theorem dX1_next_21 : decode cX1_next 21 = .ok (.iload_n 3, 1) := by decide +kernel
theorem dX1_next_22 : decode cX1_next 22 = .ok (.iload 4, 2) := by decide +kernel
theorem dX1_next_24 : decode cX1_next 24 = .ok (.invokevirtual 60, 3) := by decide +kernel
theorem dX1_next_27 : decode cX1_next 27 = .ok (.iconst (-1), 1) := by decide +kernel
theorem dX1_next_28 : decode cX1_next 28 = .ok (.if_icmp .eq 5, 3) := by decide +kernel
theorem dX1_next_31 : decode cX1_next 31 = .ok (.iconst (-1), 1) := by decide +kernel
theorem dX1_next_32 : decode cX1_next 32 = .ok (.ireturn, 1) := by decide +kernel
theorem dX1_next_33 : decode cX1_next 33 = .ok (.iload_n 1, 1) := by decide +kernel
theorem dX1_next_34 : decode cX1_next 34 = .ok (.iconst 2, 1) := by decide +kernel
theorem dX1_next_35 : decode cX1_next 35 = .ok (.if_icmp .ne 19, 3) := by decide +kernel
theorem dX1_next_38 : decode cX1_next 38 = .ok (.aload_n 0, 1) := by decide +kernel
theorem dX1_next_39 : decode cX1_next 39 = .ok (.getfield 30, 3) := by decide +kernel
theorem dX1_next_42 : decode cX1_next 42 = .ok (.iload_n 2, 1) := by decide +kernel
theorem dX1_next_43 : decode cX1_next 43 = .ok (.aload_n 0, 1) := by decide +kernel
theorem dX1_next_44 : decode cX1_next 44 = .ok (.getfield 22, 3) := by decide +kernel
theorem dX1_next_47 : decode cX1_next 47 = .ok (.getfield 57, 3) := by decide +kernel
theorem dX1_next_50 : decode cX1_next 50 = .ok (.invokevirtual 65, 3) := by decide +kernel
theorem dX1_next_53 : decode cX1_next 53 = .ok (.ireturn, 1) := by decide +kernel
theorem dX1_next_54 : decode cX1_next 54 = .ok (.aload_n 0, 1) := by decide +kernel
theorem dX1_next_55 : decode cX1_next 55 = .ok (.invokevirtual 38, 3) := by decide +kernel
theorem dX1_next_58 : decode cX1_next 58 = .ok (.aload_n 0, 1) := by decide +kernel
theorem dX1_next_59 : decode cX1_next 59 = .ok (.iload_n 2, 1) := by decide +kernel
theorem dX1_next_60 : decode cX1_next 60 = .ok (.iload_n 3, 1) := by decide +kernel
theorem dX1_next_61 : decode cX1_next 61 = .ok (.invokevirtual 41, 3) := by decide +kernel
theorem dX1_next_64 : decode cX1_next 64 = .ok (.istore 5, 2) := by decide +kernel
theorem dX1_next_66 : decode cX1_next 66 = .ok (.iload_n 1, 1) := by decide +kernel
theorem dX1_next_67 : decode cX1_next 67 = .ok (.ifCond .ne 23, 3) := by decide +kernel
theorem dX1_next_70 : decode cX1_next 70 = .ok (.aload_n 0, 1) := by decide +kernel
theorem dX1_next_71 : decode cX1_next 71 = .ok (.iload 5, 2) := by decide +kernel
theorem dX1_next_73 : decode cX1_next 73 = .ok (.iload 4, 2) := by decide +kernel
theorem dX1_next_75 : decode cX1_next 75 = .ok (.aload_n 0, 1) := by decide +kernel
theorem dX1_next_76 : decode cX1_next 76 = .ok (.getfield 22, 3) := by decide +kernel
theorem dX1_next_79 : decode cX1_next 79 = .ok (.iload_n 2, 1) := by decide +kernel
theorem dX1_next_80 : decode cX1_next 80 = .ok (.iload_n 3, 1) := by decide +kernel
theorem dX1_next_81 : decode cX1_next 81 = .ok (.invokevirtual 70, 3) := by decide +kernel
theorem dX1_next_84 : decode cX1_next 84 = .ok (.invokevirtual 74, 3) := by decide +kernel
theorem dX1_next_87 : decode cX1_next 87 = .ok (.goto 11, 3) := by decide +kernel
theorem dX1_next_90 : decode cX1_next 90 = .ok (.aload_n 0, 1) := by decide +kernel
theorem dX1_next_91 : decode cX1_next 91 = .ok (.iload 5, 2) := by decide +kernel
theorem dX1_next_93 : decode cX1_next 93 = .ok (.iload 4, 2) := by decide +kernel
theorem dX1_next_95 : decode cX1_next 95 = .ok (.invokevirtual 78, 3) := by decide +kernel
theorem dX1_next_98 : decode cX1_next 98 = .ok (.ireturn, 1) := by decide +kernel
set_option maxRecDepth 20000 in
theorem ggX1_orderMean_X1_orderMeanFrom : GoodIn wsX1_orderMean wsX1_orderMeanFrom := goodIn_r _ [6, 1, 7, 8, 9, 5, 10, 11, 12, 13, 14, 15, 16, 17, 18, 19, 20, 21, 22, 23, 24, 25, 26, 27, 28, 29, 30, 31, 32, 33, 34, 35, 36, 37, 38, 39, 40, 41, 42, 43, 44, 45, 46, 47, 48, 49, 50, 51, 52, 53, 54, 55, 56, 57, 58, 59, 60, 61, 62, 63, 64, 65, 66, 67, 68, 69, 70, 71, 72, 73, 74, 75, 76, 77, 78, 79, 80, 81, 82, 83, 84, 85, 86, 87, 88, 89, 90, 91, 92, 2, 3, 4, 93, 94, 95, 96, 97, 98, 99, 100, 101, 102, 103, 104, 105, 106, 107, 108, 109, 110, 111, 112] (by decide +kernel) (by decide +kernel)
set_option maxRecDepth 20000 in
theorem gX1_orderMean_X1_orderMeanFrom : GoodIn wsX1_orderMean (wsV RX1 81 RX1 yX1_orderMeanFrom wsX1_orderMeanFrom) := goodIn_app (goodIn_of _ (by decide +kernel)) ggX1_orderMean_X1_orderMeanFrom
theorem dX1_orderMean_0 : decode cX1_orderMean 0 = .ok (.aload_n 0, 1) := by decide +kernel
theorem dX1_orderMean_1 : decode cX1_orderMean 1 = .ok (.aload_n 0, 1) := by decide +kernel
theorem dX1_orderMean_2 : decode cX1_orderMean 2 = .ok (.getfield 22, 3) := by decide +kernel
theorem dX1_orderMean_5 : decode cX1_orderMean 5 = .ok (.getfield 45, 3) := by decide +kernel
theorem dX1_orderMean_8 : decode cX1_orderMean 8 = .ok (.aload_n 0, 1) := by decide +kernel
theorem dX1_orderMean_9 : decode cX1_orderMean 9 = .ok (.getfield 22, 3) := by decide +kernel
theorem dX1_orderMean_12 : decode cX1_orderMean 12 = .ok (.getfield 51, 3) := by decide +kernel
theorem dX1_orderMean_15 : decode cX1_orderMean 15 = .ok (.iconst 0, 1) := by decide +kernel
theorem dX1_orderMean_16 : decode cX1_orderMean 16 = .ok (.invokevirtual 81, 3) := by decide +kernel
theorem dX1_orderMean_19 : decode cX1_orderMean 19 = .ok (.lreturn, 1) := by decide +kernel
set_option maxRecDepth 20000 in
theorem ggX1_orderWorst_X1_orderWorstFrom : GoodIn wsX1_orderWorst wsX1_orderWorstFrom := goodIn_r _ [6, 1, 7, 8, 9, 10, 11, 12, 13, 5, 14, 15, 16, 17, 18, 19, 20, 21, 22, 23, 24, 25, 26, 27, 28, 29, 30, 31, 32, 33, 34, 35, 36, 37, 38, 39, 40, 41, 42, 43, 44, 45, 46, 47, 48, 49, 50, 51, 52, 53, 54, 55, 56, 57, 58, 59, 60, 61, 62, 63, 64, 65, 66, 67, 68, 69, 70, 71, 72, 73, 74, 75, 76, 77, 78, 79, 80, 81, 82, 83, 84, 85, 86, 87, 88, 89, 90, 91, 92, 2, 3, 4, 93, 94, 95, 96, 97, 98, 99, 100, 101, 102, 103, 104, 105, 106, 107, 108, 109, 110, 111, 112] (by decide +kernel) (by decide +kernel)
set_option maxRecDepth 20000 in
theorem gX1_orderWorst_X1_orderWorstFrom : GoodIn wsX1_orderWorst (wsV RX1 85 RX1 yX1_orderWorstFrom wsX1_orderWorstFrom) := goodIn_app (goodIn_of _ (by decide +kernel)) ggX1_orderWorst_X1_orderWorstFrom
theorem dX1_orderWorst_0 : decode cX1_orderWorst 0 = .ok (.aload_n 0, 1) := by decide +kernel
theorem dX1_orderWorst_1 : decode cX1_orderWorst 1 = .ok (.aload_n 0, 1) := by decide +kernel
theorem dX1_orderWorst_2 : decode cX1_orderWorst 2 = .ok (.getfield 22, 3) := by decide +kernel
theorem dX1_orderWorst_5 : decode cX1_orderWorst 5 = .ok (.getfield 45, 3) := by decide +kernel
theorem dX1_orderWorst_8 : decode cX1_orderWorst 8 = .ok (.aload_n 0, 1) := by decide +kernel
theorem dX1_orderWorst_9 : decode cX1_orderWorst 9 = .ok (.getfield 22, 3) := by decide +kernel
theorem dX1_orderWorst_12 : decode cX1_orderWorst 12 = .ok (.getfield 51, 3) := by decide +kernel
theorem dX1_orderWorst_15 : decode cX1_orderWorst 15 = .ok (.iconst 0, 1) := by decide +kernel
theorem dX1_orderWorst_16 : decode cX1_orderWorst 16 = .ok (.invokevirtual 85, 3) := by decide +kernel
theorem dX1_orderWorst_19 : decode cX1_orderWorst 19 = .ok (.ireturn, 1) := by decide +kernel
set_option maxRecDepth 20000 in
theorem ggX1_orderMeanFrom_X1_next : GoodIn wsX1_orderMeanFrom wsX1_next := goodIn_r _ [6, 1, 7, 8, 9, 10, 11, 12, 13, 14, 15, 16, 17, 18, 19, 20, 21, 22, 23, 24, 25, 26, 27, 28, 29, 30, 31, 32, 33, 5, 34, 35, 36, 37, 38, 39, 40, 41, 42, 43, 44, 45, 46, 47, 48, 49, 50, 51, 52, 53, 54, 55, 56, 57, 58, 59, 60, 61, 62, 63, 64, 65, 66, 67, 68, 69, 70, 71, 72, 73, 74, 75, 76, 77, 78, 79, 80, 81, 82, 83, 84, 85, 86, 87, 88, 92, 93, 94, 95, 96, 97, 98, 99, 100, 101, 102, 103, 104, 105, 106, 107, 108, 109, 110, 111] (by decide +kernel) (by decide +kernel)
set_option maxRecDepth 20000 in
theorem gX1_orderMeanFrom_X1_next : GoodIn wsX1_orderMeanFrom (wsV RX1 89 RX1 yX1_next wsX1_next) := goodIn_app (goodIn_of _ (by decide +kernel)) ggX1_orderMeanFrom_X1_next
set_option maxRecDepth 20000 in
theorem ggX1_orderMeanFrom_X4_left : GoodIn wsX1_orderMeanFrom wsX4_left := goodIn_r _ [65, 66, 67, 68, 99, 100, 101, 102, 103, 104] (by decide +kernel) (by decide +kernel)
set_option maxRecDepth 20000 in
theorem gX1_orderMeanFrom_X4_left : GoodIn wsX1_orderMeanFrom (wsV RX1 70 RX4 yX4_left wsX4_left) := goodIn_app (goodIn_of _ (by decide +kernel)) ggX1_orderMeanFrom_X4_left
set_option maxRecDepth 20000 in
theorem ggX1_orderMeanFrom_X1_orderMeanFrom : GoodIn wsX1_orderMeanFrom wsX1_orderMeanFrom := goodIn_r _ [0, 1, 2, 3, 4, 5, 6, 7, 8, 9, 10, 11, 12, 13, 14, 15, 16, 17, 18, 19, 20, 21, 22, 23, 24, 25, 26, 27, 28, 29, 30, 31, 32, 33, 34, 35, 36, 37, 38, 39, 40, 41, 42, 43, 44, 45, 46, 47, 48, 49, 50, 51, 52, 53, 54, 55, 56, 57, 58, 59, 60, 61, 62, 63, 64, 65, 66, 67, 68, 69, 70, 71, 72, 73, 74, 75, 76, 77, 78, 79, 80, 81, 82, 83, 84, 85, 86, 87, 88, 89, 90, 91, 92, 93, 94, 95, 96, 97, 98, 99, 100, 101, 102, 103, 104, 105, 106, 107, 108, 109, 110, 111] (by decide +kernel) (by decide +kernel)
set_option maxRecDepth 20000 in
theorem gX1_orderMeanFrom_X1_orderMeanFrom : GoodIn wsX1_orderMeanFrom (wsV RX1 81 RX1 yX1_orderMeanFrom wsX1_orderMeanFrom) := goodIn_app (goodIn_of _ (by decide +kernel)) ggX1_orderMeanFrom_X1_orderMeanFrom
theorem dX1_orderMeanFrom_0 : decode cX1_orderMeanFrom 0 = .ok (.aload_n 0, 1) := by decide +kernel
theorem dX1_orderMeanFrom_1 : decode cX1_orderMeanFrom 1 = .ok (.iconst 2, 1) := by decide +kernel
theorem dX1_orderMeanFrom_2 : decode cX1_orderMeanFrom 2 = .ok (.iload_n 1, 1) := by decide +kernel
theorem dX1_orderMeanFrom_3 : decode cX1_orderMeanFrom 3 = .ok (.iload_n 2, 1) := by decide +kernel
theorem dX1_orderMeanFrom_4 : decode cX1_orderMeanFrom 4 = .ok (.invokevirtual 89, 3) := by decide +kernel
theorem dX1_orderMeanFrom_7 : decode cX1_orderMeanFrom 7 = .ok (.istore 4, 2) := by decide +kernel
theorem dX1_orderMeanFrom_9 : decode cX1_orderMeanFrom 9 = .ok (.iload 4, 2) := by decide +kernel
theorem dX1_orderMeanFrom_11 : decode cX1_orderMeanFrom 11 = .ok (.iconst (-1), 1) := by decide +kernel
theorem dX1_orderMeanFrom_12 : decode cX1_orderMeanFrom 12 = .ok (.if_icmp .ne 16, 3) := by decide +kernel
theorem dX1_orderMeanFrom_15 : decode cX1_orderMeanFrom 15 = .ok (.iload_n 3, 1) := by decide +kernel
theorem dX1_orderMeanFrom_16 : decode cX1_orderMeanFrom 16 = .ok (.i2l, 1) := by decide +kernel
theorem dX1_orderMeanFrom_17 : decode cX1_orderMeanFrom 17 = .ok (.aload_n 0, 1) := by decide +kernel
theorem dX1_orderMeanFrom_18 : decode cX1_orderMeanFrom 18 = .ok (.getfield 22, 3) := by decide +kernel
theorem dX1_orderMeanFrom_21 : decode cX1_orderMeanFrom 21 = .ok (.iload_n 1, 1) := by decide +kernel
theorem dX1_orderMeanFrom_22 : decode cX1_orderMeanFrom 22 = .ok (.iload_n 2, 1) := by decide +kernel
theorem dX1_orderMeanFrom_23 : decode cX1_orderMeanFrom 23 = .ok (.invokevirtual 70, 3) := by decide +kernel
theorem dX1_orderMeanFrom_26 : decode cX1_orderMeanFrom 26 = .ok (.lmul, 1) := by decide +kernel
theorem dX1_orderMeanFrom_27 : decode cX1_orderMeanFrom 27 = .ok (.lreturn, 1) := by decide +kernel
theorem dX1_orderMeanFrom_28 : decode cX1_orderMeanFrom 28 = .ok (.iload_n 1, 1) := by decide +kernel
theorem dX1_orderMeanFrom_29 : decode cX1_orderMeanFrom 29 = .ok (.iconst 1, 1) := by decide +kernel
theorem dX1_orderMeanFrom_30 : decode cX1_orderMeanFrom 30 = .ok (.iload 4, 2) := by decide +kernel
theorem dX1_orderMeanFrom_32 : decode cX1_orderMeanFrom 32 = .ok (.ishl, 1) := by decide +kernel
theorem dX1_orderMeanFrom_33 : decode cX1_orderMeanFrom 33 = .ok (.ior, 1) := by decide +kernel
theorem dX1_orderMeanFrom_34 : decode cX1_orderMeanFrom 34 = .ok (.istore 5, 2) := by decide +kernel
theorem dX1_orderMeanFrom_36 : decode cX1_orderMeanFrom 36 = .ok (.iload_n 3, 1) := by decide +kernel
theorem dX1_orderMeanFrom_37 : decode cX1_orderMeanFrom 37 = .ok (.aload_n 0, 1) := by decide +kernel
theorem dX1_orderMeanFrom_38 : decode cX1_orderMeanFrom 38 = .ok (.getfield 22, 3) := by decide +kernel
theorem dX1_orderMeanFrom_41 : decode cX1_orderMeanFrom 41 = .ok (.getfield 92, 3) := by decide +kernel
theorem dX1_orderMeanFrom_44 : decode cX1_orderMeanFrom 44 = .ok (.iload 4, 2) := by decide +kernel
theorem dX1_orderMeanFrom_46 : decode cX1_orderMeanFrom 46 = .ok (.iaload, 1) := by decide +kernel
theorem dX1_orderMeanFrom_47 : decode cX1_orderMeanFrom 47 = .ok (.iadd, 1) := by decide +kernel
theorem dX1_orderMeanFrom_48 : decode cX1_orderMeanFrom 48 = .ok (.istore 6, 2) := by decide +kernel
theorem dX1_orderMeanFrom_50 : decode cX1_orderMeanFrom 50 = .ok (.aload_n 0, 1) := by decide +kernel
theorem dX1_orderMeanFrom_51 : decode cX1_orderMeanFrom 51 = .ok (.iload 5, 2) := by decide +kernel
theorem dX1_orderMeanFrom_53 : decode cX1_orderMeanFrom 53 = .ok (.iload_n 2, 1) := by decide +kernel
theorem dX1_orderMeanFrom_54 : decode cX1_orderMeanFrom 54 = .ok (.iconst 1, 1) := by decide +kernel
theorem dX1_orderMeanFrom_55 : decode cX1_orderMeanFrom 55 = .ok (.iload 4, 2) := by decide +kernel
theorem dX1_orderMeanFrom_57 : decode cX1_orderMeanFrom 57 = .ok (.ishl, 1) := by decide +kernel
theorem dX1_orderMeanFrom_58 : decode cX1_orderMeanFrom 58 = .ok (.ior, 1) := by decide +kernel
theorem dX1_orderMeanFrom_59 : decode cX1_orderMeanFrom 59 = .ok (.iload 6, 2) := by decide +kernel
theorem dX1_orderMeanFrom_61 : decode cX1_orderMeanFrom 61 = .ok (.invokevirtual 81, 3) := by decide +kernel
theorem dX1_orderMeanFrom_64 : decode cX1_orderMeanFrom 64 = .ok (.aload_n 0, 1) := by decide +kernel
theorem dX1_orderMeanFrom_65 : decode cX1_orderMeanFrom 65 = .ok (.iload 5, 2) := by decide +kernel
theorem dX1_orderMeanFrom_67 : decode cX1_orderMeanFrom 67 = .ok (.iload_n 2, 1) := by decide +kernel
theorem dX1_orderMeanFrom_68 : decode cX1_orderMeanFrom 68 = .ok (.iload 6, 2) := by decide +kernel
theorem dX1_orderMeanFrom_70 : decode cX1_orderMeanFrom 70 = .ok (.invokevirtual 81, 3) := by decide +kernel
theorem dX1_orderMeanFrom_73 : decode cX1_orderMeanFrom 73 = .ok (.ladd, 1) := by decide +kernel
theorem dX1_orderMeanFrom_74 : decode cX1_orderMeanFrom 74 = .ok (.lreturn, 1) := by decide +kernel
set_option maxRecDepth 20000 in
theorem ggX1_orderWorstFrom_X1_next : GoodIn wsX1_orderWorstFrom wsX1_next := goodIn_r _ [10, 1, 11, 12, 13, 14, 15, 16, 17, 18, 19, 20, 21, 22, 23, 24, 25, 26, 27, 28, 29, 30, 31, 32, 33, 34, 35, 36, 37, 9, 38, 39, 40, 41, 42, 43, 44, 45, 46, 47, 48, 49, 50, 51, 52, 53, 54, 55, 56, 57, 58, 59, 60, 61, 62, 63, 64, 65, 66, 67, 68, 69, 70, 71, 72, 73, 74, 75, 76, 77, 78, 79, 80, 81, 82, 83, 84, 85, 86, 87, 88, 2, 3, 4, 5, 92, 93, 94, 95, 96, 97, 98, 99, 100, 101, 102, 103, 104, 105, 106, 107, 108, 109, 110, 111] (by decide +kernel) (by decide +kernel)
set_option maxRecDepth 20000 in
theorem gX1_orderWorstFrom_X1_next : GoodIn wsX1_orderWorstFrom (wsV RX1 89 RX1 yX1_next wsX1_next) := goodIn_app (goodIn_of _ (by decide +kernel)) ggX1_orderWorstFrom_X1_next
set_option maxRecDepth 20000 in
theorem ggX1_orderWorstFrom_X1_orderWorstFrom : GoodIn wsX1_orderWorstFrom wsX1_orderWorstFrom := goodIn_r _ [0, 1, 2, 3, 4, 5, 6, 7, 8, 9, 10, 11, 12, 13, 14, 15, 16, 17, 18, 19, 20, 21, 22, 23, 24, 25, 26, 27, 28, 29, 30, 31, 32, 33, 34, 35, 36, 37, 38, 39, 40, 41, 42, 43, 44, 45, 46, 47, 48, 49, 50, 51, 52, 53, 54, 55, 56, 57, 58, 59, 60, 61, 62, 63, 64, 65, 66, 67, 68, 69, 70, 71, 72, 73, 74, 75, 76, 77, 78, 79, 80, 81, 82, 83, 84, 85, 86, 87, 88, 89, 90, 91, 92, 93, 94, 95, 96, 97, 98, 99, 100, 101, 102, 103, 104, 105, 106, 107, 108, 109, 110, 111] (by decide +kernel) (by decide +kernel)
set_option maxRecDepth 20000 in
theorem gX1_orderWorstFrom_X1_orderWorstFrom : GoodIn wsX1_orderWorstFrom (wsV RX1 85 RX1 yX1_orderWorstFrom wsX1_orderWorstFrom) := goodIn_app (goodIn_of _ (by decide +kernel)) ggX1_orderWorstFrom_X1_orderWorstFrom
theorem dX1_orderWorstFrom_0 : decode cX1_orderWorstFrom 0 = .ok (.aload_n 0, 1) := by decide +kernel
theorem dX1_orderWorstFrom_1 : decode cX1_orderWorstFrom 1 = .ok (.iconst 2, 1) := by decide +kernel
theorem dX1_orderWorstFrom_2 : decode cX1_orderWorstFrom 2 = .ok (.iload_n 1, 1) := by decide +kernel
theorem dX1_orderWorstFrom_3 : decode cX1_orderWorstFrom 3 = .ok (.iload_n 2, 1) := by decide +kernel
theorem dX1_orderWorstFrom_4 : decode cX1_orderWorstFrom 4 = .ok (.invokevirtual 89, 3) := by decide +kernel
theorem dX1_orderWorstFrom_7 : decode cX1_orderWorstFrom 7 = .ok (.istore 4, 2) := by decide +kernel
theorem dX1_orderWorstFrom_9 : decode cX1_orderWorstFrom 9 = .ok (.iload 4, 2) := by decide +kernel
theorem dX1_orderWorstFrom_11 : decode cX1_orderWorstFrom 11 = .ok (.iconst (-1), 1) := by decide +kernel
theorem dX1_orderWorstFrom_12 : decode cX1_orderWorstFrom 12 = .ok (.if_icmp .ne 5, 3) := by decide +kernel
theorem dX1_orderWorstFrom_15 : decode cX1_orderWorstFrom 15 = .ok (.iload_n 3, 1) := by decide +kernel
theorem dX1_orderWorstFrom_16 : decode cX1_orderWorstFrom 16 = .ok (.ireturn, 1) := by decide +kernel
theorem dX1_orderWorstFrom_17 : decode cX1_orderWorstFrom 17 = .ok (.iload_n 1, 1) := by decide +kernel
theorem dX1_orderWorstFrom_18 : decode cX1_orderWorstFrom 18 = .ok (.iconst 1, 1) := by decide +kernel
theorem dX1_orderWorstFrom_19 : decode cX1_orderWorstFrom 19 = .ok (.iload 4, 2) := by decide +kernel
theorem dX1_orderWorstFrom_21 : decode cX1_orderWorstFrom 21 = .ok (.ishl, 1) := by decide +kernel
theorem dX1_orderWorstFrom_22 : decode cX1_orderWorstFrom 22 = .ok (.ior, 1) := by decide +kernel
theorem dX1_orderWorstFrom_23 : decode cX1_orderWorstFrom 23 = .ok (.istore 5, 2) := by decide +kernel
theorem dX1_orderWorstFrom_25 : decode cX1_orderWorstFrom 25 = .ok (.iload_n 3, 1) := by decide +kernel
theorem dX1_orderWorstFrom_26 : decode cX1_orderWorstFrom 26 = .ok (.aload_n 0, 1) := by decide +kernel
theorem dX1_orderWorstFrom_27 : decode cX1_orderWorstFrom 27 = .ok (.getfield 22, 3) := by decide +kernel
theorem dX1_orderWorstFrom_30 : decode cX1_orderWorstFrom 30 = .ok (.getfield 92, 3) := by decide +kernel
theorem dX1_orderWorstFrom_33 : decode cX1_orderWorstFrom 33 = .ok (.iload 4, 2) := by decide +kernel
theorem dX1_orderWorstFrom_35 : decode cX1_orderWorstFrom 35 = .ok (.iaload, 1) := by decide +kernel
theorem dX1_orderWorstFrom_36 : decode cX1_orderWorstFrom 36 = .ok (.iadd, 1) := by decide +kernel
theorem dX1_orderWorstFrom_37 : decode cX1_orderWorstFrom 37 = .ok (.istore 6, 2) := by decide +kernel
theorem dX1_orderWorstFrom_39 : decode cX1_orderWorstFrom 39 = .ok (.aload_n 0, 1) := by decide +kernel
theorem dX1_orderWorstFrom_40 : decode cX1_orderWorstFrom 40 = .ok (.iload 5, 2) := by decide +kernel
theorem dX1_orderWorstFrom_42 : decode cX1_orderWorstFrom 42 = .ok (.iload_n 2, 1) := by decide +kernel
theorem dX1_orderWorstFrom_43 : decode cX1_orderWorstFrom 43 = .ok (.iconst 1, 1) := by decide +kernel
theorem dX1_orderWorstFrom_44 : decode cX1_orderWorstFrom 44 = .ok (.iload 4, 2) := by decide +kernel
theorem dX1_orderWorstFrom_46 : decode cX1_orderWorstFrom 46 = .ok (.ishl, 1) := by decide +kernel
theorem dX1_orderWorstFrom_47 : decode cX1_orderWorstFrom 47 = .ok (.ior, 1) := by decide +kernel
theorem dX1_orderWorstFrom_48 : decode cX1_orderWorstFrom 48 = .ok (.iload 6, 2) := by decide +kernel
theorem dX1_orderWorstFrom_50 : decode cX1_orderWorstFrom 50 = .ok (.invokevirtual 85, 3) := by decide +kernel
theorem dX1_orderWorstFrom_53 : decode cX1_orderWorstFrom 53 = .ok (.aload_n 0, 1) := by decide +kernel
theorem dX1_orderWorstFrom_54 : decode cX1_orderWorstFrom 54 = .ok (.iload 5, 2) := by decide +kernel
theorem dX1_orderWorstFrom_56 : decode cX1_orderWorstFrom 56 = .ok (.iload_n 2, 1) := by decide +kernel
theorem dX1_orderWorstFrom_57 : decode cX1_orderWorstFrom 57 = .ok (.iload 6, 2) := by decide +kernel
theorem dX1_orderWorstFrom_59 : decode cX1_orderWorstFrom 59 = .ok (.invokevirtual 85, 3) := by decide +kernel
theorem dX1_orderWorstFrom_62 : decode cX1_orderWorstFrom 62 = .ok (.invokestatic 95, 3) := by decide +kernel
theorem dX1_orderWorstFrom_65 : decode cX1_orderWorstFrom 65 = .ok (.ireturn, 1) := by decide +kernel
set_option maxRecDepth 20000 in
theorem ggX1_nextOfBest_X1_meanFrom : GoodIn wsX1_nextOfBest wsX1_meanFrom := goodIn_r _ [7, 1, 2, 8, 9, 10, 11, 12, 13, 14, 15, 16, 17, 18, 19, 20, 21] (by decide +kernel) (by decide +kernel)
set_option maxRecDepth 20000 in
theorem gX1_nextOfBest_X1_meanFrom : GoodIn wsX1_nextOfBest (wsV RX1 100 RX1 yX1_meanFrom wsX1_meanFrom) := goodIn_app (goodIn_of _ (by decide +kernel)) ggX1_nextOfBest_X1_meanFrom
theorem dX1_nextOfBest_0 : decode cX1_nextOfBest 0 = .ok (.iconst 0, 1) := by decide +kernel
theorem dX1_nextOfBest_1 : decode cX1_nextOfBest 1 = .ok (.istore 5, 2) := by decide +kernel
theorem dX1_nextOfBest_3 : decode cX1_nextOfBest 3 = .ok (.iload 5, 2) := by decide +kernel
theorem dX1_nextOfBest_5 : decode cX1_nextOfBest 5 = .ok (.aload_n 0, 1) := by decide +kernel
theorem dX1_nextOfBest_6 : decode cX1_nextOfBest 6 = .ok (.getfield 22, 3) := by decide +kernel
theorem dX1_nextOfBest_9 : decode cX1_nextOfBest 9 = .ok (.getfield 57, 3) := by decide +kernel
theorem dX1_nextOfBest_12 : decode cX1_nextOfBest 12 = .ok (.if_icmp .ge 40, 3) := by decide +kernel
theorem dX1_nextOfBest_15 : decode cX1_nextOfBest 15 = .ok (.iload_n 2, 1) := by decide +kernel
theorem dX1_nextOfBest_16 : decode cX1_nextOfBest 16 = .ok (.iload 5, 2) := by decide +kernel
theorem dX1_nextOfBest_18 : decode cX1_nextOfBest 18 = .ok (.ishr, 1) := by decide +kernel
theorem dX1_nextOfBest_19 : decode cX1_nextOfBest 19 = .ok (.iconst 1, 1) := by decide +kernel
theorem dX1_nextOfBest_20 : decode cX1_nextOfBest 20 = .ok (.iand, 1) := by decide +kernel
theorem dX1_nextOfBest_21 : decode cX1_nextOfBest 21 = .ok (.iconst 1, 1) := by decide +kernel
theorem dX1_nextOfBest_22 : decode cX1_nextOfBest 22 = .ok (.if_icmp .ne 24, 3) := by decide +kernel
theorem dX1_nextOfBest_25 : decode cX1_nextOfBest 25 = .ok (.aload_n 0, 1) := by decide +kernel
theorem dX1_nextOfBest_26 : decode cX1_nextOfBest 26 = .ok (.iload 5, 2) := by decide +kernel
theorem dX1_nextOfBest_28 : decode cX1_nextOfBest 28 = .ok (.iload_n 1, 1) := by decide +kernel
theorem dX1_nextOfBest_29 : decode cX1_nextOfBest 29 = .ok (.lload_n 3, 1) := by decide +kernel
theorem dX1_nextOfBest_30 : decode cX1_nextOfBest 30 = .ok (.invokevirtual 100, 3) := by decide +kernel
theorem dX1_nextOfBest_33 : decode cX1_nextOfBest 33 = .ok (.aload_n 0, 1) := by decide +kernel
theorem dX1_nextOfBest_34 : decode cX1_nextOfBest 34 = .ok (.getfield 15, 3) := by decide +kernel
theorem dX1_nextOfBest_37 : decode cX1_nextOfBest 37 = .ok (.iload_n 1, 1) := by decide +kernel
theorem dX1_nextOfBest_38 : decode cX1_nextOfBest 38 = .ok (.laload, 1) := by decide +kernel
theorem dX1_nextOfBest_39 : decode cX1_nextOfBest 39 = .ok (.lcmp, 1) := by decide +kernel
theorem dX1_nextOfBest_40 : decode cX1_nextOfBest 40 = .ok (.ifCond .ne 6, 3) := by decide +kernel
theorem dX1_nextOfBest_43 : decode cX1_nextOfBest 43 = .ok (.iload 5, 2) := by decide +kernel
theorem dX1_nextOfBest_45 : decode cX1_nextOfBest 45 = .ok (.ireturn, 1) := by decide +kernel
theorem dX1_nextOfBest_46 : decode cX1_nextOfBest 46 = .ok (.iinc 5 1, 3) := by decide +kernel
theorem dX1_nextOfBest_49 : decode cX1_nextOfBest 49 = .ok (.goto (-46), 3) := by decide +kernel
theorem dX1_nextOfBest_52 : decode cX1_nextOfBest 52 = .ok (.iconst (-1), 1) := by decide +kernel
theorem dX1_nextOfBest_53 : decode cX1_nextOfBest 53 = .ok (.ireturn, 1) := by decide +kernel
set_option maxRecDepth 20000 in
theorem ggX1_nextOfWorst_X1_worstFrom : GoodIn wsX1_nextOfWorst wsX1_worstFrom := goodIn_r _ [7, 1, 2, 8, 9, 10, 11, 12, 13, 14, 15, 16, 17, 18, 19, 20, 21, 22, 23, 24, 25] (by decide +kernel) (by decide +kernel)
set_option maxRecDepth 20000 in
theorem gX1_nextOfWorst_X1_worstFrom : GoodIn wsX1_nextOfWorst (wsV RX1 104 RX1 yX1_worstFrom wsX1_worstFrom) := goodIn_app (goodIn_of _ (by decide +kernel)) ggX1_nextOfWorst_X1_worstFrom
theorem dX1_nextOfWorst_0 : decode cX1_nextOfWorst 0 = .ok (.iconst 0, 1) := by decide +kernel
theorem dX1_nextOfWorst_1 : decode cX1_nextOfWorst 1 = .ok (.istore_n 3, 1) := by decide +kernel
theorem dX1_nextOfWorst_2 : decode cX1_nextOfWorst 2 = .ok (.iload_n 3, 1) := by decide +kernel
theorem dX1_nextOfWorst_3 : decode cX1_nextOfWorst 3 = .ok (.aload_n 0, 1) := by decide +kernel
theorem dX1_nextOfWorst_4 : decode cX1_nextOfWorst 4 = .ok (.getfield 22, 3) := by decide +kernel
theorem dX1_nextOfWorst_7 : decode cX1_nextOfWorst 7 = .ok (.getfield 57, 3) := by decide +kernel
theorem dX1_nextOfWorst_10 : decode cX1_nextOfWorst 10 = .ok (.if_icmp .ge 35, 3) := by decide +kernel
theorem dX1_nextOfWorst_13 : decode cX1_nextOfWorst 13 = .ok (.iload_n 2, 1) := by decide +kernel
theorem dX1_nextOfWorst_14 : decode cX1_nextOfWorst 14 = .ok (.iload_n 3, 1) := by decide +kernel
theorem dX1_nextOfWorst_15 : decode cX1_nextOfWorst 15 = .ok (.ishr, 1) := by decide +kernel
theorem dX1_nextOfWorst_16 : decode cX1_nextOfWorst 16 = .ok (.iconst 1, 1) := by decide +kernel
theorem dX1_nextOfWorst_17 : decode cX1_nextOfWorst 17 = .ok (.iand, 1) := by decide +kernel
theorem dX1_nextOfWorst_18 : decode cX1_nextOfWorst 18 = .ok (.iconst 1, 1) := by decide +kernel
theorem dX1_nextOfWorst_19 : decode cX1_nextOfWorst 19 = .ok (.if_icmp .ne 20, 3) := by decide +kernel
theorem dX1_nextOfWorst_22 : decode cX1_nextOfWorst 22 = .ok (.aload_n 0, 1) := by decide +kernel
theorem dX1_nextOfWorst_23 : decode cX1_nextOfWorst 23 = .ok (.iload_n 3, 1) := by decide +kernel
theorem dX1_nextOfWorst_24 : decode cX1_nextOfWorst 24 = .ok (.iload_n 1, 1) := by decide +kernel
theorem dX1_nextOfWorst_25 : decode cX1_nextOfWorst 25 = .ok (.invokevirtual 104, 3) := by decide +kernel
theorem dX1_nextOfWorst_28 : decode cX1_nextOfWorst 28 = .ok (.aload_n 0, 1) := by decide +kernel
theorem dX1_nextOfWorst_29 : decode cX1_nextOfWorst 29 = .ok (.getfield 19, 3) := by decide +kernel
theorem dX1_nextOfWorst_32 : decode cX1_nextOfWorst 32 = .ok (.iload_n 1, 1) := by decide +kernel
theorem dX1_nextOfWorst_33 : decode cX1_nextOfWorst 33 = .ok (.iaload, 1) := by decide +kernel
theorem dX1_nextOfWorst_34 : decode cX1_nextOfWorst 34 = .ok (.if_icmp .ne 5, 3) := by decide +kernel
theorem dX1_nextOfWorst_37 : decode cX1_nextOfWorst 37 = .ok (.iload_n 3, 1) := by decide +kernel
theorem dX1_nextOfWorst_38 : decode cX1_nextOfWorst 38 = .ok (.ireturn, 1) := by decide +kernel
theorem dX1_nextOfWorst_39 : decode cX1_nextOfWorst 39 = .ok (.iinc 3 1, 3) := by decide +kernel
theorem dX1_nextOfWorst_42 : decode cX1_nextOfWorst 42 = .ok (.goto (-40), 3) := by decide +kernel
theorem dX1_nextOfWorst_45 : decode cX1_nextOfWorst 45 = .ok (.iconst (-1), 1) := by decide +kernel
theorem dX1_nextOfWorst_46 : decode cX1_nextOfWorst 46 = .ok (.ireturn, 1) := by decide +kernel
theorem dX1_meanFrom_0 : decode cX1_meanFrom 0 = .ok (.aload_n 0, 1) := by decide +kernel
theorem dX1_meanFrom_1 : decode cX1_meanFrom 1 = .ok (.getfield 22, 3) := by decide +kernel
theorem dX1_meanFrom_4 : decode cX1_meanFrom 4 = .ok (.getfield 92, 3) := by decide +kernel
theorem dX1_meanFrom_7 : decode cX1_meanFrom 7 = .ok (.iload_n 1, 1) := by decide +kernel
theorem dX1_meanFrom_8 : decode cX1_meanFrom 8 = .ok (.iaload, 1) := by decide +kernel
theorem dX1_meanFrom_9 : decode cX1_meanFrom 9 = .ok (.i2l, 1) := by decide +kernel
theorem dX1_meanFrom_10 : decode cX1_meanFrom 10 = .ok (.lload_n 3, 1) := by decide +kernel
theorem dX1_meanFrom_11 : decode cX1_meanFrom 11 = .ok (.lmul, 1) := by decide +kernel
theorem dX1_meanFrom_12 : decode cX1_meanFrom 12 = .ok (.aload_n 0, 1) := by decide +kernel
theorem dX1_meanFrom_13 : decode cX1_meanFrom 13 = .ok (.getfield 15, 3) := by decide +kernel
theorem dX1_meanFrom_16 : decode cX1_meanFrom 16 = .ok (.iload_n 2, 1) := by decide +kernel
theorem dX1_meanFrom_17 : decode cX1_meanFrom 17 = .ok (.getstatic 54, 3) := by decide +kernel
theorem dX1_meanFrom_20 : decode cX1_meanFrom 20 = .ok (.iload_n 1, 1) := by decide +kernel
theorem dX1_meanFrom_21 : decode cX1_meanFrom 21 = .ok (.iaload, 1) := by decide +kernel
theorem dX1_meanFrom_22 : decode cX1_meanFrom 22 = .ok (.iadd, 1) := by decide +kernel
theorem dX1_meanFrom_23 : decode cX1_meanFrom 23 = .ok (.laload, 1) := by decide +kernel
theorem dX1_meanFrom_24 : decode cX1_meanFrom 24 = .ok (.ladd, 1) := by decide +kernel
theorem dX1_meanFrom_25 : decode cX1_meanFrom 25 = .ok (.aload_n 0, 1) := by decide +kernel
theorem dX1_meanFrom_26 : decode cX1_meanFrom 26 = .ok (.getfield 15, 3) := by decide +kernel
theorem dX1_meanFrom_29 : decode cX1_meanFrom 29 = .ok (.iload_n 2, 1) := by decide +kernel
theorem dX1_meanFrom_30 : decode cX1_meanFrom 30 = .ok (.iconst 2, 1) := by decide +kernel
theorem dX1_meanFrom_31 : decode cX1_meanFrom 31 = .ok (.getstatic 54, 3) := by decide +kernel
theorem dX1_meanFrom_34 : decode cX1_meanFrom 34 = .ok (.iload_n 1, 1) := by decide +kernel
theorem dX1_meanFrom_35 : decode cX1_meanFrom 35 = .ok (.iaload, 1) := by decide +kernel
theorem dX1_meanFrom_36 : decode cX1_meanFrom 36 = .ok (.imul, 1) := by decide +kernel
theorem dX1_meanFrom_37 : decode cX1_meanFrom 37 = .ok (.iadd, 1) := by decide +kernel
theorem dX1_meanFrom_38 : decode cX1_meanFrom 38 = .ok (.laload, 1) := by decide +kernel
theorem dX1_meanFrom_39 : decode cX1_meanFrom 39 = .ok (.ladd, 1) := by decide +kernel
theorem dX1_meanFrom_40 : decode cX1_meanFrom 40 = .ok (.lreturn, 1) := by decide +kernel
theorem dX1_worstFrom_0 : decode cX1_worstFrom 0 = .ok (.aload_n 0, 1) := by decide +kernel
theorem dX1_worstFrom_1 : decode cX1_worstFrom 1 = .ok (.getfield 22, 3) := by decide +kernel
theorem dX1_worstFrom_4 : decode cX1_worstFrom 4 = .ok (.getfield 92, 3) := by decide +kernel
theorem dX1_worstFrom_7 : decode cX1_worstFrom 7 = .ok (.iload_n 1, 1) := by decide +kernel
theorem dX1_worstFrom_8 : decode cX1_worstFrom 8 = .ok (.iaload, 1) := by decide +kernel
theorem dX1_worstFrom_9 : decode cX1_worstFrom 9 = .ok (.aload_n 0, 1) := by decide +kernel
theorem dX1_worstFrom_10 : decode cX1_worstFrom 10 = .ok (.getfield 19, 3) := by decide +kernel
theorem dX1_worstFrom_13 : decode cX1_worstFrom 13 = .ok (.iload_n 2, 1) := by decide +kernel
theorem dX1_worstFrom_14 : decode cX1_worstFrom 14 = .ok (.getstatic 54, 3) := by decide +kernel
theorem dX1_worstFrom_17 : decode cX1_worstFrom 17 = .ok (.iload_n 1, 1) := by decide +kernel
theorem dX1_worstFrom_18 : decode cX1_worstFrom 18 = .ok (.iaload, 1) := by decide +kernel
theorem dX1_worstFrom_19 : decode cX1_worstFrom 19 = .ok (.iadd, 1) := by decide +kernel
theorem dX1_worstFrom_20 : decode cX1_worstFrom 20 = .ok (.iaload, 1) := by decide +kernel
theorem dX1_worstFrom_21 : decode cX1_worstFrom 21 = .ok (.aload_n 0, 1) := by decide +kernel
theorem dX1_worstFrom_22 : decode cX1_worstFrom 22 = .ok (.getfield 19, 3) := by decide +kernel
theorem dX1_worstFrom_25 : decode cX1_worstFrom 25 = .ok (.iload_n 2, 1) := by decide +kernel
theorem dX1_worstFrom_26 : decode cX1_worstFrom 26 = .ok (.iconst 2, 1) := by decide +kernel
theorem dX1_worstFrom_27 : decode cX1_worstFrom 27 = .ok (.getstatic 54, 3) := by decide +kernel
theorem dX1_worstFrom_30 : decode cX1_worstFrom 30 = .ok (.iload_n 1, 1) := by decide +kernel
theorem dX1_worstFrom_31 : decode cX1_worstFrom 31 = .ok (.iaload, 1) := by decide +kernel
theorem dX1_worstFrom_32 : decode cX1_worstFrom 32 = .ok (.imul, 1) := by decide +kernel
theorem dX1_worstFrom_33 : decode cX1_worstFrom 33 = .ok (.iadd, 1) := by decide +kernel
theorem dX1_worstFrom_34 : decode cX1_worstFrom 34 = .ok (.iaload, 1) := by decide +kernel
theorem dX1_worstFrom_35 : decode cX1_worstFrom 35 = .ok (.invokestatic 95, 3) := by decide +kernel
theorem dX1_worstFrom_38 : decode cX1_worstFrom 38 = .ok (.iadd, 1) := by decide +kernel
theorem dX1_worstFrom_39 : decode cX1_worstFrom 39 = .ok (.ireturn, 1) := by decide +kernel
theorem dX1_stateOf_0 : decode cX1_stateOf 0 = .ok (.iconst 0, 1) := by decide +kernel
theorem dX1_stateOf_1 : decode cX1_stateOf 1 = .ok (.istore_n 3, 1) := by decide +kernel
theorem dX1_stateOf_2 : decode cX1_stateOf 2 = .ok (.iconst 0, 1) := by decide +kernel
theorem dX1_stateOf_3 : decode cX1_stateOf 3 = .ok (.istore 4, 2) := by decide +kernel
theorem dX1_stateOf_5 : decode cX1_stateOf 5 = .ok (.iload 4, 2) := by decide +kernel
theorem dX1_stateOf_7 : decode cX1_stateOf 7 = .ok (.aload_n 0, 1) := by decide +kernel
theorem dX1_stateOf_8 : decode cX1_stateOf 8 = .ok (.getfield 22, 3) := by decide +kernel
theorem dX1_stateOf_11 : decode cX1_stateOf 11 = .ok (.getfield 57, 3) := by decide +kernel
theorem dX1_stateOf_14 : decode cX1_stateOf 14 = .ok (.if_icmp .ge 49, 3) := by decide +kernel
theorem dX1_stateOf_17 : decode cX1_stateOf 17 = .ok (.iload_n 1, 1) := by decide +kernel
theorem dX1_stateOf_18 : decode cX1_stateOf 18 = .ok (.iload 4, 2) := by decide +kernel
theorem dX1_stateOf_20 : decode cX1_stateOf 20 = .ok (.ishr, 1) := by decide +kernel
theorem dX1_stateOf_21 : decode cX1_stateOf 21 = .ok (.iconst 1, 1) := by decide +kernel
theorem dX1_stateOf_22 : decode cX1_stateOf 22 = .ok (.iand, 1) := by decide +kernel
theorem dX1_stateOf_23 : decode cX1_stateOf 23 = .ok (.iconst 1, 1) := by decide +kernel
theorem dX1_stateOf_24 : decode cX1_stateOf 24 = .ok (.if_icmp .ne 33, 3) := by decide +kernel
theorem dX1_stateOf_27 : decode cX1_stateOf 27 = .ok (.iload_n 3, 1) := by decide +kernel
theorem dX1_stateOf_28 : decode cX1_stateOf 28 = .ok (.iload_n 2, 1) := by decide +kernel
theorem dX1_stateOf_29 : decode cX1_stateOf 29 = .ok (.iload 4, 2) := by decide +kernel
theorem dX1_stateOf_31 : decode cX1_stateOf 31 = .ok (.ishr, 1) := by decide +kernel
theorem dX1_stateOf_32 : decode cX1_stateOf 32 = .ok (.iconst 1, 1) := by decide +kernel
theorem dX1_stateOf_33 : decode cX1_stateOf 33 = .ok (.iand, 1) := by decide +kernel
theorem dX1_stateOf_34 : decode cX1_stateOf 34 = .ok (.iconst 1, 1) := by decide +kernel
theorem dX1_stateOf_35 : decode cX1_stateOf 35 = .ok (.if_icmp .ne 14, 3) := by decide +kernel
theorem dX1_stateOf_38 : decode cX1_stateOf 38 = .ok (.iconst 2, 1) := by decide +kernel
theorem dX1_stateOf_39 : decode cX1_stateOf 39 = .ok (.getstatic 54, 3) := by decide +kernel
theorem dX1_stateOf_42 : decode cX1_stateOf 42 = .ok (.iload 4, 2) := by decide +kernel
theorem dX1_stateOf_44 : decode cX1_stateOf 44 = .ok (.iaload, 1) := by decide +kernel
theorem dX1_stateOf_45 : decode cX1_stateOf 45 = .ok (.imul, 1) := by decide +kernel
theorem dX1_stateOf_46 : decode cX1_stateOf 46 = .ok (.goto 9, 3) := by decide +kernel
theorem dX1_stateOf_49 : decode cX1_stateOf 49 = .ok (.getstatic 54, 3) := by decide +kernel
theorem dX1_stateOf_52 : decode cX1_stateOf 52 = .ok (.iload 4, 2) := by decide +kernel
theorem dX1_stateOf_54 : decode cX1_stateOf 54 = .ok (.iaload, 1) := by decide +kernel
theorem dX1_stateOf_55 : decode cX1_stateOf 55 = .ok (.iadd, 1) := by decide +kernel
theorem dX1_stateOf_56 : decode cX1_stateOf 56 = .ok (.istore_n 3, 1) := by decide +kernel
theorem dX1_stateOf_57 : decode cX1_stateOf 57 = .ok (.iinc 4 1, 3) := by decide +kernel
theorem dX1_stateOf_60 : decode cX1_stateOf 60 = .ok (.goto (-55), 3) := by decide +kernel
theorem dX1_stateOf_63 : decode cX1_stateOf 63 = .ok (.iload_n 3, 1) := by decide +kernel
theorem dX1_stateOf_64 : decode cX1_stateOf 64 = .ok (.ireturn, 1) := by decide +kernel
set_option maxRecDepth 20000 in
theorem ggX1_prepare_X3_verdict : GoodIn wsX1_prepare wsX3_verdict := goodIn_r _ [13, 14, 15, 16, 12, 17, 18, 19, 20, 21, 22, 23, 54, 55, 56, 57, 58] (by decide +kernel) (by decide +kernel)
set_option maxRecDepth 20000 in
theorem gX1_prepare_X3_verdict : GoodIn wsX1_prepare (wsV RX1 60 RX3 yX3_verdict wsX3_verdict) := goodIn_app (goodIn_of _ (by decide +kernel)) ggX1_prepare_X3_verdict
set_option maxRecDepth 20000 in
theorem ggX1_prepare_X1_fillSure : GoodIn wsX1_prepare wsX1_fillSure := goodIn_r _ [28, 4, 7, 41, 42, 43, 44, 45, 46, 47] (by decide +kernel) (by decide +kernel)
set_option maxRecDepth 20000 in
theorem gX1_prepare_X1_fillSure : GoodIn wsX1_prepare (wsV RX1 107 RX1 yX1_fillSure wsX1_fillSure) := goodIn_app (goodIn_of _ (by decide +kernel)) ggX1_prepare_X1_fillSure
set_option maxRecDepth 20000 in
theorem ggX1_prepare_X1_fill : GoodIn wsX1_prepare wsX1_fill := goodIn_r _ [32, 2, 8, 3, 33, 34, 35, 36, 27, 37, 4, 7, 38, 39, 40, 15, 16, 12, 17, 18, 19, 20, 21, 22, 23, 24, 25, 26, 28, 29, 30, 31, 41, 42, 43, 44, 45, 46, 47, 48, 49, 50, 51, 52, 53, 54, 55, 56, 57, 58] (by decide +kernel) (by decide +kernel)
set_option maxRecDepth 20000 in
theorem gX1_prepare_X1_fill : GoodIn wsX1_prepare (wsV RX1 111 RX1 yX1_fill wsX1_fill) := goodIn_app (goodIn_of _ (by decide +kernel)) ggX1_prepare_X1_fill
theorem dX1_prepare_0 : decode cX1_prepare 0 = .ok (.aload_n 0, 1) := by decide +kernel
theorem dX1_prepare_1 : decode cX1_prepare 1 = .ok (.getfield 34, 3) := by decide +kernel
theorem dX1_prepare_4 : decode cX1_prepare 4 = .ok (.ifCond .eq 4, 3) := by decide +kernel
theorem dX1_prepare_7 : decode cX1_prepare 7 = .ok (.return_, 1) := by decide +kernel
theorem dX1_prepare_8 : decode cX1_prepare 8 = .ok (.getstatic 54, 3) := by decide +kernel
theorem dX1_prepare_11 : decode cX1_prepare 11 = .ok (.aload_n 0, 1) := by decide +kernel
theorem dX1_prepare_12 : decode cX1_prepare 12 = .ok (.getfield 22, 3) := by decide +kernel
theorem dX1_prepare_15 : decode cX1_prepare 15 = .ok (.getfield 57, 3) := by decide +kernel
theorem dX1_prepare_18 : decode cX1_prepare 18 = .ok (.iaload, 1) := by decide +kernel
theorem dX1_prepare_19 : decode cX1_prepare 19 = .ok (.istore_n 1, 1) := by decide +kernel
theorem dX1_prepare_20 : decode cX1_prepare 20 = .ok (.aload_n 0, 1) := by decide +kernel
theorem dX1_prepare_21 : decode cX1_prepare 21 = .ok (.getfield 15, 3) := by decide +kernel
theorem dX1_prepare_24 : decode cX1_prepare 24 = .ok (.arraylength, 1) := by decide +kernel
theorem dX1_prepare_25 : decode cX1_prepare 25 = .ok (.iload_n 1, 1) := by decide +kernel
theorem dX1_prepare_26 : decode cX1_prepare 26 = .ok (.if_icmp .ge 17, 3) := by decide +kernel
theorem dX1_prepare_29 : decode cX1_prepare 29 = .ok (.aload_n 0, 1) := by decide +kernel
theorem dX1_prepare_30 : decode cX1_prepare 30 = .ok (.iload_n 1, 1) := by decide +kernel
theorem dX1_prepare_31 : decode cX1_prepare 31 = .ok (.newarray .long, 2) := by decide +kernel
theorem dX1_prepare_33 : decode cX1_prepare 33 = .ok (.putfield 15, 3) := by decide +kernel
theorem dX1_prepare_36 : decode cX1_prepare 36 = .ok (.aload_n 0, 1) := by decide +kernel
theorem dX1_prepare_37 : decode cX1_prepare 37 = .ok (.iload_n 1, 1) := by decide +kernel
theorem dX1_prepare_38 : decode cX1_prepare 38 = .ok (.newarray .int, 2) := by decide +kernel
theorem dX1_prepare_40 : decode cX1_prepare 40 = .ok (.putfield 19, 3) := by decide +kernel
theorem dX1_prepare_43 : decode cX1_prepare 43 = .ok (.iconst 1, 1) := by decide +kernel
theorem dX1_prepare_44 : decode cX1_prepare 44 = .ok (.aload_n 0, 1) := by decide +kernel
theorem dX1_prepare_45 : decode cX1_prepare 45 = .ok (.getfield 22, 3) := by decide +kernel
theorem dX1_prepare_48 : decode cX1_prepare 48 = .ok (.getfield 57, 3) := by decide +kernel
theorem dX1_prepare_51 : decode cX1_prepare 51 = .ok (.ishl, 1) := by decide +kernel
theorem dX1_prepare_52 : decode cX1_prepare 52 = .ok (.iconst 1, 1) := by decide +kernel
theorem dX1_prepare_53 : decode cX1_prepare 53 = .ok (.isub, 1) := by decide +kernel
theorem dX1_prepare_54 : decode cX1_prepare 54 = .ok (.istore_n 2, 1) := by decide +kernel
theorem dX1_prepare_55 : decode cX1_prepare 55 = .ok (.aload_n 0, 1) := by decide +kernel
theorem dX1_prepare_56 : decode cX1_prepare 56 = .ok (.getfield 26, 3) := by decide +kernel
theorem dX1_prepare_59 : decode cX1_prepare 59 = .ok (.iconst 0, 1) := by decide +kernel
theorem dX1_prepare_60 : decode cX1_prepare 60 = .ok (.iload_n 2, 1) := by decide +kernel
theorem dX1_prepare_61 : decode cX1_prepare 61 = .ok (.invokevirtual 60, 3) := by decide +kernel
theorem dX1_prepare_64 : decode cX1_prepare 64 = .ok (.iconst (-1), 1) := by decide +kernel
theorem dX1_prepare_65 : decode cX1_prepare 65 = .ok (.if_icmp .eq 12, 3) := by decide +kernel
theorem dX1_prepare_68 : decode cX1_prepare 68 = .ok (.aload_n 0, 1) := by decide +kernel
theorem dX1_prepare_69 : decode cX1_prepare 69 = .ok (.iconst 0, 1) := by decide +kernel
theorem dX1_prepare_70 : decode cX1_prepare 70 = .ok (.iload_n 1, 1) := by decide +kernel
theorem dX1_prepare_71 : decode cX1_prepare 71 = .ok (.invokevirtual 107, 3) := by decide +kernel
theorem dX1_prepare_74 : decode cX1_prepare 74 = .ok (.goto 21, 3) := by decide +kernel
theorem dX1_prepare_77 : decode cX1_prepare 77 = .ok (.aload_n 0, 1) := by decide +kernel
theorem dX1_prepare_78 : decode cX1_prepare 78 = .ok (.aload_n 0, 1) := by decide +kernel
theorem dX1_prepare_79 : decode cX1_prepare 79 = .ok (.getfield 22, 3) := by decide +kernel
theorem dX1_prepare_82 : decode cX1_prepare 82 = .ok (.getfield 57, 3) := by decide +kernel
theorem dX1_prepare_85 : decode cX1_prepare 85 = .ok (.iconst 1, 1) := by decide +kernel
theorem dX1_prepare_86 : decode cX1_prepare 86 = .ok (.isub, 1) := by decide +kernel
theorem dX1_prepare_87 : decode cX1_prepare 87 = .ok (.iconst 0, 1) := by decide +kernel
theorem dX1_prepare_88 : decode cX1_prepare 88 = .ok (.iconst 0, 1) := by decide +kernel
theorem dX1_prepare_89 : decode cX1_prepare 89 = .ok (.iload_n 2, 1) := by decide +kernel
theorem dX1_prepare_90 : decode cX1_prepare 90 = .ok (.lconst 1, 1) := by decide +kernel
theorem dX1_prepare_91 : decode cX1_prepare 91 = .ok (.iconst 0, 1) := by decide +kernel
theorem dX1_prepare_92 : decode cX1_prepare 92 = .ok (.invokevirtual 111, 3) := by decide +kernel
theorem dX1_prepare_95 : decode cX1_prepare 95 = .ok (.aload_n 0, 1) := by decide +kernel
theorem dX1_prepare_96 : decode cX1_prepare 96 = .ok (.iconst 1, 1) := by decide +kernel
theorem dX1_prepare_97 : decode cX1_prepare 97 = .ok (.putfield 34, 3) := by decide +kernel
theorem dX1_prepare_100 : decode cX1_prepare 100 = .ok (.return_, 1) := by decide +kernel
set_option maxRecDepth 20000 in
theorem ggX1_fill_X1_settle : GoodIn wsX1_fill wsX1_settle := goodIn_r _ [9, 10, 11, 3, 12, 13, 4, 1, 32, 33, 34, 35, 36, 37, 38, 39, 40, 41, 42, 43, 44] (by decide +kernel) (by decide +kernel)
set_option maxRecDepth 20000 in
theorem gX1_fill_X1_settle : GoodIn wsX1_fill (wsV RX1 115 RX1 yX1_settle wsX1_settle) := goodIn_app (goodIn_of _ (by decide +kernel)) ggX1_fill_X1_settle
set_option maxRecDepth 20000 in
theorem ggX1_fill_X3_isSystemGood : GoodIn wsX1_fill wsX3_isSystemGood := goodIn_r _ [18, 19, 20, 21, 22, 17, 23, 24, 45, 46, 47, 48, 49] (by decide +kernel) (by decide +kernel)
set_option maxRecDepth 20000 in
theorem gX1_fill_X3_isSystemGood : GoodIn wsX1_fill (wsV RX1 119 RX3 yX3_isSystemGood wsX3_isSystemGood) := goodIn_app (goodIn_of _ (by decide +kernel)) ggX1_fill_X3_isSystemGood
set_option maxRecDepth 20000 in
theorem ggX1_fill_X1_fillSure : GoodIn wsX1_fill wsX1_fillSure := goodIn_r _ [28, 10, 11, 32, 33, 34, 35, 36, 37, 38] (by decide +kernel) (by decide +kernel)
set_option maxRecDepth 20000 in
theorem gX1_fill_X1_fillSure : GoodIn wsX1_fill (wsV RX1 107 RX1 yX1_fillSure wsX1_fillSure) := goodIn_app (goodIn_of _ (by decide +kernel)) ggX1_fill_X1_fillSure
set_option maxRecDepth 20000 in
theorem ggX1_fill_X1_fill : GoodIn wsX1_fill wsX1_fill := goodIn_r _ [0, 1, 2, 3, 4, 5, 6, 7, 8, 9, 10, 11, 12, 13, 14, 15, 16, 17, 18, 19, 20, 21, 22, 23, 24, 25, 26, 27, 28, 29, 30, 31, 32, 33, 34, 35, 36, 37, 38, 39, 40, 41, 42, 43, 44, 45, 46, 47, 48, 49] (by decide +kernel) (by decide +kernel)
set_option maxRecDepth 20000 in
theorem gX1_fill_X1_fill : GoodIn wsX1_fill (wsV RX1 111 RX1 yX1_fill wsX1_fill) := goodIn_app (goodIn_of _ (by decide +kernel)) ggX1_fill_X1_fill
theorem dX1_fill_0 : decode cX1_fill 0 = .ok (.iload_n 1, 1) := by decide +kernel
theorem dX1_fill_1 : decode cX1_fill 1 = .ok (.ifCond .ge 13, 3) := by decide +kernel
theorem dX1_fill_4 : decode cX1_fill 4 = .ok (.aload_n 0, 1) := by decide +kernel
theorem dX1_fill_5 : decode cX1_fill 5 = .ok (.iload_n 2, 1) := by decide +kernel
theorem dX1_fill_6 : decode cX1_fill 6 = .ok (.lload 5, 2) := by decide +kernel
theorem dX1_fill_8 : decode cX1_fill 8 = .ok (.iload 7, 2) := by decide +kernel
theorem dX1_fill_10 : decode cX1_fill 10 = .ok (.invokevirtual 115, 3) := by decide +kernel
theorem dX1_fill_13 : decode cX1_fill 13 = .ok (.return_, 1) := by decide +kernel
theorem dX1_fill_14 : decode cX1_fill 14 = .ok (.getstatic 54, 3) := by decide +kernel
theorem dX1_fill_17 : decode cX1_fill 17 = .ok (.iload_n 1, 1) := by decide +kernel
theorem dX1_fill_18 : decode cX1_fill 18 = .ok (.iaload, 1) := by decide +kernel
theorem dX1_fill_19 : decode cX1_fill 19 = .ok (.istore 8, 2) := by decide +kernel
theorem dX1_fill_21 : decode cX1_fill 21 = .ok (.iload_n 3, 1) := by decide +kernel
theorem dX1_fill_22 : decode cX1_fill 22 = .ok (.iconst 1, 1) := by decide +kernel
theorem dX1_fill_23 : decode cX1_fill 23 = .ok (.iload_n 1, 1) := by decide +kernel
theorem dX1_fill_24 : decode cX1_fill 24 = .ok (.ishl, 1) := by decide +kernel
theorem dX1_fill_25 : decode cX1_fill 25 = .ok (.ior, 1) := by decide +kernel
theorem dX1_fill_26 : decode cX1_fill 26 = .ok (.istore 9, 2) := by decide +kernel
theorem dX1_fill_28 : decode cX1_fill 28 = .ok (.aload_n 0, 1) := by decide +kernel
theorem dX1_fill_29 : decode cX1_fill 29 = .ok (.getfield 26, 3) := by decide +kernel
theorem dX1_fill_32 : decode cX1_fill 32 = .ok (.iload 9, 2) := by decide +kernel
theorem dX1_fill_34 : decode cX1_fill 34 = .ok (.invokevirtual 119, 3) := by decide +kernel
theorem dX1_fill_37 : decode cX1_fill 37 = .ok (.ifCond .eq 22, 3) := by decide +kernel
theorem dX1_fill_40 : decode cX1_fill 40 = .ok (.aload_n 0, 1) := by decide +kernel
theorem dX1_fill_41 : decode cX1_fill 41 = .ok (.iload_n 2, 1) := by decide +kernel
theorem dX1_fill_42 : decode cX1_fill 42 = .ok (.iconst 2, 1) := by decide +kernel
theorem dX1_fill_43 : decode cX1_fill 43 = .ok (.iload 8, 2) := by decide +kernel
theorem dX1_fill_45 : decode cX1_fill 45 = .ok (.imul, 1) := by decide +kernel
theorem dX1_fill_46 : decode cX1_fill 46 = .ok (.iadd, 1) := by decide +kernel
theorem dX1_fill_47 : decode cX1_fill 47 = .ok (.iload_n 2, 1) := by decide +kernel
theorem dX1_fill_48 : decode cX1_fill 48 = .ok (.iconst 3, 1) := by decide +kernel
theorem dX1_fill_49 : decode cX1_fill 49 = .ok (.iload 8, 2) := by decide +kernel
theorem dX1_fill_51 : decode cX1_fill 51 = .ok (.imul, 1) := by decide +kernel
theorem dX1_fill_52 : decode cX1_fill 52 = .ok (.iadd, 1) := by decide +kernel
theorem dX1_fill_53 : decode cX1_fill 53 = .ok (.invokevirtual 107, 3) := by decide +kernel
theorem dX1_fill_56 : decode cX1_fill 56 = .ok (.goto 35, 3) := by decide +kernel
theorem dX1_fill_59 : decode cX1_fill 59 = .ok (.aload_n 0, 1) := by decide +kernel
theorem dX1_fill_60 : decode cX1_fill 60 = .ok (.iload_n 1, 1) := by decide +kernel
theorem dX1_fill_61 : decode cX1_fill 61 = .ok (.iconst 1, 1) := by decide +kernel
theorem dX1_fill_62 : decode cX1_fill 62 = .ok (.isub, 1) := by decide +kernel
theorem dX1_fill_63 : decode cX1_fill 63 = .ok (.iload_n 2, 1) := by decide +kernel
theorem dX1_fill_64 : decode cX1_fill 64 = .ok (.iconst 2, 1) := by decide +kernel
theorem dX1_fill_65 : decode cX1_fill 65 = .ok (.iload 8, 2) := by decide +kernel
theorem dX1_fill_67 : decode cX1_fill 67 = .ok (.imul, 1) := by decide +kernel
theorem dX1_fill_68 : decode cX1_fill 68 = .ok (.iadd, 1) := by decide +kernel
theorem dX1_fill_69 : decode cX1_fill 69 = .ok (.iload 9, 2) := by decide +kernel
theorem dX1_fill_71 : decode cX1_fill 71 = .ok (.iload 4, 2) := by decide +kernel
theorem dX1_fill_73 : decode cX1_fill 73 = .ok (.lload 5, 2) := by decide +kernel
theorem dX1_fill_75 : decode cX1_fill 75 = .ok (.aload_n 0, 1) := by decide +kernel
theorem dX1_fill_76 : decode cX1_fill 76 = .ok (.getfield 22, 3) := by decide +kernel
theorem dX1_fill_79 : decode cX1_fill 79 = .ok (.getfield 123, 3) := by decide +kernel
theorem dX1_fill_82 : decode cX1_fill 82 = .ok (.iload_n 1, 1) := by decide +kernel
theorem dX1_fill_83 : decode cX1_fill 83 = .ok (.iaload, 1) := by decide +kernel
theorem dX1_fill_84 : decode cX1_fill 84 = .ok (.i2l, 1) := by decide +kernel
theorem dX1_fill_85 : decode cX1_fill 85 = .ok (.lmul, 1) := by decide +kernel
theorem dX1_fill_86 : decode cX1_fill 86 = .ok (.iload 7, 2) := by decide +kernel
theorem dX1_fill_88 : decode cX1_fill 88 = .ok (.invokevirtual 111, 3) := by decide +kernel
theorem dX1_fill_91 : decode cX1_fill 91 = .ok (.iload 4, 2) := by decide +kernel
theorem dX1_fill_93 : decode cX1_fill 93 = .ok (.iconst 1, 1) := by decide +kernel
theorem dX1_fill_94 : decode cX1_fill 94 = .ok (.iload_n 1, 1) := by decide +kernel
theorem dX1_fill_95 : decode cX1_fill 95 = .ok (.ishl, 1) := by decide +kernel
theorem dX1_fill_96 : decode cX1_fill 96 = .ok (.iconst (-1), 1) := by decide +kernel
theorem dX1_fill_97 : decode cX1_fill 97 = .ok (.ixor, 1) := by decide +kernel
theorem dX1_fill_98 : decode cX1_fill 98 = .ok (.iand, 1) := by decide +kernel
theorem dX1_fill_99 : decode cX1_fill 99 = .ok (.istore 10, 2) := by decide +kernel
theorem dX1_fill_101 : decode cX1_fill 101 = .ok (.aload_n 0, 1) := by decide +kernel
theorem dX1_fill_102 : decode cX1_fill 102 = .ok (.getfield 26, 3) := by decide +kernel
theorem dX1_fill_105 : decode cX1_fill 105 = .ok (.iload 10, 2) := by decide +kernel
theorem dX1_fill_107 : decode cX1_fill 107 = .ok (.invokevirtual 119, 3) := by decide +kernel
theorem dX1_fill_110 : decode cX1_fill 110 = .ok (.ifCond .eq 35, 3) := by decide +kernel
theorem dX1_fill_113 : decode cX1_fill 113 = .ok (.aload_n 0, 1) := by decide +kernel
theorem dX1_fill_114 : decode cX1_fill 114 = .ok (.iload_n 1, 1) := by decide +kernel
theorem dX1_fill_115 : decode cX1_fill 115 = .ok (.iconst 1, 1) := by decide +kernel
theorem dX1_fill_116 : decode cX1_fill 116 = .ok (.isub, 1) := by decide +kernel
theorem dX1_fill_117 : decode cX1_fill 117 = .ok (.iload_n 2, 1) := by decide +kernel
theorem dX1_fill_118 : decode cX1_fill 118 = .ok (.iload 8, 2) := by decide +kernel
theorem dX1_fill_120 : decode cX1_fill 120 = .ok (.iadd, 1) := by decide +kernel
theorem dX1_fill_121 : decode cX1_fill 121 = .ok (.iload_n 3, 1) := by decide +kernel
theorem dX1_fill_122 : decode cX1_fill 122 = .ok (.iload 10, 2) := by decide +kernel
theorem dX1_fill_124 : decode cX1_fill 124 = .ok (.lload 5, 2) := by decide +kernel
theorem dX1_fill_126 : decode cX1_fill 126 = .ok (.aload_n 0, 1) := by decide +kernel
theorem dX1_fill_127 : decode cX1_fill 127 = .ok (.getfield 22, 3) := by decide +kernel
theorem dX1_fill_130 : decode cX1_fill 130 = .ok (.getfield 126, 3) := by decide +kernel
theorem dX1_fill_133 : decode cX1_fill 133 = .ok (.iload_n 1, 1) := by decide +kernel
theorem dX1_fill_134 : decode cX1_fill 134 = .ok (.iaload, 1) := by decide +kernel
theorem dX1_fill_135 : decode cX1_fill 135 = .ok (.i2l, 1) := by decide +kernel
theorem dX1_fill_136 : decode cX1_fill 136 = .ok (.lmul, 1) := by decide +kernel
theorem dX1_fill_137 : decode cX1_fill 137 = .ok (.iload 7, 2) := by decide +kernel
theorem dX1_fill_139 : decode cX1_fill 139 = .ok (.invokevirtual 111, 3) := by decide +kernel
theorem dX1_fill_142 : decode cX1_fill 142 = .ok (.goto 17, 3) := by decide +kernel
theorem dX1_fill_145 : decode cX1_fill 145 = .ok (.aload_n 0, 1) := by decide +kernel
theorem dX1_fill_146 : decode cX1_fill 146 = .ok (.iload_n 2, 1) := by decide +kernel
theorem dX1_fill_147 : decode cX1_fill 147 = .ok (.iload 8, 2) := by decide +kernel
theorem dX1_fill_149 : decode cX1_fill 149 = .ok (.iadd, 1) := by decide +kernel
theorem dX1_fill_150 : decode cX1_fill 150 = .ok (.iload_n 2, 1) := by decide +kernel
theorem dX1_fill_151 : decode cX1_fill 151 = .ok (.iconst 2, 1) := by decide +kernel
theorem dX1_fill_152 : decode cX1_fill 152 = .ok (.iload 8, 2) := by decide +kernel
theorem dX1_fill_154 : decode cX1_fill 154 = .ok (.imul, 1) := by decide +kernel
theorem dX1_fill_155 : decode cX1_fill 155 = .ok (.iadd, 1) := by decide +kernel
theorem dX1_fill_156 : decode cX1_fill 156 = .ok (.invokevirtual 107, 3) := by decide +kernel
theorem dX1_fill_159 : decode cX1_fill 159 = .ok (.aload_n 0, 1) := by decide +kernel
theorem dX1_fill_160 : decode cX1_fill 160 = .ok (.getfield 9, 3) := by decide +kernel
theorem dX1_fill_163 : decode cX1_fill 163 = .ok (.iload 7, 2) := by decide +kernel
theorem dX1_fill_165 : decode cX1_fill 165 = .ok (.iload_n 1, 1) := by decide +kernel
theorem dX1_fill_166 : decode cX1_fill 166 = .ok (.iastore, 1) := by decide +kernel
theorem dX1_fill_167 : decode cX1_fill 167 = .ok (.aload_n 0, 1) := by decide +kernel
theorem dX1_fill_168 : decode cX1_fill 168 = .ok (.iload_n 1, 1) := by decide +kernel
theorem dX1_fill_169 : decode cX1_fill 169 = .ok (.iconst 1, 1) := by decide +kernel
theorem dX1_fill_170 : decode cX1_fill 170 = .ok (.isub, 1) := by decide +kernel
theorem dX1_fill_171 : decode cX1_fill 171 = .ok (.iload_n 2, 1) := by decide +kernel
theorem dX1_fill_172 : decode cX1_fill 172 = .ok (.iload_n 3, 1) := by decide +kernel
theorem dX1_fill_173 : decode cX1_fill 173 = .ok (.iload 4, 2) := by decide +kernel
theorem dX1_fill_175 : decode cX1_fill 175 = .ok (.lload 5, 2) := by decide +kernel
theorem dX1_fill_177 : decode cX1_fill 177 = .ok (.aload_n 0, 1) := by decide +kernel
theorem dX1_fill_178 : decode cX1_fill 178 = .ok (.getfield 22, 3) := by decide +kernel
theorem dX1_fill_181 : decode cX1_fill 181 = .ok (.getfield 123, 3) := by decide +kernel
theorem dX1_fill_184 : decode cX1_fill 184 = .ok (.iload_n 1, 1) := by decide +kernel
theorem dX1_fill_185 : decode cX1_fill 185 = .ok (.iaload, 1) := by decide +kernel
theorem dX1_fill_186 : decode cX1_fill 186 = .ok (.aload_n 0, 1) := by decide +kernel
theorem dX1_fill_187 : decode cX1_fill 187 = .ok (.getfield 22, 3) := by decide +kernel
theorem dX1_fill_190 : decode cX1_fill 190 = .ok (.getfield 126, 3) := by decide +kernel
theorem dX1_fill_193 : decode cX1_fill 193 = .ok (.iload_n 1, 1) := by decide +kernel
theorem dX1_fill_194 : decode cX1_fill 194 = .ok (.iaload, 1) := by decide +kernel
theorem dX1_fill_195 : decode cX1_fill 195 = .ok (.iadd, 1) := by decide +kernel
theorem dX1_fill_196 : decode cX1_fill 196 = .ok (.i2l, 1) := by decide +kernel
theorem dX1_fill_197 : decode cX1_fill 197 = .ok (.lmul, 1) := by decide +kernel
theorem dX1_fill_198 : decode cX1_fill 198 = .ok (.iload 7, 2) := by decide +kernel
theorem dX1_fill_200 : decode cX1_fill 200 = .ok (.iconst 1, 1) := by decide +kernel
theorem dX1_fill_201 : decode cX1_fill 201 = .ok (.iadd, 1) := by decide +kernel
theorem dX1_fill_202 : decode cX1_fill 202 = .ok (.invokevirtual 111, 3) := by decide +kernel
theorem dX1_fill_205 : decode cX1_fill 205 = .ok (.return_, 1) := by decide +kernel
theorem dX1_fillSure_0 : decode cX1_fillSure 0 = .ok (.iload_n 1, 1) := by decide +kernel
theorem dX1_fillSure_1 : decode cX1_fillSure 1 = .ok (.istore_n 3, 1) := by decide +kernel
theorem dX1_fillSure_2 : decode cX1_fillSure 2 = .ok (.iload_n 3, 1) := by decide +kernel
theorem dX1_fillSure_3 : decode cX1_fillSure 3 = .ok (.iload_n 2, 1) := by decide +kernel
theorem dX1_fillSure_4 : decode cX1_fillSure 4 = .ok (.if_icmp .ge 23, 3) := by decide +kernel
theorem dX1_fillSure_7 : decode cX1_fillSure 7 = .ok (.aload_n 0, 1) := by decide +kernel
theorem dX1_fillSure_8 : decode cX1_fillSure 8 = .ok (.getfield 15, 3) := by decide +kernel
theorem dX1_fillSure_11 : decode cX1_fillSure 11 = .ok (.iload_n 3, 1) := by decide +kernel
theorem dX1_fillSure_12 : decode cX1_fillSure 12 = .ok (.lconst 0, 1) := by decide +kernel
theorem dX1_fillSure_13 : decode cX1_fillSure 13 = .ok (.lastore, 1) := by decide +kernel
theorem dX1_fillSure_14 : decode cX1_fillSure 14 = .ok (.aload_n 0, 1) := by decide +kernel
theorem dX1_fillSure_15 : decode cX1_fillSure 15 = .ok (.getfield 19, 3) := by decide +kernel
theorem dX1_fillSure_18 : decode cX1_fillSure 18 = .ok (.iload_n 3, 1) := by decide +kernel
theorem dX1_fillSure_19 : decode cX1_fillSure 19 = .ok (.iconst 0, 1) := by decide +kernel
theorem dX1_fillSure_20 : decode cX1_fillSure 20 = .ok (.iastore, 1) := by decide +kernel
theorem dX1_fillSure_21 : decode cX1_fillSure 21 = .ok (.iinc 3 1, 3) := by decide +kernel
theorem dX1_fillSure_24 : decode cX1_fillSure 24 = .ok (.goto (-22), 3) := by decide +kernel
theorem dX1_fillSure_27 : decode cX1_fillSure 27 = .ok (.return_, 1) := by decide +kernel
theorem dX1_settle_0 : decode cX1_settle 0 = .ok (.aload_n 0, 1) := by decide +kernel
theorem dX1_settle_1 : decode cX1_settle 1 = .ok (.getfield 15, 3) := by decide +kernel
theorem dX1_settle_4 : decode cX1_settle 4 = .ok (.astore 5, 2) := by decide +kernel
theorem dX1_settle_6 : decode cX1_settle 6 = .ok (.aload_n 0, 1) := by decide +kernel
theorem dX1_settle_7 : decode cX1_settle 7 = .ok (.getfield 19, 3) := by decide +kernel
theorem dX1_settle_10 : decode cX1_settle 10 = .ok (.astore 6, 2) := by decide +kernel
theorem dX1_settle_12 : decode cX1_settle 12 = .ok (.aload_n 0, 1) := by decide +kernel
theorem dX1_settle_13 : decode cX1_settle 13 = .ok (.getfield 22, 3) := by decide +kernel
theorem dX1_settle_16 : decode cX1_settle 16 = .ok (.getfield 92, 3) := by decide +kernel
theorem dX1_settle_19 : decode cX1_settle 19 = .ok (.astore 7, 2) := by decide +kernel
theorem dX1_settle_21 : decode cX1_settle 21 = .ok (.ldc2_w 131, 3) := by decide +kernel
theorem dX1_settle_24 : decode cX1_settle 24 = .ok (.lstore 8, 2) := by decide +kernel
theorem dX1_settle_26 : decode cX1_settle 26 = .ok (.ldc 135, 2) := by decide +kernel
theorem dX1_settle_28 : decode cX1_settle 28 = .ok (.istore 10, 2) := by decide +kernel
theorem dX1_settle_30 : decode cX1_settle 30 = .ok (.iconst 0, 1) := by decide +kernel
theorem dX1_settle_31 : decode cX1_settle 31 = .ok (.istore 11, 2) := by decide +kernel
theorem dX1_settle_33 : decode cX1_settle 33 = .ok (.iload 11, 2) := by decide +kernel
theorem dX1_settle_35 : decode cX1_settle 35 = .ok (.iload 4, 2) := by decide +kernel
theorem dX1_settle_37 : decode cX1_settle 37 = .ok (.if_icmp .ge 128, 3) := by decide +kernel
theorem dX1_settle_40 : decode cX1_settle 40 = .ok (.aload_n 0, 1) := by decide +kernel
theorem dX1_settle_41 : decode cX1_settle 41 = .ok (.getfield 9, 3) := by decide +kernel
theorem dX1_settle_44 : decode cX1_settle 44 = .ok (.iload 11, 2) := by decide +kernel
theorem dX1_settle_46 : decode cX1_settle 46 = .ok (.iaload, 1) := by decide +kernel
theorem dX1_settle_47 : decode cX1_settle 47 = .ok (.istore 12, 2) := by decide +kernel
theorem dX1_settle_49 : decode cX1_settle 49 = .ok (.iload_n 1, 1) := by decide +kernel
theorem dX1_settle_50 : decode cX1_settle 50 = .ok (.getstatic 54, 3) := by decide +kernel
theorem dX1_settle_53 : decode cX1_settle 53 = .ok (.iload 12, 2) := by decide +kernel
theorem dX1_settle_55 : decode cX1_settle 55 = .ok (.iaload, 1) := by decide +kernel
theorem dX1_settle_56 : decode cX1_settle 56 = .ok (.iadd, 1) := by decide +kernel
theorem dX1_settle_57 : decode cX1_settle 57 = .ok (.istore 13, 2) := by decide +kernel
theorem dX1_settle_59 : decode cX1_settle 59 = .ok (.iload 13, 2) := by decide +kernel
theorem dX1_settle_61 : decode cX1_settle 61 = .ok (.getstatic 54, 3) := by decide +kernel
theorem dX1_settle_64 : decode cX1_settle 64 = .ok (.iload 12, 2) := by decide +kernel
theorem dX1_settle_66 : decode cX1_settle 66 = .ok (.iaload, 1) := by decide +kernel
theorem dX1_settle_67 : decode cX1_settle 67 = .ok (.iadd, 1) := by decide +kernel
theorem dX1_settle_68 : decode cX1_settle 68 = .ok (.istore 14, 2) := by decide +kernel
theorem dX1_settle_70 : decode cX1_settle 70 = .ok (.aload 7, 2) := by decide +kernel
theorem dX1_settle_72 : decode cX1_settle 72 = .ok (.iload 12, 2) := by decide +kernel
theorem dX1_settle_74 : decode cX1_settle 74 = .ok (.iaload, 1) := by decide +kernel
theorem dX1_settle_75 : decode cX1_settle 75 = .ok (.i2l, 1) := by decide +kernel
theorem dX1_settle_76 : decode cX1_settle 76 = .ok (.lload_n 2, 1) := by decide +kernel
theorem dX1_settle_77 : decode cX1_settle 77 = .ok (.lmul, 1) := by decide +kernel
theorem dX1_settle_78 : decode cX1_settle 78 = .ok (.aload 5, 2) := by decide +kernel
theorem dX1_settle_80 : decode cX1_settle 80 = .ok (.iload 13, 2) := by decide +kernel
theorem dX1_settle_82 : decode cX1_settle 82 = .ok (.laload, 1) := by decide +kernel
theorem dX1_settle_83 : decode cX1_settle 83 = .ok (.ladd, 1) := by decide +kernel
theorem dX1_settle_84 : decode cX1_settle 84 = .ok (.aload 5, 2) := by decide +kernel
theorem dX1_settle_86 : decode cX1_settle 86 = .ok (.iload 14, 2) := by decide +kernel
theorem dX1_settle_88 : decode cX1_settle 88 = .ok (.laload, 1) := by decide +kernel
theorem dX1_settle_89 : decode cX1_settle 89 = .ok (.ladd, 1) := by decide +kernel
theorem dX1_settle_90 : decode cX1_settle 90 = .ok (.lstore 15, 2) := by decide +kernel
theorem dX1_settle_92 : decode cX1_settle 92 = .ok (.aload 7, 2) := by decide +kernel
theorem dX1_settle_94 : decode cX1_settle 94 = .ok (.iload 12, 2) := by decide +kernel
theorem dX1_settle_96 : decode cX1_settle 96 = .ok (.iaload, 1) := by decide +kernel
theorem dX1_settle_97 : decode cX1_settle 97 = .ok (.aload 6, 2) := by decide +kernel
theorem dX1_settle_99 : decode cX1_settle 99 = .ok (.iload 13, 2) := by decide +kernel
theorem dX1_settle_101 : decode cX1_settle 101 = .ok (.iaload, 1) := by decide +kernel
theorem dX1_settle_102 : decode cX1_settle 102 = .ok (.aload 6, 2) := by decide +kernel
theorem dX1_settle_104 : decode cX1_settle 104 = .ok (.iload 14, 2) := by decide +kernel
theorem dX1_settle_106 : decode cX1_settle 106 = .ok (.iaload, 1) := by decide +kernel
theorem dX1_settle_107 : decode cX1_settle 107 = .ok (.if_icmp .le 11, 3) := by decide +kernel
theorem dX1_settle_110 : decode cX1_settle 110 = .ok (.aload 6, 2) := by decide +kernel
theorem dX1_settle_112 : decode cX1_settle 112 = .ok (.iload 13, 2) := by decide +kernel
theorem dX1_settle_114 : decode cX1_settle 114 = .ok (.iaload, 1) := by decide +kernel
theorem dX1_settle_115 : decode cX1_settle 115 = .ok (.goto 8, 3) := by decide +kernel
theorem dX1_settle_118 : decode cX1_settle 118 = .ok (.aload 6, 2) := by decide +kernel
theorem dX1_settle_120 : decode cX1_settle 120 = .ok (.iload 14, 2) := by decide +kernel
theorem dX1_settle_122 : decode cX1_settle 122 = .ok (.iaload, 1) := by decide +kernel
theorem dX1_settle_123 : decode cX1_settle 123 = .ok (.iadd, 1) := by decide +kernel
theorem dX1_settle_124 : decode cX1_settle 124 = .ok (.istore 17, 2) := by decide +kernel
theorem dX1_settle_126 : decode cX1_settle 126 = .ok (.lload 15, 2) := by decide +kernel
theorem dX1_settle_128 : decode cX1_settle 128 = .ok (.lload 8, 2) := by decide +kernel
theorem dX1_settle_130 : decode cX1_settle 130 = .ok (.lcmp, 1) := by decide +kernel
theorem dX1_settle_131 : decode cX1_settle 131 = .ok (.ifCond .ge 8, 3) := by decide +kernel
theorem dX1_settle_134 : decode cX1_settle 134 = .ok (.lload 15, 2) := by decide +kernel
theorem dX1_settle_136 : decode cX1_settle 136 = .ok (.goto 5, 3) := by decide +kernel
theorem dX1_settle_139 : decode cX1_settle 139 = .ok (.lload 8, 2) := by decide +kernel
theorem dX1_settle_141 : decode cX1_settle 141 = .ok (.lstore 8, 2) := by decide +kernel
theorem dX1_settle_143 : decode cX1_settle 143 = .ok (.iload 17, 2) := by decide +kernel
theorem dX1_settle_145 : decode cX1_settle 145 = .ok (.iload 10, 2) := by decide +kernel
theorem dX1_settle_147 : decode cX1_settle 147 = .ok (.if_icmp .ge 8, 3) := by decide +kernel
theorem dX1_settle_150 : decode cX1_settle 150 = .ok (.iload 17, 2) := by decide +kernel
theorem dX1_settle_152 : decode cX1_settle 152 = .ok (.goto 5, 3) := by decide +kernel
theorem dX1_settle_155 : decode cX1_settle 155 = .ok (.iload 10, 2) := by decide +kernel
theorem dX1_settle_157 : decode cX1_settle 157 = .ok (.istore 10, 2) := by decide +kernel
theorem dX1_settle_159 : decode cX1_settle 159 = .ok (.iinc 11 1, 3) := by decide +kernel
theorem dX1_settle_162 : decode cX1_settle 162 = .ok (.goto (-129), 3) := by decide +kernel
theorem dX1_settle_165 : decode cX1_settle 165 = .ok (.aload 5, 2) := by decide +kernel
theorem dX1_settle_167 : decode cX1_settle 167 = .ok (.iload_n 1, 1) := by decide +kernel
theorem dX1_settle_168 : decode cX1_settle 168 = .ok (.lload 8, 2) := by decide +kernel
theorem dX1_settle_170 : decode cX1_settle 170 = .ok (.lastore, 1) := by decide +kernel
theorem dX1_settle_171 : decode cX1_settle 171 = .ok (.aload 6, 2) := by decide +kernel
theorem dX1_settle_173 : decode cX1_settle 173 = .ok (.iload_n 1, 1) := by decide +kernel
theorem dX1_settle_174 : decode cX1_settle 174 = .ok (.iload 10, 2) := by decide +kernel
theorem dX1_settle_176 : decode cX1_settle 176 = .ok (.iastore, 1) := by decide +kernel
theorem dX1_settle_177 : decode cX1_settle 177 = .ok (.return_, 1) := by decide +kernel
theorem dX2_init_0 : decode cX2_init 0 = .ok (.aload_n 0, 1) := by decide +kernel
theorem dX2_init_1 : decode cX2_init 1 = .ok (.invokespecial 3, 3) := by decide +kernel
theorem dX2_init_4 : decode cX2_init 4 = .ok (.aload_n 0, 1) := by decide +kernel
theorem dX2_init_5 : decode cX2_init 5 = .ok (.bipush 9, 2) := by decide +kernel
theorem dX2_init_7 : decode cX2_init 7 = .ok (.newarray .int, 2) := by decide +kernel
theorem dX2_init_9 : decode cX2_init 9 = .ok (.putfield 9, 3) := by decide +kernel
theorem dX2_init_12 : decode cX2_init 12 = .ok (.return_, 1) := by decide +kernel
theorem dX2_clear_0 : decode cX2_clear 0 = .ok (.aload_n 0, 1) := by decide +kernel
theorem dX2_clear_1 : decode cX2_clear 1 = .ok (.iconst 0, 1) := by decide +kernel
theorem dX2_clear_2 : decode cX2_clear 2 = .ok (.putfield 15, 3) := by decide +kernel
theorem dX2_clear_5 : decode cX2_clear 5 = .ok (.return_, 1) := by decide +kernel
theorem dX2_holds_0 : decode cX2_holds 0 = .ok (.iconst 0, 1) := by decide +kernel
theorem dX2_holds_1 : decode cX2_holds 1 = .ok (.istore_n 2, 1) := by decide +kernel
theorem dX2_holds_2 : decode cX2_holds 2 = .ok (.iload_n 2, 1) := by decide +kernel
theorem dX2_holds_3 : decode cX2_holds 3 = .ok (.aload_n 0, 1) := by decide +kernel
theorem dX2_holds_4 : decode cX2_holds 4 = .ok (.getfield 15, 3) := by decide +kernel
theorem dX2_holds_7 : decode cX2_holds 7 = .ok (.if_icmp .ge 21, 3) := by decide +kernel
theorem dX2_holds_10 : decode cX2_holds 10 = .ok (.aload_n 0, 1) := by decide +kernel
theorem dX2_holds_11 : decode cX2_holds 11 = .ok (.getfield 9, 3) := by decide +kernel
theorem dX2_holds_14 : decode cX2_holds 14 = .ok (.iload_n 2, 1) := by decide +kernel
theorem dX2_holds_15 : decode cX2_holds 15 = .ok (.iaload, 1) := by decide +kernel
theorem dX2_holds_16 : decode cX2_holds 16 = .ok (.iload_n 1, 1) := by decide +kernel
theorem dX2_holds_17 : decode cX2_holds 17 = .ok (.if_icmp .ne 5, 3) := by decide +kernel
theorem dX2_holds_20 : decode cX2_holds 20 = .ok (.iconst 1, 1) := by decide +kernel
theorem dX2_holds_21 : decode cX2_holds 21 = .ok (.ireturn, 1) := by decide +kernel
theorem dX2_holds_22 : decode cX2_holds 22 = .ok (.iinc 2 1, 3) := by decide +kernel
theorem dX2_holds_25 : decode cX2_holds 25 = .ok (.goto (-23), 3) := by decide +kernel
theorem dX2_holds_28 : decode cX2_holds 28 = .ok (.iconst 0, 1) := by decide +kernel
theorem dX2_holds_29 : decode cX2_holds 29 = .ok (.ireturn, 1) := by decide +kernel
theorem dX2_append_0 : decode cX2_append 0 = .ok (.aload_n 0, 1) := by decide +kernel
theorem dX2_append_1 : decode cX2_append 1 = .ok (.getfield 15, 3) := by decide +kernel
theorem dX2_append_4 : decode cX2_append 4 = .ok (.bipush 9, 2) := by decide +kernel
theorem dX2_append_6 : decode cX2_append 6 = .ok (.if_icmp .ge 20, 3) := by decide +kernel
theorem dX2_append_9 : decode cX2_append 9 = .ok (.aload_n 0, 1) := by decide +kernel
theorem dX2_append_10 : decode cX2_append 10 = .ok (.getfield 9, 3) := by decide +kernel
theorem dX2_append_13 : decode cX2_append 13 = .ok (.aload_n 0, 1) := by decide +kernel
theorem dX2_append_14 : decode cX2_append 14 = .ok (.dup, 1) := by decide +kernel
theorem dX2_append_15 : decode cX2_append 15 = .ok (.getfield 15, 3) := by decide +kernel
theorem dX2_append_18 : decode cX2_append 18 = .ok (.dup_x1, 1) := by decide +kernel
theorem dX2_append_19 : decode cX2_append 19 = .ok (.iconst 1, 1) := by decide +kernel
theorem dX2_append_20 : decode cX2_append 20 = .ok (.iadd, 1) := by decide +kernel
theorem dX2_append_21 : decode cX2_append 21 = .ok (.putfield 15, 3) := by decide +kernel
theorem dX2_append_24 : decode cX2_append 24 = .ok (.iload_n 1, 1) := by decide +kernel
theorem dX2_append_25 : decode cX2_append 25 = .ok (.iastore, 1) := by decide +kernel
theorem dX2_append_26 : decode cX2_append 26 = .ok (.return_, 1) := by decide +kernel
set_option maxRecDepth 20000 in
theorem ggX2_fillByRatios_X2_isDearer : GoodIn wsX2_fillByRatios wsX2_isDearer := goodIn_r _ [6, 7, 8, 9, 10, 11, 12] (by decide +kernel) (by decide +kernel)
set_option maxRecDepth 20000 in
theorem gX2_fillByRatios_X2_isDearer : GoodIn wsX2_fillByRatios (va_wsS RX2 22 yX2_isDearer wsX2_isDearer) := goodIn_app (goodIn_of _ (by decide +kernel)) ggX2_fillByRatios_X2_isDearer
theorem dX2_fillByRatios_0 : decode cX2_fillByRatios 0 = .ok (.iconst 0, 1) := by decide +kernel
theorem dX2_fillByRatios_1 : decode cX2_fillByRatios 1 = .ok (.istore_n 3, 1) := by decide +kernel
theorem dX2_fillByRatios_2 : decode cX2_fillByRatios 2 = .ok (.iload_n 3, 1) := by decide +kernel
theorem dX2_fillByRatios_3 : decode cX2_fillByRatios 3 = .ok (.aload_n 1, 1) := by decide +kernel
theorem dX2_fillByRatios_4 : decode cX2_fillByRatios 4 = .ok (.getfield 19, 3) := by decide +kernel
theorem dX2_fillByRatios_7 : decode cX2_fillByRatios 7 = .ok (.if_icmp .ge 65, 3) := by decide +kernel
theorem dX2_fillByRatios_10 : decode cX2_fillByRatios 10 = .ok (.iload_n 3, 1) := by decide +kernel
theorem dX2_fillByRatios_11 : decode cX2_fillByRatios 11 = .ok (.istore 4, 2) := by decide +kernel
theorem dX2_fillByRatios_13 : decode cX2_fillByRatios 13 = .ok (.iload 4, 2) := by decide +kernel
theorem dX2_fillByRatios_15 : decode cX2_fillByRatios 15 = .ok (.ifCond .le 43, 3) := by decide +kernel
theorem dX2_fillByRatios_18 : decode cX2_fillByRatios 18 = .ok (.aload_n 1, 1) := by decide +kernel
theorem dX2_fillByRatios_19 : decode cX2_fillByRatios 19 = .ok (.iload_n 2, 1) := by decide +kernel
theorem dX2_fillByRatios_20 : decode cX2_fillByRatios 20 = .ok (.aload_n 0, 1) := by decide +kernel
theorem dX2_fillByRatios_21 : decode cX2_fillByRatios 21 = .ok (.getfield 9, 3) := by decide +kernel
theorem dX2_fillByRatios_24 : decode cX2_fillByRatios 24 = .ok (.iload 4, 2) := by decide +kernel
theorem dX2_fillByRatios_26 : decode cX2_fillByRatios 26 = .ok (.iconst 1, 1) := by decide +kernel
theorem dX2_fillByRatios_27 : decode cX2_fillByRatios 27 = .ok (.isub, 1) := by decide +kernel
theorem dX2_fillByRatios_28 : decode cX2_fillByRatios 28 = .ok (.iaload, 1) := by decide +kernel
theorem dX2_fillByRatios_29 : decode cX2_fillByRatios 29 = .ok (.iload_n 3, 1) := by decide +kernel
theorem dX2_fillByRatios_30 : decode cX2_fillByRatios 30 = .ok (.invokestatic 22, 3) := by decide +kernel
theorem dX2_fillByRatios_33 : decode cX2_fillByRatios 33 = .ok (.ifCond .eq 25, 3) := by decide +kernel
theorem dX2_fillByRatios_36 : decode cX2_fillByRatios 36 = .ok (.aload_n 0, 1) := by decide +kernel
theorem dX2_fillByRatios_37 : decode cX2_fillByRatios 37 = .ok (.getfield 9, 3) := by decide +kernel
theorem dX2_fillByRatios_40 : decode cX2_fillByRatios 40 = .ok (.iload 4, 2) := by decide +kernel
theorem dX2_fillByRatios_42 : decode cX2_fillByRatios 42 = .ok (.aload_n 0, 1) := by decide +kernel
theorem dX2_fillByRatios_43 : decode cX2_fillByRatios 43 = .ok (.getfield 9, 3) := by decide +kernel
theorem dX2_fillByRatios_46 : decode cX2_fillByRatios 46 = .ok (.iload 4, 2) := by decide +kernel
theorem dX2_fillByRatios_48 : decode cX2_fillByRatios 48 = .ok (.iconst 1, 1) := by decide +kernel
theorem dX2_fillByRatios_49 : decode cX2_fillByRatios 49 = .ok (.isub, 1) := by decide +kernel
theorem dX2_fillByRatios_50 : decode cX2_fillByRatios 50 = .ok (.iaload, 1) := by decide +kernel
theorem dX2_fillByRatios_51 : decode cX2_fillByRatios 51 = .ok (.iastore, 1) := by decide +kernel
theorem dX2_fillByRatios_52 : decode cX2_fillByRatios 52 = .ok (.iinc 4 (-1), 3) := by decide +kernel
theorem dX2_fillByRatios_55 : decode cX2_fillByRatios 55 = .ok (.goto (-42), 3) := by decide +kernel
theorem dX2_fillByRatios_58 : decode cX2_fillByRatios 58 = .ok (.aload_n 0, 1) := by decide +kernel
theorem dX2_fillByRatios_59 : decode cX2_fillByRatios 59 = .ok (.getfield 9, 3) := by decide +kernel
theorem dX2_fillByRatios_62 : decode cX2_fillByRatios 62 = .ok (.iload 4, 2) := by decide +kernel
theorem dX2_fillByRatios_64 : decode cX2_fillByRatios 64 = .ok (.iload_n 3, 1) := by decide +kernel
theorem dX2_fillByRatios_65 : decode cX2_fillByRatios 65 = .ok (.iastore, 1) := by decide +kernel
theorem dX2_fillByRatios_66 : decode cX2_fillByRatios 66 = .ok (.iinc 3 1, 3) := by decide +kernel
theorem dX2_fillByRatios_69 : decode cX2_fillByRatios 69 = .ok (.goto (-67), 3) := by decide +kernel
theorem dX2_fillByRatios_72 : decode cX2_fillByRatios 72 = .ok (.aload_n 0, 1) := by decide +kernel
theorem dX2_fillByRatios_73 : decode cX2_fillByRatios 73 = .ok (.aload_n 1, 1) := by decide +kernel
theorem dX2_fillByRatios_74 : decode cX2_fillByRatios 74 = .ok (.getfield 19, 3) := by decide +kernel
theorem dX2_fillByRatios_77 : decode cX2_fillByRatios 77 = .ok (.putfield 15, 3) := by decide +kernel
theorem dX2_fillByRatios_80 : decode cX2_fillByRatios 80 = .ok (.return_, 1) := by decide +kernel
theorem dX2_firstOutside_0 : decode cX2_firstOutside 0 = .ok (.iconst 0, 1) := by decide +kernel
theorem dX2_firstOutside_1 : decode cX2_firstOutside 1 = .ok (.istore_n 3, 1) := by decide +kernel
theorem dX2_firstOutside_2 : decode cX2_firstOutside 2 = .ok (.iload_n 3, 1) := by decide +kernel
theorem dX2_firstOutside_3 : decode cX2_firstOutside 3 = .ok (.aload_n 0, 1) := by decide +kernel
theorem dX2_firstOutside_4 : decode cX2_firstOutside 4 = .ok (.getfield 15, 3) := by decide +kernel
theorem dX2_firstOutside_7 : decode cX2_firstOutside 7 = .ok (.if_icmp .ge 29, 3) := by decide +kernel
theorem dX2_firstOutside_10 : decode cX2_firstOutside 10 = .ok (.iload_n 1, 1) := by decide +kernel
theorem dX2_firstOutside_11 : decode cX2_firstOutside 11 = .ok (.aload_n 0, 1) := by decide +kernel
theorem dX2_firstOutside_12 : decode cX2_firstOutside 12 = .ok (.getfield 9, 3) := by decide +kernel
theorem dX2_firstOutside_15 : decode cX2_firstOutside 15 = .ok (.iload_n 3, 1) := by decide +kernel
theorem dX2_firstOutside_16 : decode cX2_firstOutside 16 = .ok (.iaload, 1) := by decide +kernel
theorem dX2_firstOutside_17 : decode cX2_firstOutside 17 = .ok (.ishr, 1) := by decide +kernel
theorem dX2_firstOutside_18 : decode cX2_firstOutside 18 = .ok (.iconst 1, 1) := by decide +kernel
theorem dX2_firstOutside_19 : decode cX2_firstOutside 19 = .ok (.iand, 1) := by decide +kernel
theorem dX2_firstOutside_20 : decode cX2_firstOutside 20 = .ok (.ifCond .ne 10, 3) := by decide +kernel
theorem dX2_firstOutside_23 : decode cX2_firstOutside 23 = .ok (.aload_n 0, 1) := by decide +kernel
theorem dX2_firstOutside_24 : decode cX2_firstOutside 24 = .ok (.getfield 9, 3) := by decide +kernel
theorem dX2_firstOutside_27 : decode cX2_firstOutside 27 = .ok (.iload_n 3, 1) := by decide +kernel
theorem dX2_firstOutside_28 : decode cX2_firstOutside 28 = .ok (.iaload, 1) := by decide +kernel
theorem dX2_firstOutside_29 : decode cX2_firstOutside 29 = .ok (.ireturn, 1) := by decide +kernel
theorem dX2_firstOutside_30 : decode cX2_firstOutside 30 = .ok (.iinc 3 1, 3) := by decide +kernel
theorem dX2_firstOutside_33 : decode cX2_firstOutside 33 = .ok (.goto (-31), 3) := by decide +kernel
theorem dX2_firstOutside_36 : decode cX2_firstOutside 36 = .ok (.iconst 0, 1) := by decide +kernel
theorem dX2_firstOutside_37 : decode cX2_firstOutside 37 = .ok (.istore_n 3, 1) := by decide +kernel
theorem dX2_firstOutside_38 : decode cX2_firstOutside 38 = .ok (.iload_n 3, 1) := by decide +kernel
theorem dX2_firstOutside_39 : decode cX2_firstOutside 39 = .ok (.iload_n 2, 1) := by decide +kernel
theorem dX2_firstOutside_40 : decode cX2_firstOutside 40 = .ok (.if_icmp .ge 19, 3) := by decide +kernel
theorem dX2_firstOutside_43 : decode cX2_firstOutside 43 = .ok (.iload_n 1, 1) := by decide +kernel
theorem dX2_firstOutside_44 : decode cX2_firstOutside 44 = .ok (.iload_n 3, 1) := by decide +kernel
theorem dX2_firstOutside_45 : decode cX2_firstOutside 45 = .ok (.ishr, 1) := by decide +kernel
theorem dX2_firstOutside_46 : decode cX2_firstOutside 46 = .ok (.iconst 1, 1) := by decide +kernel
theorem dX2_firstOutside_47 : decode cX2_firstOutside 47 = .ok (.iand, 1) := by decide +kernel
theorem dX2_firstOutside_48 : decode cX2_firstOutside 48 = .ok (.ifCond .ne 5, 3) := by decide +kernel
theorem dX2_firstOutside_51 : decode cX2_firstOutside 51 = .ok (.iload_n 3, 1) := by decide +kernel
theorem dX2_firstOutside_52 : decode cX2_firstOutside 52 = .ok (.ireturn, 1) := by decide +kernel
theorem dX2_firstOutside_53 : decode cX2_firstOutside 53 = .ok (.iinc 3 1, 3) := by decide +kernel
theorem dX2_firstOutside_56 : decode cX2_firstOutside 56 = .ok (.goto (-18), 3) := by decide +kernel
theorem dX2_firstOutside_59 : decode cX2_firstOutside 59 = .ok (.iconst (-1), 1) := by decide +kernel
theorem dX2_firstOutside_60 : decode cX2_firstOutside 60 = .ok (.ireturn, 1) := by decide +kernel
theorem dX2_isDearer_0 : decode cX2_isDearer 0 = .ok (.iload_n 1, 1) := by decide +kernel
theorem dX2_isDearer_1 : decode cX2_isDearer 1 = .ok (.ifCond .eq 10, 3) := by decide +kernel
theorem dX2_isDearer_4 : decode cX2_isDearer 4 = .ok (.aload_n 0, 1) := by decide +kernel
theorem dX2_isDearer_5 : decode cX2_isDearer 5 = .ok (.getfield 26, 3) := by decide +kernel
theorem dX2_isDearer_8 : decode cX2_isDearer 8 = .ok (.goto 7, 3) := by decide +kernel
theorem dX2_isDearer_11 : decode cX2_isDearer 11 = .ok (.aload_n 0, 1) := by decide +kernel
theorem dX2_isDearer_12 : decode cX2_isDearer 12 = .ok (.getfield 29, 3) := by decide +kernel
theorem dX2_isDearer_15 : decode cX2_isDearer 15 = .ok (.astore 4, 2) := by decide +kernel
theorem dX2_isDearer_17 : decode cX2_isDearer 17 = .ok (.aload_n 0, 1) := by decide +kernel
theorem dX2_isDearer_18 : decode cX2_isDearer 18 = .ok (.getfield 32, 3) := by decide +kernel
theorem dX2_isDearer_21 : decode cX2_isDearer 21 = .ok (.iload_n 2, 1) := by decide +kernel
theorem dX2_isDearer_22 : decode cX2_isDearer 22 = .ok (.iaload, 1) := by decide +kernel
theorem dX2_isDearer_23 : decode cX2_isDearer 23 = .ok (.aload_n 0, 1) := by decide +kernel
theorem dX2_isDearer_24 : decode cX2_isDearer 24 = .ok (.getfield 26, 3) := by decide +kernel
theorem dX2_isDearer_27 : decode cX2_isDearer 27 = .ok (.iload_n 2, 1) := by decide +kernel
theorem dX2_isDearer_28 : decode cX2_isDearer 28 = .ok (.iaload, 1) := by decide +kernel
theorem dX2_isDearer_29 : decode cX2_isDearer 29 = .ok (.aload_n 0, 1) := by decide +kernel
theorem dX2_isDearer_30 : decode cX2_isDearer 30 = .ok (.getfield 29, 3) := by decide +kernel
theorem dX2_isDearer_33 : decode cX2_isDearer 33 = .ok (.iload_n 2, 1) := by decide +kernel
theorem dX2_isDearer_34 : decode cX2_isDearer 34 = .ok (.iaload, 1) := by decide +kernel
theorem dX2_isDearer_35 : decode cX2_isDearer 35 = .ok (.iadd, 1) := by decide +kernel
theorem dX2_isDearer_36 : decode cX2_isDearer 36 = .ok (.imul, 1) := by decide +kernel
theorem dX2_isDearer_37 : decode cX2_isDearer 37 = .ok (.aload 4, 2) := by decide +kernel
theorem dX2_isDearer_39 : decode cX2_isDearer 39 = .ok (.iload_n 3, 1) := by decide +kernel
theorem dX2_isDearer_40 : decode cX2_isDearer 40 = .ok (.iaload, 1) := by decide +kernel
theorem dX2_isDearer_41 : decode cX2_isDearer 41 = .ok (.imul, 1) := by decide +kernel
theorem dX2_isDearer_42 : decode cX2_isDearer 42 = .ok (.istore 5, 2) := by decide +kernel
theorem dX2_isDearer_44 : decode cX2_isDearer 44 = .ok (.aload_n 0, 1) := by decide +kernel
theorem dX2_isDearer_45 : decode cX2_isDearer 45 = .ok (.getfield 32, 3) := by decide +kernel
theorem dX2_isDearer_48 : decode cX2_isDearer 48 = .ok (.iload_n 3, 1) := by decide +kernel
theorem dX2_isDearer_49 : decode cX2_isDearer 49 = .ok (.iaload, 1) := by decide +kernel
theorem dX2_isDearer_50 : decode cX2_isDearer 50 = .ok (.aload_n 0, 1) := by decide +kernel
theorem dX2_isDearer_51 : decode cX2_isDearer 51 = .ok (.getfield 26, 3) := by decide +kernel
theorem dX2_isDearer_54 : decode cX2_isDearer 54 = .ok (.iload_n 3, 1) := by decide +kernel
theorem dX2_isDearer_55 : decode cX2_isDearer 55 = .ok (.iaload, 1) := by decide +kernel
theorem dX2_isDearer_56 : decode cX2_isDearer 56 = .ok (.aload_n 0, 1) := by decide +kernel
theorem dX2_isDearer_57 : decode cX2_isDearer 57 = .ok (.getfield 29, 3) := by decide +kernel
theorem dX2_isDearer_60 : decode cX2_isDearer 60 = .ok (.iload_n 3, 1) := by decide +kernel
theorem dX2_isDearer_61 : decode cX2_isDearer 61 = .ok (.iaload, 1) := by decide +kernel
theorem dX2_isDearer_62 : decode cX2_isDearer 62 = .ok (.iadd, 1) := by decide +kernel
theorem dX2_isDearer_63 : decode cX2_isDearer 63 = .ok (.imul, 1) := by decide +kernel
theorem dX2_isDearer_64 : decode cX2_isDearer 64 = .ok (.aload 4, 2) := by decide +kernel
theorem dX2_isDearer_66 : decode cX2_isDearer 66 = .ok (.iload_n 2, 1) := by decide +kernel
theorem dX2_isDearer_67 : decode cX2_isDearer 67 = .ok (.iaload, 1) := by decide +kernel
theorem dX2_isDearer_68 : decode cX2_isDearer 68 = .ok (.imul, 1) := by decide +kernel
theorem dX2_isDearer_69 : decode cX2_isDearer 69 = .ok (.istore 6, 2) := by decide +kernel
theorem dX2_isDearer_71 : decode cX2_isDearer 71 = .ok (.iload 5, 2) := by decide +kernel
theorem dX2_isDearer_73 : decode cX2_isDearer 73 = .ok (.iload 6, 2) := by decide +kernel
theorem dX2_isDearer_75 : decode cX2_isDearer 75 = .ok (.if_icmp .le 7, 3) := by decide +kernel
theorem dX2_isDearer_78 : decode cX2_isDearer 78 = .ok (.iconst 1, 1) := by decide +kernel
theorem dX2_isDearer_79 : decode cX2_isDearer 79 = .ok (.goto 4, 3) := by decide +kernel
theorem dX2_isDearer_82 : decode cX2_isDearer 82 = .ok (.iconst 0, 1) := by decide +kernel
theorem dX2_isDearer_83 : decode cX2_isDearer 83 = .ok (.ireturn, 1) := by decide +kernel
set_option maxRecDepth 20000 in
theorem ggX3_init_X3_begin : GoodIn wsX3_init wsX3_begin := goodIn_r _ [12, 13, 14, 15, 16, 17, 18, 19, 20] (by decide +kernel) (by decide +kernel)
set_option maxRecDepth 20000 in
theorem gX3_init_X3_begin : GoodIn wsX3_init (wsV RX3 19 RX3 yX3_begin wsX3_begin) := goodIn_app (goodIn_of _ (by decide +kernel)) ggX3_init_X3_begin
end
section
theorem dX3_init_0 : decode cX3_init 0 = .ok (.aload_n 0, 1) := by decide +kernel
theorem dX3_init_1 : decode cX3_init 1 = .ok (.invokespecial 3, 3) := by decide +kernel
theorem dX3_init_4 : decode cX3_init 4 = .ok (.aload_n 0, 1) := by decide +kernel
theorem dX3_init_5 : decode cX3_init 5 = .ok (.sipush 320, 3) := by decide +kernel
theorem dX3_init_8 : decode cX3_init 8 = .ok (.newarray .long, 2) := by decide +kernel
theorem dX3_init_10 : decode cX3_init 10 = .ok (.putfield 11, 3) := by decide +kernel
theorem dX3_init_13 : decode cX3_init 13 = .ok (.aload_n 0, 1) := by decide +kernel
theorem dX3_init_14 : decode cX3_init 14 = .ok (.bipush 9, 2) := by decide +kernel
theorem dX3_init_16 : decode cX3_init 16 = .ok (.newarray .int, 2) := by decide +kernel
theorem dX3_init_18 : decode cX3_init 18 = .ok (.putfield 15, 3) := by decide +kernel
theorem dX3_init_21 : decode cX3_init 21 = .ok (.aload_n 0, 1) := by decide +kernel
theorem dX3_init_22 : decode cX3_init 22 = .ok (.iconst 1, 1) := by decide +kernel
theorem dX3_init_23 : decode cX3_init 23 = .ok (.invokevirtual 19, 3) := by decide +kernel
theorem dX3_init_26 : decode cX3_init 26 = .ok (.return_, 1) := by decide +kernel
theorem dX3_begin_0 : decode cX3_begin 0 = .ok (.aload_n 0, 1) := by decide +kernel
theorem dX3_begin_1 : decode cX3_begin 1 = .ok (.iload_n 1, 1) := by decide +kernel
theorem dX3_begin_2 : decode cX3_begin 2 = .ok (.putfield 23, 3) := by decide +kernel
theorem dX3_begin_5 : decode cX3_begin 5 = .ok (.aload_n 0, 1) := by decide +kernel
theorem dX3_begin_6 : decode cX3_begin 6 = .ok (.iconst 0, 1) := by decide +kernel
theorem dX3_begin_7 : decode cX3_begin 7 = .ok (.putfield 27, 3) := by decide +kernel
theorem dX3_begin_10 : decode cX3_begin 10 = .ok (.aload_n 0, 1) := by decide +kernel
theorem dX3_begin_11 : decode cX3_begin 11 = .ok (.iconst (-1), 1) := by decide +kernel
theorem dX3_begin_12 : decode cX3_begin 12 = .ok (.putfield 30, 3) := by decide +kernel
theorem dX3_begin_15 : decode cX3_begin 15 = .ok (.return_, 1) := by decide +kernel
theorem dX3_has_0 : decode cX3_has 0 = .ok (.iload_n 1, 1) := by decide +kernel
theorem dX3_has_1 : decode cX3_has 1 = .ok (.ifCond .lt 15, 3) := by decide +kernel
theorem dX3_has_4 : decode cX3_has 4 = .ok (.iload_n 1, 1) := by decide +kernel
theorem dX3_has_5 : decode cX3_has 5 = .ok (.aload_n 0, 1) := by decide +kernel
theorem dX3_has_6 : decode cX3_has 6 = .ok (.getfield 27, 3) := by decide +kernel
theorem dX3_has_9 : decode cX3_has 9 = .ok (.if_icmp .ge 7, 3) := by decide +kernel
theorem dX3_has_12 : decode cX3_has 12 = .ok (.iconst 1, 1) := by decide +kernel
theorem dX3_has_13 : decode cX3_has 13 = .ok (.goto 4, 3) := by decide +kernel
theorem dX3_has_16 : decode cX3_has 16 = .ok (.iconst 0, 1) := by decide +kernel
theorem dX3_has_17 : decode cX3_has 17 = .ok (.ireturn, 1) := by decide +kernel
theorem dX3_hasRoom_0 : decode cX3_hasRoom 0 = .ok (.aload_n 0, 1) := by decide +kernel
theorem dX3_hasRoom_1 : decode cX3_hasRoom 1 = .ok (.getfield 27, 3) := by decide +kernel
theorem dX3_hasRoom_4 : decode cX3_hasRoom 4 = .ok (.bipush 40, 2) := by decide +kernel
theorem dX3_hasRoom_6 : decode cX3_hasRoom 6 = .ok (.if_icmp .ge 7, 3) := by decide +kernel
theorem dX3_hasRoom_9 : decode cX3_hasRoom 9 = .ok (.iconst 1, 1) := by decide +kernel
theorem dX3_hasRoom_10 : decode cX3_hasRoom 10 = .ok (.goto 4, 3) := by decide +kernel
theorem dX3_hasRoom_13 : decode cX3_hasRoom 13 = .ok (.iconst 0, 1) := by decide +kernel
theorem dX3_hasRoom_14 : decode cX3_hasRoom 14 = .ok (.ireturn, 1) := by decide +kernel
set_option maxRecDepth 20000 in
theorem ggX3_hasSystem_X3_has : GoodIn wsX3_hasSystem wsX3_has := goodIn_r _ [6, 7, 8, 9, 10, 11, 12] (by decide +kernel) (by decide +kernel)
set_option maxRecDepth 20000 in
theorem gX3_hasSystem_X3_has : GoodIn wsX3_hasSystem (wsV RX3 33 RX3 yX3_has wsX3_has) := goodIn_app (goodIn_of _ (by decide +kernel)) ggX3_hasSystem_X3_has
theorem dX3_hasSystem_0 : decode cX3_hasSystem 0 = .ok (.aload_n 0, 1) := by decide +kernel
theorem dX3_hasSystem_1 : decode cX3_hasSystem 1 = .ok (.aload_n 0, 1) := by decide +kernel
theorem dX3_hasSystem_2 : decode cX3_hasSystem 2 = .ok (.getfield 30, 3) := by decide +kernel
theorem dX3_hasSystem_5 : decode cX3_hasSystem 5 = .ok (.invokevirtual 33, 3) := by decide +kernel
theorem dX3_hasSystem_8 : decode cX3_hasSystem 8 = .ok (.ireturn, 1) := by decide +kernel
theorem dX3_isGood_0 : decode cX3_isGood 0 = .ok (.aload_n 0, 1) := by decide +kernel
theorem dX3_isGood_1 : decode cX3_isGood 1 = .ok (.getfield 11, 3) := by decide +kernel
theorem dX3_isGood_4 : decode cX3_isGood 4 = .ok (.iload_n 1, 1) := by decide +kernel
theorem dX3_isGood_5 : decode cX3_isGood 5 = .ok (.bipush 8, 2) := by decide +kernel
theorem dX3_isGood_7 : decode cX3_isGood 7 = .ok (.imul, 1) := by decide +kernel
theorem dX3_isGood_8 : decode cX3_isGood 8 = .ok (.iload_n 2, 1) := by decide +kernel
theorem dX3_isGood_9 : decode cX3_isGood 9 = .ok (.bipush 6, 2) := by decide +kernel
theorem dX3_isGood_11 : decode cX3_isGood 11 = .ok (.ishr, 1) := by decide +kernel
theorem dX3_isGood_12 : decode cX3_isGood 12 = .ok (.iadd, 1) := by decide +kernel
theorem dX3_isGood_13 : decode cX3_isGood 13 = .ok (.laload, 1) := by decide +kernel
theorem dX3_isGood_14 : decode cX3_isGood 14 = .ok (.iload_n 2, 1) := by decide +kernel
theorem dX3_isGood_15 : decode cX3_isGood 15 = .ok (.bipush 63, 2) := by decide +kernel
theorem dX3_isGood_17 : decode cX3_isGood 17 = .ok (.iand, 1) := by decide +kernel
theorem dX3_isGood_18 : decode cX3_isGood 18 = .ok (.lushr, 1) := by decide +kernel
theorem dX3_isGood_19 : decode cX3_isGood 19 = .ok (.lconst 1, 1) := by decide +kernel
theorem dX3_isGood_20 : decode cX3_isGood 20 = .ok (.land, 1) := by decide +kernel
theorem dX3_isGood_21 : decode cX3_isGood 21 = .ok (.lconst 0, 1) := by decide +kernel
theorem dX3_isGood_22 : decode cX3_isGood 22 = .ok (.lcmp, 1) := by decide +kernel
theorem dX3_isGood_23 : decode cX3_isGood 23 = .ok (.ifCond .eq 7, 3) := by decide +kernel
theorem dX3_isGood_26 : decode cX3_isGood 26 = .ok (.iconst 1, 1) := by decide +kernel
theorem dX3_isGood_27 : decode cX3_isGood 27 = .ok (.goto 4, 3) := by decide +kernel
theorem dX3_isGood_30 : decode cX3_isGood 30 = .ok (.iconst 0, 1) := by decide +kernel
theorem dX3_isGood_31 : decode cX3_isGood 31 = .ok (.ireturn, 1) := by decide +kernel
set_option maxRecDepth 20000 in
theorem ggX3_isSystemGood_X3_isGood : GoodIn wsX3_isSystemGood wsX3_isGood := goodIn_r _ [6, 7, 8, 9, 10, 11, 12] (by decide +kernel) (by decide +kernel)
set_option maxRecDepth 20000 in
theorem gX3_isSystemGood_X3_isGood : GoodIn wsX3_isSystemGood (wsV RX3 37 RX3 yX3_isGood wsX3_isGood) := goodIn_app (goodIn_of _ (by decide +kernel)) ggX3_isSystemGood_X3_isGood
theorem dX3_isSystemGood_0 : decode cX3_isSystemGood 0 = .ok (.aload_n 0, 1) := by decide +kernel
theorem dX3_isSystemGood_1 : decode cX3_isSystemGood 1 = .ok (.aload_n 0, 1) := by decide +kernel
theorem dX3_isSystemGood_2 : decode cX3_isSystemGood 2 = .ok (.getfield 30, 3) := by decide +kernel
theorem dX3_isSystemGood_5 : decode cX3_isSystemGood 5 = .ok (.iload_n 1, 1) := by decide +kernel
theorem dX3_isSystemGood_6 : decode cX3_isSystemGood 6 = .ok (.invokevirtual 37, 3) := by decide +kernel
theorem dX3_isSystemGood_9 : decode cX3_isSystemGood 9 = .ok (.ireturn, 1) := by decide +kernel
set_option maxRecDepth 20000 in
theorem ggX3_verdict_X3_isSystemGood : GoodIn wsX3_verdict wsX3_isSystemGood := goodIn_r _ [5, 6, 7, 8, 9, 4, 10, 11, 12, 13, 14, 15, 16] (by decide +kernel) (by decide +kernel)
set_option maxRecDepth 20000 in
theorem gX3_verdict_X3_isSystemGood : GoodIn wsX3_verdict (wsV RX3 41 RX3 yX3_isSystemGood wsX3_isSystemGood) := goodIn_app (goodIn_of _ (by decide +kernel)) ggX3_verdict_X3_isSystemGood
theorem dX3_verdict_0 : decode cX3_verdict 0 = .ok (.aload_n 0, 1) := by decide +kernel
theorem dX3_verdict_1 : decode cX3_verdict 1 = .ok (.iload_n 1, 1) := by decide +kernel
theorem dX3_verdict_2 : decode cX3_verdict 2 = .ok (.invokevirtual 41, 3) := by decide +kernel
theorem dX3_verdict_5 : decode cX3_verdict 5 = .ok (.ifCond .eq 5, 3) := by decide +kernel
theorem dX3_verdict_8 : decode cX3_verdict 8 = .ok (.iconst 1, 1) := by decide +kernel
theorem dX3_verdict_9 : decode cX3_verdict 9 = .ok (.ireturn, 1) := by decide +kernel
theorem dX3_verdict_10 : decode cX3_verdict 10 = .ok (.aload_n 0, 1) := by decide +kernel
theorem dX3_verdict_11 : decode cX3_verdict 11 = .ok (.iload_n 1, 1) := by decide +kernel
theorem dX3_verdict_12 : decode cX3_verdict 12 = .ok (.iload_n 2, 1) := by decide +kernel
theorem dX3_verdict_13 : decode cX3_verdict 13 = .ok (.ior, 1) := by decide +kernel
theorem dX3_verdict_14 : decode cX3_verdict 14 = .ok (.invokevirtual 41, 3) := by decide +kernel
theorem dX3_verdict_17 : decode cX3_verdict 17 = .ok (.ifCond .eq 7, 3) := by decide +kernel
theorem dX3_verdict_20 : decode cX3_verdict 20 = .ok (.iconst (-1), 1) := by decide +kernel
theorem dX3_verdict_21 : decode cX3_verdict 21 = .ok (.goto 4, 3) := by decide +kernel
theorem dX3_verdict_24 : decode cX3_verdict 24 = .ok (.iconst 0, 1) := by decide +kernel
theorem dX3_verdict_25 : decode cX3_verdict 25 = .ok (.ireturn, 1) := by decide +kernel
set_option maxRecDepth 20000 in
theorem ggX3_addSingle_X3_wipe : GoodIn wsX3_addSingle wsX3_wipe := goodIn_r _ [7, 8, 2, 13, 14, 15, 16, 17] (by decide +kernel) (by decide +kernel)
set_option maxRecDepth 20000 in
theorem gX3_addSingle_X3_wipe : GoodIn wsX3_addSingle (wsV RX3 44 RX3 yX3_wipe wsX3_wipe) := goodIn_app (goodIn_of _ (by decide +kernel)) ggX3_addSingle_X3_wipe
set_option maxRecDepth 20000 in
theorem ggX3_addSingle_X3_mark : GoodIn wsX3_addSingle wsX3_mark := goodIn_r _ [12, 8, 2, 13, 14, 15, 16, 17] (by decide +kernel) (by decide +kernel)
set_option maxRecDepth 20000 in
theorem gX3_addSingle_X3_mark : GoodIn wsX3_addSingle (wsV RX3 47 RX3 yX3_mark wsX3_mark) := goodIn_app (goodIn_of _ (by decide +kernel)) ggX3_addSingle_X3_mark
theorem dX3_addSingle_0 : decode cX3_addSingle 0 = .ok (.aload_n 0, 1) := by decide +kernel
theorem dX3_addSingle_1 : decode cX3_addSingle 1 = .ok (.invokevirtual 44, 3) := by decide +kernel
theorem dX3_addSingle_4 : decode cX3_addSingle 4 = .ok (.iconst 0, 1) := by decide +kernel
theorem dX3_addSingle_5 : decode cX3_addSingle 5 = .ok (.istore_n 2, 1) := by decide +kernel
theorem dX3_addSingle_6 : decode cX3_addSingle 6 = .ok (.iload_n 2, 1) := by decide +kernel
theorem dX3_addSingle_7 : decode cX3_addSingle 7 = .ok (.iconst 1, 1) := by decide +kernel
theorem dX3_addSingle_8 : decode cX3_addSingle 8 = .ok (.aload_n 0, 1) := by decide +kernel
theorem dX3_addSingle_9 : decode cX3_addSingle 9 = .ok (.getfield 23, 3) := by decide +kernel
theorem dX3_addSingle_12 : decode cX3_addSingle 12 = .ok (.ishl, 1) := by decide +kernel
theorem dX3_addSingle_13 : decode cX3_addSingle 13 = .ok (.if_icmp .ge 23, 3) := by decide +kernel
theorem dX3_addSingle_16 : decode cX3_addSingle 16 = .ok (.iload_n 2, 1) := by decide +kernel
theorem dX3_addSingle_17 : decode cX3_addSingle 17 = .ok (.iload_n 1, 1) := by decide +kernel
theorem dX3_addSingle_18 : decode cX3_addSingle 18 = .ok (.ishr, 1) := by decide +kernel
theorem dX3_addSingle_19 : decode cX3_addSingle 19 = .ok (.iconst 1, 1) := by decide +kernel
theorem dX3_addSingle_20 : decode cX3_addSingle 20 = .ok (.iand, 1) := by decide +kernel
theorem dX3_addSingle_21 : decode cX3_addSingle 21 = .ok (.iconst 1, 1) := by decide +kernel
theorem dX3_addSingle_22 : decode cX3_addSingle 22 = .ok (.if_icmp .ne 8, 3) := by decide +kernel
theorem dX3_addSingle_25 : decode cX3_addSingle 25 = .ok (.aload_n 0, 1) := by decide +kernel
theorem dX3_addSingle_26 : decode cX3_addSingle 26 = .ok (.iload_n 2, 1) := by decide +kernel
theorem dX3_addSingle_27 : decode cX3_addSingle 27 = .ok (.invokevirtual 47, 3) := by decide +kernel
theorem dX3_addSingle_30 : decode cX3_addSingle 30 = .ok (.iinc 2 1, 3) := by decide +kernel
theorem dX3_addSingle_33 : decode cX3_addSingle 33 = .ok (.goto (-27), 3) := by decide +kernel
theorem dX3_addSingle_36 : decode cX3_addSingle 36 = .ok (.aload_n 0, 1) := by decide +kernel
theorem dX3_addSingle_37 : decode cX3_addSingle 37 = .ok (.dup, 1) := by decide +kernel
theorem dX3_addSingle_38 : decode cX3_addSingle 38 = .ok (.getfield 27, 3) := by decide +kernel
theorem dX3_addSingle_41 : decode cX3_addSingle 41 = .ok (.dup_x1, 1) := by decide +kernel
theorem dX3_addSingle_42 : decode cX3_addSingle 42 = .ok (.iconst 1, 1) := by decide +kernel
theorem dX3_addSingle_43 : decode cX3_addSingle 43 = .ok (.iadd, 1) := by decide +kernel
theorem dX3_addSingle_44 : decode cX3_addSingle 44 = .ok (.putfield 27, 3) := by decide +kernel
theorem dX3_addSingle_47 : decode cX3_addSingle 47 = .ok (.ireturn, 1) := by decide +kernel
theorem dX3_addRow_0 : decode cX3_addRow 0 = .ok (.iconst 0, 1) := by decide +kernel
theorem dX3_addRow_1 : decode cX3_addRow 1 = .ok (.istore_n 3, 1) := by decide +kernel
theorem dX3_addRow_2 : decode cX3_addRow 2 = .ok (.iload_n 3, 1) := by decide +kernel
theorem dX3_addRow_3 : decode cX3_addRow 3 = .ok (.bipush 8, 2) := by decide +kernel
theorem dX3_addRow_5 : decode cX3_addRow 5 = .ok (.if_icmp .ge 46, 3) := by decide +kernel
theorem dX3_addRow_8 : decode cX3_addRow 8 = .ok (.aload_n 0, 1) := by decide +kernel
theorem dX3_addRow_9 : decode cX3_addRow 9 = .ok (.getfield 11, 3) := by decide +kernel
theorem dX3_addRow_12 : decode cX3_addRow 12 = .ok (.aload_n 0, 1) := by decide +kernel
theorem dX3_addRow_13 : decode cX3_addRow 13 = .ok (.getfield 27, 3) := by decide +kernel
theorem dX3_addRow_16 : decode cX3_addRow 16 = .ok (.bipush 8, 2) := by decide +kernel
theorem dX3_addRow_18 : decode cX3_addRow 18 = .ok (.imul, 1) := by decide +kernel
theorem dX3_addRow_19 : decode cX3_addRow 19 = .ok (.iload_n 3, 1) := by decide +kernel
theorem dX3_addRow_20 : decode cX3_addRow 20 = .ok (.iadd, 1) := by decide +kernel
theorem dX3_addRow_21 : decode cX3_addRow 21 = .ok (.aload_n 0, 1) := by decide +kernel
theorem dX3_addRow_22 : decode cX3_addRow 22 = .ok (.getfield 11, 3) := by decide +kernel
theorem dX3_addRow_25 : decode cX3_addRow 25 = .ok (.iload_n 1, 1) := by decide +kernel
theorem dX3_addRow_26 : decode cX3_addRow 26 = .ok (.bipush 8, 2) := by decide +kernel
theorem dX3_addRow_28 : decode cX3_addRow 28 = .ok (.imul, 1) := by decide +kernel
theorem dX3_addRow_29 : decode cX3_addRow 29 = .ok (.iload_n 3, 1) := by decide +kernel
theorem dX3_addRow_30 : decode cX3_addRow 30 = .ok (.iadd, 1) := by decide +kernel
theorem dX3_addRow_31 : decode cX3_addRow 31 = .ok (.laload, 1) := by decide +kernel
theorem dX3_addRow_32 : decode cX3_addRow 32 = .ok (.aload_n 0, 1) := by decide +kernel
theorem dX3_addRow_33 : decode cX3_addRow 33 = .ok (.getfield 11, 3) := by decide +kernel
theorem dX3_addRow_36 : decode cX3_addRow 36 = .ok (.iload_n 2, 1) := by decide +kernel
theorem dX3_addRow_37 : decode cX3_addRow 37 = .ok (.bipush 8, 2) := by decide +kernel
theorem dX3_addRow_39 : decode cX3_addRow 39 = .ok (.imul, 1) := by decide +kernel
theorem dX3_addRow_40 : decode cX3_addRow 40 = .ok (.iload_n 3, 1) := by decide +kernel
theorem dX3_addRow_41 : decode cX3_addRow 41 = .ok (.iadd, 1) := by decide +kernel
theorem dX3_addRow_42 : decode cX3_addRow 42 = .ok (.laload, 1) := by decide +kernel
theorem dX3_addRow_43 : decode cX3_addRow 43 = .ok (.land, 1) := by decide +kernel
theorem dX3_addRow_44 : decode cX3_addRow 44 = .ok (.lastore, 1) := by decide +kernel
theorem dX3_addRow_45 : decode cX3_addRow 45 = .ok (.iinc 3 1, 3) := by decide +kernel
theorem dX3_addRow_48 : decode cX3_addRow 48 = .ok (.goto (-46), 3) := by decide +kernel
theorem dX3_addRow_51 : decode cX3_addRow 51 = .ok (.aload_n 0, 1) := by decide +kernel
theorem dX3_addRow_52 : decode cX3_addRow 52 = .ok (.dup, 1) := by decide +kernel
theorem dX3_addRow_53 : decode cX3_addRow 53 = .ok (.getfield 27, 3) := by decide +kernel
theorem dX3_addRow_56 : decode cX3_addRow 56 = .ok (.dup_x1, 1) := by decide +kernel
theorem dX3_addRow_57 : decode cX3_addRow 57 = .ok (.iconst 1, 1) := by decide +kernel
theorem dX3_addRow_58 : decode cX3_addRow 58 = .ok (.iadd, 1) := by decide +kernel
theorem dX3_addRow_59 : decode cX3_addRow 59 = .ok (.putfield 27, 3) := by decide +kernel
theorem dX3_addRow_62 : decode cX3_addRow 62 = .ok (.ireturn, 1) := by decide +kernel
theorem dX3_addSide_0 : decode cX3_addSide 0 = .ok (.iconst 0, 1) := by decide +kernel
theorem dX3_addSide_1 : decode cX3_addSide 1 = .ok (.istore_n 3, 1) := by decide +kernel
theorem dX3_addSide_2 : decode cX3_addSide 2 = .ok (.iload_n 3, 1) := by decide +kernel
theorem dX3_addSide_3 : decode cX3_addSide 3 = .ok (.bipush 8, 2) := by decide +kernel
theorem dX3_addSide_5 : decode cX3_addSide 5 = .ok (.if_icmp .ge 46, 3) := by decide +kernel
theorem dX3_addSide_8 : decode cX3_addSide 8 = .ok (.aload_n 0, 1) := by decide +kernel
theorem dX3_addSide_9 : decode cX3_addSide 9 = .ok (.getfield 11, 3) := by decide +kernel
theorem dX3_addSide_12 : decode cX3_addSide 12 = .ok (.aload_n 0, 1) := by decide +kernel
theorem dX3_addSide_13 : decode cX3_addSide 13 = .ok (.getfield 27, 3) := by decide +kernel
theorem dX3_addSide_16 : decode cX3_addSide 16 = .ok (.bipush 8, 2) := by decide +kernel
theorem dX3_addSide_18 : decode cX3_addSide 18 = .ok (.imul, 1) := by decide +kernel
theorem dX3_addSide_19 : decode cX3_addSide 19 = .ok (.iload_n 3, 1) := by decide +kernel
theorem dX3_addSide_20 : decode cX3_addSide 20 = .ok (.iadd, 1) := by decide +kernel
theorem dX3_addSide_21 : decode cX3_addSide 21 = .ok (.aload_n 0, 1) := by decide +kernel
theorem dX3_addSide_22 : decode cX3_addSide 22 = .ok (.getfield 11, 3) := by decide +kernel
theorem dX3_addSide_25 : decode cX3_addSide 25 = .ok (.iload_n 1, 1) := by decide +kernel
theorem dX3_addSide_26 : decode cX3_addSide 26 = .ok (.bipush 8, 2) := by decide +kernel
theorem dX3_addSide_28 : decode cX3_addSide 28 = .ok (.imul, 1) := by decide +kernel
theorem dX3_addSide_29 : decode cX3_addSide 29 = .ok (.iload_n 3, 1) := by decide +kernel
theorem dX3_addSide_30 : decode cX3_addSide 30 = .ok (.iadd, 1) := by decide +kernel
theorem dX3_addSide_31 : decode cX3_addSide 31 = .ok (.laload, 1) := by decide +kernel
theorem dX3_addSide_32 : decode cX3_addSide 32 = .ok (.aload_n 0, 1) := by decide +kernel
theorem dX3_addSide_33 : decode cX3_addSide 33 = .ok (.getfield 11, 3) := by decide +kernel
theorem dX3_addSide_36 : decode cX3_addSide 36 = .ok (.iload_n 2, 1) := by decide +kernel
theorem dX3_addSide_37 : decode cX3_addSide 37 = .ok (.bipush 8, 2) := by decide +kernel
theorem dX3_addSide_39 : decode cX3_addSide 39 = .ok (.imul, 1) := by decide +kernel
theorem dX3_addSide_40 : decode cX3_addSide 40 = .ok (.iload_n 3, 1) := by decide +kernel
theorem dX3_addSide_41 : decode cX3_addSide 41 = .ok (.iadd, 1) := by decide +kernel
theorem dX3_addSide_42 : decode cX3_addSide 42 = .ok (.laload, 1) := by decide +kernel
theorem dX3_addSide_43 : decode cX3_addSide 43 = .ok (.lor, 1) := by decide +kernel
theorem dX3_addSide_44 : decode cX3_addSide 44 = .ok (.lastore, 1) := by decide +kernel
theorem dX3_addSide_45 : decode cX3_addSide 45 = .ok (.iinc 3 1, 3) := by decide +kernel
theorem dX3_addSide_48 : decode cX3_addSide 48 = .ok (.goto (-46), 3) := by decide +kernel
theorem dX3_addSide_51 : decode cX3_addSide 51 = .ok (.aload_n 0, 1) := by decide +kernel
theorem dX3_addSide_52 : decode cX3_addSide 52 = .ok (.dup, 1) := by decide +kernel
theorem dX3_addSide_53 : decode cX3_addSide 53 = .ok (.getfield 27, 3) := by decide +kernel
theorem dX3_addSide_56 : decode cX3_addSide 56 = .ok (.dup_x1, 1) := by decide +kernel
theorem dX3_addSide_57 : decode cX3_addSide 57 = .ok (.iconst 1, 1) := by decide +kernel
theorem dX3_addSide_58 : decode cX3_addSide 58 = .ok (.iadd, 1) := by decide +kernel
theorem dX3_addSide_59 : decode cX3_addSide 59 = .ok (.putfield 27, 3) := by decide +kernel
theorem dX3_addSide_62 : decode cX3_addSide 62 = .ok (.ireturn, 1) := by decide +kernel
set_option maxRecDepth 20000 in
theorem ggX3_addSome_X3_shareWorths : GoodIn wsX3_addSome wsX3_shareWorths := goodIn_r _ [7, 1, 8, 22, 23, 24, 25, 26] (by decide +kernel) (by decide +kernel)
set_option maxRecDepth 20000 in
theorem gX3_addSome_X3_shareWorths : GoodIn wsX3_addSome (wsV RX3 50 RX3 yX3_shareWorths wsX3_shareWorths) := goodIn_app (goodIn_of _ (by decide +kernel)) ggX3_addSome_X3_shareWorths
set_option maxRecDepth 20000 in
theorem ggX3_addSome_X3_wipe : GoodIn wsX3_addSome wsX3_wipe := goodIn_r _ [12, 13, 2, 22, 23, 24, 25, 26] (by decide +kernel) (by decide +kernel)
set_option maxRecDepth 20000 in
theorem gX3_addSome_X3_wipe : GoodIn wsX3_addSome (wsV RX3 44 RX3 yX3_wipe wsX3_wipe) := goodIn_app (goodIn_of _ (by decide +kernel)) ggX3_addSome_X3_wipe
set_option maxRecDepth 20000 in
theorem ggX3_addSome_X3_worthOf : GoodIn wsX3_addSome wsX3_worthOf := goodIn_r _ [17, 1, 8, 22, 23, 24, 25, 26] (by decide +kernel) (by decide +kernel)
set_option maxRecDepth 20000 in
theorem gX3_addSome_X3_worthOf : GoodIn wsX3_addSome (wsV RX3 54 RX3 yX3_worthOf wsX3_worthOf) := goodIn_app (goodIn_of _ (by decide +kernel)) ggX3_addSome_X3_worthOf
set_option maxRecDepth 20000 in
theorem ggX3_addSome_X3_mark : GoodIn wsX3_addSome wsX3_mark := goodIn_r _ [21, 13, 2, 22, 23, 24, 25, 26] (by decide +kernel) (by decide +kernel)
set_option maxRecDepth 20000 in
theorem gX3_addSome_X3_mark : GoodIn wsX3_addSome (wsV RX3 47 RX3 yX3_mark wsX3_mark) := goodIn_app (goodIn_of _ (by decide +kernel)) ggX3_addSome_X3_mark
theorem dX3_addSome_0 : decode cX3_addSome 0 = .ok (.aload_n 0, 1) := by decide +kernel
theorem dX3_addSome_1 : decode cX3_addSome 1 = .ok (.iload_n 1, 1) := by decide +kernel
theorem dX3_addSome_2 : decode cX3_addSome 2 = .ok (.lload_n 2, 1) := by decide +kernel
theorem dX3_addSome_3 : decode cX3_addSome 3 = .ok (.iload 4, 2) := by decide +kernel
theorem dX3_addSome_5 : decode cX3_addSome 5 = .ok (.invokevirtual 50, 3) := by decide +kernel
theorem dX3_addSome_8 : decode cX3_addSome 8 = .ok (.aload_n 0, 1) := by decide +kernel
theorem dX3_addSome_9 : decode cX3_addSome 9 = .ok (.invokevirtual 44, 3) := by decide +kernel
theorem dX3_addSome_12 : decode cX3_addSome 12 = .ok (.iconst 0, 1) := by decide +kernel
theorem dX3_addSome_13 : decode cX3_addSome 13 = .ok (.istore 6, 2) := by decide +kernel
theorem dX3_addSome_15 : decode cX3_addSome 15 = .ok (.iload 6, 2) := by decide +kernel
theorem dX3_addSome_17 : decode cX3_addSome 17 = .ok (.iconst 1, 1) := by decide +kernel
theorem dX3_addSome_18 : decode cX3_addSome 18 = .ok (.aload_n 0, 1) := by decide +kernel
theorem dX3_addSome_19 : decode cX3_addSome 19 = .ok (.getfield 23, 3) := by decide +kernel
theorem dX3_addSome_22 : decode cX3_addSome 22 = .ok (.ishl, 1) := by decide +kernel
theorem dX3_addSome_23 : decode cX3_addSome 23 = .ok (.if_icmp .ge 26, 3) := by decide +kernel
theorem dX3_addSome_26 : decode cX3_addSome 26 = .ok (.aload_n 0, 1) := by decide +kernel
theorem dX3_addSome_27 : decode cX3_addSome 27 = .ok (.iload 6, 2) := by decide +kernel
theorem dX3_addSome_29 : decode cX3_addSome 29 = .ok (.invokevirtual 54, 3) := by decide +kernel
theorem dX3_addSome_32 : decode cX3_addSome 32 = .ok (.iload 5, 2) := by decide +kernel
theorem dX3_addSome_34 : decode cX3_addSome 34 = .ok (.if_icmp .lt 9, 3) := by decide +kernel
theorem dX3_addSome_37 : decode cX3_addSome 37 = .ok (.aload_n 0, 1) := by decide +kernel
theorem dX3_addSome_38 : decode cX3_addSome 38 = .ok (.iload 6, 2) := by decide +kernel
theorem dX3_addSome_40 : decode cX3_addSome 40 = .ok (.invokevirtual 47, 3) := by decide +kernel
theorem dX3_addSome_43 : decode cX3_addSome 43 = .ok (.iinc 6 1, 3) := by decide +kernel
theorem dX3_addSome_46 : decode cX3_addSome 46 = .ok (.goto (-31), 3) := by decide +kernel
theorem dX3_addSome_49 : decode cX3_addSome 49 = .ok (.aload_n 0, 1) := by decide +kernel
theorem dX3_addSome_50 : decode cX3_addSome 50 = .ok (.dup, 1) := by decide +kernel
theorem dX3_addSome_51 : decode cX3_addSome 51 = .ok (.getfield 27, 3) := by decide +kernel
theorem dX3_addSome_54 : decode cX3_addSome 54 = .ok (.dup_x1, 1) := by decide +kernel
theorem dX3_addSome_55 : decode cX3_addSome 55 = .ok (.iconst 1, 1) := by decide +kernel
theorem dX3_addSome_56 : decode cX3_addSome 56 = .ok (.iadd, 1) := by decide +kernel
theorem dX3_addSome_57 : decode cX3_addSome 57 = .ok (.putfield 27, 3) := by decide +kernel
theorem dX3_addSome_60 : decode cX3_addSome 60 = .ok (.ireturn, 1) := by decide +kernel
set_option maxRecDepth 20000 in
theorem ggX3_addDual_X3_wipe : GoodIn wsX3_addDual wsX3_wipe := goodIn_r _ [7, 8, 2, 17, 18, 19, 20, 21] (by decide +kernel) (by decide +kernel)
set_option maxRecDepth 20000 in
theorem gX3_addDual_X3_wipe : GoodIn wsX3_addDual (wsV RX3 44 RX3 yX3_wipe wsX3_wipe) := goodIn_app (goodIn_of _ (by decide +kernel)) ggX3_addDual_X3_wipe
set_option maxRecDepth 20000 in
theorem ggX3_addDual_X3_isGood : GoodIn wsX3_addDual wsX3_isGood := goodIn_r _ [12, 8, 17, 18, 19, 20, 21] (by decide +kernel) (by decide +kernel)
set_option maxRecDepth 20000 in
theorem gX3_addDual_X3_isGood : GoodIn wsX3_addDual (wsV RX3 37 RX3 yX3_isGood wsX3_isGood) := goodIn_app (goodIn_of _ (by decide +kernel)) ggX3_addDual_X3_isGood
set_option maxRecDepth 20000 in
theorem ggX3_addDual_X3_mark : GoodIn wsX3_addDual wsX3_mark := goodIn_r _ [16, 8, 2, 17, 18, 19, 20, 21] (by decide +kernel) (by decide +kernel)
set_option maxRecDepth 20000 in
theorem gX3_addDual_X3_mark : GoodIn wsX3_addDual (wsV RX3 47 RX3 yX3_mark wsX3_mark) := goodIn_app (goodIn_of _ (by decide +kernel)) ggX3_addDual_X3_mark
theorem dX3_addDual_0 : decode cX3_addDual 0 = .ok (.aload_n 0, 1) := by decide +kernel
theorem dX3_addDual_1 : decode cX3_addDual 1 = .ok (.invokevirtual 44, 3) := by decide +kernel
theorem dX3_addDual_4 : decode cX3_addDual 4 = .ok (.iconst 1, 1) := by decide +kernel
theorem dX3_addDual_5 : decode cX3_addDual 5 = .ok (.aload_n 0, 1) := by decide +kernel
theorem dX3_addDual_6 : decode cX3_addDual 6 = .ok (.getfield 23, 3) := by decide +kernel
theorem dX3_addDual_9 : decode cX3_addDual 9 = .ok (.ishl, 1) := by decide +kernel
theorem dX3_addDual_10 : decode cX3_addDual 10 = .ok (.iconst 1, 1) := by decide +kernel
theorem dX3_addDual_11 : decode cX3_addDual 11 = .ok (.isub, 1) := by decide +kernel
theorem dX3_addDual_12 : decode cX3_addDual 12 = .ok (.istore_n 2, 1) := by decide +kernel
theorem dX3_addDual_13 : decode cX3_addDual 13 = .ok (.iconst 0, 1) := by decide +kernel
theorem dX3_addDual_14 : decode cX3_addDual 14 = .ok (.istore_n 3, 1) := by decide +kernel
theorem dX3_addDual_15 : decode cX3_addDual 15 = .ok (.iload_n 3, 1) := by decide +kernel
theorem dX3_addDual_16 : decode cX3_addDual 16 = .ok (.iload_n 2, 1) := by decide +kernel
theorem dX3_addDual_17 : decode cX3_addDual 17 = .ok (.if_icmp .gt 25, 3) := by decide +kernel
theorem dX3_addDual_20 : decode cX3_addDual 20 = .ok (.aload_n 0, 1) := by decide +kernel
theorem dX3_addDual_21 : decode cX3_addDual 21 = .ok (.iload_n 1, 1) := by decide +kernel
theorem dX3_addDual_22 : decode cX3_addDual 22 = .ok (.iload_n 2, 1) := by decide +kernel
theorem dX3_addDual_23 : decode cX3_addDual 23 = .ok (.iload_n 3, 1) := by decide +kernel
theorem dX3_addDual_24 : decode cX3_addDual 24 = .ok (.ixor, 1) := by decide +kernel
theorem dX3_addDual_25 : decode cX3_addDual 25 = .ok (.invokevirtual 37, 3) := by decide +kernel
theorem dX3_addDual_28 : decode cX3_addDual 28 = .ok (.ifCond .ne 8, 3) := by decide +kernel
theorem dX3_addDual_31 : decode cX3_addDual 31 = .ok (.aload_n 0, 1) := by decide +kernel
theorem dX3_addDual_32 : decode cX3_addDual 32 = .ok (.iload_n 3, 1) := by decide +kernel
theorem dX3_addDual_33 : decode cX3_addDual 33 = .ok (.invokevirtual 47, 3) := by decide +kernel
theorem dX3_addDual_36 : decode cX3_addDual 36 = .ok (.iinc 3 1, 3) := by decide +kernel
theorem dX3_addDual_39 : decode cX3_addDual 39 = .ok (.goto (-24), 3) := by decide +kernel
theorem dX3_addDual_42 : decode cX3_addDual 42 = .ok (.aload_n 0, 1) := by decide +kernel
theorem dX3_addDual_43 : decode cX3_addDual 43 = .ok (.dup, 1) := by decide +kernel
theorem dX3_addDual_44 : decode cX3_addDual 44 = .ok (.getfield 27, 3) := by decide +kernel
theorem dX3_addDual_47 : decode cX3_addDual 47 = .ok (.dup_x1, 1) := by decide +kernel
theorem dX3_addDual_48 : decode cX3_addDual 48 = .ok (.iconst 1, 1) := by decide +kernel
theorem dX3_addDual_49 : decode cX3_addDual 49 = .ok (.iadd, 1) := by decide +kernel
theorem dX3_addDual_50 : decode cX3_addDual 50 = .ok (.putfield 27, 3) := by decide +kernel
theorem dX3_addDual_53 : decode cX3_addDual 53 = .ok (.ireturn, 1) := by decide +kernel
set_option maxRecDepth 20000 in
theorem ggX3_firstUnlike_X3_isGood : GoodIn wsX3_firstUnlike wsX3_isGood := goodIn_r _ [6, 7, 8, 9, 10, 11, 12] (by decide +kernel) (by decide +kernel)
set_option maxRecDepth 20000 in
theorem gX3_firstUnlike_X3_isGood : GoodIn wsX3_firstUnlike (wsV RX3 37 RX3 yX3_isGood wsX3_isGood) := goodIn_app (goodIn_of _ (by decide +kernel)) ggX3_firstUnlike_X3_isGood
theorem dX3_firstUnlike_0 : decode cX3_firstUnlike 0 = .ok (.iconst 0, 1) := by decide +kernel
theorem dX3_firstUnlike_1 : decode cX3_firstUnlike 1 = .ok (.istore_n 3, 1) := by decide +kernel
theorem dX3_firstUnlike_2 : decode cX3_firstUnlike 2 = .ok (.iload_n 3, 1) := by decide +kernel
theorem dX3_firstUnlike_3 : decode cX3_firstUnlike 3 = .ok (.iconst 1, 1) := by decide +kernel
theorem dX3_firstUnlike_4 : decode cX3_firstUnlike 4 = .ok (.aload_n 0, 1) := by decide +kernel
theorem dX3_firstUnlike_5 : decode cX3_firstUnlike 5 = .ok (.getfield 23, 3) := by decide +kernel
theorem dX3_firstUnlike_8 : decode cX3_firstUnlike 8 = .ok (.ishl, 1) := by decide +kernel
theorem dX3_firstUnlike_9 : decode cX3_firstUnlike 9 = .ok (.if_icmp .ge 26, 3) := by decide +kernel
theorem dX3_firstUnlike_12 : decode cX3_firstUnlike 12 = .ok (.aload_n 0, 1) := by decide +kernel
theorem dX3_firstUnlike_13 : decode cX3_firstUnlike 13 = .ok (.iload_n 1, 1) := by decide +kernel
theorem dX3_firstUnlike_14 : decode cX3_firstUnlike 14 = .ok (.iload_n 3, 1) := by decide +kernel
theorem dX3_firstUnlike_15 : decode cX3_firstUnlike 15 = .ok (.invokevirtual 37, 3) := by decide +kernel
theorem dX3_firstUnlike_18 : decode cX3_firstUnlike 18 = .ok (.aload_n 0, 1) := by decide +kernel
theorem dX3_firstUnlike_19 : decode cX3_firstUnlike 19 = .ok (.iload_n 2, 1) := by decide +kernel
theorem dX3_firstUnlike_20 : decode cX3_firstUnlike 20 = .ok (.iload_n 3, 1) := by decide +kernel
theorem dX3_firstUnlike_21 : decode cX3_firstUnlike 21 = .ok (.invokevirtual 37, 3) := by decide +kernel
theorem dX3_firstUnlike_24 : decode cX3_firstUnlike 24 = .ok (.if_icmp .eq 5, 3) := by decide +kernel
theorem dX3_firstUnlike_27 : decode cX3_firstUnlike 27 = .ok (.iload_n 3, 1) := by decide +kernel
theorem dX3_firstUnlike_28 : decode cX3_firstUnlike 28 = .ok (.ireturn, 1) := by decide +kernel
theorem dX3_firstUnlike_29 : decode cX3_firstUnlike 29 = .ok (.iinc 3 1, 3) := by decide +kernel
theorem dX3_firstUnlike_32 : decode cX3_firstUnlike 32 = .ok (.goto (-30), 3) := by decide +kernel
theorem dX3_firstUnlike_35 : decode cX3_firstUnlike 35 = .ok (.iconst (-1), 1) := by decide +kernel
theorem dX3_firstUnlike_36 : decode cX3_firstUnlike 36 = .ok (.ireturn, 1) := by decide +kernel
set_option maxRecDepth 20000 in
theorem ggX3_countLeast_X3_isLeast : GoodIn wsX3_countLeast wsX3_isLeast := goodIn_r _ [6, 1, 7, 8, 9, 5, 10, 11, 12, 13, 14, 15, 16, 17, 18, 19, 20, 21, 22, 23, 24, 25] (by decide +kernel) (by decide +kernel)
set_option maxRecDepth 20000 in
theorem gX3_countLeast_X3_isLeast : GoodIn wsX3_countLeast (wsV RX3 58 RX3 yX3_isLeast wsX3_isLeast) := goodIn_app (goodIn_of _ (by decide +kernel)) ggX3_countLeast_X3_isLeast
theorem dX3_countLeast_0 : decode cX3_countLeast 0 = .ok (.iconst 0, 1) := by decide +kernel
theorem dX3_countLeast_1 : decode cX3_countLeast 1 = .ok (.istore_n 2, 1) := by decide +kernel
theorem dX3_countLeast_2 : decode cX3_countLeast 2 = .ok (.iconst 0, 1) := by decide +kernel
theorem dX3_countLeast_3 : decode cX3_countLeast 3 = .ok (.istore_n 3, 1) := by decide +kernel
theorem dX3_countLeast_4 : decode cX3_countLeast 4 = .ok (.iload_n 3, 1) := by decide +kernel
theorem dX3_countLeast_5 : decode cX3_countLeast 5 = .ok (.iconst 1, 1) := by decide +kernel
theorem dX3_countLeast_6 : decode cX3_countLeast 6 = .ok (.aload_n 0, 1) := by decide +kernel
theorem dX3_countLeast_7 : decode cX3_countLeast 7 = .ok (.getfield 23, 3) := by decide +kernel
theorem dX3_countLeast_10 : decode cX3_countLeast 10 = .ok (.ishl, 1) := by decide +kernel
theorem dX3_countLeast_11 : decode cX3_countLeast 11 = .ok (.if_icmp .ge 21, 3) := by decide +kernel
theorem dX3_countLeast_14 : decode cX3_countLeast 14 = .ok (.aload_n 0, 1) := by decide +kernel
theorem dX3_countLeast_15 : decode cX3_countLeast 15 = .ok (.iload_n 1, 1) := by decide +kernel
theorem dX3_countLeast_16 : decode cX3_countLeast 16 = .ok (.iload_n 3, 1) := by decide +kernel
theorem dX3_countLeast_17 : decode cX3_countLeast 17 = .ok (.invokevirtual 58, 3) := by decide +kernel
theorem dX3_countLeast_20 : decode cX3_countLeast 20 = .ok (.ifCond .eq 6, 3) := by decide +kernel
theorem dX3_countLeast_23 : decode cX3_countLeast 23 = .ok (.iinc 2 1, 3) := by decide +kernel
theorem dX3_countLeast_26 : decode cX3_countLeast 26 = .ok (.iinc 3 1, 3) := by decide +kernel
theorem dX3_countLeast_29 : decode cX3_countLeast 29 = .ok (.goto (-25), 3) := by decide +kernel
theorem dX3_countLeast_32 : decode cX3_countLeast 32 = .ok (.iload_n 2, 1) := by decide +kernel
theorem dX3_countLeast_33 : decode cX3_countLeast 33 = .ok (.ireturn, 1) := by decide +kernel
set_option maxRecDepth 20000 in
theorem ggX3_findLeast_X3_isLeast : GoodIn wsX3_findLeast wsX3_isLeast := goodIn_r _ [6, 1, 7, 8, 9, 5, 10, 11, 12, 13, 14, 15, 16, 17, 18, 19, 20, 21, 22, 23, 24, 25] (by decide +kernel) (by decide +kernel)
set_option maxRecDepth 20000 in
theorem gX3_findLeast_X3_isLeast : GoodIn wsX3_findLeast (wsV RX3 58 RX3 yX3_isLeast wsX3_isLeast) := goodIn_app (goodIn_of _ (by decide +kernel)) ggX3_findLeast_X3_isLeast
theorem dX3_findLeast_0 : decode cX3_findLeast 0 = .ok (.iconst 0, 1) := by decide +kernel
theorem dX3_findLeast_1 : decode cX3_findLeast 1 = .ok (.istore_n 3, 1) := by decide +kernel
theorem dX3_findLeast_2 : decode cX3_findLeast 2 = .ok (.iconst 0, 1) := by decide +kernel
theorem dX3_findLeast_3 : decode cX3_findLeast 3 = .ok (.istore 4, 2) := by decide +kernel
theorem dX3_findLeast_5 : decode cX3_findLeast 5 = .ok (.iload 4, 2) := by decide +kernel
theorem dX3_findLeast_7 : decode cX3_findLeast 7 = .ok (.iconst 1, 1) := by decide +kernel
theorem dX3_findLeast_8 : decode cX3_findLeast 8 = .ok (.aload_n 0, 1) := by decide +kernel
theorem dX3_findLeast_9 : decode cX3_findLeast 9 = .ok (.getfield 23, 3) := by decide +kernel
theorem dX3_findLeast_12 : decode cX3_findLeast 12 = .ok (.ishl, 1) := by decide +kernel
theorem dX3_findLeast_13 : decode cX3_findLeast 13 = .ok (.if_icmp .ge 30, 3) := by decide +kernel
theorem dX3_findLeast_16 : decode cX3_findLeast 16 = .ok (.aload_n 0, 1) := by decide +kernel
theorem dX3_findLeast_17 : decode cX3_findLeast 17 = .ok (.iload_n 1, 1) := by decide +kernel
theorem dX3_findLeast_18 : decode cX3_findLeast 18 = .ok (.iload 4, 2) := by decide +kernel
theorem dX3_findLeast_20 : decode cX3_findLeast 20 = .ok (.invokevirtual 58, 3) := by decide +kernel
theorem dX3_findLeast_23 : decode cX3_findLeast 23 = .ok (.ifCond .eq 14, 3) := by decide +kernel
theorem dX3_findLeast_26 : decode cX3_findLeast 26 = .ok (.iload_n 3, 1) := by decide +kernel
theorem dX3_findLeast_27 : decode cX3_findLeast 27 = .ok (.iload_n 2, 1) := by decide +kernel
theorem dX3_findLeast_28 : decode cX3_findLeast 28 = .ok (.if_icmp .ne 6, 3) := by decide +kernel
theorem dX3_findLeast_31 : decode cX3_findLeast 31 = .ok (.iload 4, 2) := by decide +kernel
theorem dX3_findLeast_33 : decode cX3_findLeast 33 = .ok (.ireturn, 1) := by decide +kernel
theorem dX3_findLeast_34 : decode cX3_findLeast 34 = .ok (.iinc 3 1, 3) := by decide +kernel
theorem dX3_findLeast_37 : decode cX3_findLeast 37 = .ok (.iinc 4 1, 3) := by decide +kernel
theorem dX3_findLeast_40 : decode cX3_findLeast 40 = .ok (.goto (-35), 3) := by decide +kernel
theorem dX3_findLeast_43 : decode cX3_findLeast 43 = .ok (.iconst (-1), 1) := by decide +kernel
theorem dX3_findLeast_44 : decode cX3_findLeast 44 = .ok (.ireturn, 1) := by decide +kernel
set_option maxRecDepth 20000 in
theorem ggX3_settles_X3_isSystemGood : GoodIn wsX3_settles wsX3_isSystemGood := goodIn_r _ [6, 7, 8, 9, 10, 5, 11, 12, 13, 14, 15, 16, 17] (by decide +kernel) (by decide +kernel)
set_option maxRecDepth 20000 in
theorem gX3_settles_X3_isSystemGood : GoodIn wsX3_settles (wsV RX3 41 RX3 yX3_isSystemGood wsX3_isSystemGood) := goodIn_app (goodIn_of _ (by decide +kernel)) ggX3_settles_X3_isSystemGood
theorem dX3_settles_0 : decode cX3_settles 0 = .ok (.iconst 1, 1) := by decide +kernel
theorem dX3_settles_1 : decode cX3_settles 1 = .ok (.aload_n 0, 1) := by decide +kernel
theorem dX3_settles_2 : decode cX3_settles 2 = .ok (.getfield 23, 3) := by decide +kernel
theorem dX3_settles_5 : decode cX3_settles 5 = .ok (.ishl, 1) := by decide +kernel
theorem dX3_settles_6 : decode cX3_settles 6 = .ok (.iconst 1, 1) := by decide +kernel
theorem dX3_settles_7 : decode cX3_settles 7 = .ok (.isub, 1) := by decide +kernel
theorem dX3_settles_8 : decode cX3_settles 8 = .ok (.istore_n 3, 1) := by decide +kernel
theorem dX3_settles_9 : decode cX3_settles 9 = .ok (.iload_n 1, 1) := by decide +kernel
theorem dX3_settles_10 : decode cX3_settles 10 = .ok (.ifCond .eq 11, 3) := by decide +kernel
theorem dX3_settles_13 : decode cX3_settles 13 = .ok (.aload_n 0, 1) := by decide +kernel
theorem dX3_settles_14 : decode cX3_settles 14 = .ok (.iload_n 2, 1) := by decide +kernel
theorem dX3_settles_15 : decode cX3_settles 15 = .ok (.invokevirtual 41, 3) := by decide +kernel
theorem dX3_settles_18 : decode cX3_settles 18 = .ok (.goto 18, 3) := by decide +kernel
theorem dX3_settles_21 : decode cX3_settles 21 = .ok (.aload_n 0, 1) := by decide +kernel
theorem dX3_settles_22 : decode cX3_settles 22 = .ok (.iload_n 3, 1) := by decide +kernel
theorem dX3_settles_23 : decode cX3_settles 23 = .ok (.iload_n 2, 1) := by decide +kernel
theorem dX3_settles_24 : decode cX3_settles 24 = .ok (.ixor, 1) := by decide +kernel
theorem dX3_settles_25 : decode cX3_settles 25 = .ok (.invokevirtual 41, 3) := by decide +kernel
theorem dX3_settles_28 : decode cX3_settles 28 = .ok (.ifCond .ne 7, 3) := by decide +kernel
theorem dX3_settles_31 : decode cX3_settles 31 = .ok (.iconst 1, 1) := by decide +kernel
theorem dX3_settles_32 : decode cX3_settles 32 = .ok (.goto 4, 3) := by decide +kernel
theorem dX3_settles_35 : decode cX3_settles 35 = .ok (.iconst 0, 1) := by decide +kernel
theorem dX3_settles_36 : decode cX3_settles 36 = .ok (.ireturn, 1) := by decide +kernel
set_option maxRecDepth 20000 in
theorem ggX3_isLeast_X3_settles : GoodIn wsX3_isLeast wsX3_settles := goodIn_r _ [6, 1, 7, 8, 9, 5, 10, 11, 12, 13, 14, 15, 16, 17, 18, 19, 20, 21] (by decide +kernel) (by decide +kernel)
set_option maxRecDepth 20000 in
theorem gX3_isLeast_X3_settles : GoodIn wsX3_isLeast (wsV RX3 62 RX3 yX3_settles wsX3_settles) := goodIn_app (goodIn_of _ (by decide +kernel)) ggX3_isLeast_X3_settles
theorem dX3_isLeast_0 : decode cX3_isLeast 0 = .ok (.aload_n 0, 1) := by decide +kernel
theorem dX3_isLeast_1 : decode cX3_isLeast 1 = .ok (.iload_n 1, 1) := by decide +kernel
theorem dX3_isLeast_2 : decode cX3_isLeast 2 = .ok (.iload_n 2, 1) := by decide +kernel
theorem dX3_isLeast_3 : decode cX3_isLeast 3 = .ok (.invokevirtual 62, 3) := by decide +kernel
theorem dX3_isLeast_6 : decode cX3_isLeast 6 = .ok (.ifCond .ne 5, 3) := by decide +kernel
theorem dX3_isLeast_9 : decode cX3_isLeast 9 = .ok (.iconst 0, 1) := by decide +kernel
theorem dX3_isLeast_10 : decode cX3_isLeast 10 = .ok (.ireturn, 1) := by decide +kernel
theorem dX3_isLeast_11 : decode cX3_isLeast 11 = .ok (.iconst 0, 1) := by decide +kernel
theorem dX3_isLeast_12 : decode cX3_isLeast 12 = .ok (.istore_n 3, 1) := by decide +kernel
theorem dX3_isLeast_13 : decode cX3_isLeast 13 = .ok (.iload_n 3, 1) := by decide +kernel
theorem dX3_isLeast_14 : decode cX3_isLeast 14 = .ok (.aload_n 0, 1) := by decide +kernel
theorem dX3_isLeast_15 : decode cX3_isLeast 15 = .ok (.getfield 23, 3) := by decide +kernel
theorem dX3_isLeast_18 : decode cX3_isLeast 18 = .ok (.if_icmp .ge 33, 3) := by decide +kernel
theorem dX3_isLeast_21 : decode cX3_isLeast 21 = .ok (.iload_n 2, 1) := by decide +kernel
theorem dX3_isLeast_22 : decode cX3_isLeast 22 = .ok (.iload_n 3, 1) := by decide +kernel
theorem dX3_isLeast_23 : decode cX3_isLeast 23 = .ok (.ishr, 1) := by decide +kernel
theorem dX3_isLeast_24 : decode cX3_isLeast 24 = .ok (.iconst 1, 1) := by decide +kernel
theorem dX3_isLeast_25 : decode cX3_isLeast 25 = .ok (.iand, 1) := by decide +kernel
theorem dX3_isLeast_26 : decode cX3_isLeast 26 = .ok (.iconst 1, 1) := by decide +kernel
theorem dX3_isLeast_27 : decode cX3_isLeast 27 = .ok (.if_icmp .ne 18, 3) := by decide +kernel
theorem dX3_isLeast_30 : decode cX3_isLeast 30 = .ok (.aload_n 0, 1) := by decide +kernel
theorem dX3_isLeast_31 : decode cX3_isLeast 31 = .ok (.iload_n 1, 1) := by decide +kernel
theorem dX3_isLeast_32 : decode cX3_isLeast 32 = .ok (.iload_n 2, 1) := by decide +kernel
theorem dX3_isLeast_33 : decode cX3_isLeast 33 = .ok (.iconst 1, 1) := by decide +kernel
theorem dX3_isLeast_34 : decode cX3_isLeast 34 = .ok (.iload_n 3, 1) := by decide +kernel
theorem dX3_isLeast_35 : decode cX3_isLeast 35 = .ok (.ishl, 1) := by decide +kernel
theorem dX3_isLeast_36 : decode cX3_isLeast 36 = .ok (.ixor, 1) := by decide +kernel
theorem dX3_isLeast_37 : decode cX3_isLeast 37 = .ok (.invokevirtual 62, 3) := by decide +kernel
theorem dX3_isLeast_40 : decode cX3_isLeast 40 = .ok (.ifCond .eq 5, 3) := by decide +kernel
theorem dX3_isLeast_43 : decode cX3_isLeast 43 = .ok (.iconst 0, 1) := by decide +kernel
theorem dX3_isLeast_44 : decode cX3_isLeast 44 = .ok (.ireturn, 1) := by decide +kernel
theorem dX3_isLeast_45 : decode cX3_isLeast 45 = .ok (.iinc 3 1, 3) := by decide +kernel
theorem dX3_isLeast_48 : decode cX3_isLeast 48 = .ok (.goto (-35), 3) := by decide +kernel
theorem dX3_isLeast_51 : decode cX3_isLeast 51 = .ok (.iconst 1, 1) := by decide +kernel
theorem dX3_isLeast_52 : decode cX3_isLeast 52 = .ok (.ireturn, 1) := by decide +kernel
theorem dX3_wipe_0 : decode cX3_wipe 0 = .ok (.iconst 0, 1) := by decide +kernel
theorem dX3_wipe_1 : decode cX3_wipe 1 = .ok (.istore_n 1, 1) := by decide +kernel
theorem dX3_wipe_2 : decode cX3_wipe 2 = .ok (.iload_n 1, 1) := by decide +kernel
theorem dX3_wipe_3 : decode cX3_wipe 3 = .ok (.bipush 8, 2) := by decide +kernel
theorem dX3_wipe_5 : decode cX3_wipe 5 = .ok (.if_icmp .ge 24, 3) := by decide +kernel
theorem dX3_wipe_8 : decode cX3_wipe 8 = .ok (.aload_n 0, 1) := by decide +kernel
theorem dX3_wipe_9 : decode cX3_wipe 9 = .ok (.getfield 11, 3) := by decide +kernel
theorem dX3_wipe_12 : decode cX3_wipe 12 = .ok (.aload_n 0, 1) := by decide +kernel
theorem dX3_wipe_13 : decode cX3_wipe 13 = .ok (.getfield 27, 3) := by decide +kernel
theorem dX3_wipe_16 : decode cX3_wipe 16 = .ok (.bipush 8, 2) := by decide +kernel
theorem dX3_wipe_18 : decode cX3_wipe 18 = .ok (.imul, 1) := by decide +kernel
theorem dX3_wipe_19 : decode cX3_wipe 19 = .ok (.iload_n 1, 1) := by decide +kernel
theorem dX3_wipe_20 : decode cX3_wipe 20 = .ok (.iadd, 1) := by decide +kernel
theorem dX3_wipe_21 : decode cX3_wipe 21 = .ok (.lconst 0, 1) := by decide +kernel
theorem dX3_wipe_22 : decode cX3_wipe 22 = .ok (.lastore, 1) := by decide +kernel
theorem dX3_wipe_23 : decode cX3_wipe 23 = .ok (.iinc 1 1, 3) := by decide +kernel
theorem dX3_wipe_26 : decode cX3_wipe 26 = .ok (.goto (-24), 3) := by decide +kernel
theorem dX3_wipe_29 : decode cX3_wipe 29 = .ok (.return_, 1) := by decide +kernel
theorem dX3_mark_0 : decode cX3_mark 0 = .ok (.aload_n 0, 1) := by decide +kernel
theorem dX3_mark_1 : decode cX3_mark 1 = .ok (.getfield 11, 3) := by decide +kernel
theorem dX3_mark_4 : decode cX3_mark 4 = .ok (.aload_n 0, 1) := by decide +kernel
theorem dX3_mark_5 : decode cX3_mark 5 = .ok (.getfield 27, 3) := by decide +kernel
theorem dX3_mark_8 : decode cX3_mark 8 = .ok (.bipush 8, 2) := by decide +kernel
theorem dX3_mark_10 : decode cX3_mark 10 = .ok (.imul, 1) := by decide +kernel
theorem dX3_mark_11 : decode cX3_mark 11 = .ok (.iload_n 1, 1) := by decide +kernel
theorem dX3_mark_12 : decode cX3_mark 12 = .ok (.bipush 6, 2) := by decide +kernel
theorem dX3_mark_14 : decode cX3_mark 14 = .ok (.ishr, 1) := by decide +kernel
theorem dX3_mark_15 : decode cX3_mark 15 = .ok (.iadd, 1) := by decide +kernel
theorem dX3_mark_16 : decode cX3_mark 16 = .ok (.dup2, 1) := by decide +kernel
theorem dX3_mark_17 : decode cX3_mark 17 = .ok (.laload, 1) := by decide +kernel
theorem dX3_mark_18 : decode cX3_mark 18 = .ok (.lconst 1, 1) := by decide +kernel
theorem dX3_mark_19 : decode cX3_mark 19 = .ok (.iload_n 1, 1) := by decide +kernel
theorem dX3_mark_20 : decode cX3_mark 20 = .ok (.bipush 63, 2) := by decide +kernel
theorem dX3_mark_22 : decode cX3_mark 22 = .ok (.iand, 1) := by decide +kernel
theorem dX3_mark_23 : decode cX3_mark 23 = .ok (.lshl, 1) := by decide +kernel
theorem dX3_mark_24 : decode cX3_mark 24 = .ok (.lor, 1) := by decide +kernel
theorem dX3_mark_25 : decode cX3_mark 25 = .ok (.lastore, 1) := by decide +kernel
theorem dX3_mark_26 : decode cX3_mark 26 = .ok (.return_, 1) := by decide +kernel
theorem dX3_shareWorths_0 : decode cX3_shareWorths 0 = .ok (.lload_n 2, 1) := by decide +kernel
theorem dX3_shareWorths_1 : decode cX3_shareWorths 1 = .ok (.lstore 5, 2) := by decide +kernel
theorem dX3_shareWorths_3 : decode cX3_shareWorths 3 = .ok (.lconst 1, 1) := by decide +kernel
theorem dX3_shareWorths_4 : decode cX3_shareWorths 4 = .ok (.iload 4, 2) := by decide +kernel
theorem dX3_shareWorths_6 : decode cX3_shareWorths 6 = .ok (.lshl, 1) := by decide +kernel
theorem dX3_shareWorths_7 : decode cX3_shareWorths 7 = .ok (.lconst 1, 1) := by decide +kernel
theorem dX3_shareWorths_8 : decode cX3_shareWorths 8 = .ok (.lsub, 1) := by decide +kernel
theorem dX3_shareWorths_9 : decode cX3_shareWorths 9 = .ok (.lstore 7, 2) := by decide +kernel
theorem dX3_shareWorths_11 : decode cX3_shareWorths 11 = .ok (.iconst 0, 1) := by decide +kernel
theorem dX3_shareWorths_12 : decode cX3_shareWorths 12 = .ok (.istore 9, 2) := by decide +kernel
theorem dX3_shareWorths_14 : decode cX3_shareWorths 14 = .ok (.iload 9, 2) := by decide +kernel
theorem dX3_shareWorths_16 : decode cX3_shareWorths 16 = .ok (.aload_n 0, 1) := by decide +kernel
theorem dX3_shareWorths_17 : decode cX3_shareWorths 17 = .ok (.getfield 23, 3) := by decide +kernel
theorem dX3_shareWorths_20 : decode cX3_shareWorths 20 = .ok (.if_icmp .ge 56, 3) := by decide +kernel
theorem dX3_shareWorths_23 : decode cX3_shareWorths 23 = .ok (.aload_n 0, 1) := by decide +kernel
theorem dX3_shareWorths_24 : decode cX3_shareWorths 24 = .ok (.getfield 15, 3) := by decide +kernel
theorem dX3_shareWorths_27 : decode cX3_shareWorths 27 = .ok (.iload 9, 2) := by decide +kernel
theorem dX3_shareWorths_29 : decode cX3_shareWorths 29 = .ok (.iconst 0, 1) := by decide +kernel
theorem dX3_shareWorths_30 : decode cX3_shareWorths 30 = .ok (.iastore, 1) := by decide +kernel
theorem dX3_shareWorths_31 : decode cX3_shareWorths 31 = .ok (.iload_n 1, 1) := by decide +kernel
theorem dX3_shareWorths_32 : decode cX3_shareWorths 32 = .ok (.iload 9, 2) := by decide +kernel
theorem dX3_shareWorths_34 : decode cX3_shareWorths 34 = .ok (.ishr, 1) := by decide +kernel
theorem dX3_shareWorths_35 : decode cX3_shareWorths 35 = .ok (.iconst 1, 1) := by decide +kernel
theorem dX3_shareWorths_36 : decode cX3_shareWorths 36 = .ok (.iand, 1) := by decide +kernel
theorem dX3_shareWorths_37 : decode cX3_shareWorths 37 = .ok (.iconst 1, 1) := by decide +kernel
theorem dX3_shareWorths_38 : decode cX3_shareWorths 38 = .ok (.if_icmp .ne 32, 3) := by decide +kernel
theorem dX3_shareWorths_41 : decode cX3_shareWorths 41 = .ok (.aload_n 0, 1) := by decide +kernel
theorem dX3_shareWorths_42 : decode cX3_shareWorths 42 = .ok (.getfield 15, 3) := by decide +kernel
theorem dX3_shareWorths_45 : decode cX3_shareWorths 45 = .ok (.iload 9, 2) := by decide +kernel
theorem dX3_shareWorths_47 : decode cX3_shareWorths 47 = .ok (.iload 4, 2) := by decide +kernel
theorem dX3_shareWorths_49 : decode cX3_shareWorths 49 = .ok (.ifCond .ne 7, 3) := by decide +kernel
theorem dX3_shareWorths_52 : decode cX3_shareWorths 52 = .ok (.iconst 1, 1) := by decide +kernel
theorem dX3_shareWorths_53 : decode cX3_shareWorths 53 = .ok (.goto 9, 3) := by decide +kernel
theorem dX3_shareWorths_56 : decode cX3_shareWorths 56 = .ok (.lload 5, 2) := by decide +kernel
theorem dX3_shareWorths_58 : decode cX3_shareWorths 58 = .ok (.lload 7, 2) := by decide +kernel
theorem dX3_shareWorths_60 : decode cX3_shareWorths 60 = .ok (.land, 1) := by decide +kernel
theorem dX3_shareWorths_61 : decode cX3_shareWorths 61 = .ok (.l2i, 1) := by decide +kernel
theorem dX3_shareWorths_62 : decode cX3_shareWorths 62 = .ok (.iastore, 1) := by decide +kernel
theorem dX3_shareWorths_63 : decode cX3_shareWorths 63 = .ok (.lload 5, 2) := by decide +kernel
theorem dX3_shareWorths_65 : decode cX3_shareWorths 65 = .ok (.iload 4, 2) := by decide +kernel
theorem dX3_shareWorths_67 : decode cX3_shareWorths 67 = .ok (.lushr, 1) := by decide +kernel
theorem dX3_shareWorths_68 : decode cX3_shareWorths 68 = .ok (.lstore 5, 2) := by decide +kernel
theorem dX3_shareWorths_70 : decode cX3_shareWorths 70 = .ok (.iinc 9 1, 3) := by decide +kernel
theorem dX3_shareWorths_73 : decode cX3_shareWorths 73 = .ok (.goto (-59), 3) := by decide +kernel
theorem dX3_shareWorths_76 : decode cX3_shareWorths 76 = .ok (.return_, 1) := by decide +kernel
theorem dX3_worthOf_0 : decode cX3_worthOf 0 = .ok (.iconst 0, 1) := by decide +kernel
theorem dX3_worthOf_1 : decode cX3_worthOf 1 = .ok (.istore_n 2, 1) := by decide +kernel
theorem dX3_worthOf_2 : decode cX3_worthOf 2 = .ok (.iconst 0, 1) := by decide +kernel
theorem dX3_worthOf_3 : decode cX3_worthOf 3 = .ok (.istore_n 3, 1) := by decide +kernel
theorem dX3_worthOf_4 : decode cX3_worthOf 4 = .ok (.iload_n 3, 1) := by decide +kernel
theorem dX3_worthOf_5 : decode cX3_worthOf 5 = .ok (.aload_n 0, 1) := by decide +kernel
theorem dX3_worthOf_6 : decode cX3_worthOf 6 = .ok (.getfield 23, 3) := by decide +kernel
theorem dX3_worthOf_9 : decode cX3_worthOf 9 = .ok (.if_icmp .ge 27, 3) := by decide +kernel
theorem dX3_worthOf_12 : decode cX3_worthOf 12 = .ok (.iload_n 1, 1) := by decide +kernel
theorem dX3_worthOf_13 : decode cX3_worthOf 13 = .ok (.iload_n 3, 1) := by decide +kernel
theorem dX3_worthOf_14 : decode cX3_worthOf 14 = .ok (.ishr, 1) := by decide +kernel
theorem dX3_worthOf_15 : decode cX3_worthOf 15 = .ok (.iconst 1, 1) := by decide +kernel
theorem dX3_worthOf_16 : decode cX3_worthOf 16 = .ok (.iand, 1) := by decide +kernel
theorem dX3_worthOf_17 : decode cX3_worthOf 17 = .ok (.iconst 1, 1) := by decide +kernel
theorem dX3_worthOf_18 : decode cX3_worthOf 18 = .ok (.if_icmp .ne 12, 3) := by decide +kernel
theorem dX3_worthOf_21 : decode cX3_worthOf 21 = .ok (.iload_n 2, 1) := by decide +kernel
theorem dX3_worthOf_22 : decode cX3_worthOf 22 = .ok (.aload_n 0, 1) := by decide +kernel
theorem dX3_worthOf_23 : decode cX3_worthOf 23 = .ok (.getfield 15, 3) := by decide +kernel
theorem dX3_worthOf_26 : decode cX3_worthOf 26 = .ok (.iload_n 3, 1) := by decide +kernel
theorem dX3_worthOf_27 : decode cX3_worthOf 27 = .ok (.iaload, 1) := by decide +kernel
theorem dX3_worthOf_28 : decode cX3_worthOf 28 = .ok (.iadd, 1) := by decide +kernel
theorem dX3_worthOf_29 : decode cX3_worthOf 29 = .ok (.istore_n 2, 1) := by decide +kernel
theorem dX3_worthOf_30 : decode cX3_worthOf 30 = .ok (.iinc 3 1, 3) := by decide +kernel
theorem dX3_worthOf_33 : decode cX3_worthOf 33 = .ok (.goto (-29), 3) := by decide +kernel
theorem dX3_worthOf_36 : decode cX3_worthOf 36 = .ok (.iload_n 2, 1) := by decide +kernel
theorem dX3_worthOf_37 : decode cX3_worthOf 37 = .ok (.ireturn, 1) := by decide +kernel
set_option maxRecDepth 20000 in
theorem ggX4_init_X4_lay : GoodIn wsX4_init wsX4_lay := goodIn_r _ [12, 13, 14, 15, 16, 17, 18, 11, 19, 5, 6, 7, 20, 21, 22, 23, 24, 25] (by decide +kernel) (by decide +kernel)
set_option maxRecDepth 20000 in
theorem gX4_init_X4_lay : GoodIn wsX4_init (wsV RX4 21 RX4 yX4_lay wsX4_lay) := goodIn_app (goodIn_of _ (by decide +kernel)) ggX4_init_X4_lay
theorem dX4_init_0 : decode cX4_init 0 = .ok (.aload_n 0, 1) := by decide +kernel
theorem dX4_init_1 : decode cX4_init 1 = .ok (.invokespecial 3, 3) := by decide +kernel
theorem dX4_init_4 : decode cX4_init 4 = .ok (.aload_n 0, 1) := by decide +kernel
theorem dX4_init_5 : decode cX4_init 5 = .ok (.bipush 9, 2) := by decide +kernel
theorem dX4_init_7 : decode cX4_init 7 = .ok (.newarray .int, 2) := by decide +kernel
theorem dX4_init_9 : decode cX4_init 9 = .ok (.putfield 9, 3) := by decide +kernel
theorem dX4_init_12 : decode cX4_init 12 = .ok (.aload_n 0, 1) := by decide +kernel
theorem dX4_init_13 : decode cX4_init 13 = .ok (.bipush 9, 2) := by decide +kernel
theorem dX4_init_15 : decode cX4_init 15 = .ok (.newarray .int, 2) := by decide +kernel
theorem dX4_init_17 : decode cX4_init 17 = .ok (.putfield 15, 3) := by decide +kernel
theorem dX4_init_20 : decode cX4_init 20 = .ok (.aload_n 0, 1) := by decide +kernel
theorem dX4_init_21 : decode cX4_init 21 = .ok (.bipush 9, 2) := by decide +kernel
theorem dX4_init_23 : decode cX4_init 23 = .ok (.newarray .int, 2) := by decide +kernel
theorem dX4_init_25 : decode cX4_init 25 = .ok (.putfield 18, 3) := by decide +kernel
theorem dX4_init_28 : decode cX4_init 28 = .ok (.aload_n 0, 1) := by decide +kernel
theorem dX4_init_29 : decode cX4_init 29 = .ok (.iconst 1, 1) := by decide +kernel
theorem dX4_init_30 : decode cX4_init 30 = .ok (.invokevirtual 21, 3) := by decide +kernel
theorem dX4_init_33 : decode cX4_init 33 = .ok (.return_, 1) := by decide +kernel
set_option maxRecDepth 20000 in
theorem ggX4_lay_X4_change : GoodIn wsX4_lay wsX4_change := goodIn_r _ [8, 9, 10, 11, 12, 13, 14, 15, 16, 17] (by decide +kernel) (by decide +kernel)
set_option maxRecDepth 20000 in
theorem gX4_lay_X4_change : GoodIn wsX4_lay (wsV RX4 35 RX4 yX4_change wsX4_change) := goodIn_app (goodIn_of _ (by decide +kernel)) ggX4_lay_X4_change
theorem dX4_lay_0 : decode cX4_lay 0 = .ok (.aload_n 0, 1) := by decide +kernel
theorem dX4_lay_1 : decode cX4_lay 1 = .ok (.iload_n 1, 1) := by decide +kernel
theorem dX4_lay_2 : decode cX4_lay 2 = .ok (.putfield 25, 3) := by decide +kernel
theorem dX4_lay_5 : decode cX4_lay 5 = .ok (.aload_n 0, 1) := by decide +kernel
theorem dX4_lay_6 : decode cX4_lay 6 = .ok (.iconst 0, 1) := by decide +kernel
theorem dX4_lay_7 : decode cX4_lay 7 = .ok (.putfield 29, 3) := by decide +kernel
theorem dX4_lay_10 : decode cX4_lay 10 = .ok (.aload_n 0, 1) := by decide +kernel
theorem dX4_lay_11 : decode cX4_lay 11 = .ok (.iconst 0, 1) := by decide +kernel
theorem dX4_lay_12 : decode cX4_lay 12 = .ok (.putfield 32, 3) := by decide +kernel
theorem dX4_lay_15 : decode cX4_lay 15 = .ok (.iconst 0, 1) := by decide +kernel
theorem dX4_lay_16 : decode cX4_lay 16 = .ok (.istore_n 2, 1) := by decide +kernel
theorem dX4_lay_17 : decode cX4_lay 17 = .ok (.iload_n 2, 1) := by decide +kernel
theorem dX4_lay_18 : decode cX4_lay 18 = .ok (.bipush 9, 2) := by decide +kernel
theorem dX4_lay_20 : decode cX4_lay 20 = .ok (.if_icmp .ge 17, 3) := by decide +kernel
theorem dX4_lay_23 : decode cX4_lay 23 = .ok (.aload_n 0, 1) := by decide +kernel
theorem dX4_lay_24 : decode cX4_lay 24 = .ok (.iload_n 2, 1) := by decide +kernel
theorem dX4_lay_25 : decode cX4_lay 25 = .ok (.iconst 1, 1) := by decide +kernel
theorem dX4_lay_26 : decode cX4_lay 26 = .ok (.iconst 1, 1) := by decide +kernel
theorem dX4_lay_27 : decode cX4_lay 27 = .ok (.iconst 1, 1) := by decide +kernel
theorem dX4_lay_28 : decode cX4_lay 28 = .ok (.invokevirtual 35, 3) := by decide +kernel
theorem dX4_lay_31 : decode cX4_lay 31 = .ok (.iinc 2 1, 3) := by decide +kernel
theorem dX4_lay_34 : decode cX4_lay 34 = .ok (.goto (-17), 3) := by decide +kernel
theorem dX4_lay_37 : decode cX4_lay 37 = .ok (.return_, 1) := by decide +kernel
theorem dX4_change_0 : decode cX4_change 0 = .ok (.aload_n 0, 1) := by decide +kernel
theorem dX4_change_1 : decode cX4_change 1 = .ok (.getfield 9, 3) := by decide +kernel
theorem dX4_change_4 : decode cX4_change 4 = .ok (.iload_n 1, 1) := by decide +kernel
theorem dX4_change_5 : decode cX4_change 5 = .ok (.iload_n 2, 1) := by decide +kernel
theorem dX4_change_6 : decode cX4_change 6 = .ok (.iastore, 1) := by decide +kernel
theorem dX4_change_7 : decode cX4_change 7 = .ok (.aload_n 0, 1) := by decide +kernel
theorem dX4_change_8 : decode cX4_change 8 = .ok (.getfield 15, 3) := by decide +kernel
theorem dX4_change_11 : decode cX4_change 11 = .ok (.iload_n 1, 1) := by decide +kernel
theorem dX4_change_12 : decode cX4_change 12 = .ok (.iload_n 3, 1) := by decide +kernel
theorem dX4_change_13 : decode cX4_change 13 = .ok (.iastore, 1) := by decide +kernel
theorem dX4_change_14 : decode cX4_change 14 = .ok (.aload_n 0, 1) := by decide +kernel
theorem dX4_change_15 : decode cX4_change 15 = .ok (.getfield 18, 3) := by decide +kernel
theorem dX4_change_18 : decode cX4_change 18 = .ok (.iload_n 1, 1) := by decide +kernel
theorem dX4_change_19 : decode cX4_change 19 = .ok (.iload 4, 2) := by decide +kernel
theorem dX4_change_21 : decode cX4_change 21 = .ok (.iastore, 1) := by decide +kernel
theorem dX4_change_22 : decode cX4_change 22 = .ok (.return_, 1) := by decide +kernel
theorem dX4_has_0 : decode cX4_has 0 = .ok (.iload_n 1, 1) := by decide +kernel
theorem dX4_has_1 : decode cX4_has 1 = .ok (.ifCond .lt 15, 3) := by decide +kernel
theorem dX4_has_4 : decode cX4_has 4 = .ok (.iload_n 1, 1) := by decide +kernel
theorem dX4_has_5 : decode cX4_has 5 = .ok (.aload_n 0, 1) := by decide +kernel
theorem dX4_has_6 : decode cX4_has 6 = .ok (.getfield 25, 3) := by decide +kernel
theorem dX4_has_9 : decode cX4_has 9 = .ok (.if_icmp .ge 7, 3) := by decide +kernel
theorem dX4_has_12 : decode cX4_has 12 = .ok (.iconst 1, 1) := by decide +kernel
theorem dX4_has_13 : decode cX4_has 13 = .ok (.goto 4, 3) := by decide +kernel
theorem dX4_has_16 : decode cX4_has 16 = .ok (.iconst 0, 1) := by decide +kernel
theorem dX4_has_17 : decode cX4_has 17 = .ok (.ireturn, 1) := by decide +kernel
theorem dX4_hasSet_0 : decode cX4_hasSet 0 = .ok (.iload_n 1, 1) := by decide +kernel
theorem dX4_hasSet_1 : decode cX4_hasSet 1 = .ok (.ifCond .lt 17, 3) := by decide +kernel
theorem dX4_hasSet_4 : decode cX4_hasSet 4 = .ok (.iload_n 1, 1) := by decide +kernel
theorem dX4_hasSet_5 : decode cX4_hasSet 5 = .ok (.iconst 1, 1) := by decide +kernel
theorem dX4_hasSet_6 : decode cX4_hasSet 6 = .ok (.aload_n 0, 1) := by decide +kernel
theorem dX4_hasSet_7 : decode cX4_hasSet 7 = .ok (.getfield 25, 3) := by decide +kernel
theorem dX4_hasSet_10 : decode cX4_hasSet 10 = .ok (.ishl, 1) := by decide +kernel
theorem dX4_hasSet_11 : decode cX4_hasSet 11 = .ok (.if_icmp .ge 7, 3) := by decide +kernel
theorem dX4_hasSet_14 : decode cX4_hasSet 14 = .ok (.iconst 1, 1) := by decide +kernel
theorem dX4_hasSet_15 : decode cX4_hasSet 15 = .ok (.goto 4, 3) := by decide +kernel
theorem dX4_hasSet_18 : decode cX4_hasSet 18 = .ok (.iconst 0, 1) := by decide +kernel
theorem dX4_hasSet_19 : decode cX4_hasSet 19 = .ok (.ireturn, 1) := by decide +kernel
theorem dX4_unseen_0 : decode cX4_unseen 0 = .ok (.iconst 1, 1) := by decide +kernel
theorem dX4_unseen_1 : decode cX4_unseen 1 = .ok (.aload_n 0, 1) := by decide +kernel
theorem dX4_unseen_2 : decode cX4_unseen 2 = .ok (.getfield 25, 3) := by decide +kernel
theorem dX4_unseen_5 : decode cX4_unseen 5 = .ok (.ishl, 1) := by decide +kernel
theorem dX4_unseen_6 : decode cX4_unseen 6 = .ok (.iconst 1, 1) := by decide +kernel
theorem dX4_unseen_7 : decode cX4_unseen 7 = .ok (.isub, 1) := by decide +kernel
theorem dX4_unseen_8 : decode cX4_unseen 8 = .ok (.aload_n 0, 1) := by decide +kernel
theorem dX4_unseen_9 : decode cX4_unseen 9 = .ok (.getfield 29, 3) := by decide +kernel
theorem dX4_unseen_12 : decode cX4_unseen 12 = .ok (.iconst (-1), 1) := by decide +kernel
theorem dX4_unseen_13 : decode cX4_unseen 13 = .ok (.ixor, 1) := by decide +kernel
theorem dX4_unseen_14 : decode cX4_unseen 14 = .ok (.iand, 1) := by decide +kernel
theorem dX4_unseen_15 : decode cX4_unseen 15 = .ok (.ireturn, 1) := by decide +kernel
theorem dX4_fits_0 : decode cX4_fits 0 = .ok (.iload_n 1, 1) := by decide +kernel
theorem dX4_fits_1 : decode cX4_fits 1 = .ok (.aload_n 0, 1) := by decide +kernel
theorem dX4_fits_2 : decode cX4_fits 2 = .ok (.getfield 29, 3) := by decide +kernel
theorem dX4_fits_5 : decode cX4_fits 5 = .ok (.iand, 1) := by decide +kernel
theorem dX4_fits_6 : decode cX4_fits 6 = .ok (.aload_n 0, 1) := by decide +kernel
theorem dX4_fits_7 : decode cX4_fits 7 = .ok (.getfield 32, 3) := by decide +kernel
theorem dX4_fits_10 : decode cX4_fits 10 = .ok (.if_icmp .ne 7, 3) := by decide +kernel
theorem dX4_fits_13 : decode cX4_fits 13 = .ok (.iconst 1, 1) := by decide +kernel
theorem dX4_fits_14 : decode cX4_fits 14 = .ok (.goto 4, 3) := by decide +kernel
theorem dX4_fits_17 : decode cX4_fits 17 = .ok (.iconst 0, 1) := by decide +kernel
theorem dX4_fits_18 : decode cX4_fits 18 = .ok (.ireturn, 1) := by decide +kernel
theorem dX4_note_0 : decode cX4_note 0 = .ok (.iconst 1, 1) := by decide +kernel
theorem dX4_note_1 : decode cX4_note 1 = .ok (.iload_n 1, 1) := by decide +kernel
theorem dX4_note_2 : decode cX4_note 2 = .ok (.ishl, 1) := by decide +kernel
theorem dX4_note_3 : decode cX4_note 3 = .ok (.istore_n 3, 1) := by decide +kernel
theorem dX4_note_4 : decode cX4_note 4 = .ok (.aload_n 0, 1) := by decide +kernel
theorem dX4_note_5 : decode cX4_note 5 = .ok (.iload_n 2, 1) := by decide +kernel
theorem dX4_note_6 : decode cX4_note 6 = .ok (.iconst (-1), 1) := by decide +kernel
theorem dX4_note_7 : decode cX4_note 7 = .ok (.if_icmp .ne 14, 3) := by decide +kernel
theorem dX4_note_10 : decode cX4_note 10 = .ok (.aload_n 0, 1) := by decide +kernel
theorem dX4_note_11 : decode cX4_note 11 = .ok (.getfield 29, 3) := by decide +kernel
theorem dX4_note_14 : decode cX4_note 14 = .ok (.iload_n 3, 1) := by decide +kernel
theorem dX4_note_15 : decode cX4_note 15 = .ok (.iconst (-1), 1) := by decide +kernel
theorem dX4_note_16 : decode cX4_note 16 = .ok (.ixor, 1) := by decide +kernel
theorem dX4_note_17 : decode cX4_note 17 = .ok (.iand, 1) := by decide +kernel
theorem dX4_note_18 : decode cX4_note 18 = .ok (.goto 9, 3) := by decide +kernel
theorem dX4_note_21 : decode cX4_note 21 = .ok (.aload_n 0, 1) := by decide +kernel
theorem dX4_note_22 : decode cX4_note 22 = .ok (.getfield 29, 3) := by decide +kernel
theorem dX4_note_25 : decode cX4_note 25 = .ok (.iload_n 3, 1) := by decide +kernel
theorem dX4_note_26 : decode cX4_note 26 = .ok (.ior, 1) := by decide +kernel
theorem dX4_note_27 : decode cX4_note 27 = .ok (.putfield 29, 3) := by decide +kernel
theorem dX4_note_30 : decode cX4_note 30 = .ok (.aload_n 0, 1) := by decide +kernel
theorem dX4_note_31 : decode cX4_note 31 = .ok (.iload_n 2, 1) := by decide +kernel
theorem dX4_note_32 : decode cX4_note 32 = .ok (.iconst 1, 1) := by decide +kernel
theorem dX4_note_33 : decode cX4_note 33 = .ok (.if_icmp .ne 12, 3) := by decide +kernel
theorem dX4_note_36 : decode cX4_note 36 = .ok (.aload_n 0, 1) := by decide +kernel
theorem dX4_note_37 : decode cX4_note 37 = .ok (.getfield 32, 3) := by decide +kernel
theorem dX4_note_40 : decode cX4_note 40 = .ok (.iload_n 3, 1) := by decide +kernel
theorem dX4_note_41 : decode cX4_note 41 = .ok (.ior, 1) := by decide +kernel
theorem dX4_note_42 : decode cX4_note 42 = .ok (.goto 11, 3) := by decide +kernel
theorem dX4_note_45 : decode cX4_note 45 = .ok (.aload_n 0, 1) := by decide +kernel
theorem dX4_note_46 : decode cX4_note 46 = .ok (.getfield 32, 3) := by decide +kernel
theorem dX4_note_49 : decode cX4_note 49 = .ok (.iload_n 3, 1) := by decide +kernel
theorem dX4_note_50 : decode cX4_note 50 = .ok (.iconst (-1), 1) := by decide +kernel
theorem dX4_note_51 : decode cX4_note 51 = .ok (.ixor, 1) := by decide +kernel
theorem dX4_note_52 : decode cX4_note 52 = .ok (.iand, 1) := by decide +kernel
theorem dX4_note_53 : decode cX4_note 53 = .ok (.putfield 32, 3) := by decide +kernel
theorem dX4_note_56 : decode cX4_note 56 = .ok (.return_, 1) := by decide +kernel
theorem dX4_noted_0 : decode cX4_noted 0 = .ok (.aload_n 0, 1) := by decide +kernel
theorem dX4_noted_1 : decode cX4_noted 1 = .ok (.getfield 29, 3) := by decide +kernel
theorem dX4_noted_4 : decode cX4_noted 4 = .ok (.iload_n 1, 1) := by decide +kernel
theorem dX4_noted_5 : decode cX4_noted 5 = .ok (.ishr, 1) := by decide +kernel
theorem dX4_noted_6 : decode cX4_noted 6 = .ok (.iconst 1, 1) := by decide +kernel
theorem dX4_noted_7 : decode cX4_noted 7 = .ok (.iand, 1) := by decide +kernel
theorem dX4_noted_8 : decode cX4_noted 8 = .ok (.ifCond .ne 5, 3) := by decide +kernel
theorem dX4_noted_11 : decode cX4_noted 11 = .ok (.iconst (-1), 1) := by decide +kernel
theorem dX4_noted_12 : decode cX4_noted 12 = .ok (.ireturn, 1) := by decide +kernel
theorem dX4_noted_13 : decode cX4_noted 13 = .ok (.aload_n 0, 1) := by decide +kernel
theorem dX4_noted_14 : decode cX4_noted 14 = .ok (.getfield 32, 3) := by decide +kernel
theorem dX4_noted_17 : decode cX4_noted 17 = .ok (.iload_n 1, 1) := by decide +kernel
theorem dX4_noted_18 : decode cX4_noted 18 = .ok (.ishr, 1) := by decide +kernel
theorem dX4_noted_19 : decode cX4_noted 19 = .ok (.iconst 1, 1) := by decide +kernel
theorem dX4_noted_20 : decode cX4_noted 20 = .ok (.iand, 1) := by decide +kernel
theorem dX4_noted_21 : decode cX4_noted 21 = .ok (.ireturn, 1) := by decide +kernel
theorem dX4_left_0 : decode cX4_left 0 = .ok (.lconst 1, 1) := by decide +kernel
theorem dX4_left_1 : decode cX4_left 1 = .ok (.lstore_n 3, 1) := by decide +kernel
theorem dX4_left_2 : decode cX4_left 2 = .ok (.iconst 0, 1) := by decide +kernel
theorem dX4_left_3 : decode cX4_left 3 = .ok (.istore 5, 2) := by decide +kernel
theorem dX4_left_5 : decode cX4_left 5 = .ok (.iload 5, 2) := by decide +kernel
theorem dX4_left_7 : decode cX4_left 7 = .ok (.aload_n 0, 1) := by decide +kernel
theorem dX4_left_8 : decode cX4_left 8 = .ok (.getfield 25, 3) := by decide +kernel
theorem dX4_left_11 : decode cX4_left 11 = .ok (.if_icmp .ge 72, 3) := by decide +kernel
theorem dX4_left_14 : decode cX4_left 14 = .ok (.iload_n 1, 1) := by decide +kernel
theorem dX4_left_15 : decode cX4_left 15 = .ok (.iload 5, 2) := by decide +kernel
theorem dX4_left_17 : decode cX4_left 17 = .ok (.ishr, 1) := by decide +kernel
theorem dX4_left_18 : decode cX4_left 18 = .ok (.iconst 1, 1) := by decide +kernel
theorem dX4_left_19 : decode cX4_left 19 = .ok (.iand, 1) := by decide +kernel
theorem dX4_left_20 : decode cX4_left 20 = .ok (.ifCond .ne 25, 3) := by decide +kernel
theorem dX4_left_23 : decode cX4_left 23 = .ok (.lload_n 3, 1) := by decide +kernel
theorem dX4_left_24 : decode cX4_left 24 = .ok (.aload_n 0, 1) := by decide +kernel
theorem dX4_left_25 : decode cX4_left 25 = .ok (.getfield 9, 3) := by decide +kernel
theorem dX4_left_28 : decode cX4_left 28 = .ok (.iload 5, 2) := by decide +kernel
theorem dX4_left_30 : decode cX4_left 30 = .ok (.iaload, 1) := by decide +kernel
theorem dX4_left_31 : decode cX4_left 31 = .ok (.aload_n 0, 1) := by decide +kernel
theorem dX4_left_32 : decode cX4_left 32 = .ok (.getfield 15, 3) := by decide +kernel
theorem dX4_left_35 : decode cX4_left 35 = .ok (.iload 5, 2) := by decide +kernel
theorem dX4_left_37 : decode cX4_left 37 = .ok (.iaload, 1) := by decide +kernel
theorem dX4_left_38 : decode cX4_left 38 = .ok (.iadd, 1) := by decide +kernel
theorem dX4_left_39 : decode cX4_left 39 = .ok (.i2l, 1) := by decide +kernel
theorem dX4_left_40 : decode cX4_left 40 = .ok (.lmul, 1) := by decide +kernel
theorem dX4_left_41 : decode cX4_left 41 = .ok (.lstore_n 3, 1) := by decide +kernel
theorem dX4_left_42 : decode cX4_left 42 = .ok (.goto 35, 3) := by decide +kernel
theorem dX4_left_45 : decode cX4_left 45 = .ok (.lload_n 3, 1) := by decide +kernel
theorem dX4_left_46 : decode cX4_left 46 = .ok (.iload_n 2, 1) := by decide +kernel
theorem dX4_left_47 : decode cX4_left 47 = .ok (.iload 5, 2) := by decide +kernel
theorem dX4_left_49 : decode cX4_left 49 = .ok (.ishr, 1) := by decide +kernel
theorem dX4_left_50 : decode cX4_left 50 = .ok (.iconst 1, 1) := by decide +kernel
theorem dX4_left_51 : decode cX4_left 51 = .ok (.iand, 1) := by decide +kernel
theorem dX4_left_52 : decode cX4_left 52 = .ok (.iconst 1, 1) := by decide +kernel
theorem dX4_left_53 : decode cX4_left 53 = .ok (.if_icmp .ne 14, 3) := by decide +kernel
theorem dX4_left_56 : decode cX4_left 56 = .ok (.aload_n 0, 1) := by decide +kernel
theorem dX4_left_57 : decode cX4_left 57 = .ok (.getfield 9, 3) := by decide +kernel
theorem dX4_left_60 : decode cX4_left 60 = .ok (.iload 5, 2) := by decide +kernel
theorem dX4_left_62 : decode cX4_left 62 = .ok (.iaload, 1) := by decide +kernel
theorem dX4_left_63 : decode cX4_left 63 = .ok (.i2l, 1) := by decide +kernel
theorem dX4_left_64 : decode cX4_left 64 = .ok (.goto 11, 3) := by decide +kernel
theorem dX4_left_67 : decode cX4_left 67 = .ok (.aload_n 0, 1) := by decide +kernel
theorem dX4_left_68 : decode cX4_left 68 = .ok (.getfield 15, 3) := by decide +kernel
theorem dX4_left_71 : decode cX4_left 71 = .ok (.iload 5, 2) := by decide +kernel
theorem dX4_left_73 : decode cX4_left 73 = .ok (.iaload, 1) := by decide +kernel
theorem dX4_left_74 : decode cX4_left 74 = .ok (.i2l, 1) := by decide +kernel
theorem dX4_left_75 : decode cX4_left 75 = .ok (.lmul, 1) := by decide +kernel
theorem dX4_left_76 : decode cX4_left 76 = .ok (.lstore_n 3, 1) := by decide +kernel
theorem dX4_left_77 : decode cX4_left 77 = .ok (.iinc 5 1, 3) := by decide +kernel
theorem dX4_left_80 : decode cX4_left 80 = .ok (.goto (-75), 3) := by decide +kernel
theorem dX4_left_83 : decode cX4_left 83 = .ok (.lload_n 3, 1) := by decide +kernel
theorem dX4_left_84 : decode cX4_left 84 = .ok (.lreturn, 1) := by decide +kernel
set_option maxRecDepth 20000 in
theorem ggX4_weight_X4_left : GoodIn wsX4_weight wsX4_left := goodIn_r _ [6, 1, 7, 8, 9, 10, 11, 12, 13, 14] (by decide +kernel) (by decide +kernel)
set_option maxRecDepth 20000 in
theorem gX4_weight_X4_left : GoodIn wsX4_weight (wsV RX4 39 RX4 yX4_left wsX4_left) := goodIn_app (goodIn_of _ (by decide +kernel)) ggX4_weight_X4_left
theorem dX4_weight_0 : decode cX4_weight 0 = .ok (.aload_n 0, 1) := by decide +kernel
theorem dX4_weight_1 : decode cX4_weight 1 = .ok (.iconst 1, 1) := by decide +kernel
theorem dX4_weight_2 : decode cX4_weight 2 = .ok (.aload_n 0, 1) := by decide +kernel
theorem dX4_weight_3 : decode cX4_weight 3 = .ok (.getfield 25, 3) := by decide +kernel
theorem dX4_weight_6 : decode cX4_weight 6 = .ok (.ishl, 1) := by decide +kernel
theorem dX4_weight_7 : decode cX4_weight 7 = .ok (.iconst 1, 1) := by decide +kernel
theorem dX4_weight_8 : decode cX4_weight 8 = .ok (.isub, 1) := by decide +kernel
theorem dX4_weight_9 : decode cX4_weight 9 = .ok (.iload_n 1, 1) := by decide +kernel
theorem dX4_weight_10 : decode cX4_weight 10 = .ok (.invokevirtual 39, 3) := by decide +kernel
theorem dX4_weight_13 : decode cX4_weight 13 = .ok (.lreturn, 1) := by decide +kernel
theorem dX4_priceOfSet_0 : decode cX4_priceOfSet 0 = .ok (.iconst 0, 1) := by decide +kernel
theorem dX4_priceOfSet_1 : decode cX4_priceOfSet 1 = .ok (.istore_n 2, 1) := by decide +kernel
theorem dX4_priceOfSet_2 : decode cX4_priceOfSet 2 = .ok (.iconst 0, 1) := by decide +kernel
theorem dX4_priceOfSet_3 : decode cX4_priceOfSet 3 = .ok (.istore_n 3, 1) := by decide +kernel
theorem dX4_priceOfSet_4 : decode cX4_priceOfSet 4 = .ok (.iload_n 3, 1) := by decide +kernel
theorem dX4_priceOfSet_5 : decode cX4_priceOfSet 5 = .ok (.aload_n 0, 1) := by decide +kernel
theorem dX4_priceOfSet_6 : decode cX4_priceOfSet 6 = .ok (.getfield 25, 3) := by decide +kernel
theorem dX4_priceOfSet_9 : decode cX4_priceOfSet 9 = .ok (.if_icmp .ge 27, 3) := by decide +kernel
theorem dX4_priceOfSet_12 : decode cX4_priceOfSet 12 = .ok (.iload_n 1, 1) := by decide +kernel
theorem dX4_priceOfSet_13 : decode cX4_priceOfSet 13 = .ok (.iload_n 3, 1) := by decide +kernel
theorem dX4_priceOfSet_14 : decode cX4_priceOfSet 14 = .ok (.ishr, 1) := by decide +kernel
theorem dX4_priceOfSet_15 : decode cX4_priceOfSet 15 = .ok (.iconst 1, 1) := by decide +kernel
theorem dX4_priceOfSet_16 : decode cX4_priceOfSet 16 = .ok (.iand, 1) := by decide +kernel
theorem dX4_priceOfSet_17 : decode cX4_priceOfSet 17 = .ok (.iconst 1, 1) := by decide +kernel
theorem dX4_priceOfSet_18 : decode cX4_priceOfSet 18 = .ok (.if_icmp .ne 12, 3) := by decide +kernel
theorem dX4_priceOfSet_21 : decode cX4_priceOfSet 21 = .ok (.iload_n 2, 1) := by decide +kernel
theorem dX4_priceOfSet_22 : decode cX4_priceOfSet 22 = .ok (.aload_n 0, 1) := by decide +kernel
theorem dX4_priceOfSet_23 : decode cX4_priceOfSet 23 = .ok (.getfield 18, 3) := by decide +kernel
theorem dX4_priceOfSet_26 : decode cX4_priceOfSet 26 = .ok (.iload_n 3, 1) := by decide +kernel
theorem dX4_priceOfSet_27 : decode cX4_priceOfSet 27 = .ok (.iaload, 1) := by decide +kernel
theorem dX4_priceOfSet_28 : decode cX4_priceOfSet 28 = .ok (.iadd, 1) := by decide +kernel
theorem dX4_priceOfSet_29 : decode cX4_priceOfSet 29 = .ok (.istore_n 2, 1) := by decide +kernel
theorem dX4_priceOfSet_30 : decode cX4_priceOfSet 30 = .ok (.iinc 3 1, 3) := by decide +kernel
theorem dX4_priceOfSet_33 : decode cX4_priceOfSet 33 = .ok (.goto (-29), 3) := by decide +kernel
theorem dX4_priceOfSet_36 : decode cX4_priceOfSet 36 = .ok (.iload_n 2, 1) := by decide +kernel
theorem dX4_priceOfSet_37 : decode cX4_priceOfSet 37 = .ok (.ireturn, 1) := by decide +kernel
theorem dX5_init_0 : decode cX5_init 0 = .ok (.aload_n 0, 1) := by decide +kernel
theorem dX5_init_1 : decode cX5_init 1 = .ok (.invokespecial 3, 3) := by decide +kernel
theorem dX5_init_4 : decode cX5_init 4 = .ok (.aload_n 0, 1) := by decide +kernel
theorem dX5_init_5 : decode cX5_init 5 = .ok (.bipush 9, 2) := by decide +kernel
theorem dX5_init_7 : decode cX5_init 7 = .ok (.newarray .int, 2) := by decide +kernel
theorem dX5_init_9 : decode cX5_init 9 = .ok (.putfield 9, 3) := by decide +kernel
theorem dX5_init_12 : decode cX5_init 12 = .ok (.return_, 1) := by decide +kernel
theorem dX5_append_0 : decode cX5_append 0 = .ok (.aload_n 0, 1) := by decide +kernel
theorem dX5_append_1 : decode cX5_append 1 = .ok (.getfield 15, 3) := by decide +kernel
theorem dX5_append_4 : decode cX5_append 4 = .ok (.bipush 9, 2) := by decide +kernel
theorem dX5_append_6 : decode cX5_append 6 = .ok (.if_icmp .ge 20, 3) := by decide +kernel
theorem dX5_append_9 : decode cX5_append 9 = .ok (.aload_n 0, 1) := by decide +kernel
theorem dX5_append_10 : decode cX5_append 10 = .ok (.getfield 9, 3) := by decide +kernel
theorem dX5_append_13 : decode cX5_append 13 = .ok (.aload_n 0, 1) := by decide +kernel
theorem dX5_append_14 : decode cX5_append 14 = .ok (.dup, 1) := by decide +kernel
theorem dX5_append_15 : decode cX5_append 15 = .ok (.getfield 15, 3) := by decide +kernel
theorem dX5_append_18 : decode cX5_append 18 = .ok (.dup_x1, 1) := by decide +kernel
theorem dX5_append_19 : decode cX5_append 19 = .ok (.iconst 1, 1) := by decide +kernel
theorem dX5_append_20 : decode cX5_append 20 = .ok (.iadd, 1) := by decide +kernel
theorem dX5_append_21 : decode cX5_append 21 = .ok (.putfield 15, 3) := by decide +kernel
theorem dX5_append_24 : decode cX5_append 24 = .ok (.iload_n 1, 1) := by decide +kernel
theorem dX5_append_25 : decode cX5_append 25 = .ok (.iastore, 1) := by decide +kernel
theorem dX5_append_26 : decode cX5_append 26 = .ok (.return_, 1) := by decide +kernel
set_option maxRecDepth 20000 in
theorem ggX6_init_X4_init : GoodIn wsX6_init wsX4_init := goodIn_r _ [30, 31, 2, 3, 32, 33, 34, 35, 36, 37, 38, 6, 39, 40, 41, 42, 43, 44, 45, 46, 86, 87, 88, 89, 90, 91] (by decide +kernel) (by decide +kernel)
set_option maxRecDepth 20000 in
theorem gX6_init_X4_init : GoodIn wsX6_init (wsX4_init) := ggX6_init_X4_init
set_option maxRecDepth 20000 in
theorem ggX6_init_X3_init : GoodIn wsX6_init wsX3_init := goodIn_r _ [49, 50, 2, 3, 51, 52, 32, 53, 54, 55, 56, 10, 57, 58, 59, 60, 98, 99, 100, 101, 102] (by decide +kernel) (by decide +kernel)
set_option maxRecDepth 20000 in
theorem gX6_init_X3_init : GoodIn wsX6_init (wsX3_init) := ggX6_init_X3_init
set_option maxRecDepth 20000 in
theorem ggX6_init_X2_init : GoodIn wsX6_init wsX2_init := goodIn_r _ [62, 63, 2, 3, 32, 64, 103, 104] (by decide +kernel) (by decide +kernel)
set_option maxRecDepth 20000 in
theorem gX6_init_X2_init_n25 : GoodIn wsX6_init (wsX2_init) := ggX6_init_X2_init
set_option maxRecDepth 20000 in
theorem ggX6_init_X1_init : GoodIn wsX6_init wsX1_init := goodIn_r _ [67, 68, 2, 3, 32, 69, 51, 70, 71, 72, 73, 74, 105, 106, 107, 108, 109, 110, 111] (by decide +kernel) (by decide +kernel)
set_option maxRecDepth 20000 in
theorem gX6_init_X1_init : GoodIn wsX6_init (wsX1_init) := ggX6_init_X1_init
set_option maxRecDepth 20000 in
theorem ggX6_init_X0_init : GoodIn wsX6_init wsX0_init := goodIn_r _ [77, 78, 2, 3, 32, 79, 80, 81, 112, 113, 114] (by decide +kernel) (by decide +kernel)
set_option maxRecDepth 20000 in
theorem gX6_init_X0_init : GoodIn wsX6_init (wsX0_init) := ggX6_init_X0_init
set_option maxRecDepth 20000 in
theorem ggX6_init_X5_init : GoodIn wsX6_init wsX5_init := goodIn_r _ [83, 84, 2, 3, 32, 85, 115, 116] (by decide +kernel) (by decide +kernel)
set_option maxRecDepth 20000 in
theorem gX6_init_X5_init_n50 : GoodIn wsX6_init (wsX5_init) := ggX6_init_X5_init
theorem dX6_init_0 : decode cX6_init 0 = .ok (.aload_n 0, 1) := by decide +kernel
theorem dX6_init_1 : decode cX6_init 1 = .ok (.invokespecial 1, 3) := by decide +kernel
theorem dX6_init_4 : decode cX6_init 4 = .ok (.aload_n 0, 1) := by decide +kernel
theorem dX6_init_5 : decode cX6_init 5 = .ok (.new 7, 3) := by decide +kernel
theorem dX6_init_8 : decode cX6_init 8 = .ok (.dup, 1) := by decide +kernel
theorem dX6_init_9 : decode cX6_init 9 = .ok (.invokespecial 9, 3) := by decide +kernel
theorem dX6_init_12 : decode cX6_init 12 = .ok (.putfield 10, 3) := by decide +kernel
theorem dX6_init_15 : decode cX6_init 15 = .ok (.aload_n 0, 1) := by decide +kernel
theorem dX6_init_16 : decode cX6_init 16 = .ok (.new 16, 3) := by decide +kernel
theorem dX6_init_19 : decode cX6_init 19 = .ok (.dup, 1) := by decide +kernel
theorem dX6_init_20 : decode cX6_init 20 = .ok (.invokespecial 18, 3) := by decide +kernel
theorem dX6_init_23 : decode cX6_init 23 = .ok (.putfield 19, 3) := by decide +kernel
theorem dX6_init_26 : decode cX6_init 26 = .ok (.aload_n 0, 1) := by decide +kernel
theorem dX6_init_27 : decode cX6_init 27 = .ok (.new 23, 3) := by decide +kernel
theorem dX6_init_30 : decode cX6_init 30 = .ok (.dup, 1) := by decide +kernel
theorem dX6_init_31 : decode cX6_init 31 = .ok (.invokespecial 25, 3) := by decide +kernel
theorem dX6_init_34 : decode cX6_init 34 = .ok (.putfield 26, 3) := by decide +kernel
theorem dX6_init_37 : decode cX6_init 37 = .ok (.aload_n 0, 1) := by decide +kernel
theorem dX6_init_38 : decode cX6_init 38 = .ok (.new 30, 3) := by decide +kernel
theorem dX6_init_41 : decode cX6_init 41 = .ok (.dup, 1) := by decide +kernel
theorem dX6_init_42 : decode cX6_init 42 = .ok (.aload_n 0, 1) := by decide +kernel
theorem dX6_init_43 : decode cX6_init 43 = .ok (.getfield 10, 3) := by decide +kernel
theorem dX6_init_46 : decode cX6_init 46 = .ok (.aload_n 0, 1) := by decide +kernel
theorem dX6_init_47 : decode cX6_init 47 = .ok (.getfield 19, 3) := by decide +kernel
theorem dX6_init_50 : decode cX6_init 50 = .ok (.aload_n 0, 1) := by decide +kernel
theorem dX6_init_51 : decode cX6_init 51 = .ok (.getfield 26, 3) := by decide +kernel
theorem dX6_init_54 : decode cX6_init 54 = .ok (.invokespecial 32, 3) := by decide +kernel
theorem dX6_init_57 : decode cX6_init 57 = .ok (.putfield 35, 3) := by decide +kernel
theorem dX6_init_60 : decode cX6_init 60 = .ok (.aload_n 0, 1) := by decide +kernel
theorem dX6_init_61 : decode cX6_init 61 = .ok (.new 39, 3) := by decide +kernel
theorem dX6_init_64 : decode cX6_init 64 = .ok (.dup, 1) := by decide +kernel
theorem dX6_init_65 : decode cX6_init 65 = .ok (.aload_n 0, 1) := by decide +kernel
theorem dX6_init_66 : decode cX6_init 66 = .ok (.getfield 10, 3) := by decide +kernel
theorem dX6_init_69 : decode cX6_init 69 = .ok (.aload_n 0, 1) := by decide +kernel
theorem dX6_init_70 : decode cX6_init 70 = .ok (.getfield 19, 3) := by decide +kernel
theorem dX6_init_73 : decode cX6_init 73 = .ok (.invokespecial 41, 3) := by decide +kernel
theorem dX6_init_76 : decode cX6_init 76 = .ok (.putfield 44, 3) := by decide +kernel
theorem dX6_init_79 : decode cX6_init 79 = .ok (.aload_n 0, 1) := by decide +kernel
theorem dX6_init_80 : decode cX6_init 80 = .ok (.new 48, 3) := by decide +kernel
theorem dX6_init_83 : decode cX6_init 83 = .ok (.dup, 1) := by decide +kernel
theorem dX6_init_84 : decode cX6_init 84 = .ok (.invokespecial 50, 3) := by decide +kernel
theorem dX6_init_87 : decode cX6_init 87 = .ok (.putfield 51, 3) := by decide +kernel
theorem dX6_init_90 : decode cX6_init 90 = .ok (.return_, 1) := by decide +kernel
set_option maxRecDepth 20000 in
theorem ggX6_parts_X4_lay : GoodIn wsX6_parts wsX4_lay := goodIn_r _ [9, 10, 11, 12, 13, 14, 15, 8, 16, 17, 18, 19, 46, 47, 48, 49, 50, 51] (by decide +kernel) (by decide +kernel)
set_option maxRecDepth 20000 in
theorem gX6_parts_X4_lay : GoodIn wsX6_parts (wsV RX6 55 RX4 yX4_lay wsX4_lay) := goodIn_app (goodIn_of _ (by decide +kernel)) ggX6_parts_X4_lay
set_option maxRecDepth 20000 in
theorem ggX6_parts_X3_begin : GoodIn wsX6_parts wsX3_begin := goodIn_r _ [24, 25, 26, 27, 52, 53, 54, 55, 56] (by decide +kernel) (by decide +kernel)
set_option maxRecDepth 20000 in
theorem gX6_parts_X3_begin : GoodIn wsX6_parts (wsV RX6 59 RX3 yX3_begin wsX3_begin) := goodIn_app (goodIn_of _ (by decide +kernel)) ggX6_parts_X3_begin
set_option maxRecDepth 20000 in
theorem ggX6_parts_X2_clear : GoodIn wsX6_parts wsX2_clear := goodIn_r _ [32, 33, 57, 58] (by decide +kernel) (by decide +kernel)
set_option maxRecDepth 20000 in
theorem gX6_parts_X2_clear : GoodIn wsX6_parts (wsV RX6 62 RX2 yX2_clear wsX2_clear) := goodIn_app (goodIn_of _ (by decide +kernel)) ggX6_parts_X2_clear
set_option maxRecDepth 20000 in
theorem ggX6_parts_X1_forget : GoodIn wsX6_parts wsX1_forget := goodIn_r _ [38, 39, 59, 60, 61, 62, 63, 64, 65] (by decide +kernel) (by decide +kernel)
set_option maxRecDepth 20000 in
theorem gX6_parts_X1_forget : GoodIn wsX6_parts (wsV RX6 65 RX1 yX1_forget wsX1_forget) := goodIn_app (goodIn_of _ (by decide +kernel)) ggX6_parts_X1_forget
theorem dX6_parts_0 : decode cX6_parts 0 = .ok (.iload_n 1, 1) := by decide +kernel
theorem dX6_parts_1 : decode cX6_parts 1 = .ok (.iconst 1, 1) := by decide +kernel
theorem dX6_parts_2 : decode cX6_parts 2 = .ok (.if_icmp .lt 9, 3) := by decide +kernel
theorem dX6_parts_5 : decode cX6_parts 5 = .ok (.iload_n 1, 1) := by decide +kernel
theorem dX6_parts_6 : decode cX6_parts 6 = .ok (.bipush 9, 2) := by decide +kernel
theorem dX6_parts_8 : decode cX6_parts 8 = .ok (.if_icmp .le 5, 3) := by decide +kernel
theorem dX6_parts_11 : decode cX6_parts 11 = .ok (.iconst 0, 1) := by decide +kernel
theorem dX6_parts_12 : decode cX6_parts 12 = .ok (.ireturn, 1) := by decide +kernel
theorem dX6_parts_13 : decode cX6_parts 13 = .ok (.aload_n 0, 1) := by decide +kernel
theorem dX6_parts_14 : decode cX6_parts 14 = .ok (.getfield 10, 3) := by decide +kernel
theorem dX6_parts_17 : decode cX6_parts 17 = .ok (.iload_n 1, 1) := by decide +kernel
theorem dX6_parts_18 : decode cX6_parts 18 = .ok (.invokevirtual 55, 3) := by decide +kernel
theorem dX6_parts_21 : decode cX6_parts 21 = .ok (.aload_n 0, 1) := by decide +kernel
theorem dX6_parts_22 : decode cX6_parts 22 = .ok (.getfield 19, 3) := by decide +kernel
theorem dX6_parts_25 : decode cX6_parts 25 = .ok (.iload_n 1, 1) := by decide +kernel
theorem dX6_parts_26 : decode cX6_parts 26 = .ok (.invokevirtual 59, 3) := by decide +kernel
theorem dX6_parts_29 : decode cX6_parts 29 = .ok (.aload_n 0, 1) := by decide +kernel
theorem dX6_parts_30 : decode cX6_parts 30 = .ok (.getfield 26, 3) := by decide +kernel
theorem dX6_parts_33 : decode cX6_parts 33 = .ok (.invokevirtual 62, 3) := by decide +kernel
theorem dX6_parts_36 : decode cX6_parts 36 = .ok (.aload_n 0, 1) := by decide +kernel
theorem dX6_parts_37 : decode cX6_parts 37 = .ok (.getfield 35, 3) := by decide +kernel
theorem dX6_parts_40 : decode cX6_parts 40 = .ok (.invokevirtual 65, 3) := by decide +kernel
theorem dX6_parts_43 : decode cX6_parts 43 = .ok (.iconst 1, 1) := by decide +kernel
theorem dX6_parts_44 : decode cX6_parts 44 = .ok (.ireturn, 1) := by decide +kernel
set_option maxRecDepth 20000 in
theorem ggX6_part_X4_has : GoodIn wsX6_part wsX4_has := goodIn_r _ [7, 8, 28, 29, 30, 31, 32, 33] (by decide +kernel) (by decide +kernel)
set_option maxRecDepth 20000 in
theorem gX6_part_X4_has : GoodIn wsX6_part (wsV RX6 68 RX4 yX4_has wsX4_has) := goodIn_app (goodIn_of _ (by decide +kernel)) ggX6_part_X4_has
set_option maxRecDepth 20000 in
theorem ggX6_part_X4_change : GoodIn wsX6_part wsX4_change := goodIn_r _ [12, 13, 14, 15, 28, 29, 30, 31, 32, 33] (by decide +kernel) (by decide +kernel)
set_option maxRecDepth 20000 in
theorem gX6_part_X4_change : GoodIn wsX6_part (wsV RX6 72 RX4 yX4_change wsX4_change) := goodIn_app (goodIn_of _ (by decide +kernel)) ggX6_part_X4_change
set_option maxRecDepth 20000 in
theorem ggX6_part_X1_forget : GoodIn wsX6_part wsX1_forget := goodIn_r _ [20, 21, 34, 35, 36, 37, 38, 39, 40] (by decide +kernel) (by decide +kernel)
set_option maxRecDepth 20000 in
theorem gX6_part_X1_forget : GoodIn wsX6_part (wsV RX6 65 RX1 yX1_forget wsX1_forget) := goodIn_app (goodIn_of _ (by decide +kernel)) ggX6_part_X1_forget
theorem dX6_part_0 : decode cX6_part 0 = .ok (.aload_n 0, 1) := by decide +kernel
theorem dX6_part_1 : decode cX6_part 1 = .ok (.getfield 10, 3) := by decide +kernel
theorem dX6_part_4 : decode cX6_part 4 = .ok (.iload_n 1, 1) := by decide +kernel
theorem dX6_part_5 : decode cX6_part 5 = .ok (.invokevirtual 68, 3) := by decide +kernel
theorem dX6_part_8 : decode cX6_part 8 = .ok (.ifCond .eq 38, 3) := by decide +kernel
theorem dX6_part_11 : decode cX6_part 11 = .ok (.iload_n 2, 1) := by decide +kernel
theorem dX6_part_12 : decode cX6_part 12 = .ok (.iconst 1, 1) := by decide +kernel
theorem dX6_part_13 : decode cX6_part 13 = .ok (.if_icmp .lt 33, 3) := by decide +kernel
theorem dX6_part_16 : decode cX6_part 16 = .ok (.iload_n 2, 1) := by decide +kernel
theorem dX6_part_17 : decode cX6_part 17 = .ok (.bipush 9, 2) := by decide +kernel
theorem dX6_part_19 : decode cX6_part 19 = .ok (.if_icmp .gt 27, 3) := by decide +kernel
theorem dX6_part_22 : decode cX6_part 22 = .ok (.iload_n 3, 1) := by decide +kernel
theorem dX6_part_23 : decode cX6_part 23 = .ok (.iconst 1, 1) := by decide +kernel
theorem dX6_part_24 : decode cX6_part 24 = .ok (.if_icmp .lt 22, 3) := by decide +kernel
theorem dX6_part_27 : decode cX6_part 27 = .ok (.iload_n 3, 1) := by decide +kernel
theorem dX6_part_28 : decode cX6_part 28 = .ok (.bipush 9, 2) := by decide +kernel
theorem dX6_part_30 : decode cX6_part 30 = .ok (.if_icmp .gt 16, 3) := by decide +kernel
theorem dX6_part_33 : decode cX6_part 33 = .ok (.iload 4, 2) := by decide +kernel
theorem dX6_part_35 : decode cX6_part 35 = .ok (.ifCond .lt 11, 3) := by decide +kernel
theorem dX6_part_38 : decode cX6_part 38 = .ok (.iload 4, 2) := by decide +kernel
theorem dX6_part_40 : decode cX6_part 40 = .ok (.sipush 1000, 3) := by decide +kernel
theorem dX6_part_43 : decode cX6_part 43 = .ok (.if_icmp .le 5, 3) := by decide +kernel
theorem dX6_part_46 : decode cX6_part 46 = .ok (.iconst 0, 1) := by decide +kernel
theorem dX6_part_47 : decode cX6_part 47 = .ok (.ireturn, 1) := by decide +kernel
theorem dX6_part_48 : decode cX6_part 48 = .ok (.aload_n 0, 1) := by decide +kernel
theorem dX6_part_49 : decode cX6_part 49 = .ok (.getfield 10, 3) := by decide +kernel
theorem dX6_part_52 : decode cX6_part 52 = .ok (.iload_n 1, 1) := by decide +kernel
theorem dX6_part_53 : decode cX6_part 53 = .ok (.iload_n 2, 1) := by decide +kernel
end
section
theorem dX6_part_54 : decode cX6_part 54 = .ok (.iload_n 3, 1) := by decide +kernel
theorem dX6_part_55 : decode cX6_part 55 = .ok (.iload 4, 2) := by decide +kernel
theorem dX6_part_57 : decode cX6_part 57 = .ok (.invokevirtual 72, 3) := by decide +kernel
theorem dX6_part_60 : decode cX6_part 60 = .ok (.aload_n 0, 1) := by decide +kernel
theorem dX6_part_61 : decode cX6_part 61 = .ok (.getfield 35, 3) := by decide +kernel
theorem dX6_part_64 : decode cX6_part 64 = .ok (.invokevirtual 65, 3) := by decide +kernel
theorem dX6_part_67 : decode cX6_part 67 = .ok (.iconst 1, 1) := by decide +kernel
theorem dX6_part_68 : decode cX6_part 68 = .ok (.ireturn, 1) := by decide +kernel
set_option maxRecDepth 20000 in
theorem ggX6_single_X4_has : GoodIn wsX6_single wsX4_has := goodIn_r _ [7, 8, 35, 36, 37, 38, 39, 40] (by decide +kernel) (by decide +kernel)
set_option maxRecDepth 20000 in
theorem gX6_single_X4_has : GoodIn wsX6_single (wsV RX6 68 RX4 yX4_has wsX4_has) := goodIn_app (goodIn_of _ (by decide +kernel)) ggX6_single_X4_has
set_option maxRecDepth 20000 in
theorem ggX6_single_X3_hasRoom : GoodIn wsX6_single wsX3_hasRoom := goodIn_r _ [13, 14, 41, 42, 43, 44, 45] (by decide +kernel) (by decide +kernel)
set_option maxRecDepth 20000 in
theorem gX6_single_X3_hasRoom : GoodIn wsX6_single (wsV RX6 76 RX3 yX3_hasRoom wsX3_hasRoom) := goodIn_app (goodIn_of _ (by decide +kernel)) ggX6_single_X3_hasRoom
set_option maxRecDepth 20000 in
theorem ggX6_single_X3_addSingle : GoodIn wsX6_single wsX3_addSingle := goodIn_r _ [18, 19, 14, 20, 21, 22, 12, 23, 24, 25, 26, 27, 28, 41, 42, 43, 44, 45] (by decide +kernel) (by decide +kernel)
set_option maxRecDepth 20000 in
theorem gX6_single_X3_addSingle : GoodIn wsX6_single (wsV RX6 80 RX3 yX3_addSingle wsX3_addSingle) := goodIn_app (goodIn_of _ (by decide +kernel)) ggX6_single_X3_addSingle
theorem dX6_single_0 : decode cX6_single 0 = .ok (.aload_n 0, 1) := by decide +kernel
theorem dX6_single_1 : decode cX6_single 1 = .ok (.getfield 10, 3) := by decide +kernel
theorem dX6_single_4 : decode cX6_single 4 = .ok (.iload_n 1, 1) := by decide +kernel
theorem dX6_single_5 : decode cX6_single 5 = .ok (.invokevirtual 68, 3) := by decide +kernel
theorem dX6_single_8 : decode cX6_single 8 = .ok (.ifCond .eq 24, 3) := by decide +kernel
theorem dX6_single_11 : decode cX6_single 11 = .ok (.aload_n 0, 1) := by decide +kernel
theorem dX6_single_12 : decode cX6_single 12 = .ok (.getfield 19, 3) := by decide +kernel
theorem dX6_single_15 : decode cX6_single 15 = .ok (.invokevirtual 76, 3) := by decide +kernel
theorem dX6_single_18 : decode cX6_single 18 = .ok (.ifCond .eq 14, 3) := by decide +kernel
theorem dX6_single_21 : decode cX6_single 21 = .ok (.aload_n 0, 1) := by decide +kernel
theorem dX6_single_22 : decode cX6_single 22 = .ok (.getfield 19, 3) := by decide +kernel
theorem dX6_single_25 : decode cX6_single 25 = .ok (.iload_n 1, 1) := by decide +kernel
theorem dX6_single_26 : decode cX6_single 26 = .ok (.invokevirtual 80, 3) := by decide +kernel
theorem dX6_single_29 : decode cX6_single 29 = .ok (.goto 4, 3) := by decide +kernel
theorem dX6_single_32 : decode cX6_single 32 = .ok (.iconst (-1), 1) := by decide +kernel
theorem dX6_single_33 : decode cX6_single 33 = .ok (.ireturn, 1) := by decide +kernel
set_option maxRecDepth 20000 in
theorem ggX6_row_X3_has : GoodIn wsX6_row wsX3_has := goodIn_r _ [6, 7, 23, 24, 25, 26, 27] (by decide +kernel) (by decide +kernel)
set_option maxRecDepth 20000 in
theorem gX6_row_X3_has : GoodIn wsX6_row (wsV RX6 84 RX3 yX3_has wsX3_has) := goodIn_app (goodIn_of _ (by decide +kernel)) ggX6_row_X3_has
set_option maxRecDepth 20000 in
theorem ggX6_row_X3_hasRoom : GoodIn wsX6_row wsX3_hasRoom := goodIn_r _ [11, 7, 23, 24, 25, 26, 27] (by decide +kernel) (by decide +kernel)
set_option maxRecDepth 20000 in
theorem gX6_row_X3_hasRoom : GoodIn wsX6_row (wsV RX6 76 RX3 yX3_hasRoom wsX3_hasRoom) := goodIn_app (goodIn_of _ (by decide +kernel)) ggX6_row_X3_hasRoom
set_option maxRecDepth 20000 in
theorem ggX6_row_X3_addRow : GoodIn wsX6_row wsX3_addRow := goodIn_r _ [15, 16, 7, 23, 24, 25, 26, 27] (by decide +kernel) (by decide +kernel)
set_option maxRecDepth 20000 in
theorem gX6_row_X3_addRow : GoodIn wsX6_row (wsV RX6 85 RX3 yX3_addRow wsX3_addRow) := goodIn_app (goodIn_of _ (by decide +kernel)) ggX6_row_X3_addRow
theorem dX6_row_0 : decode cX6_row 0 = .ok (.aload_n 0, 1) := by decide +kernel
theorem dX6_row_1 : decode cX6_row 1 = .ok (.getfield 19, 3) := by decide +kernel
theorem dX6_row_4 : decode cX6_row 4 = .ok (.iload_n 1, 1) := by decide +kernel
theorem dX6_row_5 : decode cX6_row 5 = .ok (.invokevirtual 84, 3) := by decide +kernel
theorem dX6_row_8 : decode cX6_row 8 = .ok (.ifCond .eq 36, 3) := by decide +kernel
theorem dX6_row_11 : decode cX6_row 11 = .ok (.aload_n 0, 1) := by decide +kernel
theorem dX6_row_12 : decode cX6_row 12 = .ok (.getfield 19, 3) := by decide +kernel
theorem dX6_row_15 : decode cX6_row 15 = .ok (.iload_n 2, 1) := by decide +kernel
theorem dX6_row_16 : decode cX6_row 16 = .ok (.invokevirtual 84, 3) := by decide +kernel
theorem dX6_row_19 : decode cX6_row 19 = .ok (.ifCond .eq 25, 3) := by decide +kernel
theorem dX6_row_22 : decode cX6_row 22 = .ok (.aload_n 0, 1) := by decide +kernel
theorem dX6_row_23 : decode cX6_row 23 = .ok (.getfield 19, 3) := by decide +kernel
theorem dX6_row_26 : decode cX6_row 26 = .ok (.invokevirtual 76, 3) := by decide +kernel
theorem dX6_row_29 : decode cX6_row 29 = .ok (.ifCond .eq 15, 3) := by decide +kernel
theorem dX6_row_32 : decode cX6_row 32 = .ok (.aload_n 0, 1) := by decide +kernel
theorem dX6_row_33 : decode cX6_row 33 = .ok (.getfield 19, 3) := by decide +kernel
theorem dX6_row_36 : decode cX6_row 36 = .ok (.iload_n 1, 1) := by decide +kernel
theorem dX6_row_37 : decode cX6_row 37 = .ok (.iload_n 2, 1) := by decide +kernel
theorem dX6_row_38 : decode cX6_row 38 = .ok (.invokevirtual 85, 3) := by decide +kernel
theorem dX6_row_41 : decode cX6_row 41 = .ok (.goto 4, 3) := by decide +kernel
theorem dX6_row_44 : decode cX6_row 44 = .ok (.iconst (-1), 1) := by decide +kernel
theorem dX6_row_45 : decode cX6_row 45 = .ok (.ireturn, 1) := by decide +kernel
set_option maxRecDepth 20000 in
theorem ggX6_side_X3_has : GoodIn wsX6_side wsX3_has := goodIn_r _ [6, 7, 23, 24, 25, 26, 27] (by decide +kernel) (by decide +kernel)
set_option maxRecDepth 20000 in
theorem gX6_side_X3_has : GoodIn wsX6_side (wsV RX6 84 RX3 yX3_has wsX3_has) := goodIn_app (goodIn_of _ (by decide +kernel)) ggX6_side_X3_has
set_option maxRecDepth 20000 in
theorem ggX6_side_X3_hasRoom : GoodIn wsX6_side wsX3_hasRoom := goodIn_r _ [11, 7, 23, 24, 25, 26, 27] (by decide +kernel) (by decide +kernel)
set_option maxRecDepth 20000 in
theorem gX6_side_X3_hasRoom : GoodIn wsX6_side (wsV RX6 76 RX3 yX3_hasRoom wsX3_hasRoom) := goodIn_app (goodIn_of _ (by decide +kernel)) ggX6_side_X3_hasRoom
set_option maxRecDepth 20000 in
theorem ggX6_side_X3_addSide : GoodIn wsX6_side wsX3_addSide := goodIn_r _ [15, 16, 7, 23, 24, 25, 26, 27] (by decide +kernel) (by decide +kernel)
set_option maxRecDepth 20000 in
theorem gX6_side_X3_addSide : GoodIn wsX6_side (wsV RX6 89 RX3 yX3_addSide wsX3_addSide) := goodIn_app (goodIn_of _ (by decide +kernel)) ggX6_side_X3_addSide
theorem dX6_side_0 : decode cX6_side 0 = .ok (.aload_n 0, 1) := by decide +kernel
theorem dX6_side_1 : decode cX6_side 1 = .ok (.getfield 19, 3) := by decide +kernel
theorem dX6_side_4 : decode cX6_side 4 = .ok (.iload_n 1, 1) := by decide +kernel
theorem dX6_side_5 : decode cX6_side 5 = .ok (.invokevirtual 84, 3) := by decide +kernel
theorem dX6_side_8 : decode cX6_side 8 = .ok (.ifCond .eq 36, 3) := by decide +kernel
theorem dX6_side_11 : decode cX6_side 11 = .ok (.aload_n 0, 1) := by decide +kernel
theorem dX6_side_12 : decode cX6_side 12 = .ok (.getfield 19, 3) := by decide +kernel
theorem dX6_side_15 : decode cX6_side 15 = .ok (.iload_n 2, 1) := by decide +kernel
theorem dX6_side_16 : decode cX6_side 16 = .ok (.invokevirtual 84, 3) := by decide +kernel
theorem dX6_side_19 : decode cX6_side 19 = .ok (.ifCond .eq 25, 3) := by decide +kernel
theorem dX6_side_22 : decode cX6_side 22 = .ok (.aload_n 0, 1) := by decide +kernel
theorem dX6_side_23 : decode cX6_side 23 = .ok (.getfield 19, 3) := by decide +kernel
theorem dX6_side_26 : decode cX6_side 26 = .ok (.invokevirtual 76, 3) := by decide +kernel
theorem dX6_side_29 : decode cX6_side 29 = .ok (.ifCond .eq 15, 3) := by decide +kernel
theorem dX6_side_32 : decode cX6_side 32 = .ok (.aload_n 0, 1) := by decide +kernel
theorem dX6_side_33 : decode cX6_side 33 = .ok (.getfield 19, 3) := by decide +kernel
theorem dX6_side_36 : decode cX6_side 36 = .ok (.iload_n 1, 1) := by decide +kernel
theorem dX6_side_37 : decode cX6_side 37 = .ok (.iload_n 2, 1) := by decide +kernel
theorem dX6_side_38 : decode cX6_side 38 = .ok (.invokevirtual 89, 3) := by decide +kernel
theorem dX6_side_41 : decode cX6_side 41 = .ok (.goto 4, 3) := by decide +kernel
theorem dX6_side_44 : decode cX6_side 44 = .ok (.iconst (-1), 1) := by decide +kernel
theorem dX6_side_45 : decode cX6_side 45 = .ok (.ireturn, 1) := by decide +kernel
set_option maxRecDepth 20000 in
theorem ggX6_some_X4_hasSet : GoodIn wsX6_some wsX4_hasSet := goodIn_r _ [7, 8, 44, 45, 46, 47, 48, 49] (by decide +kernel) (by decide +kernel)
set_option maxRecDepth 20000 in
theorem gX6_some_X4_hasSet : GoodIn wsX6_some (wsV RX6 92 RX4 yX4_hasSet wsX4_hasSet) := goodIn_app (goodIn_of _ (by decide +kernel)) ggX6_some_X4_hasSet
set_option maxRecDepth 20000 in
theorem ggX6_some_X3_hasRoom : GoodIn wsX6_some wsX3_hasRoom := goodIn_r _ [13, 14, 50, 51, 52, 53, 54] (by decide +kernel) (by decide +kernel)
set_option maxRecDepth 20000 in
theorem gX6_some_X3_hasRoom : GoodIn wsX6_some (wsV RX6 76 RX3 yX3_hasRoom wsX3_hasRoom) := goodIn_app (goodIn_of _ (by decide +kernel)) ggX6_some_X3_hasRoom
set_option maxRecDepth 20000 in
theorem ggX6_some_X3_addSome : GoodIn wsX6_some wsX3_addSome := goodIn_r _ [18, 19, 14, 20, 21, 22, 12, 23, 24, 25, 26, 27, 28, 29, 30, 31, 32, 33, 34, 35, 36, 37, 50, 51, 52, 53, 54] (by decide +kernel) (by decide +kernel)
set_option maxRecDepth 20000 in
theorem gX6_some_X3_addSome : GoodIn wsX6_some (wsV RX6 95 RX3 yX3_addSome wsX3_addSome) := goodIn_app (goodIn_of _ (by decide +kernel)) ggX6_some_X3_addSome
theorem dX6_some_0 : decode cX6_some 0 = .ok (.aload_n 0, 1) := by decide +kernel
theorem dX6_some_1 : decode cX6_some 1 = .ok (.getfield 10, 3) := by decide +kernel
theorem dX6_some_4 : decode cX6_some 4 = .ok (.iload_n 1, 1) := by decide +kernel
theorem dX6_some_5 : decode cX6_some 5 = .ok (.invokevirtual 92, 3) := by decide +kernel
theorem dX6_some_8 : decode cX6_some 8 = .ok (.ifCond .eq 32, 3) := by decide +kernel
theorem dX6_some_11 : decode cX6_some 11 = .ok (.lload_n 2, 1) := by decide +kernel
theorem dX6_some_12 : decode cX6_some 12 = .ok (.lconst 0, 1) := by decide +kernel
theorem dX6_some_13 : decode cX6_some 13 = .ok (.lcmp, 1) := by decide +kernel
theorem dX6_some_14 : decode cX6_some 14 = .ok (.ifCond .lt 26, 3) := by decide +kernel
theorem dX6_some_17 : decode cX6_some 17 = .ok (.iload 4, 2) := by decide +kernel
theorem dX6_some_19 : decode cX6_some 19 = .ok (.ifCond .lt 21, 3) := by decide +kernel
theorem dX6_some_22 : decode cX6_some 22 = .ok (.iload 4, 2) := by decide +kernel
theorem dX6_some_24 : decode cX6_some 24 = .ok (.iconst 3, 1) := by decide +kernel
theorem dX6_some_25 : decode cX6_some 25 = .ok (.if_icmp .gt 15, 3) := by decide +kernel
theorem dX6_some_28 : decode cX6_some 28 = .ok (.iload 5, 2) := by decide +kernel
theorem dX6_some_30 : decode cX6_some 30 = .ok (.ifCond .lt 10, 3) := by decide +kernel
theorem dX6_some_33 : decode cX6_some 33 = .ok (.iload 5, 2) := by decide +kernel
theorem dX6_some_35 : decode cX6_some 35 = .ok (.bipush 100, 2) := by decide +kernel
theorem dX6_some_37 : decode cX6_some 37 = .ok (.if_icmp .le 5, 3) := by decide +kernel
theorem dX6_some_40 : decode cX6_some 40 = .ok (.iconst (-1), 1) := by decide +kernel
theorem dX6_some_41 : decode cX6_some 41 = .ok (.ireturn, 1) := by decide +kernel
theorem dX6_some_42 : decode cX6_some 42 = .ok (.aload_n 0, 1) := by decide +kernel
theorem dX6_some_43 : decode cX6_some 43 = .ok (.getfield 19, 3) := by decide +kernel
theorem dX6_some_46 : decode cX6_some 46 = .ok (.invokevirtual 76, 3) := by decide +kernel
theorem dX6_some_49 : decode cX6_some 49 = .ok (.ifCond .eq 19, 3) := by decide +kernel
theorem dX6_some_52 : decode cX6_some 52 = .ok (.aload_n 0, 1) := by decide +kernel
theorem dX6_some_53 : decode cX6_some 53 = .ok (.getfield 19, 3) := by decide +kernel
theorem dX6_some_56 : decode cX6_some 56 = .ok (.iload_n 1, 1) := by decide +kernel
theorem dX6_some_57 : decode cX6_some 57 = .ok (.lload_n 2, 1) := by decide +kernel
theorem dX6_some_58 : decode cX6_some 58 = .ok (.iload 4, 2) := by decide +kernel
theorem dX6_some_60 : decode cX6_some 60 = .ok (.iload 5, 2) := by decide +kernel
theorem dX6_some_62 : decode cX6_some 62 = .ok (.invokevirtual 95, 3) := by decide +kernel
theorem dX6_some_65 : decode cX6_some 65 = .ok (.goto 4, 3) := by decide +kernel
theorem dX6_some_68 : decode cX6_some 68 = .ok (.iconst (-1), 1) := by decide +kernel
theorem dX6_some_69 : decode cX6_some 69 = .ok (.ireturn, 1) := by decide +kernel
set_option maxRecDepth 20000 in
theorem ggX6_dual_X3_has : GoodIn wsX6_dual wsX3_has := goodIn_r _ [6, 7, 36, 37, 38, 39, 40] (by decide +kernel) (by decide +kernel)
set_option maxRecDepth 20000 in
theorem gX6_dual_X3_has : GoodIn wsX6_dual (wsV RX6 84 RX3 yX3_has wsX3_has) := goodIn_app (goodIn_of _ (by decide +kernel)) ggX6_dual_X3_has
set_option maxRecDepth 20000 in
theorem ggX6_dual_X3_hasRoom : GoodIn wsX6_dual wsX3_hasRoom := goodIn_r _ [11, 7, 36, 37, 38, 39, 40] (by decide +kernel) (by decide +kernel)
set_option maxRecDepth 20000 in
theorem gX6_dual_X3_hasRoom : GoodIn wsX6_dual (wsV RX6 76 RX3 yX3_hasRoom wsX3_hasRoom) := goodIn_app (goodIn_of _ (by decide +kernel)) ggX6_dual_X3_hasRoom
set_option maxRecDepth 20000 in
theorem ggX6_dual_X3_addDual : GoodIn wsX6_dual wsX3_addDual := goodIn_r _ [15, 16, 7, 17, 18, 19, 5, 20, 21, 22, 23, 24, 25, 26, 27, 28, 29, 36, 37, 38, 39, 40] (by decide +kernel) (by decide +kernel)
set_option maxRecDepth 20000 in
theorem gX6_dual_X3_addDual : GoodIn wsX6_dual (wsV RX6 99 RX3 yX3_addDual wsX3_addDual) := goodIn_app (goodIn_of _ (by decide +kernel)) ggX6_dual_X3_addDual
theorem dX6_dual_0 : decode cX6_dual 0 = .ok (.aload_n 0, 1) := by decide +kernel
theorem dX6_dual_1 : decode cX6_dual 1 = .ok (.getfield 19, 3) := by decide +kernel
theorem dX6_dual_4 : decode cX6_dual 4 = .ok (.iload_n 1, 1) := by decide +kernel
theorem dX6_dual_5 : decode cX6_dual 5 = .ok (.invokevirtual 84, 3) := by decide +kernel
theorem dX6_dual_8 : decode cX6_dual 8 = .ok (.ifCond .eq 24, 3) := by decide +kernel
theorem dX6_dual_11 : decode cX6_dual 11 = .ok (.aload_n 0, 1) := by decide +kernel
theorem dX6_dual_12 : decode cX6_dual 12 = .ok (.getfield 19, 3) := by decide +kernel
theorem dX6_dual_15 : decode cX6_dual 15 = .ok (.invokevirtual 76, 3) := by decide +kernel
theorem dX6_dual_18 : decode cX6_dual 18 = .ok (.ifCond .eq 14, 3) := by decide +kernel
theorem dX6_dual_21 : decode cX6_dual 21 = .ok (.aload_n 0, 1) := by decide +kernel
theorem dX6_dual_22 : decode cX6_dual 22 = .ok (.getfield 19, 3) := by decide +kernel
theorem dX6_dual_25 : decode cX6_dual 25 = .ok (.iload_n 1, 1) := by decide +kernel
theorem dX6_dual_26 : decode cX6_dual 26 = .ok (.invokevirtual 99, 3) := by decide +kernel
theorem dX6_dual_29 : decode cX6_dual 29 = .ok (.goto 4, 3) := by decide +kernel
theorem dX6_dual_32 : decode cX6_dual 32 = .ok (.iconst (-1), 1) := by decide +kernel
theorem dX6_dual_33 : decode cX6_dual 33 = .ok (.ireturn, 1) := by decide +kernel
set_option maxRecDepth 20000 in
theorem ggX6_system_X3_has : GoodIn wsX6_system wsX3_has := goodIn_r _ [7, 8, 21, 22, 23, 24, 25] (by decide +kernel) (by decide +kernel)
set_option maxRecDepth 20000 in
theorem gX6_system_X3_has : GoodIn wsX6_system (wsV RX6 84 RX3 yX3_has wsX3_has) := goodIn_app (goodIn_of _ (by decide +kernel)) ggX6_system_X3_has
set_option maxRecDepth 20000 in
theorem ggX6_system_X1_forget : GoodIn wsX6_system wsX1_forget := goodIn_r _ [13, 14, 26, 27, 28, 29, 30, 31, 32] (by decide +kernel) (by decide +kernel)
set_option maxRecDepth 20000 in
theorem gX6_system_X1_forget : GoodIn wsX6_system (wsV RX6 65 RX1 yX1_forget wsX1_forget) := goodIn_app (goodIn_of _ (by decide +kernel)) ggX6_system_X1_forget
theorem dX6_system_0 : decode cX6_system 0 = .ok (.aload_n 0, 1) := by decide +kernel
theorem dX6_system_1 : decode cX6_system 1 = .ok (.getfield 19, 3) := by decide +kernel
theorem dX6_system_4 : decode cX6_system 4 = .ok (.iload_n 1, 1) := by decide +kernel
theorem dX6_system_5 : decode cX6_system 5 = .ok (.invokevirtual 84, 3) := by decide +kernel
theorem dX6_system_8 : decode cX6_system 8 = .ok (.ifCond .ne 5, 3) := by decide +kernel
theorem dX6_system_11 : decode cX6_system 11 = .ok (.iconst 0, 1) := by decide +kernel
theorem dX6_system_12 : decode cX6_system 12 = .ok (.ireturn, 1) := by decide +kernel
theorem dX6_system_13 : decode cX6_system 13 = .ok (.aload_n 0, 1) := by decide +kernel
theorem dX6_system_14 : decode cX6_system 14 = .ok (.getfield 19, 3) := by decide +kernel
theorem dX6_system_17 : decode cX6_system 17 = .ok (.getfield 102, 3) := by decide +kernel
theorem dX6_system_20 : decode cX6_system 20 = .ok (.iload_n 1, 1) := by decide +kernel
theorem dX6_system_21 : decode cX6_system 21 = .ok (.if_icmp .eq 18, 3) := by decide +kernel
theorem dX6_system_24 : decode cX6_system 24 = .ok (.aload_n 0, 1) := by decide +kernel
theorem dX6_system_25 : decode cX6_system 25 = .ok (.getfield 19, 3) := by decide +kernel
theorem dX6_system_28 : decode cX6_system 28 = .ok (.iload_n 1, 1) := by decide +kernel
theorem dX6_system_29 : decode cX6_system 29 = .ok (.putfield 102, 3) := by decide +kernel
theorem dX6_system_32 : decode cX6_system 32 = .ok (.aload_n 0, 1) := by decide +kernel
theorem dX6_system_33 : decode cX6_system 33 = .ok (.getfield 35, 3) := by decide +kernel
theorem dX6_system_36 : decode cX6_system 36 = .ok (.invokevirtual 65, 3) := by decide +kernel
theorem dX6_system_39 : decode cX6_system 39 = .ok (.iconst 1, 1) := by decide +kernel
theorem dX6_system_40 : decode cX6_system 40 = .ok (.ireturn, 1) := by decide +kernel
set_option maxRecDepth 20000 in
theorem ggX6_says_X3_has : GoodIn wsX6_says wsX3_has := goodIn_r _ [7, 8, 26, 27, 28, 29, 30] (by decide +kernel) (by decide +kernel)
set_option maxRecDepth 20000 in
theorem gX6_says_X3_has : GoodIn wsX6_says (wsV RX6 84 RX3 yX3_has wsX3_has) := goodIn_app (goodIn_of _ (by decide +kernel)) ggX6_says_X3_has
set_option maxRecDepth 20000 in
theorem ggX6_says_X4_hasSet : GoodIn wsX6_says wsX4_hasSet := goodIn_r _ [13, 14, 31, 32, 33, 34, 35, 36] (by decide +kernel) (by decide +kernel)
set_option maxRecDepth 20000 in
theorem gX6_says_X4_hasSet : GoodIn wsX6_says (wsV RX6 92 RX4 yX4_hasSet wsX4_hasSet) := goodIn_app (goodIn_of _ (by decide +kernel)) ggX6_says_X4_hasSet
set_option maxRecDepth 20000 in
theorem ggX6_says_X3_isGood : GoodIn wsX6_says wsX3_isGood := goodIn_r _ [18, 19, 26, 27, 28, 29, 30] (by decide +kernel) (by decide +kernel)
set_option maxRecDepth 20000 in
theorem gX6_says_X3_isGood : GoodIn wsX6_says (wsV RX6 106 RX3 yX3_isGood wsX3_isGood) := goodIn_app (goodIn_of _ (by decide +kernel)) ggX6_says_X3_isGood
theorem dX6_says_0 : decode cX6_says 0 = .ok (.aload_n 0, 1) := by decide +kernel
theorem dX6_says_1 : decode cX6_says 1 = .ok (.getfield 19, 3) := by decide +kernel
theorem dX6_says_4 : decode cX6_says 4 = .ok (.iload_n 1, 1) := by decide +kernel
theorem dX6_says_5 : decode cX6_says 5 = .ok (.invokevirtual 84, 3) := by decide +kernel
theorem dX6_says_8 : decode cX6_says 8 = .ok (.ifCond .eq 14, 3) := by decide +kernel
theorem dX6_says_11 : decode cX6_says 11 = .ok (.aload_n 0, 1) := by decide +kernel
theorem dX6_says_12 : decode cX6_says 12 = .ok (.getfield 10, 3) := by decide +kernel
theorem dX6_says_15 : decode cX6_says 15 = .ok (.iload_n 2, 1) := by decide +kernel
theorem dX6_says_16 : decode cX6_says 16 = .ok (.invokevirtual 92, 3) := by decide +kernel
theorem dX6_says_19 : decode cX6_says 19 = .ok (.ifCond .ne 5, 3) := by decide +kernel
theorem dX6_says_22 : decode cX6_says 22 = .ok (.iconst (-1), 1) := by decide +kernel
theorem dX6_says_23 : decode cX6_says 23 = .ok (.ireturn, 1) := by decide +kernel
theorem dX6_says_24 : decode cX6_says 24 = .ok (.aload_n 0, 1) := by decide +kernel
theorem dX6_says_25 : decode cX6_says 25 = .ok (.getfield 19, 3) := by decide +kernel
theorem dX6_says_28 : decode cX6_says 28 = .ok (.iload_n 1, 1) := by decide +kernel
theorem dX6_says_29 : decode cX6_says 29 = .ok (.iload_n 2, 1) := by decide +kernel
theorem dX6_says_30 : decode cX6_says 30 = .ok (.invokevirtual 106, 3) := by decide +kernel
theorem dX6_says_33 : decode cX6_says 33 = .ok (.ifCond .eq 7, 3) := by decide +kernel
theorem dX6_says_36 : decode cX6_says 36 = .ok (.iconst 1, 1) := by decide +kernel
theorem dX6_says_37 : decode cX6_says 37 = .ok (.goto 4, 3) := by decide +kernel
theorem dX6_says_40 : decode cX6_says 40 = .ok (.iconst 0, 1) := by decide +kernel
theorem dX6_says_41 : decode cX6_says 41 = .ok (.ireturn, 1) := by decide +kernel
set_option maxRecDepth 20000 in
theorem ggX6_differ_X3_has : GoodIn wsX6_differ wsX3_has := goodIn_r _ [6, 7, 24, 25, 26, 27, 28] (by decide +kernel) (by decide +kernel)
set_option maxRecDepth 20000 in
theorem gX6_differ_X3_has : GoodIn wsX6_differ (wsV RX6 84 RX3 yX3_has wsX3_has) := goodIn_app (goodIn_of _ (by decide +kernel)) ggX6_differ_X3_has
set_option maxRecDepth 20000 in
theorem ggX6_differ_X3_firstUnlike : GoodIn wsX6_differ wsX3_firstUnlike := goodIn_r _ [11, 12, 13, 14, 15, 5, 16, 17, 24, 25, 26, 27, 28] (by decide +kernel) (by decide +kernel)
set_option maxRecDepth 20000 in
theorem gX6_differ_X3_firstUnlike : GoodIn wsX6_differ (wsV RX6 110 RX3 yX3_firstUnlike wsX3_firstUnlike) := goodIn_app (goodIn_of _ (by decide +kernel)) ggX6_differ_X3_firstUnlike
theorem dX6_differ_0 : decode cX6_differ 0 = .ok (.aload_n 0, 1) := by decide +kernel
theorem dX6_differ_1 : decode cX6_differ 1 = .ok (.getfield 19, 3) := by decide +kernel
theorem dX6_differ_4 : decode cX6_differ 4 = .ok (.iload_n 1, 1) := by decide +kernel
theorem dX6_differ_5 : decode cX6_differ 5 = .ok (.invokevirtual 84, 3) := by decide +kernel
theorem dX6_differ_8 : decode cX6_differ 8 = .ok (.ifCond .eq 26, 3) := by decide +kernel
theorem dX6_differ_11 : decode cX6_differ 11 = .ok (.aload_n 0, 1) := by decide +kernel
theorem dX6_differ_12 : decode cX6_differ 12 = .ok (.getfield 19, 3) := by decide +kernel
theorem dX6_differ_15 : decode cX6_differ 15 = .ok (.iload_n 2, 1) := by decide +kernel
theorem dX6_differ_16 : decode cX6_differ 16 = .ok (.invokevirtual 84, 3) := by decide +kernel
theorem dX6_differ_19 : decode cX6_differ 19 = .ok (.ifCond .eq 15, 3) := by decide +kernel
theorem dX6_differ_22 : decode cX6_differ 22 = .ok (.aload_n 0, 1) := by decide +kernel
theorem dX6_differ_23 : decode cX6_differ 23 = .ok (.getfield 19, 3) := by decide +kernel
theorem dX6_differ_26 : decode cX6_differ 26 = .ok (.iload_n 1, 1) := by decide +kernel
theorem dX6_differ_27 : decode cX6_differ 27 = .ok (.iload_n 2, 1) := by decide +kernel
theorem dX6_differ_28 : decode cX6_differ 28 = .ok (.invokevirtual 110, 3) := by decide +kernel
theorem dX6_differ_31 : decode cX6_differ 31 = .ok (.goto 4, 3) := by decide +kernel
theorem dX6_differ_34 : decode cX6_differ 34 = .ok (.iconst (-1), 1) := by decide +kernel
theorem dX6_differ_35 : decode cX6_differ 35 = .ok (.ireturn, 1) := by decide +kernel
set_option maxRecDepth 20000 in
theorem ggX6_sets_X3_hasSystem : GoodIn wsX6_sets wsX3_hasSystem := goodIn_r _ [6, 7, 8, 9, 10, 5, 11, 12, 41, 42, 43, 44, 45] (by decide +kernel) (by decide +kernel)
set_option maxRecDepth 20000 in
theorem gX6_sets_X3_hasSystem : GoodIn wsX6_sets (wsV RX6 113 RX3 yX3_hasSystem wsX3_hasSystem) := goodIn_app (goodIn_of _ (by decide +kernel)) ggX6_sets_X3_hasSystem
set_option maxRecDepth 20000 in
theorem ggX6_sets_X3_countLeast : GoodIn wsX6_sets wsX3_countLeast := goodIn_r _ [16, 17, 18, 19, 20, 5, 21, 22, 23, 24, 25, 26, 27, 28, 29, 7, 30, 31, 32, 33, 34, 41, 42, 43, 44, 45] (by decide +kernel) (by decide +kernel)
set_option maxRecDepth 20000 in
theorem gX6_sets_X3_countLeast : GoodIn wsX6_sets (wsV RX6 116 RX3 yX3_countLeast wsX3_countLeast) := goodIn_app (goodIn_of _ (by decide +kernel)) ggX6_sets_X3_countLeast
theorem dX6_sets_0 : decode cX6_sets 0 = .ok (.iload_n 1, 1) := by decide +kernel
theorem dX6_sets_1 : decode cX6_sets 1 = .ok (.ifCond .lt 18, 3) := by decide +kernel
theorem dX6_sets_4 : decode cX6_sets 4 = .ok (.iload_n 1, 1) := by decide +kernel
theorem dX6_sets_5 : decode cX6_sets 5 = .ok (.iconst 1, 1) := by decide +kernel
theorem dX6_sets_6 : decode cX6_sets 6 = .ok (.if_icmp .gt 13, 3) := by decide +kernel
theorem dX6_sets_9 : decode cX6_sets 9 = .ok (.aload_n 0, 1) := by decide +kernel
theorem dX6_sets_10 : decode cX6_sets 10 = .ok (.getfield 19, 3) := by decide +kernel
theorem dX6_sets_13 : decode cX6_sets 13 = .ok (.invokevirtual 113, 3) := by decide +kernel
theorem dX6_sets_16 : decode cX6_sets 16 = .ok (.ifCond .ne 5, 3) := by decide +kernel
theorem dX6_sets_19 : decode cX6_sets 19 = .ok (.iconst (-1), 1) := by decide +kernel
theorem dX6_sets_20 : decode cX6_sets 20 = .ok (.ireturn, 1) := by decide +kernel
theorem dX6_sets_21 : decode cX6_sets 21 = .ok (.aload_n 0, 1) := by decide +kernel
theorem dX6_sets_22 : decode cX6_sets 22 = .ok (.getfield 19, 3) := by decide +kernel
theorem dX6_sets_25 : decode cX6_sets 25 = .ok (.iload_n 1, 1) := by decide +kernel
theorem dX6_sets_26 : decode cX6_sets 26 = .ok (.ifCond .ne 7, 3) := by decide +kernel
theorem dX6_sets_29 : decode cX6_sets 29 = .ok (.iconst 1, 1) := by decide +kernel
theorem dX6_sets_30 : decode cX6_sets 30 = .ok (.goto 4, 3) := by decide +kernel
theorem dX6_sets_33 : decode cX6_sets 33 = .ok (.iconst 0, 1) := by decide +kernel
theorem dX6_sets_34 : decode cX6_sets 34 = .ok (.invokevirtual 116, 3) := by decide +kernel
theorem dX6_sets_37 : decode cX6_sets 37 = .ok (.ireturn, 1) := by decide +kernel
set_option maxRecDepth 20000 in
theorem ggX6_set_X3_hasSystem : GoodIn wsX6_set wsX3_hasSystem := goodIn_r _ [6, 7, 8, 9, 10, 5, 11, 12, 41, 42, 43, 44, 45] (by decide +kernel) (by decide +kernel)
set_option maxRecDepth 20000 in
theorem gX6_set_X3_hasSystem : GoodIn wsX6_set (wsV RX6 113 RX3 yX3_hasSystem wsX3_hasSystem) := goodIn_app (goodIn_of _ (by decide +kernel)) ggX6_set_X3_hasSystem
set_option maxRecDepth 20000 in
theorem ggX6_set_X3_findLeast : GoodIn wsX6_set wsX3_findLeast := goodIn_r _ [16, 17, 18, 19, 20, 5, 21, 22, 23, 24, 25, 26, 27, 28, 29, 7, 30, 31, 32, 33, 34, 41, 42, 43, 44, 45] (by decide +kernel) (by decide +kernel)
set_option maxRecDepth 20000 in
theorem gX6_set_X3_findLeast : GoodIn wsX6_set (wsV RX6 120 RX3 yX3_findLeast wsX3_findLeast) := goodIn_app (goodIn_of _ (by decide +kernel)) ggX6_set_X3_findLeast
theorem dX6_set_0 : decode cX6_set 0 = .ok (.iload_n 1, 1) := by decide +kernel
theorem dX6_set_1 : decode cX6_set 1 = .ok (.ifCond .lt 22, 3) := by decide +kernel
theorem dX6_set_4 : decode cX6_set 4 = .ok (.iload_n 1, 1) := by decide +kernel
theorem dX6_set_5 : decode cX6_set 5 = .ok (.iconst 1, 1) := by decide +kernel
theorem dX6_set_6 : decode cX6_set 6 = .ok (.if_icmp .gt 17, 3) := by decide +kernel
theorem dX6_set_9 : decode cX6_set 9 = .ok (.iload_n 2, 1) := by decide +kernel
theorem dX6_set_10 : decode cX6_set 10 = .ok (.ifCond .lt 13, 3) := by decide +kernel
theorem dX6_set_13 : decode cX6_set 13 = .ok (.aload_n 0, 1) := by decide +kernel
theorem dX6_set_14 : decode cX6_set 14 = .ok (.getfield 19, 3) := by decide +kernel
theorem dX6_set_17 : decode cX6_set 17 = .ok (.invokevirtual 113, 3) := by decide +kernel
theorem dX6_set_20 : decode cX6_set 20 = .ok (.ifCond .ne 5, 3) := by decide +kernel
theorem dX6_set_23 : decode cX6_set 23 = .ok (.iconst (-1), 1) := by decide +kernel
theorem dX6_set_24 : decode cX6_set 24 = .ok (.ireturn, 1) := by decide +kernel
theorem dX6_set_25 : decode cX6_set 25 = .ok (.aload_n 0, 1) := by decide +kernel
theorem dX6_set_26 : decode cX6_set 26 = .ok (.getfield 19, 3) := by decide +kernel
theorem dX6_set_29 : decode cX6_set 29 = .ok (.iload_n 1, 1) := by decide +kernel
theorem dX6_set_30 : decode cX6_set 30 = .ok (.ifCond .ne 7, 3) := by decide +kernel
theorem dX6_set_33 : decode cX6_set 33 = .ok (.iconst 1, 1) := by decide +kernel
theorem dX6_set_34 : decode cX6_set 34 = .ok (.goto 4, 3) := by decide +kernel
theorem dX6_set_37 : decode cX6_set 37 = .ok (.iconst 0, 1) := by decide +kernel
theorem dX6_set_38 : decode cX6_set 38 = .ok (.iload_n 2, 1) := by decide +kernel
theorem dX6_set_39 : decode cX6_set 39 = .ok (.invokevirtual 120, 3) := by decide +kernel
theorem dX6_set_42 : decode cX6_set 42 = .ok (.ireturn, 1) := by decide +kernel
set_option maxRecDepth 20000 in
theorem ggX6_see_X4_has : GoodIn wsX6_see wsX4_has := goodIn_r _ [6, 7, 20, 21, 22, 23, 24, 25] (by decide +kernel) (by decide +kernel)
set_option maxRecDepth 20000 in
theorem gX6_see_X4_has : GoodIn wsX6_see (wsV RX6 68 RX4 yX4_has wsX4_has) := goodIn_app (goodIn_of _ (by decide +kernel)) ggX6_see_X4_has
set_option maxRecDepth 20000 in
theorem ggX6_see_X4_note : GoodIn wsX6_see wsX4_note := goodIn_r _ [11, 12, 13, 20, 21, 22, 23, 24, 25] (by decide +kernel) (by decide +kernel)
set_option maxRecDepth 20000 in
theorem gX6_see_X4_note : GoodIn wsX6_see (wsV RX6 124 RX4 yX4_note wsX4_note) := goodIn_app (goodIn_of _ (by decide +kernel)) ggX6_see_X4_note
theorem dX6_see_0 : decode cX6_see 0 = .ok (.aload_n 0, 1) := by decide +kernel
theorem dX6_see_1 : decode cX6_see 1 = .ok (.getfield 10, 3) := by decide +kernel
theorem dX6_see_4 : decode cX6_see 4 = .ok (.iload_n 1, 1) := by decide +kernel
theorem dX6_see_5 : decode cX6_see 5 = .ok (.invokevirtual 68, 3) := by decide +kernel
theorem dX6_see_8 : decode cX6_see 8 = .ok (.ifCond .eq 13, 3) := by decide +kernel
theorem dX6_see_11 : decode cX6_see 11 = .ok (.iload_n 2, 1) := by decide +kernel
theorem dX6_see_12 : decode cX6_see 12 = .ok (.iconst (-1), 1) := by decide +kernel
theorem dX6_see_13 : decode cX6_see 13 = .ok (.if_icmp .lt 8, 3) := by decide +kernel
theorem dX6_see_16 : decode cX6_see 16 = .ok (.iload_n 2, 1) := by decide +kernel
theorem dX6_see_17 : decode cX6_see 17 = .ok (.iconst 1, 1) := by decide +kernel
theorem dX6_see_18 : decode cX6_see 18 = .ok (.if_icmp .le 5, 3) := by decide +kernel
theorem dX6_see_21 : decode cX6_see 21 = .ok (.iconst 0, 1) := by decide +kernel
theorem dX6_see_22 : decode cX6_see 22 = .ok (.ireturn, 1) := by decide +kernel
theorem dX6_see_23 : decode cX6_see 23 = .ok (.aload_n 0, 1) := by decide +kernel
theorem dX6_see_24 : decode cX6_see 24 = .ok (.getfield 10, 3) := by decide +kernel
theorem dX6_see_27 : decode cX6_see 27 = .ok (.iload_n 1, 1) := by decide +kernel
theorem dX6_see_28 : decode cX6_see 28 = .ok (.iload_n 2, 1) := by decide +kernel
theorem dX6_see_29 : decode cX6_see 29 = .ok (.invokevirtual 124, 3) := by decide +kernel
theorem dX6_see_32 : decode cX6_see 32 = .ok (.iconst 1, 1) := by decide +kernel
theorem dX6_see_33 : decode cX6_see 33 = .ok (.ireturn, 1) := by decide +kernel
set_option maxRecDepth 20000 in
theorem ggX6_partOf_X4_has : GoodIn wsX6_partOf wsX4_has := goodIn_r _ [6, 7, 20, 21, 22, 23, 24, 25] (by decide +kernel) (by decide +kernel)
set_option maxRecDepth 20000 in
theorem gX6_partOf_X4_has : GoodIn wsX6_partOf (wsV RX6 68 RX4 yX4_has wsX4_has) := goodIn_app (goodIn_of _ (by decide +kernel)) ggX6_partOf_X4_has
set_option maxRecDepth 20000 in
theorem ggX6_partOf_X4_noted : GoodIn wsX6_partOf wsX4_noted := goodIn_r _ [11, 12, 13, 20, 21, 22, 23, 24, 25] (by decide +kernel) (by decide +kernel)
set_option maxRecDepth 20000 in
theorem gX6_partOf_X4_noted : GoodIn wsX6_partOf (wsV RX6 138 RX4 yX4_noted wsX4_noted) := goodIn_app (goodIn_of _ (by decide +kernel)) ggX6_partOf_X4_noted
theorem dX6_partOf_0 : decode cX6_partOf 0 = .ok (.aload_n 0, 1) := by decide +kernel
theorem dX6_partOf_1 : decode cX6_partOf 1 = .ok (.getfield 10, 3) := by decide +kernel
theorem dX6_partOf_4 : decode cX6_partOf 4 = .ok (.iload_n 1, 1) := by decide +kernel
theorem dX6_partOf_5 : decode cX6_partOf 5 = .ok (.invokevirtual 68, 3) := by decide +kernel
theorem dX6_partOf_8 : decode cX6_partOf 8 = .ok (.ifCond .ne 6, 3) := by decide +kernel
theorem dX6_partOf_11 : decode cX6_partOf 11 = .ok (.bipush (-2), 2) := by decide +kernel
theorem dX6_partOf_13 : decode cX6_partOf 13 = .ok (.ireturn, 1) := by decide +kernel
theorem dX6_partOf_14 : decode cX6_partOf 14 = .ok (.iload_n 2, 1) := by decide +kernel
theorem dX6_partOf_15 : decode cX6_partOf 15 = .ok (.tableswitch 68 0 3 #[29, 39, 49, 59], 29) := by decide +kernel
theorem dX6_partOf_44 : decode cX6_partOf 44 = .ok (.aload_n 0, 1) := by decide +kernel
theorem dX6_partOf_45 : decode cX6_partOf 45 = .ok (.getfield 10, 3) := by decide +kernel
theorem dX6_partOf_48 : decode cX6_partOf 48 = .ok (.getfield 128, 3) := by decide +kernel
theorem dX6_partOf_51 : decode cX6_partOf 51 = .ok (.iload_n 1, 1) := by decide +kernel
theorem dX6_partOf_52 : decode cX6_partOf 52 = .ok (.iaload, 1) := by decide +kernel
theorem dX6_partOf_53 : decode cX6_partOf 53 = .ok (.ireturn, 1) := by decide +kernel
theorem dX6_partOf_54 : decode cX6_partOf 54 = .ok (.aload_n 0, 1) := by decide +kernel
theorem dX6_partOf_55 : decode cX6_partOf 55 = .ok (.getfield 10, 3) := by decide +kernel
theorem dX6_partOf_58 : decode cX6_partOf 58 = .ok (.getfield 132, 3) := by decide +kernel
theorem dX6_partOf_61 : decode cX6_partOf 61 = .ok (.iload_n 1, 1) := by decide +kernel
theorem dX6_partOf_62 : decode cX6_partOf 62 = .ok (.iaload, 1) := by decide +kernel
theorem dX6_partOf_63 : decode cX6_partOf 63 = .ok (.ireturn, 1) := by decide +kernel
theorem dX6_partOf_64 : decode cX6_partOf 64 = .ok (.aload_n 0, 1) := by decide +kernel
theorem dX6_partOf_65 : decode cX6_partOf 65 = .ok (.getfield 10, 3) := by decide +kernel
theorem dX6_partOf_68 : decode cX6_partOf 68 = .ok (.getfield 135, 3) := by decide +kernel
theorem dX6_partOf_71 : decode cX6_partOf 71 = .ok (.iload_n 1, 1) := by decide +kernel
theorem dX6_partOf_72 : decode cX6_partOf 72 = .ok (.iaload, 1) := by decide +kernel
theorem dX6_partOf_73 : decode cX6_partOf 73 = .ok (.ireturn, 1) := by decide +kernel
theorem dX6_partOf_74 : decode cX6_partOf 74 = .ok (.aload_n 0, 1) := by decide +kernel
theorem dX6_partOf_75 : decode cX6_partOf 75 = .ok (.getfield 10, 3) := by decide +kernel
theorem dX6_partOf_78 : decode cX6_partOf 78 = .ok (.iload_n 1, 1) := by decide +kernel
theorem dX6_partOf_79 : decode cX6_partOf 79 = .ok (.invokevirtual 138, 3) := by decide +kernel
theorem dX6_partOf_82 : decode cX6_partOf 82 = .ok (.ireturn, 1) := by decide +kernel
theorem dX6_partOf_83 : decode cX6_partOf 83 = .ok (.bipush (-2), 2) := by decide +kernel
theorem dX6_partOf_85 : decode cX6_partOf 85 = .ok (.ireturn, 1) := by decide +kernel
set_option maxRecDepth 20000 in
theorem ggX6_sure_X3_hasSystem : GoodIn wsX6_sure wsX3_hasSystem := goodIn_r _ [7, 8, 9, 10, 11, 6, 12, 13, 46, 47, 48, 49, 50] (by decide +kernel) (by decide +kernel)
set_option maxRecDepth 20000 in
theorem gX6_sure_X3_hasSystem : GoodIn wsX6_sure (wsV RX6 113 RX3 yX3_hasSystem wsX3_hasSystem) := goodIn_app (goodIn_of _ (by decide +kernel)) ggX6_sure_X3_hasSystem
set_option maxRecDepth 20000 in
theorem ggX6_sure_X4_unseen : GoodIn wsX6_sure wsX4_unseen := goodIn_r _ [18, 19, 20, 40, 41, 42, 43, 44, 45] (by decide +kernel) (by decide +kernel)
set_option maxRecDepth 20000 in
theorem gX6_sure_X4_unseen : GoodIn wsX6_sure (wsV RX6 144 RX4 yX4_unseen wsX4_unseen) := goodIn_app (goodIn_of _ (by decide +kernel)) ggX6_sure_X4_unseen
set_option maxRecDepth 20000 in
theorem ggX6_sure_X3_verdict : GoodIn wsX6_sure wsX3_verdict := goodIn_r _ [24, 25, 26, 27, 6, 28, 8, 29, 30, 31, 32, 33, 46, 47, 48, 49, 50] (by decide +kernel) (by decide +kernel)
set_option maxRecDepth 20000 in
theorem gX6_sure_X3_verdict : GoodIn wsX6_sure (wsV RX6 148 RX3 yX3_verdict wsX3_verdict) := goodIn_app (goodIn_of _ (by decide +kernel)) ggX6_sure_X3_verdict
theorem dX6_sure_0 : decode cX6_sure 0 = .ok (.aload_n 0, 1) := by decide +kernel
theorem dX6_sure_1 : decode cX6_sure 1 = .ok (.getfield 19, 3) := by decide +kernel
theorem dX6_sure_4 : decode cX6_sure 4 = .ok (.invokevirtual 113, 3) := by decide +kernel
theorem dX6_sure_7 : decode cX6_sure 7 = .ok (.ifCond .eq 27, 3) := by decide +kernel
theorem dX6_sure_10 : decode cX6_sure 10 = .ok (.aload_n 0, 1) := by decide +kernel
theorem dX6_sure_11 : decode cX6_sure 11 = .ok (.getfield 19, 3) := by decide +kernel
theorem dX6_sure_14 : decode cX6_sure 14 = .ok (.aload_n 0, 1) := by decide +kernel
theorem dX6_sure_15 : decode cX6_sure 15 = .ok (.getfield 10, 3) := by decide +kernel
theorem dX6_sure_18 : decode cX6_sure 18 = .ok (.getfield 141, 3) := by decide +kernel
theorem dX6_sure_21 : decode cX6_sure 21 = .ok (.aload_n 0, 1) := by decide +kernel
theorem dX6_sure_22 : decode cX6_sure 22 = .ok (.getfield 10, 3) := by decide +kernel
theorem dX6_sure_25 : decode cX6_sure 25 = .ok (.invokevirtual 144, 3) := by decide +kernel
theorem dX6_sure_28 : decode cX6_sure 28 = .ok (.invokevirtual 148, 3) := by decide +kernel
theorem dX6_sure_31 : decode cX6_sure 31 = .ok (.goto 5, 3) := by decide +kernel
theorem dX6_sure_34 : decode cX6_sure 34 = .ok (.bipush (-2), 2) := by decide +kernel
theorem dX6_sure_36 : decode cX6_sure 36 = .ok (.ireturn, 1) := by decide +kernel
set_option maxRecDepth 20000 in
theorem ggX6_told_X4_left : GoodIn wsX6_told wsX4_left := goodIn_r _ [10, 11, 12, 13, 184, 185, 186, 187, 188, 189] (by decide +kernel) (by decide +kernel)
set_option maxRecDepth 20000 in
theorem gX6_told_X4_left : GoodIn wsX6_told (wsV RX6 154 RX4 yX4_left wsX4_left) := goodIn_app (goodIn_of _ (by decide +kernel)) ggX6_told_X4_left
set_option maxRecDepth 20000 in
theorem ggX6_told_X3_hasSystem : GoodIn wsX6_told wsX3_hasSystem := goodIn_r _ [18, 19, 20, 21, 22, 17, 23, 24, 190, 191, 192, 193, 194] (by decide +kernel) (by decide +kernel)
set_option maxRecDepth 20000 in
theorem gX6_told_X3_hasSystem : GoodIn wsX6_told (wsV RX6 113 RX3 yX3_hasSystem wsX3_hasSystem) := goodIn_app (goodIn_of _ (by decide +kernel)) ggX6_told_X3_hasSystem
set_option maxRecDepth 20000 in
theorem ggX6_told_X0_goodWeights : GoodIn wsX6_told wsX0_goodWeights := goodIn_r _ [29, 30, 31, 32, 33, 34, 9, 35, 36, 37, 38, 39, 40, 17, 41, 19, 42, 43, 44, 45, 46, 47, 48, 49, 50, 11, 51, 7, 8, 10, 12, 13, 195, 196, 197, 184, 185, 186, 187, 188, 189, 190, 191, 192, 193, 194] (by decide +kernel) (by decide +kernel)
set_option maxRecDepth 20000 in
theorem gX6_told_X0_goodWeights : GoodIn wsX6_told (wsV RX6 160 RX0 yX0_goodWeights wsX0_goodWeights) := goodIn_app (goodIn_of _ (by decide +kernel)) ggX6_told_X0_goodWeights
set_option maxRecDepth 20000 in
theorem ggX6_told_X1_bestMean : GoodIn wsX6_told wsX1_bestMean := goodIn_r _ [56, 57, 58, 59, 60, 55, 61, 62, 63, 64, 65, 66, 67, 68, 69, 70, 71, 17, 72, 73, 39, 40, 41, 19, 42, 43, 44, 45, 46, 74, 75, 76, 77, 78, 79, 80, 81, 82, 83, 84, 85, 86, 87, 88, 89, 90, 91, 92, 93, 198, 199, 200, 201, 202, 203, 204, 184, 185, 186, 187, 188, 189, 190, 191, 192, 193, 194] (by decide +kernel) (by decide +kernel)
set_option maxRecDepth 20000 in
theorem gX6_told_X1_bestMean : GoodIn wsX6_told (wsV RX6 164 RX1 yX1_bestMean wsX1_bestMean) := goodIn_app (goodIn_of _ (by decide +kernel)) ggX6_told_X1_bestMean
set_option maxRecDepth 20000 in
theorem ggX6_told_X1_next : GoodIn wsX6_told wsX1_next := goodIn_r _ [97, 64, 68, 98, 69, 70, 71, 17, 72, 73, 39, 40, 41, 19, 42, 43, 44, 45, 46, 99, 100, 101, 102, 103, 104, 105, 58, 59, 60, 55, 61, 62, 63, 57, 65, 66, 67, 74, 75, 76, 77, 78, 79, 80, 81, 82, 83, 84, 85, 86, 87, 88, 89, 90, 91, 92, 93, 106, 7, 8, 9, 10, 11, 12, 13, 107, 108, 109, 110, 111, 112, 113, 114, 115, 116, 117, 118, 119, 120, 121, 122, 123, 124, 125, 126, 198, 199, 200, 201, 202, 203, 204, 184, 185, 186, 187, 188, 189, 190, 191, 192, 193, 194, 205, 206] (by decide +kernel) (by decide +kernel)
set_option maxRecDepth 20000 in
theorem gX6_told_X1_next : GoodIn wsX6_told (wsV RX6 167 RX1 yX1_next wsX1_next) := goodIn_app (goodIn_of _ (by decide +kernel)) ggX6_told_X1_next
set_option maxRecDepth 20000 in
theorem ggX6_told_X1_worstPrice : GoodIn wsX6_told wsX1_worstPrice := goodIn_r _ [130, 67, 58, 59, 60, 55, 61, 62, 63, 64, 57, 65, 66, 68, 69, 70, 71, 17, 72, 73, 39, 40, 41, 19, 42, 43, 44, 45, 46, 74, 75, 76, 77, 78, 79, 80, 81, 82, 83, 84, 85, 86, 87, 88, 89, 90, 91, 92, 93, 198, 199, 200, 201, 202, 203, 204, 184, 185, 186, 187, 188, 189, 190, 191, 192, 193, 194] (by decide +kernel) (by decide +kernel)
set_option maxRecDepth 20000 in
theorem gX6_told_X1_worstPrice : GoodIn wsX6_told (wsV RX6 171 RX1 yX1_worstPrice wsX1_worstPrice) := goodIn_app (goodIn_of _ (by decide +kernel)) ggX6_told_X1_worstPrice
set_option maxRecDepth 20000 in
theorem ggX6_told_X0_bound : GoodIn wsX6_told wsX0_bound := goodIn_r _ [134, 135, 136, 137, 28, 138, 30, 31, 139, 32, 33, 34, 9, 35, 36, 37, 140, 141, 142, 17, 143, 144, 73, 39, 40, 41, 19, 42, 43, 44, 45, 46, 145, 146, 147, 148, 149, 150, 125, 151, 152, 153, 154, 155, 11, 156, 157, 158, 159, 160, 47, 48, 49, 50, 51, 7, 8, 10, 12, 13, 195, 196, 197, 184, 185, 186, 187, 188, 189, 190, 191, 192, 193, 194] (by decide +kernel) (by decide +kernel)
set_option maxRecDepth 20000 in
theorem gX6_told_X0_bound : GoodIn wsX6_told (wsV RX6 174 RX0 yX0_bound wsX0_bound) := goodIn_app (goodIn_of _ (by decide +kernel)) ggX6_told_X0_bound
set_option maxRecDepth 20000 in
theorem ggX6_told_X1_orderMean : GoodIn wsX6_told wsX1_orderMean := goodIn_r _ [164, 64, 165, 166, 167, 55, 168, 169, 95, 96, 97, 68, 98, 69, 70, 71, 17, 72, 73, 39, 40, 41, 19, 42, 43, 44, 45, 46, 99, 100, 101, 102, 103, 104, 105, 58, 59, 60, 61, 62, 63, 57, 65, 66, 67, 74, 75, 76, 77, 78, 79, 80, 81, 82, 83, 84, 85, 86, 87, 88, 89, 90, 91, 92, 93, 106, 7, 8, 9, 10, 11, 12, 13, 107, 108, 109, 110, 111, 112, 113, 114, 115, 116, 117, 118, 119, 120, 121, 122, 123, 124, 125, 126, 198, 199, 200, 201, 202, 203, 204, 184, 185, 186, 187, 188, 189, 190, 191, 192, 193, 194, 205, 206] (by decide +kernel) (by decide +kernel)
set_option maxRecDepth 20000 in
theorem gX6_told_X1_orderMean : GoodIn wsX6_told (wsV RX6 177 RX1 yX1_orderMean wsX1_orderMean) := goodIn_app (goodIn_of _ (by decide +kernel)) ggX6_told_X1_orderMean
set_option maxRecDepth 20000 in
theorem ggX6_told_X1_orderWorst : GoodIn wsX6_told wsX1_orderWorst := goodIn_r _ [173, 64, 174, 175, 176, 55, 177, 123, 124, 125, 126, 169, 95, 96, 97, 68, 98, 69, 70, 71, 17, 72, 73, 39, 40, 41, 19, 42, 43, 44, 45, 46, 99, 100, 101, 102, 103, 104, 105, 58, 59, 60, 61, 62, 63, 57, 65, 66, 67, 74, 75, 76, 77, 78, 79, 80, 81, 82, 83, 84, 85, 86, 87, 88, 89, 90, 91, 92, 93, 106, 7, 8, 9, 10, 11, 12, 13, 107, 108, 109, 110, 111, 112, 113, 114, 115, 116, 117, 118, 119, 120, 121, 122, 198, 199, 200, 201, 202, 203, 204, 184, 185, 186, 187, 188, 189, 190, 191, 192, 193, 194, 205, 206] (by decide +kernel) (by decide +kernel)
set_option maxRecDepth 20000 in
theorem gX6_told_X1_orderWorst : GoodIn wsX6_told (wsV RX6 180 RX1 yX1_orderWorst wsX1_orderWorst) := goodIn_app (goodIn_of _ (by decide +kernel)) ggX6_told_X1_orderWorst
theorem dX6_told_0 : decode cX6_told 0 = .ok (.aload_n 0, 1) := by decide +kernel
theorem dX6_told_1 : decode cX6_told 1 = .ok (.getfield 10, 3) := by decide +kernel
theorem dX6_told_4 : decode cX6_told 4 = .ok (.getfield 151, 3) := by decide +kernel
theorem dX6_told_7 : decode cX6_told 7 = .ok (.istore_n 2, 1) := by decide +kernel
theorem dX6_told_8 : decode cX6_told 8 = .ok (.aload_n 0, 1) := by decide +kernel
theorem dX6_told_9 : decode cX6_told 9 = .ok (.getfield 10, 3) := by decide +kernel
theorem dX6_told_12 : decode cX6_told 12 = .ok (.getfield 141, 3) := by decide +kernel
theorem dX6_told_15 : decode cX6_told 15 = .ok (.istore_n 3, 1) := by decide +kernel
theorem dX6_told_16 : decode cX6_told 16 = .ok (.iload_n 1, 1) := by decide +kernel
theorem dX6_told_17 : decode cX6_told 17 = .ok (.ifCond .ne 13, 3) := by decide +kernel
theorem dX6_told_20 : decode cX6_told 20 = .ok (.aload_n 0, 1) := by decide +kernel
theorem dX6_told_21 : decode cX6_told 21 = .ok (.getfield 10, 3) := by decide +kernel
theorem dX6_told_24 : decode cX6_told 24 = .ok (.iload_n 2, 1) := by decide +kernel
theorem dX6_told_25 : decode cX6_told 25 = .ok (.iload_n 3, 1) := by decide +kernel
theorem dX6_told_26 : decode cX6_told 26 = .ok (.invokevirtual 154, 3) := by decide +kernel
theorem dX6_told_29 : decode cX6_told 29 = .ok (.lreturn, 1) := by decide +kernel
theorem dX6_told_30 : decode cX6_told 30 = .ok (.aload_n 0, 1) := by decide +kernel
theorem dX6_told_31 : decode cX6_told 31 = .ok (.getfield 19, 3) := by decide +kernel
theorem dX6_told_34 : decode cX6_told 34 = .ok (.invokevirtual 113, 3) := by decide +kernel
theorem dX6_told_37 : decode cX6_told 37 = .ok (.ifCond .ne 7, 3) := by decide +kernel
theorem dX6_told_40 : decode cX6_told 40 = .ok (.ldc2_w 158, 3) := by decide +kernel
theorem dX6_told_43 : decode cX6_told 43 = .ok (.lreturn, 1) := by decide +kernel
theorem dX6_told_44 : decode cX6_told 44 = .ok (.iload_n 1, 1) := by decide +kernel
theorem dX6_told_45 : decode cX6_told 45 = .ok (.tableswitch 125 1 8 #[47, 55, 65, 77, 88, 100, 108, 116], 47) := by decide +kernel
theorem dX6_told_92 : decode cX6_told 92 = .ok (.aload_n 0, 1) := by decide +kernel
theorem dX6_told_93 : decode cX6_told 93 = .ok (.getfield 44, 3) := by decide +kernel
theorem dX6_told_96 : decode cX6_told 96 = .ok (.invokevirtual 160, 3) := by decide +kernel
theorem dX6_told_99 : decode cX6_told 99 = .ok (.lreturn, 1) := by decide +kernel
theorem dX6_told_100 : decode cX6_told 100 = .ok (.aload_n 0, 1) := by decide +kernel
theorem dX6_told_101 : decode cX6_told 101 = .ok (.getfield 35, 3) := by decide +kernel
theorem dX6_told_104 : decode cX6_told 104 = .ok (.iload_n 2, 1) := by decide +kernel
theorem dX6_told_105 : decode cX6_told 105 = .ok (.iload_n 3, 1) := by decide +kernel
theorem dX6_told_106 : decode cX6_told 106 = .ok (.invokevirtual 164, 3) := by decide +kernel
theorem dX6_told_109 : decode cX6_told 109 = .ok (.lreturn, 1) := by decide +kernel
theorem dX6_told_110 : decode cX6_told 110 = .ok (.aload_n 0, 1) := by decide +kernel
theorem dX6_told_111 : decode cX6_told 111 = .ok (.getfield 35, 3) := by decide +kernel
theorem dX6_told_114 : decode cX6_told 114 = .ok (.iconst 0, 1) := by decide +kernel
theorem dX6_told_115 : decode cX6_told 115 = .ok (.iload_n 2, 1) := by decide +kernel
theorem dX6_told_116 : decode cX6_told 116 = .ok (.iload_n 3, 1) := by decide +kernel
theorem dX6_told_117 : decode cX6_told 117 = .ok (.invokevirtual 167, 3) := by decide +kernel
theorem dX6_told_120 : decode cX6_told 120 = .ok (.i2l, 1) := by decide +kernel
theorem dX6_told_121 : decode cX6_told 121 = .ok (.lreturn, 1) := by decide +kernel
theorem dX6_told_122 : decode cX6_told 122 = .ok (.aload_n 0, 1) := by decide +kernel
theorem dX6_told_123 : decode cX6_told 123 = .ok (.getfield 35, 3) := by decide +kernel
theorem dX6_told_126 : decode cX6_told 126 = .ok (.iload_n 2, 1) := by decide +kernel
theorem dX6_told_127 : decode cX6_told 127 = .ok (.iload_n 3, 1) := by decide +kernel
theorem dX6_told_128 : decode cX6_told 128 = .ok (.invokevirtual 171, 3) := by decide +kernel
theorem dX6_told_131 : decode cX6_told 131 = .ok (.i2l, 1) := by decide +kernel
theorem dX6_told_132 : decode cX6_told 132 = .ok (.lreturn, 1) := by decide +kernel
theorem dX6_told_133 : decode cX6_told 133 = .ok (.aload_n 0, 1) := by decide +kernel
theorem dX6_told_134 : decode cX6_told 134 = .ok (.getfield 35, 3) := by decide +kernel
theorem dX6_told_137 : decode cX6_told 137 = .ok (.iconst 1, 1) := by decide +kernel
theorem dX6_told_138 : decode cX6_told 138 = .ok (.iload_n 2, 1) := by decide +kernel
theorem dX6_told_139 : decode cX6_told 139 = .ok (.iload_n 3, 1) := by decide +kernel
theorem dX6_told_140 : decode cX6_told 140 = .ok (.invokevirtual 167, 3) := by decide +kernel
theorem dX6_told_143 : decode cX6_told 143 = .ok (.i2l, 1) := by decide +kernel
theorem dX6_told_144 : decode cX6_told 144 = .ok (.lreturn, 1) := by decide +kernel
theorem dX6_told_145 : decode cX6_told 145 = .ok (.aload_n 0, 1) := by decide +kernel
theorem dX6_told_146 : decode cX6_told 146 = .ok (.getfield 44, 3) := by decide +kernel
theorem dX6_told_149 : decode cX6_told 149 = .ok (.invokevirtual 174, 3) := by decide +kernel
theorem dX6_told_152 : decode cX6_told 152 = .ok (.lreturn, 1) := by decide +kernel
theorem dX6_told_153 : decode cX6_told 153 = .ok (.aload_n 0, 1) := by decide +kernel
theorem dX6_told_154 : decode cX6_told 154 = .ok (.getfield 35, 3) := by decide +kernel
theorem dX6_told_157 : decode cX6_told 157 = .ok (.invokevirtual 177, 3) := by decide +kernel
theorem dX6_told_160 : decode cX6_told 160 = .ok (.lreturn, 1) := by decide +kernel
theorem dX6_told_161 : decode cX6_told 161 = .ok (.aload_n 0, 1) := by decide +kernel
theorem dX6_told_162 : decode cX6_told 162 = .ok (.getfield 35, 3) := by decide +kernel
theorem dX6_told_165 : decode cX6_told 165 = .ok (.invokevirtual 180, 3) := by decide +kernel
theorem dX6_told_168 : decode cX6_told 168 = .ok (.i2l, 1) := by decide +kernel
theorem dX6_told_169 : decode cX6_told 169 = .ok (.lreturn, 1) := by decide +kernel
theorem dX6_told_170 : decode cX6_told 170 = .ok (.ldc2_w 158, 3) := by decide +kernel
theorem dX6_told_173 : decode cX6_told 173 = .ok (.lreturn, 1) := by decide +kernel
set_option maxRecDepth 20000 in
theorem ggX6_of_X4_has : GoodIn wsX6_of wsX4_has := goodIn_r _ [10, 11, 107, 108, 109, 110, 111, 112] (by decide +kernel) (by decide +kernel)
set_option maxRecDepth 20000 in
theorem gX6_of_X4_has : GoodIn wsX6_of (wsV RX6 68 RX4 yX4_has wsX4_has) := goodIn_app (goodIn_of _ (by decide +kernel)) ggX6_of_X4_has
set_option maxRecDepth 20000 in
theorem ggX6_of_X4_noted : GoodIn wsX6_of wsX4_noted := goodIn_r _ [15, 16, 17, 107, 108, 109, 110, 111, 112] (by decide +kernel) (by decide +kernel)
set_option maxRecDepth 20000 in
theorem gX6_of_X4_noted : GoodIn wsX6_of (wsV RX6 138 RX4 yX4_noted wsX4_noted) := goodIn_app (goodIn_of _ (by decide +kernel)) ggX6_of_X4_noted
set_option maxRecDepth 20000 in
theorem ggX6_of_X3_hasSystem : GoodIn wsX6_of wsX3_hasSystem := goodIn_r _ [22, 23, 24, 25, 26, 21, 27, 28, 113, 114, 115, 116, 117] (by decide +kernel) (by decide +kernel)
set_option maxRecDepth 20000 in
theorem gX6_of_X3_hasSystem : GoodIn wsX6_of (wsV RX6 113 RX3 yX3_hasSystem wsX3_hasSystem) := goodIn_app (goodIn_of _ (by decide +kernel)) ggX6_of_X3_hasSystem
set_option maxRecDepth 20000 in
theorem ggX6_of_X1_gain : GoodIn wsX6_of wsX1_gain := goodIn_r _ [33, 34, 35, 36, 37, 38, 39, 32, 40, 41, 42, 43, 44, 45, 46, 47, 48, 21, 49, 50, 51, 52, 53, 23, 54, 55, 56, 57, 58, 59, 60, 61, 62, 63, 64, 65, 66, 67, 68, 69, 70, 71, 72, 73, 74, 75, 76, 77, 78, 118, 119, 120, 121, 122, 123, 124, 107, 108, 109, 110, 111, 112, 113, 114, 115, 116, 117] (by decide +kernel) (by decide +kernel)
set_option maxRecDepth 20000 in
theorem gX6_of_X1_gain : GoodIn wsX6_of (wsV RX6 183 RX1 yX1_gain wsX1_gain) := goodIn_app (goodIn_of _ (by decide +kernel)) ggX6_of_X1_gain
set_option maxRecDepth 20000 in
theorem ggX6_of_X0_matters : GoodIn wsX6_of wsX0_matters := goodIn_r _ [83, 84, 85, 86, 87, 88, 9, 89, 16, 17, 90, 51, 52, 21, 53, 23, 54, 55, 56, 57, 58, 91, 92, 93, 94, 11, 95, 96, 97, 98, 99, 100, 125, 126, 127, 107, 108, 109, 110, 111, 112, 113, 114, 115, 116, 117] (by decide +kernel) (by decide +kernel)
set_option maxRecDepth 20000 in
theorem gX6_of_X0_matters : GoodIn wsX6_of (wsV RX6 187 RX0 yX0_matters wsX0_matters) := goodIn_app (goodIn_of _ (by decide +kernel)) ggX6_of_X0_matters
theorem dX6_of_0 : decode cX6_of 0 = .ok (.aload_n 0, 1) := by decide +kernel
theorem dX6_of_1 : decode cX6_of 1 = .ok (.getfield 10, 3) := by decide +kernel
theorem dX6_of_4 : decode cX6_of 4 = .ok (.iload_n 1, 1) := by decide +kernel
theorem dX6_of_5 : decode cX6_of 5 = .ok (.invokevirtual 68, 3) := by decide +kernel
theorem dX6_of_8 : decode cX6_of 8 = .ok (.ifCond .eq 25, 3) := by decide +kernel
theorem dX6_of_11 : decode cX6_of 11 = .ok (.aload_n 0, 1) := by decide +kernel
theorem dX6_of_12 : decode cX6_of 12 = .ok (.getfield 10, 3) := by decide +kernel
theorem dX6_of_15 : decode cX6_of 15 = .ok (.iload_n 1, 1) := by decide +kernel
theorem dX6_of_16 : decode cX6_of 16 = .ok (.invokevirtual 138, 3) := by decide +kernel
theorem dX6_of_19 : decode cX6_of 19 = .ok (.iconst (-1), 1) := by decide +kernel
theorem dX6_of_20 : decode cX6_of 20 = .ok (.if_icmp .ne 13, 3) := by decide +kernel
theorem dX6_of_23 : decode cX6_of 23 = .ok (.aload_n 0, 1) := by decide +kernel
theorem dX6_of_24 : decode cX6_of 24 = .ok (.getfield 19, 3) := by decide +kernel
theorem dX6_of_27 : decode cX6_of 27 = .ok (.invokevirtual 113, 3) := by decide +kernel
theorem dX6_of_30 : decode cX6_of 30 = .ok (.ifCond .ne 7, 3) := by decide +kernel
theorem dX6_of_33 : decode cX6_of 33 = .ok (.ldc2_w 158, 3) := by decide +kernel
theorem dX6_of_36 : decode cX6_of 36 = .ok (.lreturn, 1) := by decide +kernel
theorem dX6_of_37 : decode cX6_of 37 = .ok (.iload_n 2, 1) := by decide +kernel
theorem dX6_of_38 : decode cX6_of 38 = .ok (.lookupswitch 44 #[(0, 26), (1, 35)], 26) := by decide +kernel
theorem dX6_of_64 : decode cX6_of 64 = .ok (.aload_n 0, 1) := by decide +kernel
theorem dX6_of_65 : decode cX6_of 65 = .ok (.getfield 35, 3) := by decide +kernel
theorem dX6_of_68 : decode cX6_of 68 = .ok (.iload_n 1, 1) := by decide +kernel
theorem dX6_of_69 : decode cX6_of 69 = .ok (.invokevirtual 183, 3) := by decide +kernel
theorem dX6_of_72 : decode cX6_of 72 = .ok (.lreturn, 1) := by decide +kernel
theorem dX6_of_73 : decode cX6_of 73 = .ok (.aload_n 0, 1) := by decide +kernel
theorem dX6_of_74 : decode cX6_of 74 = .ok (.getfield 44, 3) := by decide +kernel
theorem dX6_of_77 : decode cX6_of 77 = .ok (.iload_n 1, 1) := by decide +kernel
theorem dX6_of_78 : decode cX6_of 78 = .ok (.invokevirtual 187, 3) := by decide +kernel
theorem dX6_of_81 : decode cX6_of 81 = .ok (.lreturn, 1) := by decide +kernel
theorem dX6_of_82 : decode cX6_of 82 = .ok (.ldc2_w 158, 3) := by decide +kernel
theorem dX6_of_85 : decode cX6_of 85 = .ok (.lreturn, 1) := by decide +kernel
set_option maxRecDepth 20000 in
theorem ggX6_order_X4_has : GoodIn wsX6_order wsX4_has := goodIn_r _ [7, 8, 28, 29, 30, 31, 32, 33] (by decide +kernel) (by decide +kernel)
set_option maxRecDepth 20000 in
theorem gX6_order_X4_has : GoodIn wsX6_order (wsV RX6 68 RX4 yX4_has wsX4_has) := goodIn_app (goodIn_of _ (by decide +kernel)) ggX6_order_X4_has
set_option maxRecDepth 20000 in
theorem ggX6_order_X2_holds : GoodIn wsX6_order wsX2_holds := goodIn_r _ [13, 14, 15, 26, 27] (by decide +kernel) (by decide +kernel)
set_option maxRecDepth 20000 in
theorem gX6_order_X2_holds : GoodIn wsX6_order (wsV RX6 190 RX2 yX2_holds wsX2_holds) := goodIn_app (goodIn_of _ (by decide +kernel)) ggX6_order_X2_holds
set_option maxRecDepth 20000 in
theorem ggX6_order_X2_append : GoodIn wsX6_order wsX2_append := goodIn_r _ [19, 14, 15, 26, 27] (by decide +kernel) (by decide +kernel)
set_option maxRecDepth 20000 in
theorem gX6_order_X2_append : GoodIn wsX6_order (wsV RX6 193 RX2 yX2_append wsX2_append) := goodIn_app (goodIn_of _ (by decide +kernel)) ggX6_order_X2_append
theorem dX6_order_0 : decode cX6_order 0 = .ok (.aload_n 0, 1) := by decide +kernel
theorem dX6_order_1 : decode cX6_order 1 = .ok (.getfield 10, 3) := by decide +kernel
theorem dX6_order_4 : decode cX6_order 4 = .ok (.iload_n 1, 1) := by decide +kernel
theorem dX6_order_5 : decode cX6_order 5 = .ok (.invokevirtual 68, 3) := by decide +kernel
theorem dX6_order_8 : decode cX6_order 8 = .ok (.ifCond .eq 14, 3) := by decide +kernel
theorem dX6_order_11 : decode cX6_order 11 = .ok (.aload_n 0, 1) := by decide +kernel
theorem dX6_order_12 : decode cX6_order 12 = .ok (.getfield 26, 3) := by decide +kernel
theorem dX6_order_15 : decode cX6_order 15 = .ok (.iload_n 1, 1) := by decide +kernel
theorem dX6_order_16 : decode cX6_order 16 = .ok (.invokevirtual 190, 3) := by decide +kernel
theorem dX6_order_19 : decode cX6_order 19 = .ok (.ifCond .eq 5, 3) := by decide +kernel
theorem dX6_order_22 : decode cX6_order 22 = .ok (.iconst (-1), 1) := by decide +kernel
theorem dX6_order_23 : decode cX6_order 23 = .ok (.ireturn, 1) := by decide +kernel
theorem dX6_order_24 : decode cX6_order 24 = .ok (.aload_n 0, 1) := by decide +kernel
theorem dX6_order_25 : decode cX6_order 25 = .ok (.getfield 26, 3) := by decide +kernel
theorem dX6_order_28 : decode cX6_order 28 = .ok (.iload_n 1, 1) := by decide +kernel
theorem dX6_order_29 : decode cX6_order 29 = .ok (.invokevirtual 193, 3) := by decide +kernel
theorem dX6_order_32 : decode cX6_order 32 = .ok (.aload_n 0, 1) := by decide +kernel
theorem dX6_order_33 : decode cX6_order 33 = .ok (.getfield 26, 3) := by decide +kernel
theorem dX6_order_36 : decode cX6_order 36 = .ok (.getfield 196, 3) := by decide +kernel
theorem dX6_order_39 : decode cX6_order 39 = .ok (.ireturn, 1) := by decide +kernel
set_option maxRecDepth 20000 in
theorem ggX6_ratios_X2_clear : GoodIn wsX6_ratios wsX2_clear := goodIn_r _ [7, 8, 23, 24] (by decide +kernel) (by decide +kernel)
set_option maxRecDepth 20000 in
theorem gX6_ratios_X2_clear : GoodIn wsX6_ratios (wsV RX6 62 RX2 yX2_clear wsX2_clear) := goodIn_app (goodIn_of _ (by decide +kernel)) ggX6_ratios_X2_clear
set_option maxRecDepth 20000 in
theorem ggX6_ratios_X2_fillByRatios : GoodIn wsX6_ratios wsX2_fillByRatios := goodIn_r _ [12, 13, 8, 14, 15, 6, 16, 25, 26, 27, 28, 29, 30, 23, 24] (by decide +kernel) (by decide +kernel)
set_option maxRecDepth 20000 in
theorem gX6_ratios_X2_fillByRatios : GoodIn wsX6_ratios (wsV RX6 199 RX2 yX2_fillByRatios wsX2_fillByRatios) := goodIn_app (goodIn_of _ (by decide +kernel)) ggX6_ratios_X2_fillByRatios
theorem dX6_ratios_0 : decode cX6_ratios 0 = .ok (.aload_n 0, 1) := by decide +kernel
theorem dX6_ratios_1 : decode cX6_ratios 1 = .ok (.getfield 26, 3) := by decide +kernel
theorem dX6_ratios_4 : decode cX6_ratios 4 = .ok (.invokevirtual 62, 3) := by decide +kernel
theorem dX6_ratios_7 : decode cX6_ratios 7 = .ok (.iload_n 2, 1) := by decide +kernel
theorem dX6_ratios_8 : decode cX6_ratios 8 = .ok (.ifCond .ne 15, 3) := by decide +kernel
theorem dX6_ratios_11 : decode cX6_ratios 11 = .ok (.aload_n 0, 1) := by decide +kernel
theorem dX6_ratios_12 : decode cX6_ratios 12 = .ok (.getfield 26, 3) := by decide +kernel
theorem dX6_ratios_15 : decode cX6_ratios 15 = .ok (.aload_n 0, 1) := by decide +kernel
theorem dX6_ratios_16 : decode cX6_ratios 16 = .ok (.getfield 10, 3) := by decide +kernel
theorem dX6_ratios_19 : decode cX6_ratios 19 = .ok (.iload_n 1, 1) := by decide +kernel
theorem dX6_ratios_20 : decode cX6_ratios 20 = .ok (.invokevirtual 199, 3) := by decide +kernel
theorem dX6_ratios_23 : decode cX6_ratios 23 = .ok (.aload_n 0, 1) := by decide +kernel
theorem dX6_ratios_24 : decode cX6_ratios 24 = .ok (.getfield 26, 3) := by decide +kernel
theorem dX6_ratios_27 : decode cX6_ratios 27 = .ok (.getfield 196, 3) := by decide +kernel
theorem dX6_ratios_30 : decode cX6_ratios 30 = .ok (.ireturn, 1) := by decide +kernel
theorem dX6_ordered_0 : decode cX6_ordered 0 = .ok (.iload_n 1, 1) := by decide +kernel
theorem dX6_ordered_1 : decode cX6_ordered 1 = .ok (.ifCond .lt 26, 3) := by decide +kernel
theorem dX6_ordered_4 : decode cX6_ordered 4 = .ok (.iload_n 1, 1) := by decide +kernel
theorem dX6_ordered_5 : decode cX6_ordered 5 = .ok (.aload_n 0, 1) := by decide +kernel
theorem dX6_ordered_6 : decode cX6_ordered 6 = .ok (.getfield 26, 3) := by decide +kernel
theorem dX6_ordered_9 : decode cX6_ordered 9 = .ok (.getfield 196, 3) := by decide +kernel
theorem dX6_ordered_12 : decode cX6_ordered 12 = .ok (.if_icmp .ge 15, 3) := by decide +kernel
theorem dX6_ordered_15 : decode cX6_ordered 15 = .ok (.aload_n 0, 1) := by decide +kernel
theorem dX6_ordered_16 : decode cX6_ordered 16 = .ok (.getfield 26, 3) := by decide +kernel
theorem dX6_ordered_19 : decode cX6_ordered 19 = .ok (.getfield 203, 3) := by decide +kernel
theorem dX6_ordered_22 : decode cX6_ordered 22 = .ok (.iload_n 1, 1) := by decide +kernel
theorem dX6_ordered_23 : decode cX6_ordered 23 = .ok (.iaload, 1) := by decide +kernel
theorem dX6_ordered_24 : decode cX6_ordered 24 = .ok (.goto 4, 3) := by decide +kernel
theorem dX6_ordered_27 : decode cX6_ordered 27 = .ok (.iconst (-1), 1) := by decide +kernel
theorem dX6_ordered_28 : decode cX6_ordered 28 = .ok (.ireturn, 1) := by decide +kernel
set_option maxRecDepth 20000 in
theorem ggX6_run_X3_hasSystem : GoodIn wsX6_run wsX3_hasSystem := goodIn_r _ [7, 8, 9, 10, 11, 6, 12, 13, 130, 131, 132, 133, 134] (by decide +kernel) (by decide +kernel)
set_option maxRecDepth 20000 in
theorem gX6_run_X3_hasSystem : GoodIn wsX6_run (wsV RX6 113 RX3 yX3_hasSystem wsX3_hasSystem) := goodIn_app (goodIn_of _ (by decide +kernel)) ggX6_run_X3_hasSystem
set_option maxRecDepth 20000 in
theorem ggX6_run_X4_hasSet : GoodIn wsX6_run wsX4_hasSet := goodIn_r _ [18, 19, 135, 136, 137, 138, 139, 140] (by decide +kernel) (by decide +kernel)
set_option maxRecDepth 20000 in
theorem gX6_run_X4_hasSet : GoodIn wsX6_run (wsV RX6 92 RX4 yX4_hasSet wsX4_hasSet) := goodIn_app (goodIn_of _ (by decide +kernel)) ggX6_run_X4_hasSet
set_option maxRecDepth 20000 in
theorem ggX6_run_X4_fits : GoodIn wsX6_run wsX4_fits := goodIn_r _ [23, 24, 25, 135, 136, 137, 138, 139, 140] (by decide +kernel) (by decide +kernel)
set_option maxRecDepth 20000 in
theorem gX6_run_X4_fits : GoodIn wsX6_run (wsV RX6 206 RX4 yX4_fits wsX4_fits) := goodIn_app (goodIn_of _ (by decide +kernel)) ggX6_run_X4_fits
set_option maxRecDepth 20000 in
theorem ggX6_run_X6_follow : GoodIn wsX6_run wsX6_follow := goodIn_r _ [30, 31, 2, 32, 33, 34, 35, 36, 37, 38, 39, 40, 41, 42, 43, 6, 44, 45, 46, 47, 48, 8, 49, 50, 51, 52, 53, 54, 55, 56, 57, 58, 59, 60, 61, 62, 63, 64, 65, 66, 67, 68, 69, 70, 71, 72, 73, 74, 75, 76, 77, 78, 79, 80, 81, 82, 83, 84, 85, 86, 87, 88, 89, 90, 91, 92, 93, 17, 94, 19, 95, 96, 97, 98, 99, 100, 101, 102, 103, 104, 105, 106, 107, 108, 109, 110, 111, 112, 113, 114, 115, 116, 117, 118, 119, 120, 121, 122, 123, 124, 125, 126, 127, 128, 129, 141, 142, 135, 136, 137, 138, 139, 140, 143, 144, 145, 146, 147, 148, 149, 130, 131, 132, 133, 134, 150, 151] (by decide +kernel) (by decide +kernel)
set_option maxRecDepth 20000 in
theorem gX6_run_X6_follow : GoodIn wsX6_run (wsV RX6 209 RX6 yX6_follow wsX6_follow) := goodIn_app (goodIn_of _ (by decide +kernel)) ggX6_run_X6_follow
theorem dX6_run_0 : decode cX6_run 0 = .ok (.iload_n 1, 1) := by decide +kernel
theorem dX6_run_1 : decode cX6_run 1 = .ok (.ifCond .lt 18, 3) := by decide +kernel
theorem dX6_run_4 : decode cX6_run 4 = .ok (.iload_n 1, 1) := by decide +kernel
theorem dX6_run_5 : decode cX6_run 5 = .ok (.iconst 2, 1) := by decide +kernel
theorem dX6_run_6 : decode cX6_run 6 = .ok (.if_icmp .gt 13, 3) := by decide +kernel
theorem dX6_run_9 : decode cX6_run 9 = .ok (.aload_n 0, 1) := by decide +kernel
theorem dX6_run_10 : decode cX6_run 10 = .ok (.getfield 19, 3) := by decide +kernel
theorem dX6_run_13 : decode cX6_run 13 = .ok (.invokevirtual 113, 3) := by decide +kernel
theorem dX6_run_16 : decode cX6_run 16 = .ok (.ifCond .ne 5, 3) := by decide +kernel
theorem dX6_run_19 : decode cX6_run 19 = .ok (.iconst (-1), 1) := by decide +kernel
theorem dX6_run_20 : decode cX6_run 20 = .ok (.ireturn, 1) := by decide +kernel
theorem dX6_run_21 : decode cX6_run 21 = .ok (.aload_n 0, 1) := by decide +kernel
theorem dX6_run_22 : decode cX6_run 22 = .ok (.getfield 10, 3) := by decide +kernel
theorem dX6_run_25 : decode cX6_run 25 = .ok (.iload_n 2, 1) := by decide +kernel
theorem dX6_run_26 : decode cX6_run 26 = .ok (.invokevirtual 92, 3) := by decide +kernel
theorem dX6_run_29 : decode cX6_run 29 = .ok (.ifCond .eq 14, 3) := by decide +kernel
theorem dX6_run_32 : decode cX6_run 32 = .ok (.aload_n 0, 1) := by decide +kernel
theorem dX6_run_33 : decode cX6_run 33 = .ok (.getfield 10, 3) := by decide +kernel
theorem dX6_run_36 : decode cX6_run 36 = .ok (.iload_n 2, 1) := by decide +kernel
theorem dX6_run_37 : decode cX6_run 37 = .ok (.invokevirtual 206, 3) := by decide +kernel
theorem dX6_run_40 : decode cX6_run 40 = .ok (.ifCond .ne 5, 3) := by decide +kernel
theorem dX6_run_43 : decode cX6_run 43 = .ok (.iconst (-1), 1) := by decide +kernel
theorem dX6_run_44 : decode cX6_run 44 = .ok (.ireturn, 1) := by decide +kernel
theorem dX6_run_45 : decode cX6_run 45 = .ok (.aload_n 0, 1) := by decide +kernel
theorem dX6_run_46 : decode cX6_run 46 = .ok (.iload_n 1, 1) := by decide +kernel
theorem dX6_run_47 : decode cX6_run 47 = .ok (.iload_n 2, 1) := by decide +kernel
theorem dX6_run_48 : decode cX6_run 48 = .ok (.invokevirtual 209, 3) := by decide +kernel
theorem dX6_run_51 : decode cX6_run 51 = .ok (.ireturn, 1) := by decide +kernel
theorem dX6_looked_0 : decode cX6_looked 0 = .ok (.iload_n 1, 1) := by decide +kernel
theorem dX6_looked_1 : decode cX6_looked 1 = .ok (.ifCond .lt 26, 3) := by decide +kernel
theorem dX6_looked_4 : decode cX6_looked 4 = .ok (.iload_n 1, 1) := by decide +kernel
theorem dX6_looked_5 : decode cX6_looked 5 = .ok (.aload_n 0, 1) := by decide +kernel
theorem dX6_looked_6 : decode cX6_looked 6 = .ok (.getfield 51, 3) := by decide +kernel
theorem dX6_looked_9 : decode cX6_looked 9 = .ok (.getfield 212, 3) := by decide +kernel
theorem dX6_looked_12 : decode cX6_looked 12 = .ok (.if_icmp .ge 15, 3) := by decide +kernel
theorem dX6_looked_15 : decode cX6_looked 15 = .ok (.aload_n 0, 1) := by decide +kernel
theorem dX6_looked_16 : decode cX6_looked 16 = .ok (.getfield 51, 3) := by decide +kernel
theorem dX6_looked_19 : decode cX6_looked 19 = .ok (.getfield 213, 3) := by decide +kernel
theorem dX6_looked_22 : decode cX6_looked 22 = .ok (.iload_n 1, 1) := by decide +kernel
theorem dX6_looked_23 : decode cX6_looked 23 = .ok (.iaload, 1) := by decide +kernel
theorem dX6_looked_24 : decode cX6_looked 24 = .ok (.goto 4, 3) := by decide +kernel
theorem dX6_looked_27 : decode cX6_looked 27 = .ok (.iconst (-1), 1) := by decide +kernel
theorem dX6_looked_28 : decode cX6_looked 28 = .ok (.ireturn, 1) := by decide +kernel
theorem dX6_about_0 : decode cX6_about 0 = .ok (.iload_n 1, 1) := by decide +kernel
theorem dX6_about_1 : decode cX6_about 1 = .ok (.tableswitch 75 0 4 #[35, 43, 51, 59, 67], 35) := by decide +kernel
theorem dX6_about_36 : decode cX6_about 36 = .ok (.aload_n 0, 1) := by decide +kernel
theorem dX6_about_37 : decode cX6_about 37 = .ok (.getfield 10, 3) := by decide +kernel
theorem dX6_about_40 : decode cX6_about 40 = .ok (.getfield 216, 3) := by decide +kernel
theorem dX6_about_43 : decode cX6_about 43 = .ok (.ireturn, 1) := by decide +kernel
theorem dX6_about_44 : decode cX6_about 44 = .ok (.aload_n 0, 1) := by decide +kernel
theorem dX6_about_45 : decode cX6_about 45 = .ok (.getfield 19, 3) := by decide +kernel
theorem dX6_about_48 : decode cX6_about 48 = .ok (.getfield 217, 3) := by decide +kernel
theorem dX6_about_51 : decode cX6_about 51 = .ok (.ireturn, 1) := by decide +kernel
theorem dX6_about_52 : decode cX6_about 52 = .ok (.aload_n 0, 1) := by decide +kernel
theorem dX6_about_53 : decode cX6_about 53 = .ok (.getfield 19, 3) := by decide +kernel
theorem dX6_about_56 : decode cX6_about 56 = .ok (.getfield 102, 3) := by decide +kernel
theorem dX6_about_59 : decode cX6_about 59 = .ok (.ireturn, 1) := by decide +kernel
theorem dX6_about_60 : decode cX6_about 60 = .ok (.aload_n 0, 1) := by decide +kernel
theorem dX6_about_61 : decode cX6_about 61 = .ok (.getfield 26, 3) := by decide +kernel
theorem dX6_about_64 : decode cX6_about 64 = .ok (.getfield 196, 3) := by decide +kernel
theorem dX6_about_67 : decode cX6_about 67 = .ok (.ireturn, 1) := by decide +kernel
theorem dX6_about_68 : decode cX6_about 68 = .ok (.aload_n 0, 1) := by decide +kernel
theorem dX6_about_69 : decode cX6_about 69 = .ok (.getfield 51, 3) := by decide +kernel
theorem dX6_about_72 : decode cX6_about 72 = .ok (.getfield 212, 3) := by decide +kernel
theorem dX6_about_75 : decode cX6_about 75 = .ok (.ireturn, 1) := by decide +kernel
theorem dX6_about_76 : decode cX6_about 76 = .ok (.iconst (-1), 1) := by decide +kernel
theorem dX6_about_77 : decode cX6_about 77 = .ok (.ireturn, 1) := by decide +kernel
set_option maxRecDepth 20000 in
theorem ggX6_follow_X1_next : GoodIn wsX6_follow wsX1_next := goodIn_r _ [8, 9, 10, 11, 12, 13, 14, 15, 16, 17, 18, 19, 20, 21, 22, 23, 24, 25, 26, 27, 28, 29, 30, 31, 32, 33, 34, 35, 36, 7, 37, 38, 39, 40, 41, 42, 43, 44, 45, 46, 47, 48, 49, 50, 51, 52, 53, 54, 55, 56, 57, 58, 59, 60, 61, 62, 63, 64, 65, 66, 67, 68, 69, 70, 71, 72, 73, 74, 75, 76, 77, 78, 79, 80, 81, 82, 83, 84, 85, 86, 87, 88, 89, 90, 91, 113, 114, 115, 116, 117, 118, 119, 107, 108, 109, 110, 111, 112, 120, 121, 122, 123, 124, 125, 126] (by decide +kernel) (by decide +kernel)
set_option maxRecDepth 20000 in
theorem gX6_follow_X1_next : GoodIn wsX6_follow (wsV RX6 167 RX1 yX1_next wsX1_next) := goodIn_app (goodIn_of _ (by decide +kernel)) ggX6_follow_X1_next
set_option maxRecDepth 20000 in
theorem ggX6_follow_X5_append : GoodIn wsX6_follow wsX5_append := goodIn_r _ [96, 97, 98, 105, 106] (by decide +kernel) (by decide +kernel)
set_option maxRecDepth 20000 in
theorem gX6_follow_X5_append : GoodIn wsX6_follow (wsV RX6 218 RX5 yX5_append wsX5_append) := goodIn_app (goodIn_of _ (by decide +kernel)) ggX6_follow_X5_append
theorem dX6_follow_0 : decode cX6_follow 0 = .ok (.aload_n 0, 1) := by decide +kernel
theorem dX6_follow_1 : decode cX6_follow 1 = .ok (.getfield 51, 3) := by decide +kernel
theorem dX6_follow_4 : decode cX6_follow 4 = .ok (.iconst 0, 1) := by decide +kernel
theorem dX6_follow_5 : decode cX6_follow 5 = .ok (.putfield 212, 3) := by decide +kernel
theorem dX6_follow_8 : decode cX6_follow 8 = .ok (.aload_n 0, 1) := by decide +kernel
theorem dX6_follow_9 : decode cX6_follow 9 = .ok (.getfield 10, 3) := by decide +kernel
theorem dX6_follow_12 : decode cX6_follow 12 = .ok (.getfield 151, 3) := by decide +kernel
theorem dX6_follow_15 : decode cX6_follow 15 = .ok (.istore_n 3, 1) := by decide +kernel
theorem dX6_follow_16 : decode cX6_follow 16 = .ok (.iconst 0, 1) := by decide +kernel
theorem dX6_follow_17 : decode cX6_follow 17 = .ok (.istore 4, 2) := by decide +kernel
theorem dX6_follow_19 : decode cX6_follow 19 = .ok (.iconst 0, 1) := by decide +kernel
theorem dX6_follow_20 : decode cX6_follow 20 = .ok (.istore 5, 2) := by decide +kernel
theorem dX6_follow_22 : decode cX6_follow 22 = .ok (.iload 5, 2) := by decide +kernel
theorem dX6_follow_24 : decode cX6_follow 24 = .ok (.aload_n 0, 1) := by decide +kernel
theorem dX6_follow_25 : decode cX6_follow 25 = .ok (.getfield 10, 3) := by decide +kernel
theorem dX6_follow_28 : decode cX6_follow 28 = .ok (.getfield 216, 3) := by decide +kernel
theorem dX6_follow_31 : decode cX6_follow 31 = .ok (.if_icmp .ge 63, 3) := by decide +kernel
theorem dX6_follow_34 : decode cX6_follow 34 = .ok (.aload_n 0, 1) := by decide +kernel
theorem dX6_follow_35 : decode cX6_follow 35 = .ok (.getfield 35, 3) := by decide +kernel
theorem dX6_follow_38 : decode cX6_follow 38 = .ok (.iload_n 1, 1) := by decide +kernel
theorem dX6_follow_39 : decode cX6_follow 39 = .ok (.iload_n 3, 1) := by decide +kernel
theorem dX6_follow_40 : decode cX6_follow 40 = .ok (.iload_n 2, 1) := by decide +kernel
theorem dX6_follow_41 : decode cX6_follow 41 = .ok (.iload_n 3, 1) := by decide +kernel
theorem dX6_follow_42 : decode cX6_follow 42 = .ok (.iand, 1) := by decide +kernel
theorem dX6_follow_43 : decode cX6_follow 43 = .ok (.invokevirtual 167, 3) := by decide +kernel
theorem dX6_follow_46 : decode cX6_follow 46 = .ok (.istore 6, 2) := by decide +kernel
theorem dX6_follow_48 : decode cX6_follow 48 = .ok (.iload 6, 2) := by decide +kernel
theorem dX6_follow_50 : decode cX6_follow 50 = .ok (.iconst (-1), 1) := by decide +kernel
theorem dX6_follow_51 : decode cX6_follow 51 = .ok (.if_icmp .ne 6, 3) := by decide +kernel
theorem dX6_follow_54 : decode cX6_follow 54 = .ok (.goto 40, 3) := by decide +kernel
theorem dX6_follow_57 : decode cX6_follow 57 = .ok (.aload_n 0, 1) := by decide +kernel
theorem dX6_follow_58 : decode cX6_follow 58 = .ok (.getfield 51, 3) := by decide +kernel
theorem dX6_follow_61 : decode cX6_follow 61 = .ok (.iload 6, 2) := by decide +kernel
theorem dX6_follow_63 : decode cX6_follow 63 = .ok (.invokevirtual 218, 3) := by decide +kernel
theorem dX6_follow_66 : decode cX6_follow 66 = .ok (.iload 4, 2) := by decide +kernel
theorem dX6_follow_68 : decode cX6_follow 68 = .ok (.aload_n 0, 1) := by decide +kernel
theorem dX6_follow_69 : decode cX6_follow 69 = .ok (.getfield 10, 3) := by decide +kernel
theorem dX6_follow_72 : decode cX6_follow 72 = .ok (.getfield 135, 3) := by decide +kernel
theorem dX6_follow_75 : decode cX6_follow 75 = .ok (.iload 6, 2) := by decide +kernel
theorem dX6_follow_77 : decode cX6_follow 77 = .ok (.iaload, 1) := by decide +kernel
theorem dX6_follow_78 : decode cX6_follow 78 = .ok (.iadd, 1) := by decide +kernel
theorem dX6_follow_79 : decode cX6_follow 79 = .ok (.istore 4, 2) := by decide +kernel
theorem dX6_follow_81 : decode cX6_follow 81 = .ok (.iload_n 3, 1) := by decide +kernel
theorem dX6_follow_82 : decode cX6_follow 82 = .ok (.iconst 1, 1) := by decide +kernel
theorem dX6_follow_83 : decode cX6_follow 83 = .ok (.iload 6, 2) := by decide +kernel
theorem dX6_follow_85 : decode cX6_follow 85 = .ok (.ishl, 1) := by decide +kernel
theorem dX6_follow_86 : decode cX6_follow 86 = .ok (.ior, 1) := by decide +kernel
theorem dX6_follow_87 : decode cX6_follow 87 = .ok (.istore_n 3, 1) := by decide +kernel
theorem dX6_follow_88 : decode cX6_follow 88 = .ok (.iinc 5 1, 3) := by decide +kernel
theorem dX6_follow_91 : decode cX6_follow 91 = .ok (.goto (-69), 3) := by decide +kernel
theorem dX6_follow_94 : decode cX6_follow 94 = .ok (.iload 4, 2) := by decide +kernel
theorem dX6_follow_96 : decode cX6_follow 96 = .ok (.ireturn, 1) := by decide +kernel
theorem dX7_init_0 : decode cX7_init 0 = .ok (.aload_n 0, 1) := by decide +kernel
theorem dX7_init_1 : decode cX7_init 1 = .ok (.invokespecial 1, 3) := by decide +kernel
theorem dX7_init_4 : decode cX7_init 4 = .ok (.aload_n 0, 1) := by decide +kernel
theorem dX7_init_5 : decode cX7_init 5 = .ok (.iconst 1, 1) := by decide +kernel
theorem dX7_init_6 : decode cX7_init 6 = .ok (.putfield 7, 3) := by decide +kernel
theorem dX7_init_9 : decode cX7_init 9 = .ok (.aload_n 0, 1) := by decide +kernel
theorem dX7_init_10 : decode cX7_init 10 = .ok (.bipush 9, 2) := by decide +kernel
theorem dX7_init_12 : decode cX7_init 12 = .ok (.newarray .int, 2) := by decide +kernel
theorem dX7_init_14 : decode cX7_init 14 = .ok (.dup, 1) := by decide +kernel
theorem dX7_init_15 : decode cX7_init 15 = .ok (.iconst 0, 1) := by decide +kernel
theorem dX7_init_16 : decode cX7_init 16 = .ok (.iconst 1, 1) := by decide +kernel
theorem dX7_init_17 : decode cX7_init 17 = .ok (.iastore, 1) := by decide +kernel
theorem dX7_init_18 : decode cX7_init 18 = .ok (.dup, 1) := by decide +kernel
theorem dX7_init_19 : decode cX7_init 19 = .ok (.iconst 1, 1) := by decide +kernel
theorem dX7_init_20 : decode cX7_init 20 = .ok (.iconst 1, 1) := by decide +kernel
theorem dX7_init_21 : decode cX7_init 21 = .ok (.iastore, 1) := by decide +kernel
theorem dX7_init_22 : decode cX7_init 22 = .ok (.dup, 1) := by decide +kernel
theorem dX7_init_23 : decode cX7_init 23 = .ok (.iconst 2, 1) := by decide +kernel
theorem dX7_init_24 : decode cX7_init 24 = .ok (.iconst 1, 1) := by decide +kernel
theorem dX7_init_25 : decode cX7_init 25 = .ok (.iastore, 1) := by decide +kernel
theorem dX7_init_26 : decode cX7_init 26 = .ok (.dup, 1) := by decide +kernel
theorem dX7_init_27 : decode cX7_init 27 = .ok (.iconst 3, 1) := by decide +kernel
theorem dX7_init_28 : decode cX7_init 28 = .ok (.iconst 1, 1) := by decide +kernel
theorem dX7_init_29 : decode cX7_init 29 = .ok (.iastore, 1) := by decide +kernel
theorem dX7_init_30 : decode cX7_init 30 = .ok (.dup, 1) := by decide +kernel
theorem dX7_init_31 : decode cX7_init 31 = .ok (.iconst 4, 1) := by decide +kernel
theorem dX7_init_32 : decode cX7_init 32 = .ok (.iconst 1, 1) := by decide +kernel
theorem dX7_init_33 : decode cX7_init 33 = .ok (.iastore, 1) := by decide +kernel
theorem dX7_init_34 : decode cX7_init 34 = .ok (.dup, 1) := by decide +kernel
theorem dX7_init_35 : decode cX7_init 35 = .ok (.iconst 5, 1) := by decide +kernel
theorem dX7_init_36 : decode cX7_init 36 = .ok (.iconst 1, 1) := by decide +kernel
theorem dX7_init_37 : decode cX7_init 37 = .ok (.iastore, 1) := by decide +kernel
theorem dX7_init_38 : decode cX7_init 38 = .ok (.dup, 1) := by decide +kernel
theorem dX7_init_39 : decode cX7_init 39 = .ok (.bipush 6, 2) := by decide +kernel
theorem dX7_init_41 : decode cX7_init 41 = .ok (.iconst 1, 1) := by decide +kernel
theorem dX7_init_42 : decode cX7_init 42 = .ok (.iastore, 1) := by decide +kernel
theorem dX7_init_43 : decode cX7_init 43 = .ok (.dup, 1) := by decide +kernel
theorem dX7_init_44 : decode cX7_init 44 = .ok (.bipush 7, 2) := by decide +kernel
theorem dX7_init_46 : decode cX7_init 46 = .ok (.iconst 1, 1) := by decide +kernel
theorem dX7_init_47 : decode cX7_init 47 = .ok (.iastore, 1) := by decide +kernel
theorem dX7_init_48 : decode cX7_init 48 = .ok (.dup, 1) := by decide +kernel
theorem dX7_init_49 : decode cX7_init 49 = .ok (.bipush 8, 2) := by decide +kernel
theorem dX7_init_51 : decode cX7_init 51 = .ok (.iconst 1, 1) := by decide +kernel
theorem dX7_init_52 : decode cX7_init 52 = .ok (.iastore, 1) := by decide +kernel
theorem dX7_init_53 : decode cX7_init 53 = .ok (.putfield 13, 3) := by decide +kernel
theorem dX7_init_56 : decode cX7_init 56 = .ok (.aload_n 0, 1) := by decide +kernel
theorem dX7_init_57 : decode cX7_init 57 = .ok (.bipush 9, 2) := by decide +kernel
theorem dX7_init_59 : decode cX7_init 59 = .ok (.newarray .int, 2) := by decide +kernel
theorem dX7_init_61 : decode cX7_init 61 = .ok (.dup, 1) := by decide +kernel
theorem dX7_init_62 : decode cX7_init 62 = .ok (.iconst 0, 1) := by decide +kernel
theorem dX7_init_63 : decode cX7_init 63 = .ok (.iconst 1, 1) := by decide +kernel
theorem dX7_init_64 : decode cX7_init 64 = .ok (.iastore, 1) := by decide +kernel
theorem dX7_init_65 : decode cX7_init 65 = .ok (.dup, 1) := by decide +kernel
theorem dX7_init_66 : decode cX7_init 66 = .ok (.iconst 1, 1) := by decide +kernel
theorem dX7_init_67 : decode cX7_init 67 = .ok (.iconst 1, 1) := by decide +kernel
theorem dX7_init_68 : decode cX7_init 68 = .ok (.iastore, 1) := by decide +kernel
theorem dX7_init_69 : decode cX7_init 69 = .ok (.dup, 1) := by decide +kernel
theorem dX7_init_70 : decode cX7_init 70 = .ok (.iconst 2, 1) := by decide +kernel
theorem dX7_init_71 : decode cX7_init 71 = .ok (.iconst 1, 1) := by decide +kernel
theorem dX7_init_72 : decode cX7_init 72 = .ok (.iastore, 1) := by decide +kernel
theorem dX7_init_73 : decode cX7_init 73 = .ok (.dup, 1) := by decide +kernel
theorem dX7_init_74 : decode cX7_init 74 = .ok (.iconst 3, 1) := by decide +kernel
theorem dX7_init_75 : decode cX7_init 75 = .ok (.iconst 1, 1) := by decide +kernel
theorem dX7_init_76 : decode cX7_init 76 = .ok (.iastore, 1) := by decide +kernel
theorem dX7_init_77 : decode cX7_init 77 = .ok (.dup, 1) := by decide +kernel
theorem dX7_init_78 : decode cX7_init 78 = .ok (.iconst 4, 1) := by decide +kernel
theorem dX7_init_79 : decode cX7_init 79 = .ok (.iconst 1, 1) := by decide +kernel
theorem dX7_init_80 : decode cX7_init 80 = .ok (.iastore, 1) := by decide +kernel
theorem dX7_init_81 : decode cX7_init 81 = .ok (.dup, 1) := by decide +kernel
theorem dX7_init_82 : decode cX7_init 82 = .ok (.iconst 5, 1) := by decide +kernel
theorem dX7_init_83 : decode cX7_init 83 = .ok (.iconst 1, 1) := by decide +kernel
theorem dX7_init_84 : decode cX7_init 84 = .ok (.iastore, 1) := by decide +kernel
theorem dX7_init_85 : decode cX7_init 85 = .ok (.dup, 1) := by decide +kernel
theorem dX7_init_86 : decode cX7_init 86 = .ok (.bipush 6, 2) := by decide +kernel
theorem dX7_init_88 : decode cX7_init 88 = .ok (.iconst 1, 1) := by decide +kernel
theorem dX7_init_89 : decode cX7_init 89 = .ok (.iastore, 1) := by decide +kernel
theorem dX7_init_90 : decode cX7_init 90 = .ok (.dup, 1) := by decide +kernel
theorem dX7_init_91 : decode cX7_init 91 = .ok (.bipush 7, 2) := by decide +kernel
theorem dX7_init_93 : decode cX7_init 93 = .ok (.iconst 1, 1) := by decide +kernel
theorem dX7_init_94 : decode cX7_init 94 = .ok (.iastore, 1) := by decide +kernel
theorem dX7_init_95 : decode cX7_init 95 = .ok (.dup, 1) := by decide +kernel
theorem dX7_init_96 : decode cX7_init 96 = .ok (.bipush 8, 2) := by decide +kernel
theorem dX7_init_98 : decode cX7_init 98 = .ok (.iconst 1, 1) := by decide +kernel
theorem dX7_init_99 : decode cX7_init 99 = .ok (.iastore, 1) := by decide +kernel
theorem dX7_init_100 : decode cX7_init 100 = .ok (.putfield 17, 3) := by decide +kernel
theorem dX7_init_103 : decode cX7_init 103 = .ok (.aload_n 0, 1) := by decide +kernel
theorem dX7_init_104 : decode cX7_init 104 = .ok (.bipush 9, 2) := by decide +kernel
theorem dX7_init_106 : decode cX7_init 106 = .ok (.newarray .int, 2) := by decide +kernel
theorem dX7_init_108 : decode cX7_init 108 = .ok (.dup, 1) := by decide +kernel
theorem dX7_init_109 : decode cX7_init 109 = .ok (.iconst 0, 1) := by decide +kernel
theorem dX7_init_110 : decode cX7_init 110 = .ok (.iconst 1, 1) := by decide +kernel
theorem dX7_init_111 : decode cX7_init 111 = .ok (.iastore, 1) := by decide +kernel
theorem dX7_init_112 : decode cX7_init 112 = .ok (.dup, 1) := by decide +kernel
theorem dX7_init_113 : decode cX7_init 113 = .ok (.iconst 1, 1) := by decide +kernel
theorem dX7_init_114 : decode cX7_init 114 = .ok (.iconst 1, 1) := by decide +kernel
theorem dX7_init_115 : decode cX7_init 115 = .ok (.iastore, 1) := by decide +kernel
theorem dX7_init_116 : decode cX7_init 116 = .ok (.dup, 1) := by decide +kernel
theorem dX7_init_117 : decode cX7_init 117 = .ok (.iconst 2, 1) := by decide +kernel
theorem dX7_init_118 : decode cX7_init 118 = .ok (.iconst 1, 1) := by decide +kernel
theorem dX7_init_119 : decode cX7_init 119 = .ok (.iastore, 1) := by decide +kernel
theorem dX7_init_120 : decode cX7_init 120 = .ok (.dup, 1) := by decide +kernel
theorem dX7_init_121 : decode cX7_init 121 = .ok (.iconst 3, 1) := by decide +kernel
theorem dX7_init_122 : decode cX7_init 122 = .ok (.iconst 1, 1) := by decide +kernel
theorem dX7_init_123 : decode cX7_init 123 = .ok (.iastore, 1) := by decide +kernel
theorem dX7_init_124 : decode cX7_init 124 = .ok (.dup, 1) := by decide +kernel
theorem dX7_init_125 : decode cX7_init 125 = .ok (.iconst 4, 1) := by decide +kernel
theorem dX7_init_126 : decode cX7_init 126 = .ok (.iconst 1, 1) := by decide +kernel
theorem dX7_init_127 : decode cX7_init 127 = .ok (.iastore, 1) := by decide +kernel
theorem dX7_init_128 : decode cX7_init 128 = .ok (.dup, 1) := by decide +kernel
theorem dX7_init_129 : decode cX7_init 129 = .ok (.iconst 5, 1) := by decide +kernel
theorem dX7_init_130 : decode cX7_init 130 = .ok (.iconst 1, 1) := by decide +kernel
theorem dX7_init_131 : decode cX7_init 131 = .ok (.iastore, 1) := by decide +kernel
theorem dX7_init_132 : decode cX7_init 132 = .ok (.dup, 1) := by decide +kernel
theorem dX7_init_133 : decode cX7_init 133 = .ok (.bipush 6, 2) := by decide +kernel
theorem dX7_init_135 : decode cX7_init 135 = .ok (.iconst 1, 1) := by decide +kernel
theorem dX7_init_136 : decode cX7_init 136 = .ok (.iastore, 1) := by decide +kernel
theorem dX7_init_137 : decode cX7_init 137 = .ok (.dup, 1) := by decide +kernel
theorem dX7_init_138 : decode cX7_init 138 = .ok (.bipush 7, 2) := by decide +kernel
theorem dX7_init_140 : decode cX7_init 140 = .ok (.iconst 1, 1) := by decide +kernel
theorem dX7_init_141 : decode cX7_init 141 = .ok (.iastore, 1) := by decide +kernel
theorem dX7_init_142 : decode cX7_init 142 = .ok (.dup, 1) := by decide +kernel
theorem dX7_init_143 : decode cX7_init 143 = .ok (.bipush 8, 2) := by decide +kernel
theorem dX7_init_145 : decode cX7_init 145 = .ok (.iconst 1, 1) := by decide +kernel
theorem dX7_init_146 : decode cX7_init 146 = .ok (.iastore, 1) := by decide +kernel
theorem dX7_init_147 : decode cX7_init 147 = .ok (.putfield 20, 3) := by decide +kernel
theorem dX7_init_150 : decode cX7_init 150 = .ok (.aload_n 0, 1) := by decide +kernel
theorem dX7_init_151 : decode cX7_init 151 = .ok (.sipush 20480, 3) := by decide +kernel
theorem dX7_init_154 : decode cX7_init 154 = .ok (.newarray .boolean, 2) := by decide +kernel
theorem dX7_init_156 : decode cX7_init 156 = .ok (.putfield 23, 3) := by decide +kernel
theorem dX7_init_159 : decode cX7_init 159 = .ok (.aload_n 0, 1) := by decide +kernel
theorem dX7_init_160 : decode cX7_init 160 = .ok (.iconst (-1), 1) := by decide +kernel
theorem dX7_init_161 : decode cX7_init 161 = .ok (.putfield 27, 3) := by decide +kernel
theorem dX7_init_164 : decode cX7_init 164 = .ok (.aload_n 0, 1) := by decide +kernel
theorem dX7_init_165 : decode cX7_init 165 = .ok (.bipush 9, 2) := by decide +kernel
theorem dX7_init_167 : decode cX7_init 167 = .ok (.newarray .int, 2) := by decide +kernel
theorem dX7_init_169 : decode cX7_init 169 = .ok (.dup, 1) := by decide +kernel
theorem dX7_init_170 : decode cX7_init 170 = .ok (.iconst 0, 1) := by decide +kernel
theorem dX7_init_171 : decode cX7_init 171 = .ok (.iconst (-1), 1) := by decide +kernel
theorem dX7_init_172 : decode cX7_init 172 = .ok (.iastore, 1) := by decide +kernel
theorem dX7_init_173 : decode cX7_init 173 = .ok (.dup, 1) := by decide +kernel
theorem dX7_init_174 : decode cX7_init 174 = .ok (.iconst 1, 1) := by decide +kernel
theorem dX7_init_175 : decode cX7_init 175 = .ok (.iconst (-1), 1) := by decide +kernel
theorem dX7_init_176 : decode cX7_init 176 = .ok (.iastore, 1) := by decide +kernel
theorem dX7_init_177 : decode cX7_init 177 = .ok (.dup, 1) := by decide +kernel
theorem dX7_init_178 : decode cX7_init 178 = .ok (.iconst 2, 1) := by decide +kernel
theorem dX7_init_179 : decode cX7_init 179 = .ok (.iconst (-1), 1) := by decide +kernel
theorem dX7_init_180 : decode cX7_init 180 = .ok (.iastore, 1) := by decide +kernel
theorem dX7_init_181 : decode cX7_init 181 = .ok (.dup, 1) := by decide +kernel
theorem dX7_init_182 : decode cX7_init 182 = .ok (.iconst 3, 1) := by decide +kernel
theorem dX7_init_183 : decode cX7_init 183 = .ok (.iconst (-1), 1) := by decide +kernel
theorem dX7_init_184 : decode cX7_init 184 = .ok (.iastore, 1) := by decide +kernel
theorem dX7_init_185 : decode cX7_init 185 = .ok (.dup, 1) := by decide +kernel
theorem dX7_init_186 : decode cX7_init 186 = .ok (.iconst 4, 1) := by decide +kernel
theorem dX7_init_187 : decode cX7_init 187 = .ok (.iconst (-1), 1) := by decide +kernel
theorem dX7_init_188 : decode cX7_init 188 = .ok (.iastore, 1) := by decide +kernel
theorem dX7_init_189 : decode cX7_init 189 = .ok (.dup, 1) := by decide +kernel
theorem dX7_init_190 : decode cX7_init 190 = .ok (.iconst 5, 1) := by decide +kernel
theorem dX7_init_191 : decode cX7_init 191 = .ok (.iconst (-1), 1) := by decide +kernel
theorem dX7_init_192 : decode cX7_init 192 = .ok (.iastore, 1) := by decide +kernel
theorem dX7_init_193 : decode cX7_init 193 = .ok (.dup, 1) := by decide +kernel
theorem dX7_init_194 : decode cX7_init 194 = .ok (.bipush 6, 2) := by decide +kernel
theorem dX7_init_196 : decode cX7_init 196 = .ok (.iconst (-1), 1) := by decide +kernel
theorem dX7_init_197 : decode cX7_init 197 = .ok (.iastore, 1) := by decide +kernel
theorem dX7_init_198 : decode cX7_init 198 = .ok (.dup, 1) := by decide +kernel
theorem dX7_init_199 : decode cX7_init 199 = .ok (.bipush 7, 2) := by decide +kernel
theorem dX7_init_201 : decode cX7_init 201 = .ok (.iconst (-1), 1) := by decide +kernel
theorem dX7_init_202 : decode cX7_init 202 = .ok (.iastore, 1) := by decide +kernel
theorem dX7_init_203 : decode cX7_init 203 = .ok (.dup, 1) := by decide +kernel
theorem dX7_init_204 : decode cX7_init 204 = .ok (.bipush 8, 2) := by decide +kernel
theorem dX7_init_206 : decode cX7_init 206 = .ok (.iconst (-1), 1) := by decide +kernel
theorem dX7_init_207 : decode cX7_init 207 = .ok (.iastore, 1) := by decide +kernel
theorem dX7_init_208 : decode cX7_init 208 = .ok (.putfield 30, 3) := by decide +kernel
theorem dX7_init_211 : decode cX7_init 211 = .ok (.aload_n 0, 1) := by decide +kernel
theorem dX7_init_212 : decode cX7_init 212 = .ok (.bipush 9, 2) := by decide +kernel
theorem dX7_init_214 : decode cX7_init 214 = .ok (.newarray .int, 2) := by decide +kernel
theorem dX7_init_216 : decode cX7_init 216 = .ok (.putfield 33, 3) := by decide +kernel
theorem dX7_init_219 : decode cX7_init 219 = .ok (.aload_n 0, 1) := by decide +kernel
theorem dX7_init_220 : decode cX7_init 220 = .ok (.bipush 9, 2) := by decide +kernel
theorem dX7_init_222 : decode cX7_init 222 = .ok (.newarray .int, 2) := by decide +kernel
theorem dX7_init_224 : decode cX7_init 224 = .ok (.putfield 36, 3) := by decide +kernel
theorem dX7_init_227 : decode cX7_init 227 = .ok (.aload_n 0, 1) := by decide +kernel
theorem dX7_init_228 : decode cX7_init 228 = .ok (.sipush 19683, 3) := by decide +kernel
theorem dX7_init_231 : decode cX7_init 231 = .ok (.newarray .long, 2) := by decide +kernel
theorem dX7_init_233 : decode cX7_init 233 = .ok (.putfield 39, 3) := by decide +kernel
theorem dX7_init_236 : decode cX7_init 236 = .ok (.aload_n 0, 1) := by decide +kernel
theorem dX7_init_237 : decode cX7_init 237 = .ok (.sipush 19683, 3) := by decide +kernel
theorem dX7_init_240 : decode cX7_init 240 = .ok (.newarray .int, 2) := by decide +kernel
theorem dX7_init_242 : decode cX7_init 242 = .ok (.putfield 43, 3) := by decide +kernel
theorem dX7_init_245 : decode cX7_init 245 = .ok (.aload_n 0, 1) := by decide +kernel
theorem dX7_init_246 : decode cX7_init 246 = .ok (.sipush 19683, 3) := by decide +kernel
theorem dX7_init_249 : decode cX7_init 249 = .ok (.newarray .int, 2) := by decide +kernel
theorem dX7_init_251 : decode cX7_init 251 = .ok (.putfield 46, 3) := by decide +kernel
theorem dX7_init_254 : decode cX7_init 254 = .ok (.aload_n 0, 1) := by decide +kernel
theorem dX7_init_255 : decode cX7_init 255 = .ok (.sipush 19683, 3) := by decide +kernel
theorem dX7_init_258 : decode cX7_init 258 = .ok (.newarray .int, 2) := by decide +kernel
theorem dX7_init_260 : decode cX7_init 260 = .ok (.putfield 49, 3) := by decide +kernel
theorem dX7_init_263 : decode cX7_init 263 = .ok (.aload_n 0, 1) := by decide +kernel
theorem dX7_init_264 : decode cX7_init 264 = .ok (.bipush 9, 2) := by decide +kernel
theorem dX7_init_266 : decode cX7_init 266 = .ok (.newarray .int, 2) := by decide +kernel
theorem dX7_init_268 : decode cX7_init 268 = .ok (.dup, 1) := by decide +kernel
theorem dX7_init_269 : decode cX7_init 269 = .ok (.iconst 0, 1) := by decide +kernel
theorem dX7_init_270 : decode cX7_init 270 = .ok (.iconst 1, 1) := by decide +kernel
theorem dX7_init_271 : decode cX7_init 271 = .ok (.iastore, 1) := by decide +kernel
end
section
theorem dX7_init_272 : decode cX7_init 272 = .ok (.dup, 1) := by decide +kernel
theorem dX7_init_273 : decode cX7_init 273 = .ok (.iconst 1, 1) := by decide +kernel
theorem dX7_init_274 : decode cX7_init 274 = .ok (.iconst 3, 1) := by decide +kernel
theorem dX7_init_275 : decode cX7_init 275 = .ok (.iastore, 1) := by decide +kernel
theorem dX7_init_276 : decode cX7_init 276 = .ok (.dup, 1) := by decide +kernel
theorem dX7_init_277 : decode cX7_init 277 = .ok (.iconst 2, 1) := by decide +kernel
theorem dX7_init_278 : decode cX7_init 278 = .ok (.bipush 9, 2) := by decide +kernel
theorem dX7_init_280 : decode cX7_init 280 = .ok (.iastore, 1) := by decide +kernel
theorem dX7_init_281 : decode cX7_init 281 = .ok (.dup, 1) := by decide +kernel
theorem dX7_init_282 : decode cX7_init 282 = .ok (.iconst 3, 1) := by decide +kernel
theorem dX7_init_283 : decode cX7_init 283 = .ok (.bipush 27, 2) := by decide +kernel
theorem dX7_init_285 : decode cX7_init 285 = .ok (.iastore, 1) := by decide +kernel
theorem dX7_init_286 : decode cX7_init 286 = .ok (.dup, 1) := by decide +kernel
theorem dX7_init_287 : decode cX7_init 287 = .ok (.iconst 4, 1) := by decide +kernel
theorem dX7_init_288 : decode cX7_init 288 = .ok (.bipush 81, 2) := by decide +kernel
theorem dX7_init_290 : decode cX7_init 290 = .ok (.iastore, 1) := by decide +kernel
theorem dX7_init_291 : decode cX7_init 291 = .ok (.dup, 1) := by decide +kernel
theorem dX7_init_292 : decode cX7_init 292 = .ok (.iconst 5, 1) := by decide +kernel
theorem dX7_init_293 : decode cX7_init 293 = .ok (.sipush 243, 3) := by decide +kernel
theorem dX7_init_296 : decode cX7_init 296 = .ok (.iastore, 1) := by decide +kernel
theorem dX7_init_297 : decode cX7_init 297 = .ok (.dup, 1) := by decide +kernel
theorem dX7_init_298 : decode cX7_init 298 = .ok (.bipush 6, 2) := by decide +kernel
theorem dX7_init_300 : decode cX7_init 300 = .ok (.sipush 729, 3) := by decide +kernel
theorem dX7_init_303 : decode cX7_init 303 = .ok (.iastore, 1) := by decide +kernel
theorem dX7_init_304 : decode cX7_init 304 = .ok (.dup, 1) := by decide +kernel
theorem dX7_init_305 : decode cX7_init 305 = .ok (.bipush 7, 2) := by decide +kernel
theorem dX7_init_307 : decode cX7_init 307 = .ok (.sipush 2187, 3) := by decide +kernel
theorem dX7_init_310 : decode cX7_init 310 = .ok (.iastore, 1) := by decide +kernel
theorem dX7_init_311 : decode cX7_init 311 = .ok (.dup, 1) := by decide +kernel
theorem dX7_init_312 : decode cX7_init 312 = .ok (.bipush 8, 2) := by decide +kernel
theorem dX7_init_314 : decode cX7_init 314 = .ok (.sipush 6561, 3) := by decide +kernel
theorem dX7_init_317 : decode cX7_init 317 = .ok (.iastore, 1) := by decide +kernel
theorem dX7_init_318 : decode cX7_init 318 = .ok (.putfield 52, 3) := by decide +kernel
theorem dX7_init_321 : decode cX7_init 321 = .ok (.return_, 1) := by decide +kernel
theorem dX7_in_0 : decode cX7_in 0 = .ok (.lload_n 0, 1) := by decide +kernel
theorem dX7_in_1 : decode cX7_in 1 = .ok (.lload_n 2, 1) := by decide +kernel
theorem dX7_in_2 : decode cX7_in 2 = .ok (.lcmp, 1) := by decide +kernel
theorem dX7_in_3 : decode cX7_in 3 = .ok (.ifCond .lt 14, 3) := by decide +kernel
theorem dX7_in_6 : decode cX7_in 6 = .ok (.lload_n 0, 1) := by decide +kernel
theorem dX7_in_7 : decode cX7_in 7 = .ok (.lload 4, 2) := by decide +kernel
theorem dX7_in_9 : decode cX7_in 9 = .ok (.lcmp, 1) := by decide +kernel
theorem dX7_in_10 : decode cX7_in 10 = .ok (.ifCond .gt 7, 3) := by decide +kernel
theorem dX7_in_13 : decode cX7_in 13 = .ok (.iconst 1, 1) := by decide +kernel
theorem dX7_in_14 : decode cX7_in 14 = .ok (.goto 4, 3) := by decide +kernel
theorem dX7_in_17 : decode cX7_in 17 = .ok (.iconst 0, 1) := by decide +kernel
theorem dX7_in_18 : decode cX7_in 18 = .ok (.ireturn, 1) := by decide +kernel
set_option maxRecDepth 20000 in
theorem ggX7_isPart_X7_in : GoodIn wsX7_isPart wsX7_in := goodIn_r _ [5] (by decide +kernel) (by decide +kernel)
set_option maxRecDepth 20000 in
theorem gX7_isPart_X7_in : GoodIn wsX7_isPart (va_wsS RX7 55 yX7_in wsX7_in) := goodIn_app (goodIn_of _ (by decide +kernel)) ggX7_isPart_X7_in
theorem dX7_isPart_0 : decode cX7_isPart 0 = .ok (.iload_n 1, 1) := by decide +kernel
theorem dX7_isPart_1 : decode cX7_isPart 1 = .ok (.i2l, 1) := by decide +kernel
theorem dX7_isPart_2 : decode cX7_isPart 2 = .ok (.lconst 0, 1) := by decide +kernel
theorem dX7_isPart_3 : decode cX7_isPart 3 = .ok (.aload_n 0, 1) := by decide +kernel
theorem dX7_isPart_4 : decode cX7_isPart 4 = .ok (.getfield 7, 3) := by decide +kernel
theorem dX7_isPart_7 : decode cX7_isPart 7 = .ok (.iconst 1, 1) := by decide +kernel
theorem dX7_isPart_8 : decode cX7_isPart 8 = .ok (.isub, 1) := by decide +kernel
theorem dX7_isPart_9 : decode cX7_isPart 9 = .ok (.i2l, 1) := by decide +kernel
theorem dX7_isPart_10 : decode cX7_isPart 10 = .ok (.invokestatic 55, 3) := by decide +kernel
theorem dX7_isPart_13 : decode cX7_isPart 13 = .ok (.ireturn, 1) := by decide +kernel
set_option maxRecDepth 20000 in
theorem ggX7_isRule_X7_in : GoodIn wsX7_isRule wsX7_in := goodIn_r _ [5] (by decide +kernel) (by decide +kernel)
set_option maxRecDepth 20000 in
theorem gX7_isRule_X7_in : GoodIn wsX7_isRule (va_wsS RX7 55 yX7_in wsX7_in) := goodIn_app (goodIn_of _ (by decide +kernel)) ggX7_isRule_X7_in
theorem dX7_isRule_0 : decode cX7_isRule 0 = .ok (.iload_n 1, 1) := by decide +kernel
theorem dX7_isRule_1 : decode cX7_isRule 1 = .ok (.i2l, 1) := by decide +kernel
theorem dX7_isRule_2 : decode cX7_isRule 2 = .ok (.lconst 0, 1) := by decide +kernel
theorem dX7_isRule_3 : decode cX7_isRule 3 = .ok (.aload_n 0, 1) := by decide +kernel
theorem dX7_isRule_4 : decode cX7_isRule 4 = .ok (.getfield 59, 3) := by decide +kernel
theorem dX7_isRule_7 : decode cX7_isRule 7 = .ok (.iconst 1, 1) := by decide +kernel
theorem dX7_isRule_8 : decode cX7_isRule 8 = .ok (.isub, 1) := by decide +kernel
theorem dX7_isRule_9 : decode cX7_isRule 9 = .ok (.i2l, 1) := by decide +kernel
theorem dX7_isRule_10 : decode cX7_isRule 10 = .ok (.invokestatic 55, 3) := by decide +kernel
theorem dX7_isRule_13 : decode cX7_isRule 13 = .ok (.ireturn, 1) := by decide +kernel
theorem dX7_settings_0 : decode cX7_settings 0 = .ok (.iconst 1, 1) := by decide +kernel
theorem dX7_settings_1 : decode cX7_settings 1 = .ok (.aload_n 0, 1) := by decide +kernel
theorem dX7_settings_2 : decode cX7_settings 2 = .ok (.getfield 7, 3) := by decide +kernel
theorem dX7_settings_5 : decode cX7_settings 5 = .ok (.ishl, 1) := by decide +kernel
theorem dX7_settings_6 : decode cX7_settings 6 = .ok (.ireturn, 1) := by decide +kernel
set_option maxRecDepth 20000 in
theorem ggX7_parts_X7_in : GoodIn wsX7_parts wsX7_in := goodIn_r _ [14] (by decide +kernel) (by decide +kernel)
set_option maxRecDepth 20000 in
theorem gX7_parts_X7_in : GoodIn wsX7_parts (va_wsS RX7 55 yX7_in wsX7_in) := goodIn_app (goodIn_of _ (by decide +kernel)) ggX7_parts_X7_in
theorem dX7_parts_0 : decode cX7_parts 0 = .ok (.iload_n 1, 1) := by decide +kernel
theorem dX7_parts_1 : decode cX7_parts 1 = .ok (.i2l, 1) := by decide +kernel
theorem dX7_parts_2 : decode cX7_parts 2 = .ok (.lconst 1, 1) := by decide +kernel
theorem dX7_parts_3 : decode cX7_parts 3 = .ok (.ldc2_w 62, 3) := by decide +kernel
theorem dX7_parts_6 : decode cX7_parts 6 = .ok (.invokestatic 55, 3) := by decide +kernel
theorem dX7_parts_9 : decode cX7_parts 9 = .ok (.ifCond .ne 5, 3) := by decide +kernel
theorem dX7_parts_12 : decode cX7_parts 12 = .ok (.iconst 0, 1) := by decide +kernel
theorem dX7_parts_13 : decode cX7_parts 13 = .ok (.ireturn, 1) := by decide +kernel
theorem dX7_parts_14 : decode cX7_parts 14 = .ok (.aload_n 0, 1) := by decide +kernel
theorem dX7_parts_15 : decode cX7_parts 15 = .ok (.iload_n 1, 1) := by decide +kernel
theorem dX7_parts_16 : decode cX7_parts 16 = .ok (.putfield 7, 3) := by decide +kernel
theorem dX7_parts_19 : decode cX7_parts 19 = .ok (.iconst 0, 1) := by decide +kernel
theorem dX7_parts_20 : decode cX7_parts 20 = .ok (.istore_n 2, 1) := by decide +kernel
theorem dX7_parts_21 : decode cX7_parts 21 = .ok (.iload_n 2, 1) := by decide +kernel
theorem dX7_parts_22 : decode cX7_parts 22 = .ok (.bipush 9, 2) := by decide +kernel
theorem dX7_parts_24 : decode cX7_parts 24 = .ok (.if_icmp .ge 37, 3) := by decide +kernel
theorem dX7_parts_27 : decode cX7_parts 27 = .ok (.aload_n 0, 1) := by decide +kernel
theorem dX7_parts_28 : decode cX7_parts 28 = .ok (.getfield 13, 3) := by decide +kernel
theorem dX7_parts_31 : decode cX7_parts 31 = .ok (.iload_n 2, 1) := by decide +kernel
theorem dX7_parts_32 : decode cX7_parts 32 = .ok (.iconst 1, 1) := by decide +kernel
theorem dX7_parts_33 : decode cX7_parts 33 = .ok (.iastore, 1) := by decide +kernel
theorem dX7_parts_34 : decode cX7_parts 34 = .ok (.aload_n 0, 1) := by decide +kernel
theorem dX7_parts_35 : decode cX7_parts 35 = .ok (.getfield 17, 3) := by decide +kernel
theorem dX7_parts_38 : decode cX7_parts 38 = .ok (.iload_n 2, 1) := by decide +kernel
theorem dX7_parts_39 : decode cX7_parts 39 = .ok (.iconst 1, 1) := by decide +kernel
theorem dX7_parts_40 : decode cX7_parts 40 = .ok (.iastore, 1) := by decide +kernel
theorem dX7_parts_41 : decode cX7_parts 41 = .ok (.aload_n 0, 1) := by decide +kernel
theorem dX7_parts_42 : decode cX7_parts 42 = .ok (.getfield 20, 3) := by decide +kernel
theorem dX7_parts_45 : decode cX7_parts 45 = .ok (.iload_n 2, 1) := by decide +kernel
theorem dX7_parts_46 : decode cX7_parts 46 = .ok (.iconst 1, 1) := by decide +kernel
theorem dX7_parts_47 : decode cX7_parts 47 = .ok (.iastore, 1) := by decide +kernel
theorem dX7_parts_48 : decode cX7_parts 48 = .ok (.aload_n 0, 1) := by decide +kernel
theorem dX7_parts_49 : decode cX7_parts 49 = .ok (.getfield 30, 3) := by decide +kernel
theorem dX7_parts_52 : decode cX7_parts 52 = .ok (.iload_n 2, 1) := by decide +kernel
theorem dX7_parts_53 : decode cX7_parts 53 = .ok (.iconst (-1), 1) := by decide +kernel
theorem dX7_parts_54 : decode cX7_parts 54 = .ok (.iastore, 1) := by decide +kernel
theorem dX7_parts_55 : decode cX7_parts 55 = .ok (.iinc 2 1, 3) := by decide +kernel
theorem dX7_parts_58 : decode cX7_parts 58 = .ok (.goto (-37), 3) := by decide +kernel
theorem dX7_parts_61 : decode cX7_parts 61 = .ok (.aload_n 0, 1) := by decide +kernel
theorem dX7_parts_62 : decode cX7_parts 62 = .ok (.iconst 0, 1) := by decide +kernel
theorem dX7_parts_63 : decode cX7_parts 63 = .ok (.putfield 59, 3) := by decide +kernel
theorem dX7_parts_66 : decode cX7_parts 66 = .ok (.aload_n 0, 1) := by decide +kernel
theorem dX7_parts_67 : decode cX7_parts 67 = .ok (.iconst (-1), 1) := by decide +kernel
theorem dX7_parts_68 : decode cX7_parts 68 = .ok (.putfield 27, 3) := by decide +kernel
theorem dX7_parts_71 : decode cX7_parts 71 = .ok (.aload_n 0, 1) := by decide +kernel
theorem dX7_parts_72 : decode cX7_parts 72 = .ok (.iconst 0, 1) := by decide +kernel
theorem dX7_parts_73 : decode cX7_parts 73 = .ok (.putfield 64, 3) := by decide +kernel
theorem dX7_parts_76 : decode cX7_parts 76 = .ok (.aload_n 0, 1) := by decide +kernel
theorem dX7_parts_77 : decode cX7_parts 77 = .ok (.iconst 0, 1) := by decide +kernel
theorem dX7_parts_78 : decode cX7_parts 78 = .ok (.putfield 67, 3) := by decide +kernel
theorem dX7_parts_81 : decode cX7_parts 81 = .ok (.iconst 1, 1) := by decide +kernel
theorem dX7_parts_82 : decode cX7_parts 82 = .ok (.ireturn, 1) := by decide +kernel
set_option maxRecDepth 20000 in
theorem ggX7_part_X7_isPart : GoodIn wsX7_part wsX7_isPart := goodIn_r _ [10, 11, 12, 13, 9, 14, 15, 16, 17, 18, 19, 20, 21, 22, 23, 24, 25, 26, 27, 28, 29, 30, 31] (by decide +kernel) (by decide +kernel)
set_option maxRecDepth 20000 in
theorem gX7_part_X7_isPart : GoodIn wsX7_part (wsV RX7 70 RX7 yX7_isPart wsX7_isPart) := goodIn_app (goodIn_of _ (by decide +kernel)) ggX7_part_X7_isPart
set_option maxRecDepth 20000 in
theorem ggX7_part_X7_in : GoodIn wsX7_part wsX7_in := goodIn_r _ [14] (by decide +kernel) (by decide +kernel)
set_option maxRecDepth 20000 in
theorem gX7_part_X7_in : GoodIn wsX7_part (va_wsS RX7 55 yX7_in wsX7_in) := goodIn_app (goodIn_of _ (by decide +kernel)) ggX7_part_X7_in
theorem dX7_part_0 : decode cX7_part 0 = .ok (.aload_n 0, 1) := by decide +kernel
theorem dX7_part_1 : decode cX7_part 1 = .ok (.iload_n 1, 1) := by decide +kernel
theorem dX7_part_2 : decode cX7_part 2 = .ok (.invokevirtual 70, 3) := by decide +kernel
theorem dX7_part_5 : decode cX7_part 5 = .ok (.ifCond .eq 40, 3) := by decide +kernel
theorem dX7_part_8 : decode cX7_part 8 = .ok (.iload_n 2, 1) := by decide +kernel
theorem dX7_part_9 : decode cX7_part 9 = .ok (.i2l, 1) := by decide +kernel
theorem dX7_part_10 : decode cX7_part 10 = .ok (.lconst 1, 1) := by decide +kernel
theorem dX7_part_11 : decode cX7_part 11 = .ok (.ldc2_w 62, 3) := by decide +kernel
theorem dX7_part_14 : decode cX7_part 14 = .ok (.invokestatic 55, 3) := by decide +kernel
theorem dX7_part_17 : decode cX7_part 17 = .ok (.ifCond .eq 28, 3) := by decide +kernel
theorem dX7_part_20 : decode cX7_part 20 = .ok (.iload_n 3, 1) := by decide +kernel
theorem dX7_part_21 : decode cX7_part 21 = .ok (.i2l, 1) := by decide +kernel
theorem dX7_part_22 : decode cX7_part 22 = .ok (.lconst 1, 1) := by decide +kernel
theorem dX7_part_23 : decode cX7_part 23 = .ok (.ldc2_w 62, 3) := by decide +kernel
theorem dX7_part_26 : decode cX7_part 26 = .ok (.invokestatic 55, 3) := by decide +kernel
theorem dX7_part_29 : decode cX7_part 29 = .ok (.ifCond .eq 16, 3) := by decide +kernel
theorem dX7_part_32 : decode cX7_part 32 = .ok (.iload 4, 2) := by decide +kernel
theorem dX7_part_34 : decode cX7_part 34 = .ok (.i2l, 1) := by decide +kernel
theorem dX7_part_35 : decode cX7_part 35 = .ok (.lconst 0, 1) := by decide +kernel
theorem dX7_part_36 : decode cX7_part 36 = .ok (.ldc2_w 74, 3) := by decide +kernel
theorem dX7_part_39 : decode cX7_part 39 = .ok (.invokestatic 55, 3) := by decide +kernel
theorem dX7_part_42 : decode cX7_part 42 = .ok (.ifCond .ne 5, 3) := by decide +kernel
theorem dX7_part_45 : decode cX7_part 45 = .ok (.iconst 0, 1) := by decide +kernel
theorem dX7_part_46 : decode cX7_part 46 = .ok (.ireturn, 1) := by decide +kernel
theorem dX7_part_47 : decode cX7_part 47 = .ok (.aload_n 0, 1) := by decide +kernel
theorem dX7_part_48 : decode cX7_part 48 = .ok (.getfield 13, 3) := by decide +kernel
theorem dX7_part_51 : decode cX7_part 51 = .ok (.iload_n 1, 1) := by decide +kernel
theorem dX7_part_52 : decode cX7_part 52 = .ok (.iload_n 2, 1) := by decide +kernel
theorem dX7_part_53 : decode cX7_part 53 = .ok (.iastore, 1) := by decide +kernel
theorem dX7_part_54 : decode cX7_part 54 = .ok (.aload_n 0, 1) := by decide +kernel
theorem dX7_part_55 : decode cX7_part 55 = .ok (.getfield 17, 3) := by decide +kernel
theorem dX7_part_58 : decode cX7_part 58 = .ok (.iload_n 1, 1) := by decide +kernel
theorem dX7_part_59 : decode cX7_part 59 = .ok (.iload_n 3, 1) := by decide +kernel
theorem dX7_part_60 : decode cX7_part 60 = .ok (.iastore, 1) := by decide +kernel
theorem dX7_part_61 : decode cX7_part 61 = .ok (.aload_n 0, 1) := by decide +kernel
theorem dX7_part_62 : decode cX7_part 62 = .ok (.getfield 20, 3) := by decide +kernel
theorem dX7_part_65 : decode cX7_part 65 = .ok (.iload_n 1, 1) := by decide +kernel
theorem dX7_part_66 : decode cX7_part 66 = .ok (.iload 4, 2) := by decide +kernel
theorem dX7_part_68 : decode cX7_part 68 = .ok (.iastore, 1) := by decide +kernel
theorem dX7_part_69 : decode cX7_part 69 = .ok (.iconst 1, 1) := by decide +kernel
theorem dX7_part_70 : decode cX7_part 70 = .ok (.ireturn, 1) := by decide +kernel
theorem dX7_added_0 : decode cX7_added 0 = .ok (.aload_n 0, 1) := by decide +kernel
theorem dX7_added_1 : decode cX7_added 1 = .ok (.dup, 1) := by decide +kernel
theorem dX7_added_2 : decode cX7_added 2 = .ok (.getfield 59, 3) := by decide +kernel
theorem dX7_added_5 : decode cX7_added 5 = .ok (.iconst 1, 1) := by decide +kernel
theorem dX7_added_6 : decode cX7_added 6 = .ok (.iadd, 1) := by decide +kernel
theorem dX7_added_7 : decode cX7_added 7 = .ok (.putfield 59, 3) := by decide +kernel
theorem dX7_added_10 : decode cX7_added 10 = .ok (.aload_n 0, 1) := by decide +kernel
theorem dX7_added_11 : decode cX7_added 11 = .ok (.getfield 59, 3) := by decide +kernel
theorem dX7_added_14 : decode cX7_added 14 = .ok (.iconst 1, 1) := by decide +kernel
theorem dX7_added_15 : decode cX7_added 15 = .ok (.isub, 1) := by decide +kernel
theorem dX7_added_16 : decode cX7_added 16 = .ok (.ireturn, 1) := by decide +kernel
set_option maxRecDepth 20000 in
theorem ggX7_single_X7_isPart : GoodIn wsX7_single wsX7_isPart := goodIn_r _ [7, 8, 9, 10, 6, 11, 20, 21, 22, 23, 24, 25, 26, 27, 28, 29, 30, 31, 32, 33, 34, 35, 36] (by decide +kernel) (by decide +kernel)
set_option maxRecDepth 20000 in
theorem gX7_single_X7_isPart : GoodIn wsX7_single (wsV RX7 70 RX7 yX7_isPart wsX7_isPart) := goodIn_app (goodIn_of _ (by decide +kernel)) ggX7_single_X7_isPart
set_option maxRecDepth 20000 in
theorem ggX7_single_X7_settings : GoodIn wsX7_single wsX7_settings := goodIn_r _ [15, 8, 20, 21, 22, 23, 24, 25, 26, 27, 28, 29, 30, 31, 32, 33, 34, 35, 36] (by decide +kernel) (by decide +kernel)
set_option maxRecDepth 20000 in
theorem gX7_single_X7_settings : GoodIn wsX7_single (wsV RX7 76 RX7 yX7_settings wsX7_settings) := goodIn_app (goodIn_of _ (by decide +kernel)) ggX7_single_X7_settings
set_option maxRecDepth 20000 in
theorem ggX7_single_X7_added : GoodIn wsX7_single wsX7_added := goodIn_r _ [19, 1, 20, 21, 22, 23, 24, 25, 26, 27, 28, 29, 30, 31, 32, 33, 34, 35, 36] (by decide +kernel) (by decide +kernel)
set_option maxRecDepth 20000 in
theorem gX7_single_X7_added : GoodIn wsX7_single (wsV RX7 80 RX7 yX7_added wsX7_added) := goodIn_app (goodIn_of _ (by decide +kernel)) ggX7_single_X7_added
theorem dX7_single_0 : decode cX7_single 0 = .ok (.aload_n 0, 1) := by decide +kernel
theorem dX7_single_1 : decode cX7_single 1 = .ok (.iload_n 1, 1) := by decide +kernel
theorem dX7_single_2 : decode cX7_single 2 = .ok (.invokevirtual 70, 3) := by decide +kernel
theorem dX7_single_5 : decode cX7_single 5 = .ok (.ifCond .eq 12, 3) := by decide +kernel
theorem dX7_single_8 : decode cX7_single 8 = .ok (.aload_n 0, 1) := by decide +kernel
theorem dX7_single_9 : decode cX7_single 9 = .ok (.getfield 59, 3) := by decide +kernel
theorem dX7_single_12 : decode cX7_single 12 = .ok (.bipush 40, 2) := by decide +kernel
theorem dX7_single_14 : decode cX7_single 14 = .ok (.if_icmp .ne 5, 3) := by decide +kernel
theorem dX7_single_17 : decode cX7_single 17 = .ok (.iconst (-1), 1) := by decide +kernel
theorem dX7_single_18 : decode cX7_single 18 = .ok (.ireturn, 1) := by decide +kernel
theorem dX7_single_19 : decode cX7_single 19 = .ok (.iconst 0, 1) := by decide +kernel
theorem dX7_single_20 : decode cX7_single 20 = .ok (.istore_n 2, 1) := by decide +kernel
theorem dX7_single_21 : decode cX7_single 21 = .ok (.iload_n 2, 1) := by decide +kernel
theorem dX7_single_22 : decode cX7_single 22 = .ok (.aload_n 0, 1) := by decide +kernel
theorem dX7_single_23 : decode cX7_single 23 = .ok (.invokevirtual 76, 3) := by decide +kernel
theorem dX7_single_26 : decode cX7_single 26 = .ok (.if_icmp .ge 38, 3) := by decide +kernel
theorem dX7_single_29 : decode cX7_single 29 = .ok (.aload_n 0, 1) := by decide +kernel
theorem dX7_single_30 : decode cX7_single 30 = .ok (.getfield 23, 3) := by decide +kernel
theorem dX7_single_33 : decode cX7_single 33 = .ok (.sipush 512, 3) := by decide +kernel
theorem dX7_single_36 : decode cX7_single 36 = .ok (.aload_n 0, 1) := by decide +kernel
theorem dX7_single_37 : decode cX7_single 37 = .ok (.getfield 59, 3) := by decide +kernel
theorem dX7_single_40 : decode cX7_single 40 = .ok (.imul, 1) := by decide +kernel
theorem dX7_single_41 : decode cX7_single 41 = .ok (.iload_n 2, 1) := by decide +kernel
theorem dX7_single_42 : decode cX7_single 42 = .ok (.iadd, 1) := by decide +kernel
theorem dX7_single_43 : decode cX7_single 43 = .ok (.iload_n 2, 1) := by decide +kernel
theorem dX7_single_44 : decode cX7_single 44 = .ok (.iload_n 1, 1) := by decide +kernel
theorem dX7_single_45 : decode cX7_single 45 = .ok (.ishr, 1) := by decide +kernel
theorem dX7_single_46 : decode cX7_single 46 = .ok (.iconst 1, 1) := by decide +kernel
theorem dX7_single_47 : decode cX7_single 47 = .ok (.iand, 1) := by decide +kernel
theorem dX7_single_48 : decode cX7_single 48 = .ok (.iconst 1, 1) := by decide +kernel
theorem dX7_single_49 : decode cX7_single 49 = .ok (.if_icmp .ne 7, 3) := by decide +kernel
theorem dX7_single_52 : decode cX7_single 52 = .ok (.iconst 1, 1) := by decide +kernel
theorem dX7_single_53 : decode cX7_single 53 = .ok (.goto 4, 3) := by decide +kernel
theorem dX7_single_56 : decode cX7_single 56 = .ok (.iconst 0, 1) := by decide +kernel
theorem dX7_single_57 : decode cX7_single 57 = .ok (.bastore, 1) := by decide +kernel
theorem dX7_single_58 : decode cX7_single 58 = .ok (.iinc 2 1, 3) := by decide +kernel
theorem dX7_single_61 : decode cX7_single 61 = .ok (.goto (-40), 3) := by decide +kernel
theorem dX7_single_64 : decode cX7_single 64 = .ok (.aload_n 0, 1) := by decide +kernel
theorem dX7_single_65 : decode cX7_single 65 = .ok (.invokevirtual 80, 3) := by decide +kernel
theorem dX7_single_68 : decode cX7_single 68 = .ok (.ireturn, 1) := by decide +kernel
set_option maxRecDepth 20000 in
theorem ggX7_row_X7_isRule : GoodIn wsX7_row wsX7_isRule := goodIn_r _ [7, 1, 8, 9, 6, 10, 20, 21, 22, 23, 24, 25, 26, 27, 28, 29, 30, 31, 32, 33, 34, 35, 36] (by decide +kernel) (by decide +kernel)
set_option maxRecDepth 20000 in
theorem gX7_row_X7_isRule : GoodIn wsX7_row (wsV RX7 83 RX7 yX7_isRule wsX7_isRule) := goodIn_app (goodIn_of _ (by decide +kernel)) ggX7_row_X7_isRule
set_option maxRecDepth 20000 in
theorem ggX7_row_X7_settings : GoodIn wsX7_row wsX7_settings := goodIn_r _ [14, 15, 20, 21, 22, 23, 24, 25, 26, 27, 28, 29, 30, 31, 32, 33, 34, 35, 36] (by decide +kernel) (by decide +kernel)
set_option maxRecDepth 20000 in
theorem gX7_row_X7_settings : GoodIn wsX7_row (wsV RX7 76 RX7 yX7_settings wsX7_settings) := goodIn_app (goodIn_of _ (by decide +kernel)) ggX7_row_X7_settings
set_option maxRecDepth 20000 in
theorem ggX7_row_X7_added : GoodIn wsX7_row wsX7_added := goodIn_r _ [19, 1, 20, 21, 22, 23, 24, 25, 26, 27, 28, 29, 30, 31, 32, 33, 34, 35, 36] (by decide +kernel) (by decide +kernel)
set_option maxRecDepth 20000 in
theorem gX7_row_X7_added : GoodIn wsX7_row (wsV RX7 80 RX7 yX7_added wsX7_added) := goodIn_app (goodIn_of _ (by decide +kernel)) ggX7_row_X7_added
theorem dX7_row_0 : decode cX7_row 0 = .ok (.aload_n 0, 1) := by decide +kernel
theorem dX7_row_1 : decode cX7_row 1 = .ok (.iload_n 1, 1) := by decide +kernel
theorem dX7_row_2 : decode cX7_row 2 = .ok (.invokevirtual 83, 3) := by decide +kernel
theorem dX7_row_5 : decode cX7_row 5 = .ok (.ifCond .eq 20, 3) := by decide +kernel
theorem dX7_row_8 : decode cX7_row 8 = .ok (.aload_n 0, 1) := by decide +kernel
theorem dX7_row_9 : decode cX7_row 9 = .ok (.iload_n 2, 1) := by decide +kernel
theorem dX7_row_10 : decode cX7_row 10 = .ok (.invokevirtual 83, 3) := by decide +kernel
theorem dX7_row_13 : decode cX7_row 13 = .ok (.ifCond .eq 12, 3) := by decide +kernel
theorem dX7_row_16 : decode cX7_row 16 = .ok (.aload_n 0, 1) := by decide +kernel
theorem dX7_row_17 : decode cX7_row 17 = .ok (.getfield 59, 3) := by decide +kernel
theorem dX7_row_20 : decode cX7_row 20 = .ok (.bipush 40, 2) := by decide +kernel
theorem dX7_row_22 : decode cX7_row 22 = .ok (.if_icmp .ne 5, 3) := by decide +kernel
theorem dX7_row_25 : decode cX7_row 25 = .ok (.iconst (-1), 1) := by decide +kernel
theorem dX7_row_26 : decode cX7_row 26 = .ok (.ireturn, 1) := by decide +kernel
theorem dX7_row_27 : decode cX7_row 27 = .ok (.iconst 0, 1) := by decide +kernel
theorem dX7_row_28 : decode cX7_row 28 = .ok (.istore_n 3, 1) := by decide +kernel
theorem dX7_row_29 : decode cX7_row 29 = .ok (.iload_n 3, 1) := by decide +kernel
theorem dX7_row_30 : decode cX7_row 30 = .ok (.aload_n 0, 1) := by decide +kernel
theorem dX7_row_31 : decode cX7_row 31 = .ok (.invokevirtual 76, 3) := by decide +kernel
theorem dX7_row_34 : decode cX7_row 34 = .ok (.if_icmp .ge 59, 3) := by decide +kernel
theorem dX7_row_37 : decode cX7_row 37 = .ok (.aload_n 0, 1) := by decide +kernel
theorem dX7_row_38 : decode cX7_row 38 = .ok (.getfield 23, 3) := by decide +kernel
theorem dX7_row_41 : decode cX7_row 41 = .ok (.sipush 512, 3) := by decide +kernel
theorem dX7_row_44 : decode cX7_row 44 = .ok (.aload_n 0, 1) := by decide +kernel
theorem dX7_row_45 : decode cX7_row 45 = .ok (.getfield 59, 3) := by decide +kernel
theorem dX7_row_48 : decode cX7_row 48 = .ok (.imul, 1) := by decide +kernel
theorem dX7_row_49 : decode cX7_row 49 = .ok (.iload_n 3, 1) := by decide +kernel
theorem dX7_row_50 : decode cX7_row 50 = .ok (.iadd, 1) := by decide +kernel
theorem dX7_row_51 : decode cX7_row 51 = .ok (.aload_n 0, 1) := by decide +kernel
theorem dX7_row_52 : decode cX7_row 52 = .ok (.getfield 23, 3) := by decide +kernel
theorem dX7_row_55 : decode cX7_row 55 = .ok (.sipush 512, 3) := by decide +kernel
theorem dX7_row_58 : decode cX7_row 58 = .ok (.iload_n 1, 1) := by decide +kernel
theorem dX7_row_59 : decode cX7_row 59 = .ok (.imul, 1) := by decide +kernel
theorem dX7_row_60 : decode cX7_row 60 = .ok (.iload_n 3, 1) := by decide +kernel
theorem dX7_row_61 : decode cX7_row 61 = .ok (.iadd, 1) := by decide +kernel
theorem dX7_row_62 : decode cX7_row 62 = .ok (.baload, 1) := by decide +kernel
theorem dX7_row_63 : decode cX7_row 63 = .ok (.ifCond .eq 22, 3) := by decide +kernel
theorem dX7_row_66 : decode cX7_row 66 = .ok (.aload_n 0, 1) := by decide +kernel
theorem dX7_row_67 : decode cX7_row 67 = .ok (.getfield 23, 3) := by decide +kernel
theorem dX7_row_70 : decode cX7_row 70 = .ok (.sipush 512, 3) := by decide +kernel
theorem dX7_row_73 : decode cX7_row 73 = .ok (.iload_n 2, 1) := by decide +kernel
theorem dX7_row_74 : decode cX7_row 74 = .ok (.imul, 1) := by decide +kernel
theorem dX7_row_75 : decode cX7_row 75 = .ok (.iload_n 3, 1) := by decide +kernel
theorem dX7_row_76 : decode cX7_row 76 = .ok (.iadd, 1) := by decide +kernel
theorem dX7_row_77 : decode cX7_row 77 = .ok (.baload, 1) := by decide +kernel
theorem dX7_row_78 : decode cX7_row 78 = .ok (.ifCond .eq 7, 3) := by decide +kernel
theorem dX7_row_81 : decode cX7_row 81 = .ok (.iconst 1, 1) := by decide +kernel
theorem dX7_row_82 : decode cX7_row 82 = .ok (.goto 4, 3) := by decide +kernel
theorem dX7_row_85 : decode cX7_row 85 = .ok (.iconst 0, 1) := by decide +kernel
theorem dX7_row_86 : decode cX7_row 86 = .ok (.bastore, 1) := by decide +kernel
theorem dX7_row_87 : decode cX7_row 87 = .ok (.iinc 3 1, 3) := by decide +kernel
theorem dX7_row_90 : decode cX7_row 90 = .ok (.goto (-61), 3) := by decide +kernel
theorem dX7_row_93 : decode cX7_row 93 = .ok (.aload_n 0, 1) := by decide +kernel
theorem dX7_row_94 : decode cX7_row 94 = .ok (.invokevirtual 80, 3) := by decide +kernel
theorem dX7_row_97 : decode cX7_row 97 = .ok (.ireturn, 1) := by decide +kernel
set_option maxRecDepth 20000 in
theorem ggX7_side_X7_isRule : GoodIn wsX7_side wsX7_isRule := goodIn_r _ [7, 1, 8, 9, 6, 10, 20, 21, 22, 23, 24, 25, 26, 27, 28, 29, 30, 31, 32, 33, 34, 35, 36] (by decide +kernel) (by decide +kernel)
set_option maxRecDepth 20000 in
theorem gX7_side_X7_isRule : GoodIn wsX7_side (wsV RX7 83 RX7 yX7_isRule wsX7_isRule) := goodIn_app (goodIn_of _ (by decide +kernel)) ggX7_side_X7_isRule
set_option maxRecDepth 20000 in
theorem ggX7_side_X7_settings : GoodIn wsX7_side wsX7_settings := goodIn_r _ [14, 15, 20, 21, 22, 23, 24, 25, 26, 27, 28, 29, 30, 31, 32, 33, 34, 35, 36] (by decide +kernel) (by decide +kernel)
set_option maxRecDepth 20000 in
theorem gX7_side_X7_settings : GoodIn wsX7_side (wsV RX7 76 RX7 yX7_settings wsX7_settings) := goodIn_app (goodIn_of _ (by decide +kernel)) ggX7_side_X7_settings
set_option maxRecDepth 20000 in
theorem ggX7_side_X7_added : GoodIn wsX7_side wsX7_added := goodIn_r _ [19, 1, 20, 21, 22, 23, 24, 25, 26, 27, 28, 29, 30, 31, 32, 33, 34, 35, 36] (by decide +kernel) (by decide +kernel)
set_option maxRecDepth 20000 in
theorem gX7_side_X7_added : GoodIn wsX7_side (wsV RX7 80 RX7 yX7_added wsX7_added) := goodIn_app (goodIn_of _ (by decide +kernel)) ggX7_side_X7_added
theorem dX7_side_0 : decode cX7_side 0 = .ok (.aload_n 0, 1) := by decide +kernel
theorem dX7_side_1 : decode cX7_side 1 = .ok (.iload_n 1, 1) := by decide +kernel
theorem dX7_side_2 : decode cX7_side 2 = .ok (.invokevirtual 83, 3) := by decide +kernel
theorem dX7_side_5 : decode cX7_side 5 = .ok (.ifCond .eq 20, 3) := by decide +kernel
theorem dX7_side_8 : decode cX7_side 8 = .ok (.aload_n 0, 1) := by decide +kernel
theorem dX7_side_9 : decode cX7_side 9 = .ok (.iload_n 2, 1) := by decide +kernel
theorem dX7_side_10 : decode cX7_side 10 = .ok (.invokevirtual 83, 3) := by decide +kernel
theorem dX7_side_13 : decode cX7_side 13 = .ok (.ifCond .eq 12, 3) := by decide +kernel
theorem dX7_side_16 : decode cX7_side 16 = .ok (.aload_n 0, 1) := by decide +kernel
theorem dX7_side_17 : decode cX7_side 17 = .ok (.getfield 59, 3) := by decide +kernel
theorem dX7_side_20 : decode cX7_side 20 = .ok (.bipush 40, 2) := by decide +kernel
theorem dX7_side_22 : decode cX7_side 22 = .ok (.if_icmp .ne 5, 3) := by decide +kernel
theorem dX7_side_25 : decode cX7_side 25 = .ok (.iconst (-1), 1) := by decide +kernel
theorem dX7_side_26 : decode cX7_side 26 = .ok (.ireturn, 1) := by decide +kernel
theorem dX7_side_27 : decode cX7_side 27 = .ok (.iconst 0, 1) := by decide +kernel
theorem dX7_side_28 : decode cX7_side 28 = .ok (.istore_n 3, 1) := by decide +kernel
theorem dX7_side_29 : decode cX7_side 29 = .ok (.iload_n 3, 1) := by decide +kernel
theorem dX7_side_30 : decode cX7_side 30 = .ok (.aload_n 0, 1) := by decide +kernel
theorem dX7_side_31 : decode cX7_side 31 = .ok (.invokevirtual 76, 3) := by decide +kernel
theorem dX7_side_34 : decode cX7_side 34 = .ok (.if_icmp .ge 59, 3) := by decide +kernel
theorem dX7_side_37 : decode cX7_side 37 = .ok (.aload_n 0, 1) := by decide +kernel
theorem dX7_side_38 : decode cX7_side 38 = .ok (.getfield 23, 3) := by decide +kernel
theorem dX7_side_41 : decode cX7_side 41 = .ok (.sipush 512, 3) := by decide +kernel
theorem dX7_side_44 : decode cX7_side 44 = .ok (.aload_n 0, 1) := by decide +kernel
theorem dX7_side_45 : decode cX7_side 45 = .ok (.getfield 59, 3) := by decide +kernel
theorem dX7_side_48 : decode cX7_side 48 = .ok (.imul, 1) := by decide +kernel
theorem dX7_side_49 : decode cX7_side 49 = .ok (.iload_n 3, 1) := by decide +kernel
theorem dX7_side_50 : decode cX7_side 50 = .ok (.iadd, 1) := by decide +kernel
theorem dX7_side_51 : decode cX7_side 51 = .ok (.aload_n 0, 1) := by decide +kernel
theorem dX7_side_52 : decode cX7_side 52 = .ok (.getfield 23, 3) := by decide +kernel
theorem dX7_side_55 : decode cX7_side 55 = .ok (.sipush 512, 3) := by decide +kernel
theorem dX7_side_58 : decode cX7_side 58 = .ok (.iload_n 1, 1) := by decide +kernel
theorem dX7_side_59 : decode cX7_side 59 = .ok (.imul, 1) := by decide +kernel
theorem dX7_side_60 : decode cX7_side 60 = .ok (.iload_n 3, 1) := by decide +kernel
theorem dX7_side_61 : decode cX7_side 61 = .ok (.iadd, 1) := by decide +kernel
theorem dX7_side_62 : decode cX7_side 62 = .ok (.baload, 1) := by decide +kernel
theorem dX7_side_63 : decode cX7_side 63 = .ok (.ifCond .ne 18, 3) := by decide +kernel
theorem dX7_side_66 : decode cX7_side 66 = .ok (.aload_n 0, 1) := by decide +kernel
theorem dX7_side_67 : decode cX7_side 67 = .ok (.getfield 23, 3) := by decide +kernel
theorem dX7_side_70 : decode cX7_side 70 = .ok (.sipush 512, 3) := by decide +kernel
theorem dX7_side_73 : decode cX7_side 73 = .ok (.iload_n 2, 1) := by decide +kernel
theorem dX7_side_74 : decode cX7_side 74 = .ok (.imul, 1) := by decide +kernel
theorem dX7_side_75 : decode cX7_side 75 = .ok (.iload_n 3, 1) := by decide +kernel
theorem dX7_side_76 : decode cX7_side 76 = .ok (.iadd, 1) := by decide +kernel
theorem dX7_side_77 : decode cX7_side 77 = .ok (.baload, 1) := by decide +kernel
theorem dX7_side_78 : decode cX7_side 78 = .ok (.ifCond .eq 7, 3) := by decide +kernel
theorem dX7_side_81 : decode cX7_side 81 = .ok (.iconst 1, 1) := by decide +kernel
theorem dX7_side_82 : decode cX7_side 82 = .ok (.goto 4, 3) := by decide +kernel
theorem dX7_side_85 : decode cX7_side 85 = .ok (.iconst 0, 1) := by decide +kernel
theorem dX7_side_86 : decode cX7_side 86 = .ok (.bastore, 1) := by decide +kernel
theorem dX7_side_87 : decode cX7_side 87 = .ok (.iinc 3 1, 3) := by decide +kernel
theorem dX7_side_90 : decode cX7_side 90 = .ok (.goto (-61), 3) := by decide +kernel
theorem dX7_side_93 : decode cX7_side 93 = .ok (.aload_n 0, 1) := by decide +kernel
theorem dX7_side_94 : decode cX7_side 94 = .ok (.invokevirtual 80, 3) := by decide +kernel
theorem dX7_side_97 : decode cX7_side 97 = .ok (.ireturn, 1) := by decide +kernel
set_option maxRecDepth 20000 in
theorem ggX7_some_X7_settings : GoodIn wsX7_some wsX7_settings := goodIn_r _ [10, 4, 18, 19, 20, 21, 22, 23, 24, 25, 26, 27, 28, 29, 30, 31, 32, 33, 34] (by decide +kernel) (by decide +kernel)
set_option maxRecDepth 20000 in
theorem gX7_some_X7_settings : GoodIn wsX7_some (wsV RX7 76 RX7 yX7_settings wsX7_settings) := goodIn_app (goodIn_of _ (by decide +kernel)) ggX7_some_X7_settings
set_option maxRecDepth 20000 in
theorem ggX7_some_X7_in : GoodIn wsX7_some wsX7_in := goodIn_r _ [13] (by decide +kernel) (by decide +kernel)
set_option maxRecDepth 20000 in
theorem gX7_some_X7_in : GoodIn wsX7_some (va_wsS RX7 55 yX7_in wsX7_in) := goodIn_app (goodIn_of _ (by decide +kernel)) ggX7_some_X7_in
set_option maxRecDepth 20000 in
theorem ggX7_some_X7_added : GoodIn wsX7_some wsX7_added := goodIn_r _ [17, 3, 18, 19, 20, 21, 22, 23, 24, 25, 26, 27, 28, 29, 30, 31, 32, 33, 34] (by decide +kernel) (by decide +kernel)
set_option maxRecDepth 20000 in
theorem gX7_some_X7_added : GoodIn wsX7_some (wsV RX7 80 RX7 yX7_added wsX7_added) := goodIn_app (goodIn_of _ (by decide +kernel)) ggX7_some_X7_added
theorem dX7_some_0 : decode cX7_some 0 = .ok (.iload_n 1, 1) := by decide +kernel
theorem dX7_some_1 : decode cX7_some 1 = .ok (.i2l, 1) := by decide +kernel
theorem dX7_some_2 : decode cX7_some 2 = .ok (.lconst 0, 1) := by decide +kernel
theorem dX7_some_3 : decode cX7_some 3 = .ok (.aload_n 0, 1) := by decide +kernel
theorem dX7_some_4 : decode cX7_some 4 = .ok (.invokevirtual 76, 3) := by decide +kernel
theorem dX7_some_7 : decode cX7_some 7 = .ok (.iconst 1, 1) := by decide +kernel
theorem dX7_some_8 : decode cX7_some 8 = .ok (.isub, 1) := by decide +kernel
theorem dX7_some_9 : decode cX7_some 9 = .ok (.i2l, 1) := by decide +kernel
theorem dX7_some_10 : decode cX7_some 10 = .ok (.invokestatic 55, 3) := by decide +kernel
theorem dX7_some_13 : decode cX7_some 13 = .ok (.ifCond .eq 44, 3) := by decide +kernel
theorem dX7_some_16 : decode cX7_some 16 = .ok (.iload 4, 2) := by decide +kernel
theorem dX7_some_18 : decode cX7_some 18 = .ok (.i2l, 1) := by decide +kernel
theorem dX7_some_19 : decode cX7_some 19 = .ok (.lconst 0, 1) := by decide +kernel
theorem dX7_some_20 : decode cX7_some 20 = .ok (.ldc2_w 86, 3) := by decide +kernel
theorem dX7_some_23 : decode cX7_some 23 = .ok (.invokestatic 55, 3) := by decide +kernel
theorem dX7_some_26 : decode cX7_some 26 = .ok (.ifCond .eq 31, 3) := by decide +kernel
theorem dX7_some_29 : decode cX7_some 29 = .ok (.iload 5, 2) := by decide +kernel
theorem dX7_some_31 : decode cX7_some 31 = .ok (.i2l, 1) := by decide +kernel
theorem dX7_some_32 : decode cX7_some 32 = .ok (.lconst 0, 1) := by decide +kernel
theorem dX7_some_33 : decode cX7_some 33 = .ok (.ldc2_w 88, 3) := by decide +kernel
theorem dX7_some_36 : decode cX7_some 36 = .ok (.invokestatic 55, 3) := by decide +kernel
theorem dX7_some_39 : decode cX7_some 39 = .ok (.ifCond .eq 18, 3) := by decide +kernel
theorem dX7_some_42 : decode cX7_some 42 = .ok (.lload_n 2, 1) := by decide +kernel
theorem dX7_some_43 : decode cX7_some 43 = .ok (.lconst 0, 1) := by decide +kernel
theorem dX7_some_44 : decode cX7_some 44 = .ok (.lcmp, 1) := by decide +kernel
theorem dX7_some_45 : decode cX7_some 45 = .ok (.ifCond .lt 12, 3) := by decide +kernel
theorem dX7_some_48 : decode cX7_some 48 = .ok (.aload_n 0, 1) := by decide +kernel
theorem dX7_some_49 : decode cX7_some 49 = .ok (.getfield 59, 3) := by decide +kernel
theorem dX7_some_52 : decode cX7_some 52 = .ok (.bipush 40, 2) := by decide +kernel
theorem dX7_some_54 : decode cX7_some 54 = .ok (.if_icmp .ne 5, 3) := by decide +kernel
theorem dX7_some_57 : decode cX7_some 57 = .ok (.iconst (-1), 1) := by decide +kernel
theorem dX7_some_58 : decode cX7_some 58 = .ok (.ireturn, 1) := by decide +kernel
theorem dX7_some_59 : decode cX7_some 59 = .ok (.iconst 0, 1) := by decide +kernel
theorem dX7_some_60 : decode cX7_some 60 = .ok (.istore 6, 2) := by decide +kernel
theorem dX7_some_62 : decode cX7_some 62 = .ok (.iload 6, 2) := by decide +kernel
theorem dX7_some_64 : decode cX7_some 64 = .ok (.aload_n 0, 1) := by decide +kernel
theorem dX7_some_65 : decode cX7_some 65 = .ok (.invokevirtual 76, 3) := by decide +kernel
theorem dX7_some_68 : decode cX7_some 68 = .ok (.if_icmp .ge 125, 3) := by decide +kernel
theorem dX7_some_71 : decode cX7_some 71 = .ok (.iconst 0, 1) := by decide +kernel
theorem dX7_some_72 : decode cX7_some 72 = .ok (.istore 7, 2) := by decide +kernel
theorem dX7_some_74 : decode cX7_some 74 = .ok (.iconst 0, 1) := by decide +kernel
theorem dX7_some_75 : decode cX7_some 75 = .ok (.istore 8, 2) := by decide +kernel
theorem dX7_some_77 : decode cX7_some 77 = .ok (.iconst 0, 1) := by decide +kernel
theorem dX7_some_78 : decode cX7_some 78 = .ok (.istore 9, 2) := by decide +kernel
theorem dX7_some_80 : decode cX7_some 80 = .ok (.iload 9, 2) := by decide +kernel
theorem dX7_some_82 : decode cX7_some 82 = .ok (.aload_n 0, 1) := by decide +kernel
theorem dX7_some_83 : decode cX7_some 83 = .ok (.getfield 7, 3) := by decide +kernel
theorem dX7_some_86 : decode cX7_some 86 = .ok (.if_icmp .ge 73, 3) := by decide +kernel
theorem dX7_some_89 : decode cX7_some 89 = .ok (.iload_n 1, 1) := by decide +kernel
theorem dX7_some_90 : decode cX7_some 90 = .ok (.iload 9, 2) := by decide +kernel
theorem dX7_some_92 : decode cX7_some 92 = .ok (.ishr, 1) := by decide +kernel
theorem dX7_some_93 : decode cX7_some 93 = .ok (.iconst 1, 1) := by decide +kernel
theorem dX7_some_94 : decode cX7_some 94 = .ok (.iand, 1) := by decide +kernel
theorem dX7_some_95 : decode cX7_some 95 = .ok (.ifCond .ne 6, 3) := by decide +kernel
theorem dX7_some_98 : decode cX7_some 98 = .ok (.goto 55, 3) := by decide +kernel
theorem dX7_some_101 : decode cX7_some 101 = .ok (.iload 4, 2) := by decide +kernel
theorem dX7_some_103 : decode cX7_some 103 = .ok (.ifCond .ne 7, 3) := by decide +kernel
theorem dX7_some_106 : decode cX7_some 106 = .ok (.iconst 1, 1) := by decide +kernel
theorem dX7_some_107 : decode cX7_some 107 = .ok (.goto 15, 3) := by decide +kernel
theorem dX7_some_110 : decode cX7_some 110 = .ok (.lload_n 2, 1) := by decide +kernel
theorem dX7_some_111 : decode cX7_some 111 = .ok (.iload 8, 2) := by decide +kernel
theorem dX7_some_113 : decode cX7_some 113 = .ok (.lshr, 1) := by decide +kernel
theorem dX7_some_114 : decode cX7_some 114 = .ok (.lconst 1, 1) := by decide +kernel
theorem dX7_some_115 : decode cX7_some 115 = .ok (.iload 4, 2) := by decide +kernel
theorem dX7_some_117 : decode cX7_some 117 = .ok (.lshl, 1) := by decide +kernel
theorem dX7_some_118 : decode cX7_some 118 = .ok (.lconst 1, 1) := by decide +kernel
theorem dX7_some_119 : decode cX7_some 119 = .ok (.lsub, 1) := by decide +kernel
theorem dX7_some_120 : decode cX7_some 120 = .ok (.land, 1) := by decide +kernel
theorem dX7_some_121 : decode cX7_some 121 = .ok (.l2i, 1) := by decide +kernel
theorem dX7_some_122 : decode cX7_some 122 = .ok (.istore 10, 2) := by decide +kernel
theorem dX7_some_124 : decode cX7_some 124 = .ok (.iload 8, 2) := by decide +kernel
theorem dX7_some_126 : decode cX7_some 126 = .ok (.iload 4, 2) := by decide +kernel
theorem dX7_some_128 : decode cX7_some 128 = .ok (.iadd, 1) := by decide +kernel
theorem dX7_some_129 : decode cX7_some 129 = .ok (.istore 8, 2) := by decide +kernel
theorem dX7_some_131 : decode cX7_some 131 = .ok (.iload 7, 2) := by decide +kernel
theorem dX7_some_133 : decode cX7_some 133 = .ok (.iload 6, 2) := by decide +kernel
theorem dX7_some_135 : decode cX7_some 135 = .ok (.iload 9, 2) := by decide +kernel
theorem dX7_some_137 : decode cX7_some 137 = .ok (.ishr, 1) := by decide +kernel
theorem dX7_some_138 : decode cX7_some 138 = .ok (.iconst 1, 1) := by decide +kernel
theorem dX7_some_139 : decode cX7_some 139 = .ok (.iand, 1) := by decide +kernel
theorem dX7_some_140 : decode cX7_some 140 = .ok (.iconst 1, 1) := by decide +kernel
theorem dX7_some_141 : decode cX7_some 141 = .ok (.if_icmp .ne 8, 3) := by decide +kernel
theorem dX7_some_144 : decode cX7_some 144 = .ok (.iload 10, 2) := by decide +kernel
theorem dX7_some_146 : decode cX7_some 146 = .ok (.goto 4, 3) := by decide +kernel
theorem dX7_some_149 : decode cX7_some 149 = .ok (.iconst 0, 1) := by decide +kernel
theorem dX7_some_150 : decode cX7_some 150 = .ok (.iadd, 1) := by decide +kernel
theorem dX7_some_151 : decode cX7_some 151 = .ok (.istore 7, 2) := by decide +kernel
theorem dX7_some_153 : decode cX7_some 153 = .ok (.iinc 9 1, 3) := by decide +kernel
theorem dX7_some_156 : decode cX7_some 156 = .ok (.goto (-76), 3) := by decide +kernel
theorem dX7_some_159 : decode cX7_some 159 = .ok (.aload_n 0, 1) := by decide +kernel
theorem dX7_some_160 : decode cX7_some 160 = .ok (.getfield 23, 3) := by decide +kernel
theorem dX7_some_163 : decode cX7_some 163 = .ok (.sipush 512, 3) := by decide +kernel
theorem dX7_some_166 : decode cX7_some 166 = .ok (.aload_n 0, 1) := by decide +kernel
theorem dX7_some_167 : decode cX7_some 167 = .ok (.getfield 59, 3) := by decide +kernel
theorem dX7_some_170 : decode cX7_some 170 = .ok (.imul, 1) := by decide +kernel
theorem dX7_some_171 : decode cX7_some 171 = .ok (.iload 6, 2) := by decide +kernel
theorem dX7_some_173 : decode cX7_some 173 = .ok (.iadd, 1) := by decide +kernel
theorem dX7_some_174 : decode cX7_some 174 = .ok (.iload 7, 2) := by decide +kernel
theorem dX7_some_176 : decode cX7_some 176 = .ok (.iload 5, 2) := by decide +kernel
theorem dX7_some_178 : decode cX7_some 178 = .ok (.if_icmp .lt 7, 3) := by decide +kernel
theorem dX7_some_181 : decode cX7_some 181 = .ok (.iconst 1, 1) := by decide +kernel
theorem dX7_some_182 : decode cX7_some 182 = .ok (.goto 4, 3) := by decide +kernel
theorem dX7_some_185 : decode cX7_some 185 = .ok (.iconst 0, 1) := by decide +kernel
theorem dX7_some_186 : decode cX7_some 186 = .ok (.bastore, 1) := by decide +kernel
theorem dX7_some_187 : decode cX7_some 187 = .ok (.iinc 6 1, 3) := by decide +kernel
theorem dX7_some_190 : decode cX7_some 190 = .ok (.goto (-128), 3) := by decide +kernel
theorem dX7_some_193 : decode cX7_some 193 = .ok (.aload_n 0, 1) := by decide +kernel
theorem dX7_some_194 : decode cX7_some 194 = .ok (.invokevirtual 80, 3) := by decide +kernel
theorem dX7_some_197 : decode cX7_some 197 = .ok (.ireturn, 1) := by decide +kernel
set_option maxRecDepth 20000 in
theorem ggX7_dual_X7_isRule : GoodIn wsX7_dual wsX7_isRule := goodIn_r _ [7, 1, 8, 9, 6, 10, 20, 21, 22, 23, 24, 25, 26, 27, 28, 29, 30, 31, 32, 33, 34, 35, 36] (by decide +kernel) (by decide +kernel)
set_option maxRecDepth 20000 in
theorem gX7_dual_X7_isRule : GoodIn wsX7_dual (wsV RX7 83 RX7 yX7_isRule wsX7_isRule) := goodIn_app (goodIn_of _ (by decide +kernel)) ggX7_dual_X7_isRule
set_option maxRecDepth 20000 in
theorem ggX7_dual_X7_settings : GoodIn wsX7_dual wsX7_settings := goodIn_r _ [14, 15, 20, 21, 22, 23, 24, 25, 26, 27, 28, 29, 30, 31, 32, 33, 34, 35, 36] (by decide +kernel) (by decide +kernel)
set_option maxRecDepth 20000 in
theorem gX7_dual_X7_settings : GoodIn wsX7_dual (wsV RX7 76 RX7 yX7_settings wsX7_settings) := goodIn_app (goodIn_of _ (by decide +kernel)) ggX7_dual_X7_settings
set_option maxRecDepth 20000 in
theorem ggX7_dual_X7_added : GoodIn wsX7_dual wsX7_added := goodIn_r _ [19, 1, 20, 21, 22, 23, 24, 25, 26, 27, 28, 29, 30, 31, 32, 33, 34, 35, 36] (by decide +kernel) (by decide +kernel)
set_option maxRecDepth 20000 in
theorem gX7_dual_X7_added : GoodIn wsX7_dual (wsV RX7 80 RX7 yX7_added wsX7_added) := goodIn_app (goodIn_of _ (by decide +kernel)) ggX7_dual_X7_added
theorem dX7_dual_0 : decode cX7_dual 0 = .ok (.aload_n 0, 1) := by decide +kernel
theorem dX7_dual_1 : decode cX7_dual 1 = .ok (.iload_n 1, 1) := by decide +kernel
theorem dX7_dual_2 : decode cX7_dual 2 = .ok (.invokevirtual 83, 3) := by decide +kernel
theorem dX7_dual_5 : decode cX7_dual 5 = .ok (.ifCond .eq 12, 3) := by decide +kernel
theorem dX7_dual_8 : decode cX7_dual 8 = .ok (.aload_n 0, 1) := by decide +kernel
theorem dX7_dual_9 : decode cX7_dual 9 = .ok (.getfield 59, 3) := by decide +kernel
theorem dX7_dual_12 : decode cX7_dual 12 = .ok (.bipush 40, 2) := by decide +kernel
theorem dX7_dual_14 : decode cX7_dual 14 = .ok (.if_icmp .ne 5, 3) := by decide +kernel
theorem dX7_dual_17 : decode cX7_dual 17 = .ok (.iconst (-1), 1) := by decide +kernel
theorem dX7_dual_18 : decode cX7_dual 18 = .ok (.ireturn, 1) := by decide +kernel
theorem dX7_dual_19 : decode cX7_dual 19 = .ok (.iconst 0, 1) := by decide +kernel
theorem dX7_dual_20 : decode cX7_dual 20 = .ok (.istore_n 2, 1) := by decide +kernel
theorem dX7_dual_21 : decode cX7_dual 21 = .ok (.iload_n 2, 1) := by decide +kernel
theorem dX7_dual_22 : decode cX7_dual 22 = .ok (.aload_n 0, 1) := by decide +kernel
theorem dX7_dual_23 : decode cX7_dual 23 = .ok (.invokevirtual 76, 3) := by decide +kernel
theorem dX7_dual_26 : decode cX7_dual 26 = .ok (.if_icmp .ge 51, 3) := by decide +kernel
theorem dX7_dual_29 : decode cX7_dual 29 = .ok (.aload_n 0, 1) := by decide +kernel
theorem dX7_dual_30 : decode cX7_dual 30 = .ok (.getfield 23, 3) := by decide +kernel
theorem dX7_dual_33 : decode cX7_dual 33 = .ok (.sipush 512, 3) := by decide +kernel
theorem dX7_dual_36 : decode cX7_dual 36 = .ok (.aload_n 0, 1) := by decide +kernel
theorem dX7_dual_37 : decode cX7_dual 37 = .ok (.getfield 59, 3) := by decide +kernel
theorem dX7_dual_40 : decode cX7_dual 40 = .ok (.imul, 1) := by decide +kernel
theorem dX7_dual_41 : decode cX7_dual 41 = .ok (.iload_n 2, 1) := by decide +kernel
theorem dX7_dual_42 : decode cX7_dual 42 = .ok (.iadd, 1) := by decide +kernel
theorem dX7_dual_43 : decode cX7_dual 43 = .ok (.aload_n 0, 1) := by decide +kernel
theorem dX7_dual_44 : decode cX7_dual 44 = .ok (.getfield 23, 3) := by decide +kernel
theorem dX7_dual_47 : decode cX7_dual 47 = .ok (.sipush 512, 3) := by decide +kernel
theorem dX7_dual_50 : decode cX7_dual 50 = .ok (.iload_n 1, 1) := by decide +kernel
theorem dX7_dual_51 : decode cX7_dual 51 = .ok (.imul, 1) := by decide +kernel
theorem dX7_dual_52 : decode cX7_dual 52 = .ok (.aload_n 0, 1) := by decide +kernel
theorem dX7_dual_53 : decode cX7_dual 53 = .ok (.invokevirtual 76, 3) := by decide +kernel
theorem dX7_dual_56 : decode cX7_dual 56 = .ok (.iadd, 1) := by decide +kernel
theorem dX7_dual_57 : decode cX7_dual 57 = .ok (.iconst 1, 1) := by decide +kernel
theorem dX7_dual_58 : decode cX7_dual 58 = .ok (.isub, 1) := by decide +kernel
theorem dX7_dual_59 : decode cX7_dual 59 = .ok (.iload_n 2, 1) := by decide +kernel
theorem dX7_dual_60 : decode cX7_dual 60 = .ok (.isub, 1) := by decide +kernel
theorem dX7_dual_61 : decode cX7_dual 61 = .ok (.baload, 1) := by decide +kernel
theorem dX7_dual_62 : decode cX7_dual 62 = .ok (.ifCond .ne 7, 3) := by decide +kernel
theorem dX7_dual_65 : decode cX7_dual 65 = .ok (.iconst 1, 1) := by decide +kernel
theorem dX7_dual_66 : decode cX7_dual 66 = .ok (.goto 4, 3) := by decide +kernel
theorem dX7_dual_69 : decode cX7_dual 69 = .ok (.iconst 0, 1) := by decide +kernel
theorem dX7_dual_70 : decode cX7_dual 70 = .ok (.bastore, 1) := by decide +kernel
theorem dX7_dual_71 : decode cX7_dual 71 = .ok (.iinc 2 1, 3) := by decide +kernel
theorem dX7_dual_74 : decode cX7_dual 74 = .ok (.goto (-53), 3) := by decide +kernel
theorem dX7_dual_77 : decode cX7_dual 77 = .ok (.aload_n 0, 1) := by decide +kernel
theorem dX7_dual_78 : decode cX7_dual 78 = .ok (.invokevirtual 80, 3) := by decide +kernel
theorem dX7_dual_81 : decode cX7_dual 81 = .ok (.ireturn, 1) := by decide +kernel
set_option maxRecDepth 20000 in
theorem ggX7_system_X7_isRule : GoodIn wsX7_system wsX7_isRule := goodIn_r _ [6, 7, 8, 9, 5, 10, 11, 12, 13, 14, 15, 16, 17, 18, 19, 20, 21, 22, 23, 24, 25, 26, 27] (by decide +kernel) (by decide +kernel)
set_option maxRecDepth 20000 in
theorem gX7_system_X7_isRule : GoodIn wsX7_system (wsV RX7 83 RX7 yX7_isRule wsX7_isRule) := goodIn_app (goodIn_of _ (by decide +kernel)) ggX7_system_X7_isRule
theorem dX7_system_0 : decode cX7_system 0 = .ok (.aload_n 0, 1) := by decide +kernel
theorem dX7_system_1 : decode cX7_system 1 = .ok (.iload_n 1, 1) := by decide +kernel
theorem dX7_system_2 : decode cX7_system 2 = .ok (.invokevirtual 83, 3) := by decide +kernel
theorem dX7_system_5 : decode cX7_system 5 = .ok (.ifCond .ne 5, 3) := by decide +kernel
theorem dX7_system_8 : decode cX7_system 8 = .ok (.iconst 0, 1) := by decide +kernel
theorem dX7_system_9 : decode cX7_system 9 = .ok (.ireturn, 1) := by decide +kernel
theorem dX7_system_10 : decode cX7_system 10 = .ok (.aload_n 0, 1) := by decide +kernel
theorem dX7_system_11 : decode cX7_system 11 = .ok (.iload_n 1, 1) := by decide +kernel
theorem dX7_system_12 : decode cX7_system 12 = .ok (.putfield 27, 3) := by decide +kernel
theorem dX7_system_15 : decode cX7_system 15 = .ok (.iconst 1, 1) := by decide +kernel
theorem dX7_system_16 : decode cX7_system 16 = .ok (.ireturn, 1) := by decide +kernel
set_option maxRecDepth 20000 in
theorem ggX7_says_X7_isRule : GoodIn wsX7_says wsX7_isRule := goodIn_r _ [6, 7, 8, 9, 5, 10, 16, 17, 18, 19, 20, 21, 22, 23, 24, 25, 26, 27, 28, 29, 30, 31, 32] (by decide +kernel) (by decide +kernel)
set_option maxRecDepth 20000 in
theorem gX7_says_X7_isRule : GoodIn wsX7_says (wsV RX7 83 RX7 yX7_isRule wsX7_isRule) := goodIn_app (goodIn_of _ (by decide +kernel)) ggX7_says_X7_isRule
set_option maxRecDepth 20000 in
theorem ggX7_says_X7_settings : GoodIn wsX7_says wsX7_settings := goodIn_r _ [14, 15, 16, 17, 18, 19, 20, 21, 22, 23, 24, 25, 26, 27, 28, 29, 30, 31, 32] (by decide +kernel) (by decide +kernel)
set_option maxRecDepth 20000 in
theorem gX7_says_X7_settings : GoodIn wsX7_says (wsV RX7 76 RX7 yX7_settings wsX7_settings) := goodIn_app (goodIn_of _ (by decide +kernel)) ggX7_says_X7_settings
set_option maxRecDepth 20000 in
theorem ggX7_says_X7_in : GoodIn wsX7_says wsX7_in := goodIn_r _ [10] (by decide +kernel) (by decide +kernel)
set_option maxRecDepth 20000 in
theorem gX7_says_X7_in : GoodIn wsX7_says (va_wsS RX7 55 yX7_in wsX7_in) := goodIn_app (goodIn_of _ (by decide +kernel)) ggX7_says_X7_in
theorem dX7_says_0 : decode cX7_says 0 = .ok (.aload_n 0, 1) := by decide +kernel
theorem dX7_says_1 : decode cX7_says 1 = .ok (.iload_n 1, 1) := by decide +kernel
theorem dX7_says_2 : decode cX7_says 2 = .ok (.invokevirtual 83, 3) := by decide +kernel
theorem dX7_says_5 : decode cX7_says 5 = .ok (.ifCond .eq 19, 3) := by decide +kernel
theorem dX7_says_8 : decode cX7_says 8 = .ok (.iload_n 2, 1) := by decide +kernel
theorem dX7_says_9 : decode cX7_says 9 = .ok (.i2l, 1) := by decide +kernel
theorem dX7_says_10 : decode cX7_says 10 = .ok (.lconst 0, 1) := by decide +kernel
theorem dX7_says_11 : decode cX7_says 11 = .ok (.aload_n 0, 1) := by decide +kernel
theorem dX7_says_12 : decode cX7_says 12 = .ok (.invokevirtual 76, 3) := by decide +kernel
theorem dX7_says_15 : decode cX7_says 15 = .ok (.iconst 1, 1) := by decide +kernel
theorem dX7_says_16 : decode cX7_says 16 = .ok (.isub, 1) := by decide +kernel
theorem dX7_says_17 : decode cX7_says 17 = .ok (.i2l, 1) := by decide +kernel
theorem dX7_says_18 : decode cX7_says 18 = .ok (.invokestatic 55, 3) := by decide +kernel
theorem dX7_says_21 : decode cX7_says 21 = .ok (.ifCond .ne 7, 3) := by decide +kernel
theorem dX7_says_24 : decode cX7_says 24 = .ok (.iconst (-1), 1) := by decide +kernel
theorem dX7_says_25 : decode cX7_says 25 = .ok (.goto 23, 3) := by decide +kernel
theorem dX7_says_28 : decode cX7_says 28 = .ok (.aload_n 0, 1) := by decide +kernel
theorem dX7_says_29 : decode cX7_says 29 = .ok (.getfield 23, 3) := by decide +kernel
theorem dX7_says_32 : decode cX7_says 32 = .ok (.sipush 512, 3) := by decide +kernel
theorem dX7_says_35 : decode cX7_says 35 = .ok (.iload_n 1, 1) := by decide +kernel
theorem dX7_says_36 : decode cX7_says 36 = .ok (.imul, 1) := by decide +kernel
theorem dX7_says_37 : decode cX7_says 37 = .ok (.iload_n 2, 1) := by decide +kernel
theorem dX7_says_38 : decode cX7_says 38 = .ok (.iadd, 1) := by decide +kernel
theorem dX7_says_39 : decode cX7_says 39 = .ok (.baload, 1) := by decide +kernel
theorem dX7_says_40 : decode cX7_says 40 = .ok (.ifCond .eq 7, 3) := by decide +kernel
theorem dX7_says_43 : decode cX7_says 43 = .ok (.iconst 1, 1) := by decide +kernel
theorem dX7_says_44 : decode cX7_says 44 = .ok (.goto 4, 3) := by decide +kernel
theorem dX7_says_47 : decode cX7_says 47 = .ok (.iconst 0, 1) := by decide +kernel
theorem dX7_says_48 : decode cX7_says 48 = .ok (.ireturn, 1) := by decide +kernel
set_option maxRecDepth 20000 in
theorem ggX7_differ_X7_isRule : GoodIn wsX7_differ wsX7_isRule := goodIn_r _ [6, 7, 8, 9, 5, 10, 16, 17, 18, 19, 20, 21, 22, 23, 24, 25, 26, 27, 28, 29, 30, 31, 32] (by decide +kernel) (by decide +kernel)
set_option maxRecDepth 20000 in
theorem gX7_differ_X7_isRule : GoodIn wsX7_differ (wsV RX7 83 RX7 yX7_isRule wsX7_isRule) := goodIn_app (goodIn_of _ (by decide +kernel)) ggX7_differ_X7_isRule
set_option maxRecDepth 20000 in
theorem ggX7_differ_X7_settings : GoodIn wsX7_differ wsX7_settings := goodIn_r _ [14, 15, 16, 17, 18, 19, 20, 21, 22, 23, 24, 25, 26, 27, 28, 29, 30, 31, 32] (by decide +kernel) (by decide +kernel)
set_option maxRecDepth 20000 in
theorem gX7_differ_X7_settings : GoodIn wsX7_differ (wsV RX7 76 RX7 yX7_settings wsX7_settings) := goodIn_app (goodIn_of _ (by decide +kernel)) ggX7_differ_X7_settings
theorem dX7_differ_0 : decode cX7_differ 0 = .ok (.aload_n 0, 1) := by decide +kernel
theorem dX7_differ_1 : decode cX7_differ 1 = .ok (.iload_n 1, 1) := by decide +kernel
theorem dX7_differ_2 : decode cX7_differ 2 = .ok (.invokevirtual 83, 3) := by decide +kernel
theorem dX7_differ_5 : decode cX7_differ 5 = .ok (.ifCond .eq 11, 3) := by decide +kernel
theorem dX7_differ_8 : decode cX7_differ 8 = .ok (.aload_n 0, 1) := by decide +kernel
theorem dX7_differ_9 : decode cX7_differ 9 = .ok (.iload_n 2, 1) := by decide +kernel
theorem dX7_differ_10 : decode cX7_differ 10 = .ok (.invokevirtual 83, 3) := by decide +kernel
theorem dX7_differ_13 : decode cX7_differ 13 = .ok (.ifCond .ne 5, 3) := by decide +kernel
theorem dX7_differ_16 : decode cX7_differ 16 = .ok (.iconst (-1), 1) := by decide +kernel
theorem dX7_differ_17 : decode cX7_differ 17 = .ok (.ireturn, 1) := by decide +kernel
theorem dX7_differ_18 : decode cX7_differ 18 = .ok (.iconst 0, 1) := by decide +kernel
theorem dX7_differ_19 : decode cX7_differ 19 = .ok (.istore_n 3, 1) := by decide +kernel
theorem dX7_differ_20 : decode cX7_differ 20 = .ok (.iload_n 3, 1) := by decide +kernel
theorem dX7_differ_21 : decode cX7_differ 21 = .ok (.aload_n 0, 1) := by decide +kernel
theorem dX7_differ_22 : decode cX7_differ 22 = .ok (.invokevirtual 76, 3) := by decide +kernel
theorem dX7_differ_25 : decode cX7_differ 25 = .ok (.if_icmp .ge 38, 3) := by decide +kernel
theorem dX7_differ_28 : decode cX7_differ 28 = .ok (.aload_n 0, 1) := by decide +kernel
theorem dX7_differ_29 : decode cX7_differ 29 = .ok (.getfield 23, 3) := by decide +kernel
theorem dX7_differ_32 : decode cX7_differ 32 = .ok (.sipush 512, 3) := by decide +kernel
theorem dX7_differ_35 : decode cX7_differ 35 = .ok (.iload_n 1, 1) := by decide +kernel
theorem dX7_differ_36 : decode cX7_differ 36 = .ok (.imul, 1) := by decide +kernel
theorem dX7_differ_37 : decode cX7_differ 37 = .ok (.iload_n 3, 1) := by decide +kernel
theorem dX7_differ_38 : decode cX7_differ 38 = .ok (.iadd, 1) := by decide +kernel
theorem dX7_differ_39 : decode cX7_differ 39 = .ok (.baload, 1) := by decide +kernel
theorem dX7_differ_40 : decode cX7_differ 40 = .ok (.aload_n 0, 1) := by decide +kernel
theorem dX7_differ_41 : decode cX7_differ 41 = .ok (.getfield 23, 3) := by decide +kernel
theorem dX7_differ_44 : decode cX7_differ 44 = .ok (.sipush 512, 3) := by decide +kernel
theorem dX7_differ_47 : decode cX7_differ 47 = .ok (.iload_n 2, 1) := by decide +kernel
theorem dX7_differ_48 : decode cX7_differ 48 = .ok (.imul, 1) := by decide +kernel
theorem dX7_differ_49 : decode cX7_differ 49 = .ok (.iload_n 3, 1) := by decide +kernel
theorem dX7_differ_50 : decode cX7_differ 50 = .ok (.iadd, 1) := by decide +kernel
theorem dX7_differ_51 : decode cX7_differ 51 = .ok (.baload, 1) := by decide +kernel
theorem dX7_differ_52 : decode cX7_differ 52 = .ok (.if_icmp .eq 5, 3) := by decide +kernel
theorem dX7_differ_55 : decode cX7_differ 55 = .ok (.iload_n 3, 1) := by decide +kernel
theorem dX7_differ_56 : decode cX7_differ 56 = .ok (.ireturn, 1) := by decide +kernel
theorem dX7_differ_57 : decode cX7_differ 57 = .ok (.iinc 3 1, 3) := by decide +kernel
theorem dX7_differ_60 : decode cX7_differ 60 = .ok (.goto (-40), 3) := by decide +kernel
theorem dX7_differ_63 : decode cX7_differ 63 = .ok (.iconst (-1), 1) := by decide +kernel
theorem dX7_differ_64 : decode cX7_differ 64 = .ok (.ireturn, 1) := by decide +kernel
theorem dX7_isGood_0 : decode cX7_isGood 0 = .ok (.aload_n 0, 1) := by decide +kernel
theorem dX7_isGood_1 : decode cX7_isGood 1 = .ok (.getfield 23, 3) := by decide +kernel
theorem dX7_isGood_4 : decode cX7_isGood 4 = .ok (.sipush 512, 3) := by decide +kernel
theorem dX7_isGood_7 : decode cX7_isGood 7 = .ok (.aload_n 0, 1) := by decide +kernel
theorem dX7_isGood_8 : decode cX7_isGood 8 = .ok (.getfield 27, 3) := by decide +kernel
theorem dX7_isGood_11 : decode cX7_isGood 11 = .ok (.imul, 1) := by decide +kernel
theorem dX7_isGood_12 : decode cX7_isGood 12 = .ok (.iload_n 1, 1) := by decide +kernel
theorem dX7_isGood_13 : decode cX7_isGood 13 = .ok (.iadd, 1) := by decide +kernel
theorem dX7_isGood_14 : decode cX7_isGood 14 = .ok (.baload, 1) := by decide +kernel
theorem dX7_isGood_15 : decode cX7_isGood 15 = .ok (.ireturn, 1) := by decide +kernel
set_option maxRecDepth 20000 in
theorem ggX7_isLeast_X7_isEnough : GoodIn wsX7_isLeast wsX7_isEnough := goodIn_r _ [6, 7, 8, 9, 5, 10, 11, 12, 13, 14, 15, 16, 1, 17, 18, 19, 20, 21, 22, 23, 24, 25, 26, 27, 28, 29, 30, 31, 32, 33] (by decide +kernel) (by decide +kernel)
set_option maxRecDepth 20000 in
theorem gX7_isLeast_X7_isEnough : GoodIn wsX7_isLeast (wsV RX7 90 RX7 yX7_isEnough wsX7_isEnough) := goodIn_app (goodIn_of _ (by decide +kernel)) ggX7_isLeast_X7_isEnough
theorem dX7_isLeast_0 : decode cX7_isLeast 0 = .ok (.aload_n 0, 1) := by decide +kernel
theorem dX7_isLeast_1 : decode cX7_isLeast 1 = .ok (.iload_n 1, 1) := by decide +kernel
theorem dX7_isLeast_2 : decode cX7_isLeast 2 = .ok (.iload_n 2, 1) := by decide +kernel
theorem dX7_isLeast_3 : decode cX7_isLeast 3 = .ok (.invokevirtual 90, 3) := by decide +kernel
theorem dX7_isLeast_6 : decode cX7_isLeast 6 = .ok (.istore_n 3, 1) := by decide +kernel
theorem dX7_isLeast_7 : decode cX7_isLeast 7 = .ok (.iconst 0, 1) := by decide +kernel
theorem dX7_isLeast_8 : decode cX7_isLeast 8 = .ok (.istore 4, 2) := by decide +kernel
theorem dX7_isLeast_10 : decode cX7_isLeast 10 = .ok (.iload 4, 2) := by decide +kernel
theorem dX7_isLeast_12 : decode cX7_isLeast 12 = .ok (.aload_n 0, 1) := by decide +kernel
theorem dX7_isLeast_13 : decode cX7_isLeast 13 = .ok (.getfield 7, 3) := by decide +kernel
theorem dX7_isLeast_16 : decode cX7_isLeast 16 = .ok (.if_icmp .ge 42, 3) := by decide +kernel
theorem dX7_isLeast_19 : decode cX7_isLeast 19 = .ok (.iload_n 3, 1) := by decide +kernel
theorem dX7_isLeast_20 : decode cX7_isLeast 20 = .ok (.ifCond .eq 38, 3) := by decide +kernel
theorem dX7_isLeast_23 : decode cX7_isLeast 23 = .ok (.iload_n 2, 1) := by decide +kernel
theorem dX7_isLeast_24 : decode cX7_isLeast 24 = .ok (.iload 4, 2) := by decide +kernel
theorem dX7_isLeast_26 : decode cX7_isLeast 26 = .ok (.ishr, 1) := by decide +kernel
theorem dX7_isLeast_27 : decode cX7_isLeast 27 = .ok (.iconst 1, 1) := by decide +kernel
theorem dX7_isLeast_28 : decode cX7_isLeast 28 = .ok (.iand, 1) := by decide +kernel
theorem dX7_isLeast_29 : decode cX7_isLeast 29 = .ok (.ifCond .eq 17, 3) := by decide +kernel
theorem dX7_isLeast_32 : decode cX7_isLeast 32 = .ok (.aload_n 0, 1) := by decide +kernel
theorem dX7_isLeast_33 : decode cX7_isLeast 33 = .ok (.iload_n 1, 1) := by decide +kernel
theorem dX7_isLeast_34 : decode cX7_isLeast 34 = .ok (.iload_n 2, 1) := by decide +kernel
theorem dX7_isLeast_35 : decode cX7_isLeast 35 = .ok (.iconst 1, 1) := by decide +kernel
theorem dX7_isLeast_36 : decode cX7_isLeast 36 = .ok (.iload 4, 2) := by decide +kernel
theorem dX7_isLeast_38 : decode cX7_isLeast 38 = .ok (.ishl, 1) := by decide +kernel
theorem dX7_isLeast_39 : decode cX7_isLeast 39 = .ok (.isub, 1) := by decide +kernel
theorem dX7_isLeast_40 : decode cX7_isLeast 40 = .ok (.invokevirtual 90, 3) := by decide +kernel
theorem dX7_isLeast_43 : decode cX7_isLeast 43 = .ok (.ifCond .ne 7, 3) := by decide +kernel
theorem dX7_isLeast_46 : decode cX7_isLeast 46 = .ok (.iconst 1, 1) := by decide +kernel
theorem dX7_isLeast_47 : decode cX7_isLeast 47 = .ok (.goto 4, 3) := by decide +kernel
theorem dX7_isLeast_50 : decode cX7_isLeast 50 = .ok (.iconst 0, 1) := by decide +kernel
theorem dX7_isLeast_51 : decode cX7_isLeast 51 = .ok (.istore_n 3, 1) := by decide +kernel
theorem dX7_isLeast_52 : decode cX7_isLeast 52 = .ok (.iinc 4 1, 3) := by decide +kernel
theorem dX7_isLeast_55 : decode cX7_isLeast 55 = .ok (.goto (-45), 3) := by decide +kernel
theorem dX7_isLeast_58 : decode cX7_isLeast 58 = .ok (.iload_n 3, 1) := by decide +kernel
theorem dX7_isLeast_59 : decode cX7_isLeast 59 = .ok (.ireturn, 1) := by decide +kernel
set_option maxRecDepth 20000 in
theorem ggX7_isEnough_X7_isGood : GoodIn wsX7_isEnough wsX7_isGood := goodIn_r _ [5, 6, 7, 13, 14, 15, 16, 17, 18, 19, 20, 21, 22, 23, 24, 25, 26, 27, 28, 29] (by decide +kernel) (by decide +kernel)
set_option maxRecDepth 20000 in
theorem gX7_isEnough_X7_isGood : GoodIn wsX7_isEnough (wsV RX7 94 RX7 yX7_isGood wsX7_isGood) := goodIn_app (goodIn_of _ (by decide +kernel)) ggX7_isEnough_X7_isGood
set_option maxRecDepth 20000 in
theorem ggX7_isEnough_X7_settings : GoodIn wsX7_isEnough wsX7_settings := goodIn_r _ [11, 12, 13, 14, 15, 16, 17, 18, 19, 20, 21, 22, 23, 24, 25, 26, 27, 28, 29] (by decide +kernel) (by decide +kernel)
set_option maxRecDepth 20000 in
theorem gX7_isEnough_X7_settings : GoodIn wsX7_isEnough (wsV RX7 76 RX7 yX7_settings wsX7_settings) := goodIn_app (goodIn_of _ (by decide +kernel)) ggX7_isEnough_X7_settings
theorem dX7_isEnough_0 : decode cX7_isEnough 0 = .ok (.iload_n 1, 1) := by decide +kernel
theorem dX7_isEnough_1 : decode cX7_isEnough 1 = .ok (.ifCond .ne 11, 3) := by decide +kernel
theorem dX7_isEnough_4 : decode cX7_isEnough 4 = .ok (.aload_n 0, 1) := by decide +kernel
theorem dX7_isEnough_5 : decode cX7_isEnough 5 = .ok (.iload_n 2, 1) := by decide +kernel
theorem dX7_isEnough_6 : decode cX7_isEnough 6 = .ok (.invokevirtual 94, 3) := by decide +kernel
theorem dX7_isEnough_9 : decode cX7_isEnough 9 = .ok (.goto 23, 3) := by decide +kernel
theorem dX7_isEnough_12 : decode cX7_isEnough 12 = .ok (.aload_n 0, 1) := by decide +kernel
theorem dX7_isEnough_13 : decode cX7_isEnough 13 = .ok (.aload_n 0, 1) := by decide +kernel
theorem dX7_isEnough_14 : decode cX7_isEnough 14 = .ok (.invokevirtual 76, 3) := by decide +kernel
theorem dX7_isEnough_17 : decode cX7_isEnough 17 = .ok (.iconst 1, 1) := by decide +kernel
theorem dX7_isEnough_18 : decode cX7_isEnough 18 = .ok (.isub, 1) := by decide +kernel
theorem dX7_isEnough_19 : decode cX7_isEnough 19 = .ok (.iload_n 2, 1) := by decide +kernel
theorem dX7_isEnough_20 : decode cX7_isEnough 20 = .ok (.isub, 1) := by decide +kernel
theorem dX7_isEnough_21 : decode cX7_isEnough 21 = .ok (.invokevirtual 94, 3) := by decide +kernel
theorem dX7_isEnough_24 : decode cX7_isEnough 24 = .ok (.ifCond .ne 7, 3) := by decide +kernel
theorem dX7_isEnough_27 : decode cX7_isEnough 27 = .ok (.iconst 1, 1) := by decide +kernel
theorem dX7_isEnough_28 : decode cX7_isEnough 28 = .ok (.goto 4, 3) := by decide +kernel
theorem dX7_isEnough_31 : decode cX7_isEnough 31 = .ok (.iconst 0, 1) := by decide +kernel
theorem dX7_isEnough_32 : decode cX7_isEnough 32 = .ok (.ireturn, 1) := by decide +kernel
set_option maxRecDepth 20000 in
theorem ggX7_sets_X7_in : GoodIn wsX7_sets wsX7_in := goodIn_r _ [5] (by decide +kernel) (by decide +kernel)
set_option maxRecDepth 20000 in
theorem gX7_sets_X7_in : GoodIn wsX7_sets (va_wsS RX7 55 yX7_in wsX7_in) := goodIn_app (goodIn_of _ (by decide +kernel)) ggX7_sets_X7_in
set_option maxRecDepth 20000 in
theorem ggX7_sets_X7_settings : GoodIn wsX7_sets wsX7_settings := goodIn_r _ [9, 10, 24, 25, 26, 27, 28, 29, 30, 31, 32, 33, 34, 35, 36, 37, 38, 39, 40] (by decide +kernel) (by decide +kernel)
set_option maxRecDepth 20000 in
theorem gX7_sets_X7_settings : GoodIn wsX7_sets (wsV RX7 76 RX7 yX7_settings wsX7_settings) := goodIn_app (goodIn_of _ (by decide +kernel)) ggX7_sets_X7_settings
set_option maxRecDepth 20000 in
theorem ggX7_sets_X7_isLeast : GoodIn wsX7_sets wsX7_isLeast := goodIn_r _ [14, 10, 15, 16, 17, 4, 18, 19, 20, 21, 22, 23, 1, 6, 7, 8, 9, 24, 25, 26, 27, 28, 29, 30, 31, 32, 33, 34, 35, 36, 37, 38, 39, 40] (by decide +kernel) (by decide +kernel)
set_option maxRecDepth 20000 in
theorem gX7_sets_X7_isLeast : GoodIn wsX7_sets (wsV RX7 97 RX7 yX7_isLeast wsX7_isLeast) := goodIn_app (goodIn_of _ (by decide +kernel)) ggX7_sets_X7_isLeast
theorem dX7_sets_0 : decode cX7_sets 0 = .ok (.iload_n 1, 1) := by decide +kernel
theorem dX7_sets_1 : decode cX7_sets 1 = .ok (.i2l, 1) := by decide +kernel
theorem dX7_sets_2 : decode cX7_sets 2 = .ok (.lconst 0, 1) := by decide +kernel
theorem dX7_sets_3 : decode cX7_sets 3 = .ok (.lconst 1, 1) := by decide +kernel
theorem dX7_sets_4 : decode cX7_sets 4 = .ok (.invokestatic 55, 3) := by decide +kernel
theorem dX7_sets_7 : decode cX7_sets 7 = .ok (.ifCond .eq 10, 3) := by decide +kernel
theorem dX7_sets_10 : decode cX7_sets 10 = .ok (.aload_n 0, 1) := by decide +kernel
theorem dX7_sets_11 : decode cX7_sets 11 = .ok (.getfield 27, 3) := by decide +kernel
theorem dX7_sets_14 : decode cX7_sets 14 = .ok (.ifCond .ge 5, 3) := by decide +kernel
theorem dX7_sets_17 : decode cX7_sets 17 = .ok (.iconst (-1), 1) := by decide +kernel
theorem dX7_sets_18 : decode cX7_sets 18 = .ok (.ireturn, 1) := by decide +kernel
theorem dX7_sets_19 : decode cX7_sets 19 = .ok (.iconst 0, 1) := by decide +kernel
theorem dX7_sets_20 : decode cX7_sets 20 = .ok (.istore_n 2, 1) := by decide +kernel
theorem dX7_sets_21 : decode cX7_sets 21 = .ok (.iconst 0, 1) := by decide +kernel
theorem dX7_sets_22 : decode cX7_sets 22 = .ok (.istore_n 3, 1) := by decide +kernel
theorem dX7_sets_23 : decode cX7_sets 23 = .ok (.iload_n 3, 1) := by decide +kernel
theorem dX7_sets_24 : decode cX7_sets 24 = .ok (.aload_n 0, 1) := by decide +kernel
theorem dX7_sets_25 : decode cX7_sets 25 = .ok (.invokevirtual 76, 3) := by decide +kernel
theorem dX7_sets_28 : decode cX7_sets 28 = .ok (.if_icmp .ge 26, 3) := by decide +kernel
theorem dX7_sets_31 : decode cX7_sets 31 = .ok (.iload_n 2, 1) := by decide +kernel
theorem dX7_sets_32 : decode cX7_sets 32 = .ok (.aload_n 0, 1) := by decide +kernel
theorem dX7_sets_33 : decode cX7_sets 33 = .ok (.iload_n 1, 1) := by decide +kernel
theorem dX7_sets_34 : decode cX7_sets 34 = .ok (.iload_n 3, 1) := by decide +kernel
theorem dX7_sets_35 : decode cX7_sets 35 = .ok (.invokevirtual 97, 3) := by decide +kernel
theorem dX7_sets_38 : decode cX7_sets 38 = .ok (.ifCond .eq 7, 3) := by decide +kernel
theorem dX7_sets_41 : decode cX7_sets 41 = .ok (.iconst 1, 1) := by decide +kernel
theorem dX7_sets_42 : decode cX7_sets 42 = .ok (.goto 4, 3) := by decide +kernel
theorem dX7_sets_45 : decode cX7_sets 45 = .ok (.iconst 0, 1) := by decide +kernel
theorem dX7_sets_46 : decode cX7_sets 46 = .ok (.iadd, 1) := by decide +kernel
theorem dX7_sets_47 : decode cX7_sets 47 = .ok (.istore_n 2, 1) := by decide +kernel
theorem dX7_sets_48 : decode cX7_sets 48 = .ok (.iinc 3 1, 3) := by decide +kernel
theorem dX7_sets_51 : decode cX7_sets 51 = .ok (.goto (-28), 3) := by decide +kernel
theorem dX7_sets_54 : decode cX7_sets 54 = .ok (.iload_n 2, 1) := by decide +kernel
theorem dX7_sets_55 : decode cX7_sets 55 = .ok (.ireturn, 1) := by decide +kernel
set_option maxRecDepth 20000 in
theorem ggX7_set_X7_in : GoodIn wsX7_set wsX7_in := goodIn_r _ [5] (by decide +kernel) (by decide +kernel)
set_option maxRecDepth 20000 in
theorem gX7_set_X7_in : GoodIn wsX7_set (va_wsS RX7 55 yX7_in wsX7_in) := goodIn_app (goodIn_of _ (by decide +kernel)) ggX7_set_X7_in
set_option maxRecDepth 20000 in
theorem ggX7_set_X7_settings : GoodIn wsX7_set wsX7_settings := goodIn_r _ [9, 10, 24, 25, 26, 27, 28, 29, 30, 31, 32, 33, 34, 35, 36, 37, 38, 39, 40] (by decide +kernel) (by decide +kernel)
set_option maxRecDepth 20000 in
theorem gX7_set_X7_settings : GoodIn wsX7_set (wsV RX7 76 RX7 yX7_settings wsX7_settings) := goodIn_app (goodIn_of _ (by decide +kernel)) ggX7_set_X7_settings
set_option maxRecDepth 20000 in
theorem ggX7_set_X7_isLeast : GoodIn wsX7_set wsX7_isLeast := goodIn_r _ [14, 10, 15, 16, 17, 4, 18, 19, 20, 21, 22, 23, 1, 6, 7, 8, 9, 24, 25, 26, 27, 28, 29, 30, 31, 32, 33, 34, 35, 36, 37, 38, 39, 40] (by decide +kernel) (by decide +kernel)
set_option maxRecDepth 20000 in
theorem gX7_set_X7_isLeast : GoodIn wsX7_set (wsV RX7 97 RX7 yX7_isLeast wsX7_isLeast) := goodIn_app (goodIn_of _ (by decide +kernel)) ggX7_set_X7_isLeast
theorem dX7_set_0 : decode cX7_set 0 = .ok (.iload_n 1, 1) := by decide +kernel
theorem dX7_set_1 : decode cX7_set 1 = .ok (.i2l, 1) := by decide +kernel
theorem dX7_set_2 : decode cX7_set 2 = .ok (.lconst 0, 1) := by decide +kernel
theorem dX7_set_3 : decode cX7_set 3 = .ok (.lconst 1, 1) := by decide +kernel
theorem dX7_set_4 : decode cX7_set 4 = .ok (.invokestatic 55, 3) := by decide +kernel
theorem dX7_set_7 : decode cX7_set 7 = .ok (.ifCond .eq 10, 3) := by decide +kernel
theorem dX7_set_10 : decode cX7_set 10 = .ok (.aload_n 0, 1) := by decide +kernel
theorem dX7_set_11 : decode cX7_set 11 = .ok (.getfield 27, 3) := by decide +kernel
theorem dX7_set_14 : decode cX7_set 14 = .ok (.ifCond .ge 5, 3) := by decide +kernel
theorem dX7_set_17 : decode cX7_set 17 = .ok (.iconst (-1), 1) := by decide +kernel
theorem dX7_set_18 : decode cX7_set 18 = .ok (.ireturn, 1) := by decide +kernel
theorem dX7_set_19 : decode cX7_set 19 = .ok (.iconst 0, 1) := by decide +kernel
theorem dX7_set_20 : decode cX7_set 20 = .ok (.istore_n 3, 1) := by decide +kernel
theorem dX7_set_21 : decode cX7_set 21 = .ok (.iconst 0, 1) := by decide +kernel
theorem dX7_set_22 : decode cX7_set 22 = .ok (.istore 4, 2) := by decide +kernel
theorem dX7_set_24 : decode cX7_set 24 = .ok (.iload 4, 2) := by decide +kernel
theorem dX7_set_26 : decode cX7_set 26 = .ok (.aload_n 0, 1) := by decide +kernel
theorem dX7_set_27 : decode cX7_set 27 = .ok (.invokevirtual 76, 3) := by decide +kernel
theorem dX7_set_30 : decode cX7_set 30 = .ok (.if_icmp .ge 30, 3) := by decide +kernel
theorem dX7_set_33 : decode cX7_set 33 = .ok (.aload_n 0, 1) := by decide +kernel
theorem dX7_set_34 : decode cX7_set 34 = .ok (.iload_n 1, 1) := by decide +kernel
theorem dX7_set_35 : decode cX7_set 35 = .ok (.iload 4, 2) := by decide +kernel
theorem dX7_set_37 : decode cX7_set 37 = .ok (.invokevirtual 97, 3) := by decide +kernel
theorem dX7_set_40 : decode cX7_set 40 = .ok (.ifCond .eq 14, 3) := by decide +kernel
theorem dX7_set_43 : decode cX7_set 43 = .ok (.iload_n 3, 1) := by decide +kernel
theorem dX7_set_44 : decode cX7_set 44 = .ok (.iload_n 2, 1) := by decide +kernel
theorem dX7_set_45 : decode cX7_set 45 = .ok (.if_icmp .ne 6, 3) := by decide +kernel
theorem dX7_set_48 : decode cX7_set 48 = .ok (.iload 4, 2) := by decide +kernel
theorem dX7_set_50 : decode cX7_set 50 = .ok (.ireturn, 1) := by decide +kernel
theorem dX7_set_51 : decode cX7_set 51 = .ok (.iinc 3 1, 3) := by decide +kernel
theorem dX7_set_54 : decode cX7_set 54 = .ok (.iinc 4 1, 3) := by decide +kernel
theorem dX7_set_57 : decode cX7_set 57 = .ok (.goto (-33), 3) := by decide +kernel
theorem dX7_set_60 : decode cX7_set 60 = .ok (.iconst (-1), 1) := by decide +kernel
theorem dX7_set_61 : decode cX7_set 61 = .ok (.ireturn, 1) := by decide +kernel
set_option maxRecDepth 20000 in
theorem ggX7_see_X7_isPart : GoodIn wsX7_see wsX7_isPart := goodIn_r _ [7, 8, 9, 10, 6, 11, 12, 13, 14, 15, 16, 17, 18, 19, 20, 21, 22, 23, 24, 25, 26, 27, 28] (by decide +kernel) (by decide +kernel)
set_option maxRecDepth 20000 in
theorem gX7_see_X7_isPart : GoodIn wsX7_see (wsV RX7 70 RX7 yX7_isPart wsX7_isPart) := goodIn_app (goodIn_of _ (by decide +kernel)) ggX7_see_X7_isPart
set_option maxRecDepth 20000 in
theorem ggX7_see_X7_in : GoodIn wsX7_see wsX7_in := goodIn_r _ [11] (by decide +kernel) (by decide +kernel)
set_option maxRecDepth 20000 in
theorem gX7_see_X7_in : GoodIn wsX7_see (va_wsS RX7 55 yX7_in wsX7_in) := goodIn_app (goodIn_of _ (by decide +kernel)) ggX7_see_X7_in
theorem dX7_see_0 : decode cX7_see 0 = .ok (.aload_n 0, 1) := by decide +kernel
theorem dX7_see_1 : decode cX7_see 1 = .ok (.iload_n 1, 1) := by decide +kernel
theorem dX7_see_2 : decode cX7_see 2 = .ok (.invokevirtual 70, 3) := by decide +kernel
theorem dX7_see_5 : decode cX7_see 5 = .ok (.ifCond .eq 15, 3) := by decide +kernel
theorem dX7_see_8 : decode cX7_see 8 = .ok (.iload_n 2, 1) := by decide +kernel
theorem dX7_see_9 : decode cX7_see 9 = .ok (.i2l, 1) := by decide +kernel
theorem dX7_see_10 : decode cX7_see 10 = .ok (.ldc2_w 100, 3) := by decide +kernel
theorem dX7_see_13 : decode cX7_see 13 = .ok (.lconst 1, 1) := by decide +kernel
theorem dX7_see_14 : decode cX7_see 14 = .ok (.invokestatic 55, 3) := by decide +kernel
theorem dX7_see_17 : decode cX7_see 17 = .ok (.ifCond .ne 5, 3) := by decide +kernel
theorem dX7_see_20 : decode cX7_see 20 = .ok (.iconst 0, 1) := by decide +kernel
theorem dX7_see_21 : decode cX7_see 21 = .ok (.ireturn, 1) := by decide +kernel
theorem dX7_see_22 : decode cX7_see 22 = .ok (.aload_n 0, 1) := by decide +kernel
theorem dX7_see_23 : decode cX7_see 23 = .ok (.getfield 30, 3) := by decide +kernel
theorem dX7_see_26 : decode cX7_see 26 = .ok (.iload_n 1, 1) := by decide +kernel
theorem dX7_see_27 : decode cX7_see 27 = .ok (.iload_n 2, 1) := by decide +kernel
theorem dX7_see_28 : decode cX7_see 28 = .ok (.iastore, 1) := by decide +kernel
theorem dX7_see_29 : decode cX7_see 29 = .ok (.iconst 1, 1) := by decide +kernel
theorem dX7_see_30 : decode cX7_see 30 = .ok (.ireturn, 1) := by decide +kernel
set_option maxRecDepth 20000 in
theorem ggX7_partOf_X7_isPart : GoodIn wsX7_partOf wsX7_isPart := goodIn_r _ [9, 10, 11, 12, 8, 13, 14, 15, 16, 17, 18, 19, 20, 21, 22, 23, 24, 25, 26, 27, 28, 29, 30] (by decide +kernel) (by decide +kernel)
set_option maxRecDepth 20000 in
theorem gX7_partOf_X7_isPart : GoodIn wsX7_partOf (wsV RX7 70 RX7 yX7_isPart wsX7_isPart) := goodIn_app (goodIn_of _ (by decide +kernel)) ggX7_partOf_X7_isPart
theorem dX7_partOf_0 : decode cX7_partOf 0 = .ok (.aload_n 0, 1) := by decide +kernel
theorem dX7_partOf_1 : decode cX7_partOf 1 = .ok (.iload_n 1, 1) := by decide +kernel
theorem dX7_partOf_2 : decode cX7_partOf 2 = .ok (.invokevirtual 70, 3) := by decide +kernel
theorem dX7_partOf_5 : decode cX7_partOf 5 = .ok (.ifCond .ne 6, 3) := by decide +kernel
theorem dX7_partOf_8 : decode cX7_partOf 8 = .ok (.bipush (-2), 2) := by decide +kernel
theorem dX7_partOf_10 : decode cX7_partOf 10 = .ok (.ireturn, 1) := by decide +kernel
theorem dX7_partOf_11 : decode cX7_partOf 11 = .ok (.iload_n 2, 1) := by decide +kernel
theorem dX7_partOf_12 : decode cX7_partOf 12 = .ok (.ifCond .ne 12, 3) := by decide +kernel
theorem dX7_partOf_15 : decode cX7_partOf 15 = .ok (.aload_n 0, 1) := by decide +kernel
theorem dX7_partOf_16 : decode cX7_partOf 16 = .ok (.getfield 13, 3) := by decide +kernel
theorem dX7_partOf_19 : decode cX7_partOf 19 = .ok (.iload_n 1, 1) := by decide +kernel
theorem dX7_partOf_20 : decode cX7_partOf 20 = .ok (.iaload, 1) := by decide +kernel
theorem dX7_partOf_21 : decode cX7_partOf 21 = .ok (.goto 47, 3) := by decide +kernel
theorem dX7_partOf_24 : decode cX7_partOf 24 = .ok (.iload_n 2, 1) := by decide +kernel
theorem dX7_partOf_25 : decode cX7_partOf 25 = .ok (.iconst 1, 1) := by decide +kernel
theorem dX7_partOf_26 : decode cX7_partOf 26 = .ok (.if_icmp .ne 12, 3) := by decide +kernel
theorem dX7_partOf_29 : decode cX7_partOf 29 = .ok (.aload_n 0, 1) := by decide +kernel
theorem dX7_partOf_30 : decode cX7_partOf 30 = .ok (.getfield 17, 3) := by decide +kernel
theorem dX7_partOf_33 : decode cX7_partOf 33 = .ok (.iload_n 1, 1) := by decide +kernel
theorem dX7_partOf_34 : decode cX7_partOf 34 = .ok (.iaload, 1) := by decide +kernel
theorem dX7_partOf_35 : decode cX7_partOf 35 = .ok (.goto 33, 3) := by decide +kernel
theorem dX7_partOf_38 : decode cX7_partOf 38 = .ok (.iload_n 2, 1) := by decide +kernel
theorem dX7_partOf_39 : decode cX7_partOf 39 = .ok (.iconst 2, 1) := by decide +kernel
theorem dX7_partOf_40 : decode cX7_partOf 40 = .ok (.if_icmp .ne 12, 3) := by decide +kernel
theorem dX7_partOf_43 : decode cX7_partOf 43 = .ok (.aload_n 0, 1) := by decide +kernel
theorem dX7_partOf_44 : decode cX7_partOf 44 = .ok (.getfield 20, 3) := by decide +kernel
theorem dX7_partOf_47 : decode cX7_partOf 47 = .ok (.iload_n 1, 1) := by decide +kernel
theorem dX7_partOf_48 : decode cX7_partOf 48 = .ok (.iaload, 1) := by decide +kernel
theorem dX7_partOf_49 : decode cX7_partOf 49 = .ok (.goto 19, 3) := by decide +kernel
theorem dX7_partOf_52 : decode cX7_partOf 52 = .ok (.iload_n 2, 1) := by decide +kernel
theorem dX7_partOf_53 : decode cX7_partOf 53 = .ok (.iconst 3, 1) := by decide +kernel
theorem dX7_partOf_54 : decode cX7_partOf 54 = .ok (.if_icmp .ne 12, 3) := by decide +kernel
theorem dX7_partOf_57 : decode cX7_partOf 57 = .ok (.aload_n 0, 1) := by decide +kernel
theorem dX7_partOf_58 : decode cX7_partOf 58 = .ok (.getfield 30, 3) := by decide +kernel
theorem dX7_partOf_61 : decode cX7_partOf 61 = .ok (.iload_n 1, 1) := by decide +kernel
theorem dX7_partOf_62 : decode cX7_partOf 62 = .ok (.iaload, 1) := by decide +kernel
theorem dX7_partOf_63 : decode cX7_partOf 63 = .ok (.goto 5, 3) := by decide +kernel
theorem dX7_partOf_66 : decode cX7_partOf 66 = .ok (.bipush (-2), 2) := by decide +kernel
theorem dX7_partOf_68 : decode cX7_partOf 68 = .ok (.ireturn, 1) := by decide +kernel
theorem dX7_now_0 : decode cX7_now 0 = .ok (.iconst 0, 1) := by decide +kernel
theorem dX7_now_1 : decode cX7_now 1 = .ok (.istore_n 1, 1) := by decide +kernel
theorem dX7_now_2 : decode cX7_now 2 = .ok (.iconst 0, 1) := by decide +kernel
theorem dX7_now_3 : decode cX7_now 3 = .ok (.istore_n 2, 1) := by decide +kernel
theorem dX7_now_4 : decode cX7_now 4 = .ok (.iload_n 2, 1) := by decide +kernel
theorem dX7_now_5 : decode cX7_now 5 = .ok (.aload_n 0, 1) := by decide +kernel
theorem dX7_now_6 : decode cX7_now 6 = .ok (.getfield 7, 3) := by decide +kernel
theorem dX7_now_9 : decode cX7_now 9 = .ok (.if_icmp .ge 47, 3) := by decide +kernel
theorem dX7_now_12 : decode cX7_now 12 = .ok (.iload_n 1, 1) := by decide +kernel
theorem dX7_now_13 : decode cX7_now 13 = .ok (.aload_n 0, 1) := by decide +kernel
theorem dX7_now_14 : decode cX7_now 14 = .ok (.getfield 52, 3) := by decide +kernel
theorem dX7_now_17 : decode cX7_now 17 = .ok (.iload_n 2, 1) := by decide +kernel
theorem dX7_now_18 : decode cX7_now 18 = .ok (.iaload, 1) := by decide +kernel
theorem dX7_now_19 : decode cX7_now 19 = .ok (.aload_n 0, 1) := by decide +kernel
theorem dX7_now_20 : decode cX7_now 20 = .ok (.getfield 30, 3) := by decide +kernel
theorem dX7_now_23 : decode cX7_now 23 = .ok (.iload_n 2, 1) := by decide +kernel
theorem dX7_now_24 : decode cX7_now 24 = .ok (.iaload, 1) := by decide +kernel
theorem dX7_now_25 : decode cX7_now 25 = .ok (.iconst 1, 1) := by decide +kernel
theorem dX7_now_26 : decode cX7_now 26 = .ok (.if_icmp .ne 7, 3) := by decide +kernel
theorem dX7_now_29 : decode cX7_now 29 = .ok (.iconst 1, 1) := by decide +kernel
theorem dX7_now_30 : decode cX7_now 30 = .ok (.goto 17, 3) := by decide +kernel
theorem dX7_now_33 : decode cX7_now 33 = .ok (.aload_n 0, 1) := by decide +kernel
theorem dX7_now_34 : decode cX7_now 34 = .ok (.getfield 30, 3) := by decide +kernel
theorem dX7_now_37 : decode cX7_now 37 = .ok (.iload_n 2, 1) := by decide +kernel
theorem dX7_now_38 : decode cX7_now 38 = .ok (.iaload, 1) := by decide +kernel
theorem dX7_now_39 : decode cX7_now 39 = .ok (.ifCond .ne 7, 3) := by decide +kernel
theorem dX7_now_42 : decode cX7_now 42 = .ok (.iconst 2, 1) := by decide +kernel
theorem dX7_now_43 : decode cX7_now 43 = .ok (.goto 4, 3) := by decide +kernel
theorem dX7_now_46 : decode cX7_now 46 = .ok (.iconst 0, 1) := by decide +kernel
theorem dX7_now_47 : decode cX7_now 47 = .ok (.imul, 1) := by decide +kernel
theorem dX7_now_48 : decode cX7_now 48 = .ok (.iadd, 1) := by decide +kernel
theorem dX7_now_49 : decode cX7_now 49 = .ok (.istore_n 1, 1) := by decide +kernel
theorem dX7_now_50 : decode cX7_now 50 = .ok (.iinc 2 1, 3) := by decide +kernel
theorem dX7_now_53 : decode cX7_now 53 = .ok (.goto (-49), 3) := by decide +kernel
theorem dX7_now_56 : decode cX7_now 56 = .ok (.iload_n 1, 1) := by decide +kernel
theorem dX7_now_57 : decode cX7_now 57 = .ok (.ireturn, 1) := by decide +kernel
theorem dX7_digit_0 : decode cX7_digit 0 = .ok (.iload_n 1, 1) := by decide +kernel
theorem dX7_digit_1 : decode cX7_digit 1 = .ok (.aload_n 0, 1) := by decide +kernel
theorem dX7_digit_2 : decode cX7_digit 2 = .ok (.getfield 52, 3) := by decide +kernel
theorem dX7_digit_5 : decode cX7_digit 5 = .ok (.iload_n 2, 1) := by decide +kernel
theorem dX7_digit_6 : decode cX7_digit 6 = .ok (.iaload, 1) := by decide +kernel
theorem dX7_digit_7 : decode cX7_digit 7 = .ok (.idiv, 1) := by decide +kernel
theorem dX7_digit_8 : decode cX7_digit 8 = .ok (.iconst 3, 1) := by decide +kernel
theorem dX7_digit_9 : decode cX7_digit 9 = .ok (.irem, 1) := by decide +kernel
theorem dX7_digit_10 : decode cX7_digit 10 = .ok (.ireturn, 1) := by decide +kernel
set_option maxRecDepth 20000 in
theorem ggX7_setOf_X7_digit : GoodIn wsX7_setOf wsX7_digit := goodIn_r _ [6, 7, 8, 9, 10, 11, 12, 13, 14, 15, 16, 17, 18, 19, 20, 21, 22, 23, 24] (by decide +kernel) (by decide +kernel)
set_option maxRecDepth 20000 in
theorem gX7_setOf_X7_digit : GoodIn wsX7_setOf (wsV RX7 102 RX7 yX7_digit wsX7_digit) := goodIn_app (goodIn_of _ (by decide +kernel)) ggX7_setOf_X7_digit
theorem dX7_setOf_0 : decode cX7_setOf 0 = .ok (.iconst 0, 1) := by decide +kernel
theorem dX7_setOf_1 : decode cX7_setOf 1 = .ok (.istore_n 3, 1) := by decide +kernel
theorem dX7_setOf_2 : decode cX7_setOf 2 = .ok (.iconst 0, 1) := by decide +kernel
theorem dX7_setOf_3 : decode cX7_setOf 3 = .ok (.istore 4, 2) := by decide +kernel
theorem dX7_setOf_5 : decode cX7_setOf 5 = .ok (.iload 4, 2) := by decide +kernel
theorem dX7_setOf_7 : decode cX7_setOf 7 = .ok (.aload_n 0, 1) := by decide +kernel
theorem dX7_setOf_8 : decode cX7_setOf 8 = .ok (.getfield 7, 3) := by decide +kernel
theorem dX7_setOf_11 : decode cX7_setOf 11 = .ok (.if_icmp .ge 31, 3) := by decide +kernel
theorem dX7_setOf_14 : decode cX7_setOf 14 = .ok (.iload_n 3, 1) := by decide +kernel
theorem dX7_setOf_15 : decode cX7_setOf 15 = .ok (.aload_n 0, 1) := by decide +kernel
theorem dX7_setOf_16 : decode cX7_setOf 16 = .ok (.iload_n 1, 1) := by decide +kernel
theorem dX7_setOf_17 : decode cX7_setOf 17 = .ok (.iload 4, 2) := by decide +kernel
theorem dX7_setOf_19 : decode cX7_setOf 19 = .ok (.invokevirtual 102, 3) := by decide +kernel
theorem dX7_setOf_22 : decode cX7_setOf 22 = .ok (.iload_n 2, 1) := by decide +kernel
theorem dX7_setOf_23 : decode cX7_setOf 23 = .ok (.if_icmp .ne 10, 3) := by decide +kernel
theorem dX7_setOf_26 : decode cX7_setOf 26 = .ok (.iconst 1, 1) := by decide +kernel
theorem dX7_setOf_27 : decode cX7_setOf 27 = .ok (.iload 4, 2) := by decide +kernel
theorem dX7_setOf_29 : decode cX7_setOf 29 = .ok (.ishl, 1) := by decide +kernel
theorem dX7_setOf_30 : decode cX7_setOf 30 = .ok (.goto 4, 3) := by decide +kernel
theorem dX7_setOf_33 : decode cX7_setOf 33 = .ok (.iconst 0, 1) := by decide +kernel
theorem dX7_setOf_34 : decode cX7_setOf 34 = .ok (.iadd, 1) := by decide +kernel
theorem dX7_setOf_35 : decode cX7_setOf 35 = .ok (.istore_n 3, 1) := by decide +kernel
theorem dX7_setOf_36 : decode cX7_setOf 36 = .ok (.iinc 4 1, 3) := by decide +kernel
theorem dX7_setOf_39 : decode cX7_setOf 39 = .ok (.goto (-34), 3) := by decide +kernel
theorem dX7_setOf_42 : decode cX7_setOf 42 = .ok (.iload_n 3, 1) := by decide +kernel
theorem dX7_setOf_43 : decode cX7_setOf 43 = .ok (.ireturn, 1) := by decide +kernel
set_option maxRecDepth 20000 in
theorem ggX7_sureAt_X7_setOf : GoodIn wsX7_sureAt wsX7_setOf := goodIn_r _ [5, 6, 7, 8, 9, 4, 10, 11, 22, 23, 24, 25, 26, 27, 28, 29, 30, 31, 32, 33, 34, 35, 36, 37, 38] (by decide +kernel) (by decide +kernel)
set_option maxRecDepth 20000 in
theorem gX7_sureAt_X7_setOf : GoodIn wsX7_sureAt (wsV RX7 106 RX7 yX7_setOf wsX7_setOf) := goodIn_app (goodIn_of _ (by decide +kernel)) ggX7_sureAt_X7_setOf
set_option maxRecDepth 20000 in
theorem ggX7_sureAt_X7_isGood : GoodIn wsX7_sureAt wsX7_isGood := goodIn_r _ [15, 16, 17, 22, 23, 24, 25, 26, 27, 28, 29, 30, 31, 32, 33, 34, 35, 36, 37, 38] (by decide +kernel) (by decide +kernel)
set_option maxRecDepth 20000 in
theorem gX7_sureAt_X7_isGood : GoodIn wsX7_sureAt (wsV RX7 94 RX7 yX7_isGood wsX7_isGood) := goodIn_app (goodIn_of _ (by decide +kernel)) ggX7_sureAt_X7_isGood
set_option maxRecDepth 20000 in
theorem ggX7_sureAt_X7_settings : GoodIn wsX7_sureAt wsX7_settings := goodIn_r _ [21, 6, 22, 23, 24, 25, 26, 27, 28, 29, 30, 31, 32, 33, 34, 35, 36, 37, 38] (by decide +kernel) (by decide +kernel)
set_option maxRecDepth 20000 in
theorem gX7_sureAt_X7_settings : GoodIn wsX7_sureAt (wsV RX7 76 RX7 yX7_settings wsX7_settings) := goodIn_app (goodIn_of _ (by decide +kernel)) ggX7_sureAt_X7_settings
theorem dX7_sureAt_0 : decode cX7_sureAt 0 = .ok (.aload_n 0, 1) := by decide +kernel
theorem dX7_sureAt_1 : decode cX7_sureAt 1 = .ok (.aload_n 0, 1) := by decide +kernel
theorem dX7_sureAt_2 : decode cX7_sureAt 2 = .ok (.iload_n 1, 1) := by decide +kernel
theorem dX7_sureAt_3 : decode cX7_sureAt 3 = .ok (.iconst 1, 1) := by decide +kernel
theorem dX7_sureAt_4 : decode cX7_sureAt 4 = .ok (.invokevirtual 106, 3) := by decide +kernel
theorem dX7_sureAt_7 : decode cX7_sureAt 7 = .ok (.invokevirtual 94, 3) := by decide +kernel
theorem dX7_sureAt_10 : decode cX7_sureAt 10 = .ok (.ifCond .eq 5, 3) := by decide +kernel
theorem dX7_sureAt_13 : decode cX7_sureAt 13 = .ok (.iconst 1, 1) := by decide +kernel
theorem dX7_sureAt_14 : decode cX7_sureAt 14 = .ok (.ireturn, 1) := by decide +kernel
theorem dX7_sureAt_15 : decode cX7_sureAt 15 = .ok (.aload_n 0, 1) := by decide +kernel
end
section
theorem dX7_sureAt_16 : decode cX7_sureAt 16 = .ok (.aload_n 0, 1) := by decide +kernel
theorem dX7_sureAt_17 : decode cX7_sureAt 17 = .ok (.invokevirtual 76, 3) := by decide +kernel
theorem dX7_sureAt_20 : decode cX7_sureAt 20 = .ok (.iconst 1, 1) := by decide +kernel
theorem dX7_sureAt_21 : decode cX7_sureAt 21 = .ok (.isub, 1) := by decide +kernel
theorem dX7_sureAt_22 : decode cX7_sureAt 22 = .ok (.aload_n 0, 1) := by decide +kernel
theorem dX7_sureAt_23 : decode cX7_sureAt 23 = .ok (.iload_n 1, 1) := by decide +kernel
theorem dX7_sureAt_24 : decode cX7_sureAt 24 = .ok (.iconst 2, 1) := by decide +kernel
theorem dX7_sureAt_25 : decode cX7_sureAt 25 = .ok (.invokevirtual 106, 3) := by decide +kernel
theorem dX7_sureAt_28 : decode cX7_sureAt 28 = .ok (.isub, 1) := by decide +kernel
theorem dX7_sureAt_29 : decode cX7_sureAt 29 = .ok (.invokevirtual 94, 3) := by decide +kernel
theorem dX7_sureAt_32 : decode cX7_sureAt 32 = .ok (.ifCond .eq 7, 3) := by decide +kernel
theorem dX7_sureAt_35 : decode cX7_sureAt 35 = .ok (.iconst (-1), 1) := by decide +kernel
theorem dX7_sureAt_36 : decode cX7_sureAt 36 = .ok (.goto 4, 3) := by decide +kernel
theorem dX7_sureAt_39 : decode cX7_sureAt 39 = .ok (.iconst 0, 1) := by decide +kernel
theorem dX7_sureAt_40 : decode cX7_sureAt 40 = .ok (.ireturn, 1) := by decide +kernel
set_option maxRecDepth 20000 in
theorem ggX7_sure_X7_now : GoodIn wsX7_sure wsX7_now := goodIn_r _ [6, 7, 8, 9, 31, 32, 33, 34, 35, 36, 37, 38, 39, 40, 41, 42, 43, 44, 45, 46, 47] (by decide +kernel) (by decide +kernel)
set_option maxRecDepth 20000 in
theorem gX7_sure_X7_now : GoodIn wsX7_sure (wsV RX7 109 RX7 yX7_now wsX7_now) := goodIn_app (goodIn_of _ (by decide +kernel)) ggX7_sure_X7_now
set_option maxRecDepth 20000 in
theorem ggX7_sure_X7_sureAt : GoodIn wsX7_sure wsX7_sureAt := goodIn_r _ [13, 14, 15, 16, 5, 17, 7, 18, 19, 20, 21, 8, 22, 23, 24, 25, 26, 1, 27, 28, 29, 30, 31, 32, 33, 34, 35, 36, 37, 38, 39, 40, 41, 42, 43, 44, 45, 46, 47] (by decide +kernel) (by decide +kernel)
set_option maxRecDepth 20000 in
theorem gX7_sure_X7_sureAt : GoodIn wsX7_sure (wsV RX7 112 RX7 yX7_sureAt wsX7_sureAt) := goodIn_app (goodIn_of _ (by decide +kernel)) ggX7_sure_X7_sureAt
theorem dX7_sure_0 : decode cX7_sure 0 = .ok (.aload_n 0, 1) := by decide +kernel
theorem dX7_sure_1 : decode cX7_sure 1 = .ok (.getfield 27, 3) := by decide +kernel
theorem dX7_sure_4 : decode cX7_sure 4 = .ok (.ifCond .ge 8, 3) := by decide +kernel
theorem dX7_sure_7 : decode cX7_sure 7 = .ok (.bipush (-2), 2) := by decide +kernel
theorem dX7_sure_9 : decode cX7_sure 9 = .ok (.goto 11, 3) := by decide +kernel
theorem dX7_sure_12 : decode cX7_sure 12 = .ok (.aload_n 0, 1) := by decide +kernel
theorem dX7_sure_13 : decode cX7_sure 13 = .ok (.aload_n 0, 1) := by decide +kernel
theorem dX7_sure_14 : decode cX7_sure 14 = .ok (.invokevirtual 109, 3) := by decide +kernel
theorem dX7_sure_17 : decode cX7_sure 17 = .ok (.invokevirtual 112, 3) := by decide +kernel
theorem dX7_sure_20 : decode cX7_sure 20 = .ok (.ireturn, 1) := by decide +kernel
theorem dX7_weight_0 : decode cX7_weight 0 = .ok (.lconst 1, 1) := by decide +kernel
theorem dX7_weight_1 : decode cX7_weight 1 = .ok (.lstore_n 2, 1) := by decide +kernel
theorem dX7_weight_2 : decode cX7_weight 2 = .ok (.iconst 0, 1) := by decide +kernel
theorem dX7_weight_3 : decode cX7_weight 3 = .ok (.istore 4, 2) := by decide +kernel
theorem dX7_weight_5 : decode cX7_weight 5 = .ok (.iload 4, 2) := by decide +kernel
theorem dX7_weight_7 : decode cX7_weight 7 = .ok (.aload_n 0, 1) := by decide +kernel
theorem dX7_weight_8 : decode cX7_weight 8 = .ok (.getfield 7, 3) := by decide +kernel
theorem dX7_weight_11 : decode cX7_weight 11 = .ok (.if_icmp .ge 41, 3) := by decide +kernel
theorem dX7_weight_14 : decode cX7_weight 14 = .ok (.lload_n 2, 1) := by decide +kernel
theorem dX7_weight_15 : decode cX7_weight 15 = .ok (.iload_n 1, 1) := by decide +kernel
theorem dX7_weight_16 : decode cX7_weight 16 = .ok (.iload 4, 2) := by decide +kernel
theorem dX7_weight_18 : decode cX7_weight 18 = .ok (.ishr, 1) := by decide +kernel
theorem dX7_weight_19 : decode cX7_weight 19 = .ok (.iconst 1, 1) := by decide +kernel
theorem dX7_weight_20 : decode cX7_weight 20 = .ok (.iand, 1) := by decide +kernel
theorem dX7_weight_21 : decode cX7_weight 21 = .ok (.iconst 1, 1) := by decide +kernel
theorem dX7_weight_22 : decode cX7_weight 22 = .ok (.if_icmp .ne 14, 3) := by decide +kernel
theorem dX7_weight_25 : decode cX7_weight 25 = .ok (.aload_n 0, 1) := by decide +kernel
theorem dX7_weight_26 : decode cX7_weight 26 = .ok (.getfield 13, 3) := by decide +kernel
theorem dX7_weight_29 : decode cX7_weight 29 = .ok (.iload 4, 2) := by decide +kernel
theorem dX7_weight_31 : decode cX7_weight 31 = .ok (.iaload, 1) := by decide +kernel
theorem dX7_weight_32 : decode cX7_weight 32 = .ok (.i2l, 1) := by decide +kernel
theorem dX7_weight_33 : decode cX7_weight 33 = .ok (.goto 11, 3) := by decide +kernel
theorem dX7_weight_36 : decode cX7_weight 36 = .ok (.aload_n 0, 1) := by decide +kernel
theorem dX7_weight_37 : decode cX7_weight 37 = .ok (.getfield 17, 3) := by decide +kernel
theorem dX7_weight_40 : decode cX7_weight 40 = .ok (.iload 4, 2) := by decide +kernel
theorem dX7_weight_42 : decode cX7_weight 42 = .ok (.iaload, 1) := by decide +kernel
theorem dX7_weight_43 : decode cX7_weight 43 = .ok (.i2l, 1) := by decide +kernel
theorem dX7_weight_44 : decode cX7_weight 44 = .ok (.lmul, 1) := by decide +kernel
theorem dX7_weight_45 : decode cX7_weight 45 = .ok (.lstore_n 2, 1) := by decide +kernel
theorem dX7_weight_46 : decode cX7_weight 46 = .ok (.iinc 4 1, 3) := by decide +kernel
theorem dX7_weight_49 : decode cX7_weight 49 = .ok (.goto (-44), 3) := by decide +kernel
theorem dX7_weight_52 : decode cX7_weight 52 = .ok (.lload_n 2, 1) := by decide +kernel
theorem dX7_weight_53 : decode cX7_weight 53 = .ok (.lreturn, 1) := by decide +kernel
set_option maxRecDepth 20000 in
theorem ggX7_left_X7_digit : GoodIn wsX7_left wsX7_digit := goodIn_r _ [8, 9, 10, 11, 12, 13, 14, 15, 16, 17, 18, 19, 20, 21, 22, 23, 24, 25, 26] (by decide +kernel) (by decide +kernel)
set_option maxRecDepth 20000 in
theorem gX7_left_X7_digit : GoodIn wsX7_left (wsV RX7 102 RX7 yX7_digit wsX7_digit) := goodIn_app (goodIn_of _ (by decide +kernel)) ggX7_left_X7_digit
theorem dX7_left_0 : decode cX7_left 0 = .ok (.lconst 1, 1) := by decide +kernel
theorem dX7_left_1 : decode cX7_left 1 = .ok (.lstore_n 2, 1) := by decide +kernel
theorem dX7_left_2 : decode cX7_left 2 = .ok (.iconst 0, 1) := by decide +kernel
theorem dX7_left_3 : decode cX7_left 3 = .ok (.istore 4, 2) := by decide +kernel
theorem dX7_left_5 : decode cX7_left 5 = .ok (.iload 4, 2) := by decide +kernel
theorem dX7_left_7 : decode cX7_left 7 = .ok (.aload_n 0, 1) := by decide +kernel
theorem dX7_left_8 : decode cX7_left 8 = .ok (.getfield 7, 3) := by decide +kernel
theorem dX7_left_11 : decode cX7_left 11 = .ok (.if_icmp .ge 71, 3) := by decide +kernel
theorem dX7_left_14 : decode cX7_left 14 = .ok (.aload_n 0, 1) := by decide +kernel
theorem dX7_left_15 : decode cX7_left 15 = .ok (.iload_n 1, 1) := by decide +kernel
theorem dX7_left_16 : decode cX7_left 16 = .ok (.iload 4, 2) := by decide +kernel
theorem dX7_left_18 : decode cX7_left 18 = .ok (.invokevirtual 102, 3) := by decide +kernel
theorem dX7_left_21 : decode cX7_left 21 = .ok (.istore 5, 2) := by decide +kernel
theorem dX7_left_23 : decode cX7_left 23 = .ok (.lload_n 2, 1) := by decide +kernel
theorem dX7_left_24 : decode cX7_left 24 = .ok (.iload 5, 2) := by decide +kernel
theorem dX7_left_26 : decode cX7_left 26 = .ok (.iconst 1, 1) := by decide +kernel
theorem dX7_left_27 : decode cX7_left 27 = .ok (.if_icmp .ne 14, 3) := by decide +kernel
theorem dX7_left_30 : decode cX7_left 30 = .ok (.aload_n 0, 1) := by decide +kernel
theorem dX7_left_31 : decode cX7_left 31 = .ok (.getfield 13, 3) := by decide +kernel
theorem dX7_left_34 : decode cX7_left 34 = .ok (.iload 4, 2) := by decide +kernel
theorem dX7_left_36 : decode cX7_left 36 = .ok (.iaload, 1) := by decide +kernel
theorem dX7_left_37 : decode cX7_left 37 = .ok (.i2l, 1) := by decide +kernel
theorem dX7_left_38 : decode cX7_left 38 = .ok (.goto 36, 3) := by decide +kernel
theorem dX7_left_41 : decode cX7_left 41 = .ok (.iload 5, 2) := by decide +kernel
theorem dX7_left_43 : decode cX7_left 43 = .ok (.iconst 2, 1) := by decide +kernel
theorem dX7_left_44 : decode cX7_left 44 = .ok (.if_icmp .ne 14, 3) := by decide +kernel
theorem dX7_left_47 : decode cX7_left 47 = .ok (.aload_n 0, 1) := by decide +kernel
theorem dX7_left_48 : decode cX7_left 48 = .ok (.getfield 17, 3) := by decide +kernel
theorem dX7_left_51 : decode cX7_left 51 = .ok (.iload 4, 2) := by decide +kernel
theorem dX7_left_53 : decode cX7_left 53 = .ok (.iaload, 1) := by decide +kernel
theorem dX7_left_54 : decode cX7_left 54 = .ok (.i2l, 1) := by decide +kernel
theorem dX7_left_55 : decode cX7_left 55 = .ok (.goto 19, 3) := by decide +kernel
theorem dX7_left_58 : decode cX7_left 58 = .ok (.aload_n 0, 1) := by decide +kernel
theorem dX7_left_59 : decode cX7_left 59 = .ok (.getfield 13, 3) := by decide +kernel
theorem dX7_left_62 : decode cX7_left 62 = .ok (.iload 4, 2) := by decide +kernel
theorem dX7_left_64 : decode cX7_left 64 = .ok (.iaload, 1) := by decide +kernel
theorem dX7_left_65 : decode cX7_left 65 = .ok (.aload_n 0, 1) := by decide +kernel
theorem dX7_left_66 : decode cX7_left 66 = .ok (.getfield 17, 3) := by decide +kernel
theorem dX7_left_69 : decode cX7_left 69 = .ok (.iload 4, 2) := by decide +kernel
theorem dX7_left_71 : decode cX7_left 71 = .ok (.iaload, 1) := by decide +kernel
theorem dX7_left_72 : decode cX7_left 72 = .ok (.iadd, 1) := by decide +kernel
theorem dX7_left_73 : decode cX7_left 73 = .ok (.i2l, 1) := by decide +kernel
theorem dX7_left_74 : decode cX7_left 74 = .ok (.lmul, 1) := by decide +kernel
theorem dX7_left_75 : decode cX7_left 75 = .ok (.lstore_n 2, 1) := by decide +kernel
theorem dX7_left_76 : decode cX7_left 76 = .ok (.iinc 4 1, 3) := by decide +kernel
theorem dX7_left_79 : decode cX7_left 79 = .ok (.goto (-74), 3) := by decide +kernel
theorem dX7_left_82 : decode cX7_left 82 = .ok (.lload_n 2, 1) := by decide +kernel
theorem dX7_left_83 : decode cX7_left 83 = .ok (.lreturn, 1) := by decide +kernel
set_option maxRecDepth 20000 in
theorem ggX7_isSuch_X7_digit : GoodIn wsX7_isSuch wsX7_digit := goodIn_r _ [6, 7, 8, 9, 10, 11, 12, 13, 14, 15, 16, 17, 18, 19, 20, 21, 22, 23, 24] (by decide +kernel) (by decide +kernel)
set_option maxRecDepth 20000 in
theorem gX7_isSuch_X7_digit : GoodIn wsX7_isSuch (wsV RX7 102 RX7 yX7_digit wsX7_digit) := goodIn_app (goodIn_of _ (by decide +kernel)) ggX7_isSuch_X7_digit
theorem dX7_isSuch_0 : decode cX7_isSuch 0 = .ok (.iconst 1, 1) := by decide +kernel
theorem dX7_isSuch_1 : decode cX7_isSuch 1 = .ok (.istore_n 3, 1) := by decide +kernel
theorem dX7_isSuch_2 : decode cX7_isSuch 2 = .ok (.iconst 0, 1) := by decide +kernel
theorem dX7_isSuch_3 : decode cX7_isSuch 3 = .ok (.istore 4, 2) := by decide +kernel
theorem dX7_isSuch_5 : decode cX7_isSuch 5 = .ok (.iload 4, 2) := by decide +kernel
theorem dX7_isSuch_7 : decode cX7_isSuch 7 = .ok (.aload_n 0, 1) := by decide +kernel
theorem dX7_isSuch_8 : decode cX7_isSuch 8 = .ok (.getfield 7, 3) := by decide +kernel
theorem dX7_isSuch_11 : decode cX7_isSuch 11 = .ok (.if_icmp .ge 62, 3) := by decide +kernel
theorem dX7_isSuch_14 : decode cX7_isSuch 14 = .ok (.aload_n 0, 1) := by decide +kernel
theorem dX7_isSuch_15 : decode cX7_isSuch 15 = .ok (.iload_n 2, 1) := by decide +kernel
theorem dX7_isSuch_16 : decode cX7_isSuch 16 = .ok (.iload 4, 2) := by decide +kernel
theorem dX7_isSuch_18 : decode cX7_isSuch 18 = .ok (.invokevirtual 102, 3) := by decide +kernel
theorem dX7_isSuch_21 : decode cX7_isSuch 21 = .ok (.istore 5, 2) := by decide +kernel
theorem dX7_isSuch_23 : decode cX7_isSuch 23 = .ok (.iload_n 3, 1) := by decide +kernel
theorem dX7_isSuch_24 : decode cX7_isSuch 24 = .ok (.ifCond .eq 41, 3) := by decide +kernel
theorem dX7_isSuch_27 : decode cX7_isSuch 27 = .ok (.iload 5, 2) := by decide +kernel
theorem dX7_isSuch_29 : decode cX7_isSuch 29 = .ok (.ifCond .eq 32, 3) := by decide +kernel
theorem dX7_isSuch_32 : decode cX7_isSuch 32 = .ok (.iload 5, 2) := by decide +kernel
theorem dX7_isSuch_34 : decode cX7_isSuch 34 = .ok (.iconst 1, 1) := by decide +kernel
theorem dX7_isSuch_35 : decode cX7_isSuch 35 = .ok (.if_icmp .ne 7, 3) := by decide +kernel
theorem dX7_isSuch_38 : decode cX7_isSuch 38 = .ok (.iconst 1, 1) := by decide +kernel
theorem dX7_isSuch_39 : decode cX7_isSuch 39 = .ok (.goto 4, 3) := by decide +kernel
theorem dX7_isSuch_42 : decode cX7_isSuch 42 = .ok (.iconst 0, 1) := by decide +kernel
theorem dX7_isSuch_43 : decode cX7_isSuch 43 = .ok (.iload_n 1, 1) := by decide +kernel
theorem dX7_isSuch_44 : decode cX7_isSuch 44 = .ok (.iload 4, 2) := by decide +kernel
theorem dX7_isSuch_46 : decode cX7_isSuch 46 = .ok (.ishr, 1) := by decide +kernel
theorem dX7_isSuch_47 : decode cX7_isSuch 47 = .ok (.iconst 1, 1) := by decide +kernel
theorem dX7_isSuch_48 : decode cX7_isSuch 48 = .ok (.iand, 1) := by decide +kernel
theorem dX7_isSuch_49 : decode cX7_isSuch 49 = .ok (.iconst 1, 1) := by decide +kernel
theorem dX7_isSuch_50 : decode cX7_isSuch 50 = .ok (.if_icmp .ne 7, 3) := by decide +kernel
theorem dX7_isSuch_53 : decode cX7_isSuch 53 = .ok (.iconst 1, 1) := by decide +kernel
theorem dX7_isSuch_54 : decode cX7_isSuch 54 = .ok (.goto 4, 3) := by decide +kernel
theorem dX7_isSuch_57 : decode cX7_isSuch 57 = .ok (.iconst 0, 1) := by decide +kernel
theorem dX7_isSuch_58 : decode cX7_isSuch 58 = .ok (.if_icmp .ne 7, 3) := by decide +kernel
theorem dX7_isSuch_61 : decode cX7_isSuch 61 = .ok (.iconst 1, 1) := by decide +kernel
theorem dX7_isSuch_62 : decode cX7_isSuch 62 = .ok (.goto 4, 3) := by decide +kernel
theorem dX7_isSuch_65 : decode cX7_isSuch 65 = .ok (.iconst 0, 1) := by decide +kernel
theorem dX7_isSuch_66 : decode cX7_isSuch 66 = .ok (.istore_n 3, 1) := by decide +kernel
theorem dX7_isSuch_67 : decode cX7_isSuch 67 = .ok (.iinc 4 1, 3) := by decide +kernel
theorem dX7_isSuch_70 : decode cX7_isSuch 70 = .ok (.goto (-65), 3) := by decide +kernel
theorem dX7_isSuch_73 : decode cX7_isSuch 73 = .ok (.iload_n 3, 1) := by decide +kernel
theorem dX7_isSuch_74 : decode cX7_isSuch 74 = .ok (.ireturn, 1) := by decide +kernel
set_option maxRecDepth 20000 in
theorem ggX7_plans_X7_seenIn : GoodIn wsX7_plans wsX7_seenIn := goodIn_r _ [7, 1, 8, 9, 10, 6, 11, 2, 45, 46, 47, 48, 49, 50, 51, 52, 53, 54, 55, 56, 57, 58, 59, 60, 61] (by decide +kernel) (by decide +kernel)
set_option maxRecDepth 20000 in
theorem gX7_plans_X7_seenIn : GoodIn wsX7_plans (wsV RX7 116 RX7 yX7_seenIn wsX7_seenIn) := goodIn_app (goodIn_of _ (by decide +kernel)) ggX7_plans_X7_seenIn
set_option maxRecDepth 20000 in
theorem ggX7_plans_X7_plan : GoodIn wsX7_plans wsX7_plan := goodIn_r _ [15, 16, 17, 18, 19, 1, 2, 20, 21, 22, 23, 6, 24, 25, 26, 27, 28, 8, 9, 10, 11, 29, 30, 31, 32, 33, 34, 35, 36, 37, 38, 39, 40, 41, 42, 43, 44, 45, 46, 47, 48, 49, 50, 51, 52, 53, 54, 55, 56, 57, 58, 59, 60, 61] (by decide +kernel) (by decide +kernel)
set_option maxRecDepth 20000 in
theorem gX7_plans_X7_plan : GoodIn wsX7_plans (wsV RX7 119 RX7 yX7_plan wsX7_plan) := goodIn_app (goodIn_of _ (by decide +kernel)) ggX7_plans_X7_plan
theorem dX7_plans_0 : decode cX7_plans 0 = .ok (.aload_n 0, 1) := by decide +kernel
theorem dX7_plans_1 : decode cX7_plans 1 = .ok (.getfield 7, 3) := by decide +kernel
theorem dX7_plans_4 : decode cX7_plans 4 = .ok (.bipush 9, 2) := by decide +kernel
theorem dX7_plans_6 : decode cX7_plans 6 = .ok (.if_icmp .ne 9, 3) := by decide +kernel
theorem dX7_plans_9 : decode cX7_plans 9 = .ok (.sipush 19683, 3) := by decide +kernel
theorem dX7_plans_12 : decode cX7_plans 12 = .ok (.goto 12, 3) := by decide +kernel
theorem dX7_plans_15 : decode cX7_plans 15 = .ok (.aload_n 0, 1) := by decide +kernel
theorem dX7_plans_16 : decode cX7_plans 16 = .ok (.getfield 52, 3) := by decide +kernel
theorem dX7_plans_19 : decode cX7_plans 19 = .ok (.aload_n 0, 1) := by decide +kernel
theorem dX7_plans_20 : decode cX7_plans 20 = .ok (.getfield 7, 3) := by decide +kernel
theorem dX7_plans_23 : decode cX7_plans 23 = .ok (.iaload, 1) := by decide +kernel
theorem dX7_plans_24 : decode cX7_plans 24 = .ok (.istore_n 1, 1) := by decide +kernel
theorem dX7_plans_25 : decode cX7_plans 25 = .ok (.aload_n 0, 1) := by decide +kernel
theorem dX7_plans_26 : decode cX7_plans 26 = .ok (.getfield 7, 3) := by decide +kernel
theorem dX7_plans_29 : decode cX7_plans 29 = .ok (.istore_n 2, 1) := by decide +kernel
theorem dX7_plans_30 : decode cX7_plans 30 = .ok (.iload_n 2, 1) := by decide +kernel
theorem dX7_plans_31 : decode cX7_plans 31 = .ok (.ifCond .lt 36, 3) := by decide +kernel
theorem dX7_plans_34 : decode cX7_plans 34 = .ok (.iconst 0, 1) := by decide +kernel
theorem dX7_plans_35 : decode cX7_plans 35 = .ok (.istore_n 3, 1) := by decide +kernel
theorem dX7_plans_36 : decode cX7_plans 36 = .ok (.iload_n 3, 1) := by decide +kernel
theorem dX7_plans_37 : decode cX7_plans 37 = .ok (.iload_n 1, 1) := by decide +kernel
theorem dX7_plans_38 : decode cX7_plans 38 = .ok (.if_icmp .ge 23, 3) := by decide +kernel
theorem dX7_plans_41 : decode cX7_plans 41 = .ok (.aload_n 0, 1) := by decide +kernel
theorem dX7_plans_42 : decode cX7_plans 42 = .ok (.iload_n 3, 1) := by decide +kernel
theorem dX7_plans_43 : decode cX7_plans 43 = .ok (.invokevirtual 116, 3) := by decide +kernel
theorem dX7_plans_46 : decode cX7_plans 46 = .ok (.iload_n 2, 1) := by decide +kernel
theorem dX7_plans_47 : decode cX7_plans 47 = .ok (.if_icmp .ne 8, 3) := by decide +kernel
theorem dX7_plans_50 : decode cX7_plans 50 = .ok (.aload_n 0, 1) := by decide +kernel
theorem dX7_plans_51 : decode cX7_plans 51 = .ok (.iload_n 3, 1) := by decide +kernel
theorem dX7_plans_52 : decode cX7_plans 52 = .ok (.invokevirtual 119, 3) := by decide +kernel
theorem dX7_plans_55 : decode cX7_plans 55 = .ok (.iinc 3 1, 3) := by decide +kernel
theorem dX7_plans_58 : decode cX7_plans 58 = .ok (.goto (-22), 3) := by decide +kernel
theorem dX7_plans_61 : decode cX7_plans 61 = .ok (.iinc 2 (-1), 3) := by decide +kernel
theorem dX7_plans_64 : decode cX7_plans 64 = .ok (.goto (-34), 3) := by decide +kernel
theorem dX7_plans_67 : decode cX7_plans 67 = .ok (.return_, 1) := by decide +kernel
set_option maxRecDepth 20000 in
theorem ggX7_seenIn_X7_digit : GoodIn wsX7_seenIn wsX7_digit := goodIn_r _ [6, 7, 8, 9, 10, 11, 12, 13, 14, 15, 16, 17, 18, 19, 20, 21, 22, 23, 24] (by decide +kernel) (by decide +kernel)
set_option maxRecDepth 20000 in
theorem gX7_seenIn_X7_digit : GoodIn wsX7_seenIn (wsV RX7 102 RX7 yX7_digit wsX7_digit) := goodIn_app (goodIn_of _ (by decide +kernel)) ggX7_seenIn_X7_digit
theorem dX7_seenIn_0 : decode cX7_seenIn 0 = .ok (.iconst 0, 1) := by decide +kernel
theorem dX7_seenIn_1 : decode cX7_seenIn 1 = .ok (.istore_n 2, 1) := by decide +kernel
theorem dX7_seenIn_2 : decode cX7_seenIn 2 = .ok (.iconst 0, 1) := by decide +kernel
theorem dX7_seenIn_3 : decode cX7_seenIn 3 = .ok (.istore_n 3, 1) := by decide +kernel
theorem dX7_seenIn_4 : decode cX7_seenIn 4 = .ok (.iload_n 3, 1) := by decide +kernel
theorem dX7_seenIn_5 : decode cX7_seenIn 5 = .ok (.aload_n 0, 1) := by decide +kernel
theorem dX7_seenIn_6 : decode cX7_seenIn 6 = .ok (.getfield 7, 3) := by decide +kernel
theorem dX7_seenIn_9 : decode cX7_seenIn 9 = .ok (.if_icmp .ge 26, 3) := by decide +kernel
theorem dX7_seenIn_12 : decode cX7_seenIn 12 = .ok (.iload_n 2, 1) := by decide +kernel
theorem dX7_seenIn_13 : decode cX7_seenIn 13 = .ok (.aload_n 0, 1) := by decide +kernel
theorem dX7_seenIn_14 : decode cX7_seenIn 14 = .ok (.iload_n 1, 1) := by decide +kernel
theorem dX7_seenIn_15 : decode cX7_seenIn 15 = .ok (.iload_n 3, 1) := by decide +kernel
theorem dX7_seenIn_16 : decode cX7_seenIn 16 = .ok (.invokevirtual 102, 3) := by decide +kernel
theorem dX7_seenIn_19 : decode cX7_seenIn 19 = .ok (.ifCond .ne 7, 3) := by decide +kernel
theorem dX7_seenIn_22 : decode cX7_seenIn 22 = .ok (.iconst 0, 1) := by decide +kernel
theorem dX7_seenIn_23 : decode cX7_seenIn 23 = .ok (.goto 4, 3) := by decide +kernel
theorem dX7_seenIn_26 : decode cX7_seenIn 26 = .ok (.iconst 1, 1) := by decide +kernel
theorem dX7_seenIn_27 : decode cX7_seenIn 27 = .ok (.iadd, 1) := by decide +kernel
theorem dX7_seenIn_28 : decode cX7_seenIn 28 = .ok (.istore_n 2, 1) := by decide +kernel
theorem dX7_seenIn_29 : decode cX7_seenIn 29 = .ok (.iinc 3 1, 3) := by decide +kernel
theorem dX7_seenIn_32 : decode cX7_seenIn 32 = .ok (.goto (-28), 3) := by decide +kernel
theorem dX7_seenIn_35 : decode cX7_seenIn 35 = .ok (.iload_n 2, 1) := by decide +kernel
theorem dX7_seenIn_36 : decode cX7_seenIn 36 = .ok (.ireturn, 1) := by decide +kernel
set_option maxRecDepth 20000 in
theorem ggX7_plan_X7_sureAt : GoodIn wsX7_plan wsX7_sureAt := goodIn_r _ [12, 13, 14, 15, 11, 16, 5, 17, 18, 19, 20, 6, 21, 22, 23, 24, 25, 26, 27, 28, 29, 30, 37, 38, 39, 40, 41, 42, 43, 44, 45, 46, 47, 48, 49, 50, 51, 52, 53] (by decide +kernel) (by decide +kernel)
set_option maxRecDepth 20000 in
theorem gX7_plan_X7_sureAt : GoodIn wsX7_plan (wsV RX7 112 RX7 yX7_sureAt wsX7_sureAt) := goodIn_app (goodIn_of _ (by decide +kernel)) ggX7_plan_X7_sureAt
set_option maxRecDepth 20000 in
theorem ggX7_plan_X7_left : GoodIn wsX7_plan wsX7_left := goodIn_r _ [34, 5, 35, 36, 17, 18, 19, 11, 20, 6, 37, 38, 39, 40, 41, 42, 43, 44, 45, 46, 47, 48, 49, 50, 51, 52, 53] (by decide +kernel) (by decide +kernel)
set_option maxRecDepth 20000 in
theorem gX7_plan_X7_left : GoodIn wsX7_plan (wsV RX7 123 RX7 yX7_left wsX7_left) := goodIn_app (goodIn_of _ (by decide +kernel)) ggX7_plan_X7_left
set_option maxRecDepth 20000 in
theorem ggX7_plan_X7_digit : GoodIn wsX7_plan wsX7_digit := goodIn_r _ [20, 6, 37, 38, 39, 40, 41, 42, 43, 44, 45, 46, 47, 48, 49, 50, 51, 52, 53] (by decide +kernel) (by decide +kernel)
set_option maxRecDepth 20000 in
theorem gX7_plan_X7_digit : GoodIn wsX7_plan (wsV RX7 102 RX7 yX7_digit wsX7_digit) := goodIn_app (goodIn_of _ (by decide +kernel)) ggX7_plan_X7_digit
theorem dX7_plan_0 : decode cX7_plan 0 = .ok (.aload_n 0, 1) := by decide +kernel
theorem dX7_plan_1 : decode cX7_plan 1 = .ok (.getfield 39, 3) := by decide +kernel
theorem dX7_plan_4 : decode cX7_plan 4 = .ok (.iload_n 1, 1) := by decide +kernel
theorem dX7_plan_5 : decode cX7_plan 5 = .ok (.lconst 0, 1) := by decide +kernel
theorem dX7_plan_6 : decode cX7_plan 6 = .ok (.lastore, 1) := by decide +kernel
theorem dX7_plan_7 : decode cX7_plan 7 = .ok (.aload_n 0, 1) := by decide +kernel
theorem dX7_plan_8 : decode cX7_plan 8 = .ok (.getfield 46, 3) := by decide +kernel
theorem dX7_plan_11 : decode cX7_plan 11 = .ok (.iload_n 1, 1) := by decide +kernel
theorem dX7_plan_12 : decode cX7_plan 12 = .ok (.iconst 0, 1) := by decide +kernel
theorem dX7_plan_13 : decode cX7_plan 13 = .ok (.iastore, 1) := by decide +kernel
theorem dX7_plan_14 : decode cX7_plan 14 = .ok (.aload_n 0, 1) := by decide +kernel
theorem dX7_plan_15 : decode cX7_plan 15 = .ok (.getfield 43, 3) := by decide +kernel
theorem dX7_plan_18 : decode cX7_plan 18 = .ok (.iload_n 1, 1) := by decide +kernel
theorem dX7_plan_19 : decode cX7_plan 19 = .ok (.iconst (-1), 1) := by decide +kernel
theorem dX7_plan_20 : decode cX7_plan 20 = .ok (.iastore, 1) := by decide +kernel
theorem dX7_plan_21 : decode cX7_plan 21 = .ok (.aload_n 0, 1) := by decide +kernel
theorem dX7_plan_22 : decode cX7_plan 22 = .ok (.getfield 49, 3) := by decide +kernel
theorem dX7_plan_25 : decode cX7_plan 25 = .ok (.iload_n 1, 1) := by decide +kernel
theorem dX7_plan_26 : decode cX7_plan 26 = .ok (.iconst (-1), 1) := by decide +kernel
theorem dX7_plan_27 : decode cX7_plan 27 = .ok (.iastore, 1) := by decide +kernel
theorem dX7_plan_28 : decode cX7_plan 28 = .ok (.aload_n 0, 1) := by decide +kernel
theorem dX7_plan_29 : decode cX7_plan 29 = .ok (.iload_n 1, 1) := by decide +kernel
theorem dX7_plan_30 : decode cX7_plan 30 = .ok (.invokevirtual 112, 3) := by decide +kernel
theorem dX7_plan_33 : decode cX7_plan 33 = .ok (.iconst (-1), 1) := by decide +kernel
theorem dX7_plan_34 : decode cX7_plan 34 = .ok (.if_icmp .eq 4, 3) := by decide +kernel
theorem dX7_plan_37 : decode cX7_plan 37 = .ok (.return_, 1) := by decide +kernel
theorem dX7_plan_38 : decode cX7_plan 38 = .ok (.aload_n 0, 1) := by decide +kernel
theorem dX7_plan_39 : decode cX7_plan 39 = .ok (.iload_n 1, 1) := by decide +kernel
theorem dX7_plan_40 : decode cX7_plan 40 = .ok (.invokevirtual 123, 3) := by decide +kernel
theorem dX7_plan_43 : decode cX7_plan 43 = .ok (.lstore_n 2, 1) := by decide +kernel
theorem dX7_plan_44 : decode cX7_plan 44 = .ok (.iconst 0, 1) := by decide +kernel
theorem dX7_plan_45 : decode cX7_plan 45 = .ok (.istore 4, 2) := by decide +kernel
theorem dX7_plan_47 : decode cX7_plan 47 = .ok (.iload 4, 2) := by decide +kernel
theorem dX7_plan_49 : decode cX7_plan 49 = .ok (.aload_n 0, 1) := by decide +kernel
theorem dX7_plan_50 : decode cX7_plan 50 = .ok (.getfield 7, 3) := by decide +kernel
theorem dX7_plan_53 : decode cX7_plan 53 = .ok (.if_icmp .ge 192, 3) := by decide +kernel
theorem dX7_plan_56 : decode cX7_plan 56 = .ok (.aload_n 0, 1) := by decide +kernel
theorem dX7_plan_57 : decode cX7_plan 57 = .ok (.iload_n 1, 1) := by decide +kernel
theorem dX7_plan_58 : decode cX7_plan 58 = .ok (.iload 4, 2) := by decide +kernel
theorem dX7_plan_60 : decode cX7_plan 60 = .ok (.invokevirtual 102, 3) := by decide +kernel
theorem dX7_plan_63 : decode cX7_plan 63 = .ok (.ifCond .eq 6, 3) := by decide +kernel
theorem dX7_plan_66 : decode cX7_plan 66 = .ok (.goto 173, 3) := by decide +kernel
theorem dX7_plan_69 : decode cX7_plan 69 = .ok (.iload_n 1, 1) := by decide +kernel
theorem dX7_plan_70 : decode cX7_plan 70 = .ok (.aload_n 0, 1) := by decide +kernel
theorem dX7_plan_71 : decode cX7_plan 71 = .ok (.getfield 52, 3) := by decide +kernel
theorem dX7_plan_74 : decode cX7_plan 74 = .ok (.iload 4, 2) := by decide +kernel
theorem dX7_plan_76 : decode cX7_plan 76 = .ok (.iaload, 1) := by decide +kernel
theorem dX7_plan_77 : decode cX7_plan 77 = .ok (.iadd, 1) := by decide +kernel
theorem dX7_plan_78 : decode cX7_plan 78 = .ok (.istore 5, 2) := by decide +kernel
theorem dX7_plan_80 : decode cX7_plan 80 = .ok (.iload 5, 2) := by decide +kernel
theorem dX7_plan_82 : decode cX7_plan 82 = .ok (.aload_n 0, 1) := by decide +kernel
theorem dX7_plan_83 : decode cX7_plan 83 = .ok (.getfield 52, 3) := by decide +kernel
theorem dX7_plan_86 : decode cX7_plan 86 = .ok (.iload 4, 2) := by decide +kernel
theorem dX7_plan_88 : decode cX7_plan 88 = .ok (.iaload, 1) := by decide +kernel
theorem dX7_plan_89 : decode cX7_plan 89 = .ok (.iadd, 1) := by decide +kernel
theorem dX7_plan_90 : decode cX7_plan 90 = .ok (.istore 6, 2) := by decide +kernel
theorem dX7_plan_92 : decode cX7_plan 92 = .ok (.lload_n 2, 1) := by decide +kernel
theorem dX7_plan_93 : decode cX7_plan 93 = .ok (.aload_n 0, 1) := by decide +kernel
theorem dX7_plan_94 : decode cX7_plan 94 = .ok (.getfield 20, 3) := by decide +kernel
theorem dX7_plan_97 : decode cX7_plan 97 = .ok (.iload 4, 2) := by decide +kernel
theorem dX7_plan_99 : decode cX7_plan 99 = .ok (.iaload, 1) := by decide +kernel
theorem dX7_plan_100 : decode cX7_plan 100 = .ok (.i2l, 1) := by decide +kernel
theorem dX7_plan_101 : decode cX7_plan 101 = .ok (.lmul, 1) := by decide +kernel
theorem dX7_plan_102 : decode cX7_plan 102 = .ok (.aload_n 0, 1) := by decide +kernel
theorem dX7_plan_103 : decode cX7_plan 103 = .ok (.getfield 39, 3) := by decide +kernel
theorem dX7_plan_106 : decode cX7_plan 106 = .ok (.iload 5, 2) := by decide +kernel
theorem dX7_plan_108 : decode cX7_plan 108 = .ok (.laload, 1) := by decide +kernel
theorem dX7_plan_109 : decode cX7_plan 109 = .ok (.ladd, 1) := by decide +kernel
theorem dX7_plan_110 : decode cX7_plan 110 = .ok (.aload_n 0, 1) := by decide +kernel
theorem dX7_plan_111 : decode cX7_plan 111 = .ok (.getfield 39, 3) := by decide +kernel
theorem dX7_plan_114 : decode cX7_plan 114 = .ok (.iload 6, 2) := by decide +kernel
theorem dX7_plan_116 : decode cX7_plan 116 = .ok (.laload, 1) := by decide +kernel
theorem dX7_plan_117 : decode cX7_plan 117 = .ok (.ladd, 1) := by decide +kernel
theorem dX7_plan_118 : decode cX7_plan 118 = .ok (.lstore 7, 2) := by decide +kernel
theorem dX7_plan_120 : decode cX7_plan 120 = .ok (.aload_n 0, 1) := by decide +kernel
theorem dX7_plan_121 : decode cX7_plan 121 = .ok (.getfield 43, 3) := by decide +kernel
theorem dX7_plan_124 : decode cX7_plan 124 = .ok (.iload_n 1, 1) := by decide +kernel
theorem dX7_plan_125 : decode cX7_plan 125 = .ok (.iaload, 1) := by decide +kernel
theorem dX7_plan_126 : decode cX7_plan 126 = .ok (.iconst (-1), 1) := by decide +kernel
theorem dX7_plan_127 : decode cX7_plan 127 = .ok (.if_icmp .eq 15, 3) := by decide +kernel
theorem dX7_plan_130 : decode cX7_plan 130 = .ok (.lload 7, 2) := by decide +kernel
theorem dX7_plan_132 : decode cX7_plan 132 = .ok (.aload_n 0, 1) := by decide +kernel
theorem dX7_plan_133 : decode cX7_plan 133 = .ok (.getfield 39, 3) := by decide +kernel
theorem dX7_plan_136 : decode cX7_plan 136 = .ok (.iload_n 1, 1) := by decide +kernel
theorem dX7_plan_137 : decode cX7_plan 137 = .ok (.laload, 1) := by decide +kernel
theorem dX7_plan_138 : decode cX7_plan 138 = .ok (.lcmp, 1) := by decide +kernel
theorem dX7_plan_139 : decode cX7_plan 139 = .ok (.ifCond .ge 19, 3) := by decide +kernel
theorem dX7_plan_142 : decode cX7_plan 142 = .ok (.aload_n 0, 1) := by decide +kernel
theorem dX7_plan_143 : decode cX7_plan 143 = .ok (.getfield 39, 3) := by decide +kernel
theorem dX7_plan_146 : decode cX7_plan 146 = .ok (.iload_n 1, 1) := by decide +kernel
theorem dX7_plan_147 : decode cX7_plan 147 = .ok (.lload 7, 2) := by decide +kernel
theorem dX7_plan_149 : decode cX7_plan 149 = .ok (.lastore, 1) := by decide +kernel
theorem dX7_plan_150 : decode cX7_plan 150 = .ok (.aload_n 0, 1) := by decide +kernel
theorem dX7_plan_151 : decode cX7_plan 151 = .ok (.getfield 43, 3) := by decide +kernel
theorem dX7_plan_154 : decode cX7_plan 154 = .ok (.iload_n 1, 1) := by decide +kernel
theorem dX7_plan_155 : decode cX7_plan 155 = .ok (.iload 4, 2) := by decide +kernel
theorem dX7_plan_157 : decode cX7_plan 157 = .ok (.iastore, 1) := by decide +kernel
theorem dX7_plan_158 : decode cX7_plan 158 = .ok (.aload_n 0, 1) := by decide +kernel
theorem dX7_plan_159 : decode cX7_plan 159 = .ok (.getfield 20, 3) := by decide +kernel
theorem dX7_plan_162 : decode cX7_plan 162 = .ok (.iload 4, 2) := by decide +kernel
theorem dX7_plan_164 : decode cX7_plan 164 = .ok (.iaload, 1) := by decide +kernel
theorem dX7_plan_165 : decode cX7_plan 165 = .ok (.aload_n 0, 1) := by decide +kernel
theorem dX7_plan_166 : decode cX7_plan 166 = .ok (.getfield 46, 3) := by decide +kernel
theorem dX7_plan_169 : decode cX7_plan 169 = .ok (.iload 5, 2) := by decide +kernel
theorem dX7_plan_171 : decode cX7_plan 171 = .ok (.iaload, 1) := by decide +kernel
theorem dX7_plan_172 : decode cX7_plan 172 = .ok (.aload_n 0, 1) := by decide +kernel
theorem dX7_plan_173 : decode cX7_plan 173 = .ok (.getfield 46, 3) := by decide +kernel
theorem dX7_plan_176 : decode cX7_plan 176 = .ok (.iload 6, 2) := by decide +kernel
theorem dX7_plan_178 : decode cX7_plan 178 = .ok (.iaload, 1) := by decide +kernel
theorem dX7_plan_179 : decode cX7_plan 179 = .ok (.if_icmp .le 13, 3) := by decide +kernel
theorem dX7_plan_182 : decode cX7_plan 182 = .ok (.aload_n 0, 1) := by decide +kernel
theorem dX7_plan_183 : decode cX7_plan 183 = .ok (.getfield 46, 3) := by decide +kernel
theorem dX7_plan_186 : decode cX7_plan 186 = .ok (.iload 5, 2) := by decide +kernel
theorem dX7_plan_188 : decode cX7_plan 188 = .ok (.iaload, 1) := by decide +kernel
theorem dX7_plan_189 : decode cX7_plan 189 = .ok (.goto 10, 3) := by decide +kernel
theorem dX7_plan_192 : decode cX7_plan 192 = .ok (.aload_n 0, 1) := by decide +kernel
theorem dX7_plan_193 : decode cX7_plan 193 = .ok (.getfield 46, 3) := by decide +kernel
theorem dX7_plan_196 : decode cX7_plan 196 = .ok (.iload 6, 2) := by decide +kernel
theorem dX7_plan_198 : decode cX7_plan 198 = .ok (.iaload, 1) := by decide +kernel
theorem dX7_plan_199 : decode cX7_plan 199 = .ok (.iadd, 1) := by decide +kernel
theorem dX7_plan_200 : decode cX7_plan 200 = .ok (.istore 9, 2) := by decide +kernel
theorem dX7_plan_202 : decode cX7_plan 202 = .ok (.aload_n 0, 1) := by decide +kernel
theorem dX7_plan_203 : decode cX7_plan 203 = .ok (.getfield 49, 3) := by decide +kernel
theorem dX7_plan_206 : decode cX7_plan 206 = .ok (.iload_n 1, 1) := by decide +kernel
theorem dX7_plan_207 : decode cX7_plan 207 = .ok (.iaload, 1) := by decide +kernel
theorem dX7_plan_208 : decode cX7_plan 208 = .ok (.iconst (-1), 1) := by decide +kernel
theorem dX7_plan_209 : decode cX7_plan 209 = .ok (.if_icmp .eq 14, 3) := by decide +kernel
theorem dX7_plan_212 : decode cX7_plan 212 = .ok (.iload 9, 2) := by decide +kernel
theorem dX7_plan_214 : decode cX7_plan 214 = .ok (.aload_n 0, 1) := by decide +kernel
theorem dX7_plan_215 : decode cX7_plan 215 = .ok (.getfield 46, 3) := by decide +kernel
theorem dX7_plan_218 : decode cX7_plan 218 = .ok (.iload_n 1, 1) := by decide +kernel
theorem dX7_plan_219 : decode cX7_plan 219 = .ok (.iaload, 1) := by decide +kernel
theorem dX7_plan_220 : decode cX7_plan 220 = .ok (.if_icmp .ge 19, 3) := by decide +kernel
theorem dX7_plan_223 : decode cX7_plan 223 = .ok (.aload_n 0, 1) := by decide +kernel
theorem dX7_plan_224 : decode cX7_plan 224 = .ok (.getfield 46, 3) := by decide +kernel
theorem dX7_plan_227 : decode cX7_plan 227 = .ok (.iload_n 1, 1) := by decide +kernel
theorem dX7_plan_228 : decode cX7_plan 228 = .ok (.iload 9, 2) := by decide +kernel
theorem dX7_plan_230 : decode cX7_plan 230 = .ok (.iastore, 1) := by decide +kernel
theorem dX7_plan_231 : decode cX7_plan 231 = .ok (.aload_n 0, 1) := by decide +kernel
theorem dX7_plan_232 : decode cX7_plan 232 = .ok (.getfield 49, 3) := by decide +kernel
theorem dX7_plan_235 : decode cX7_plan 235 = .ok (.iload_n 1, 1) := by decide +kernel
theorem dX7_plan_236 : decode cX7_plan 236 = .ok (.iload 4, 2) := by decide +kernel
theorem dX7_plan_238 : decode cX7_plan 238 = .ok (.iastore, 1) := by decide +kernel
theorem dX7_plan_239 : decode cX7_plan 239 = .ok (.iinc 4 1, 3) := by decide +kernel
theorem dX7_plan_242 : decode cX7_plan 242 = .ok (.goto (-195), 3) := by decide +kernel
theorem dX7_plan_245 : decode cX7_plan 245 = .ok (.return_, 1) := by decide +kernel
set_option maxRecDepth 20000 in
theorem ggX7_orderNext_X7_digit : GoodIn wsX7_orderNext wsX7_digit := goodIn_r _ [8, 9, 10, 11, 12, 13, 14, 15, 16, 17, 18, 19, 20, 21, 22, 23, 24, 25, 26] (by decide +kernel) (by decide +kernel)
set_option maxRecDepth 20000 in
theorem gX7_orderNext_X7_digit : GoodIn wsX7_orderNext (wsV RX7 102 RX7 yX7_digit wsX7_digit) := goodIn_app (goodIn_of _ (by decide +kernel)) ggX7_orderNext_X7_digit
theorem dX7_orderNext_0 : decode cX7_orderNext 0 = .ok (.iconst 0, 1) := by decide +kernel
theorem dX7_orderNext_1 : decode cX7_orderNext 1 = .ok (.istore_n 2, 1) := by decide +kernel
theorem dX7_orderNext_2 : decode cX7_orderNext 2 = .ok (.iload_n 2, 1) := by decide +kernel
theorem dX7_orderNext_3 : decode cX7_orderNext 3 = .ok (.aload_n 0, 1) := by decide +kernel
theorem dX7_orderNext_4 : decode cX7_orderNext 4 = .ok (.getfield 64, 3) := by decide +kernel
theorem dX7_orderNext_7 : decode cX7_orderNext 7 = .ok (.if_icmp .ge 30, 3) := by decide +kernel
theorem dX7_orderNext_10 : decode cX7_orderNext 10 = .ok (.aload_n 0, 1) := by decide +kernel
theorem dX7_orderNext_11 : decode cX7_orderNext 11 = .ok (.iload_n 1, 1) := by decide +kernel
theorem dX7_orderNext_12 : decode cX7_orderNext 12 = .ok (.aload_n 0, 1) := by decide +kernel
theorem dX7_orderNext_13 : decode cX7_orderNext 13 = .ok (.getfield 33, 3) := by decide +kernel
theorem dX7_orderNext_16 : decode cX7_orderNext 16 = .ok (.iload_n 2, 1) := by decide +kernel
theorem dX7_orderNext_17 : decode cX7_orderNext 17 = .ok (.iaload, 1) := by decide +kernel
theorem dX7_orderNext_18 : decode cX7_orderNext 18 = .ok (.invokevirtual 102, 3) := by decide +kernel
theorem dX7_orderNext_21 : decode cX7_orderNext 21 = .ok (.ifCond .ne 10, 3) := by decide +kernel
theorem dX7_orderNext_24 : decode cX7_orderNext 24 = .ok (.aload_n 0, 1) := by decide +kernel
theorem dX7_orderNext_25 : decode cX7_orderNext 25 = .ok (.getfield 33, 3) := by decide +kernel
theorem dX7_orderNext_28 : decode cX7_orderNext 28 = .ok (.iload_n 2, 1) := by decide +kernel
theorem dX7_orderNext_29 : decode cX7_orderNext 29 = .ok (.iaload, 1) := by decide +kernel
theorem dX7_orderNext_30 : decode cX7_orderNext 30 = .ok (.ireturn, 1) := by decide +kernel
theorem dX7_orderNext_31 : decode cX7_orderNext 31 = .ok (.iinc 2 1, 3) := by decide +kernel
theorem dX7_orderNext_34 : decode cX7_orderNext 34 = .ok (.goto (-32), 3) := by decide +kernel
theorem dX7_orderNext_37 : decode cX7_orderNext 37 = .ok (.iconst 0, 1) := by decide +kernel
theorem dX7_orderNext_38 : decode cX7_orderNext 38 = .ok (.istore_n 2, 1) := by decide +kernel
theorem dX7_orderNext_39 : decode cX7_orderNext 39 = .ok (.iload_n 2, 1) := by decide +kernel
theorem dX7_orderNext_40 : decode cX7_orderNext 40 = .ok (.aload_n 0, 1) := by decide +kernel
theorem dX7_orderNext_41 : decode cX7_orderNext 41 = .ok (.getfield 7, 3) := by decide +kernel
theorem dX7_orderNext_44 : decode cX7_orderNext 44 = .ok (.if_icmp .ge 20, 3) := by decide +kernel
theorem dX7_orderNext_47 : decode cX7_orderNext 47 = .ok (.aload_n 0, 1) := by decide +kernel
theorem dX7_orderNext_48 : decode cX7_orderNext 48 = .ok (.iload_n 1, 1) := by decide +kernel
theorem dX7_orderNext_49 : decode cX7_orderNext 49 = .ok (.iload_n 2, 1) := by decide +kernel
theorem dX7_orderNext_50 : decode cX7_orderNext 50 = .ok (.invokevirtual 102, 3) := by decide +kernel
theorem dX7_orderNext_53 : decode cX7_orderNext 53 = .ok (.ifCond .ne 5, 3) := by decide +kernel
theorem dX7_orderNext_56 : decode cX7_orderNext 56 = .ok (.iload_n 2, 1) := by decide +kernel
theorem dX7_orderNext_57 : decode cX7_orderNext 57 = .ok (.ireturn, 1) := by decide +kernel
theorem dX7_orderNext_58 : decode cX7_orderNext 58 = .ok (.iinc 2 1, 3) := by decide +kernel
theorem dX7_orderNext_61 : decode cX7_orderNext 61 = .ok (.goto (-22), 3) := by decide +kernel
theorem dX7_orderNext_64 : decode cX7_orderNext 64 = .ok (.iconst (-1), 1) := by decide +kernel
theorem dX7_orderNext_65 : decode cX7_orderNext 65 = .ok (.ireturn, 1) := by decide +kernel
set_option maxRecDepth 20000 in
theorem ggX7_byOrder_X7_sureAt : GoodIn wsX7_byOrder wsX7_sureAt := goodIn_r _ [7, 8, 9, 10, 6, 11, 12, 13, 14, 15, 16, 2, 17, 18, 19, 20, 21, 22, 23, 24, 25, 26, 33, 34, 35, 36, 37, 38, 39, 40, 41, 42, 43, 44, 45, 46, 47, 48, 49] (by decide +kernel) (by decide +kernel)
set_option maxRecDepth 20000 in
theorem gX7_byOrder_X7_sureAt : GoodIn wsX7_byOrder (wsV RX7 112 RX7 yX7_sureAt wsX7_sureAt) := goodIn_app (goodIn_of _ (by decide +kernel)) ggX7_byOrder_X7_sureAt
set_option maxRecDepth 20000 in
theorem ggX7_byOrder_X7_orderNext : GoodIn wsX7_byOrder wsX7_orderNext := goodIn_r _ [30, 31, 32, 12, 13, 14, 15, 6, 16, 2, 33, 34, 35, 36, 37, 38, 39, 40, 41, 42, 43, 44, 45, 46, 47, 48, 49] (by decide +kernel) (by decide +kernel)
set_option maxRecDepth 20000 in
theorem gX7_byOrder_X7_orderNext : GoodIn wsX7_byOrder (wsV RX7 127 RX7 yX7_orderNext wsX7_orderNext) := goodIn_app (goodIn_of _ (by decide +kernel)) ggX7_byOrder_X7_orderNext
theorem dX7_byOrder_0 : decode cX7_byOrder 0 = .ok (.iload_n 2, 1) := by decide +kernel
theorem dX7_byOrder_1 : decode cX7_byOrder 1 = .ok (.istore_n 3, 1) := by decide +kernel
theorem dX7_byOrder_2 : decode cX7_byOrder 2 = .ok (.iconst 0, 1) := by decide +kernel
theorem dX7_byOrder_3 : decode cX7_byOrder 3 = .ok (.istore 4, 2) := by decide +kernel
theorem dX7_byOrder_5 : decode cX7_byOrder 5 = .ok (.aload_n 0, 1) := by decide +kernel
theorem dX7_byOrder_6 : decode cX7_byOrder 6 = .ok (.iload_n 3, 1) := by decide +kernel
theorem dX7_byOrder_7 : decode cX7_byOrder 7 = .ok (.invokevirtual 112, 3) := by decide +kernel
theorem dX7_byOrder_10 : decode cX7_byOrder 10 = .ok (.iconst (-1), 1) := by decide +kernel
theorem dX7_byOrder_11 : decode cX7_byOrder 11 = .ok (.if_icmp .ne 51, 3) := by decide +kernel
theorem dX7_byOrder_14 : decode cX7_byOrder 14 = .ok (.aload_n 0, 1) := by decide +kernel
theorem dX7_byOrder_15 : decode cX7_byOrder 15 = .ok (.iload_n 3, 1) := by decide +kernel
theorem dX7_byOrder_16 : decode cX7_byOrder 16 = .ok (.invokevirtual 127, 3) := by decide +kernel
theorem dX7_byOrder_19 : decode cX7_byOrder 19 = .ok (.istore 5, 2) := by decide +kernel
theorem dX7_byOrder_21 : decode cX7_byOrder 21 = .ok (.iload 4, 2) := by decide +kernel
theorem dX7_byOrder_23 : decode cX7_byOrder 23 = .ok (.aload_n 0, 1) := by decide +kernel
theorem dX7_byOrder_24 : decode cX7_byOrder 24 = .ok (.getfield 20, 3) := by decide +kernel
theorem dX7_byOrder_27 : decode cX7_byOrder 27 = .ok (.iload 5, 2) := by decide +kernel
theorem dX7_byOrder_29 : decode cX7_byOrder 29 = .ok (.iaload, 1) := by decide +kernel
theorem dX7_byOrder_30 : decode cX7_byOrder 30 = .ok (.iadd, 1) := by decide +kernel
theorem dX7_byOrder_31 : decode cX7_byOrder 31 = .ok (.istore 4, 2) := by decide +kernel
theorem dX7_byOrder_33 : decode cX7_byOrder 33 = .ok (.iload_n 3, 1) := by decide +kernel
theorem dX7_byOrder_34 : decode cX7_byOrder 34 = .ok (.aload_n 0, 1) := by decide +kernel
theorem dX7_byOrder_35 : decode cX7_byOrder 35 = .ok (.getfield 52, 3) := by decide +kernel
theorem dX7_byOrder_38 : decode cX7_byOrder 38 = .ok (.iload 5, 2) := by decide +kernel
theorem dX7_byOrder_40 : decode cX7_byOrder 40 = .ok (.iaload, 1) := by decide +kernel
theorem dX7_byOrder_41 : decode cX7_byOrder 41 = .ok (.iload_n 1, 1) := by decide +kernel
theorem dX7_byOrder_42 : decode cX7_byOrder 42 = .ok (.iload 5, 2) := by decide +kernel
theorem dX7_byOrder_44 : decode cX7_byOrder 44 = .ok (.ishr, 1) := by decide +kernel
theorem dX7_byOrder_45 : decode cX7_byOrder 45 = .ok (.iconst 1, 1) := by decide +kernel
theorem dX7_byOrder_46 : decode cX7_byOrder 46 = .ok (.iand, 1) := by decide +kernel
theorem dX7_byOrder_47 : decode cX7_byOrder 47 = .ok (.iconst 1, 1) := by decide +kernel
theorem dX7_byOrder_48 : decode cX7_byOrder 48 = .ok (.if_icmp .ne 7, 3) := by decide +kernel
theorem dX7_byOrder_51 : decode cX7_byOrder 51 = .ok (.iconst 1, 1) := by decide +kernel
theorem dX7_byOrder_52 : decode cX7_byOrder 52 = .ok (.goto 4, 3) := by decide +kernel
theorem dX7_byOrder_55 : decode cX7_byOrder 55 = .ok (.iconst 2, 1) := by decide +kernel
theorem dX7_byOrder_56 : decode cX7_byOrder 56 = .ok (.imul, 1) := by decide +kernel
theorem dX7_byOrder_57 : decode cX7_byOrder 57 = .ok (.iadd, 1) := by decide +kernel
theorem dX7_byOrder_58 : decode cX7_byOrder 58 = .ok (.istore_n 3, 1) := by decide +kernel
theorem dX7_byOrder_59 : decode cX7_byOrder 59 = .ok (.goto (-54), 3) := by decide +kernel
theorem dX7_byOrder_62 : decode cX7_byOrder 62 = .ok (.iload 4, 2) := by decide +kernel
theorem dX7_byOrder_64 : decode cX7_byOrder 64 = .ok (.ireturn, 1) := by decide +kernel
set_option maxRecDepth 20000 in
theorem ggX7_shown_X7_settings : GoodIn wsX7_shown wsX7_settings := goodIn_r _ [8, 1, 27, 28, 29, 30, 31, 32, 33, 34, 35, 36, 37, 38, 39, 40, 41, 42, 43] (by decide +kernel) (by decide +kernel)
set_option maxRecDepth 20000 in
theorem gX7_shown_X7_settings : GoodIn wsX7_shown (wsV RX7 76 RX7 yX7_settings wsX7_settings) := goodIn_app (goodIn_of _ (by decide +kernel)) ggX7_shown_X7_settings
set_option maxRecDepth 20000 in
theorem ggX7_shown_X7_digit : GoodIn wsX7_shown wsX7_digit := goodIn_r _ [12, 2, 27, 28, 29, 30, 31, 32, 33, 34, 35, 36, 37, 38, 39, 40, 41, 42, 43] (by decide +kernel) (by decide +kernel)
set_option maxRecDepth 20000 in
theorem gX7_shown_X7_digit : GoodIn wsX7_shown (wsV RX7 102 RX7 yX7_digit wsX7_digit) := goodIn_app (goodIn_of _ (by decide +kernel)) ggX7_shown_X7_digit
set_option maxRecDepth 20000 in
theorem ggX7_shown_X7_sureAt : GoodIn wsX7_shown wsX7_sureAt := goodIn_r _ [16, 17, 18, 19, 7, 20, 1, 9, 10, 11, 12, 2, 21, 22, 23, 24, 25, 26, 4, 5, 6, 8, 27, 28, 29, 30, 31, 32, 33, 34, 35, 36, 37, 38, 39, 40, 41, 42, 43] (by decide +kernel) (by decide +kernel)
set_option maxRecDepth 20000 in
theorem gX7_shown_X7_sureAt : GoodIn wsX7_shown (wsV RX7 112 RX7 yX7_sureAt wsX7_sureAt) := goodIn_app (goodIn_of _ (by decide +kernel)) ggX7_shown_X7_sureAt
theorem dX7_shown_0 : decode cX7_shown 0 = .ok (.iconst (-1), 1) := by decide +kernel
theorem dX7_shown_1 : decode cX7_shown 1 = .ok (.istore_n 3, 1) := by decide +kernel
theorem dX7_shown_2 : decode cX7_shown 2 = .ok (.iconst 0, 1) := by decide +kernel
theorem dX7_shown_3 : decode cX7_shown 3 = .ok (.istore 4, 2) := by decide +kernel
theorem dX7_shown_5 : decode cX7_shown 5 = .ok (.iload 4, 2) := by decide +kernel
theorem dX7_shown_7 : decode cX7_shown 7 = .ok (.aload_n 0, 1) := by decide +kernel
theorem dX7_shown_8 : decode cX7_shown 8 = .ok (.invokevirtual 76, 3) := by decide +kernel
theorem dX7_shown_11 : decode cX7_shown 11 = .ok (.if_icmp .ge 152, 3) := by decide +kernel
theorem dX7_shown_14 : decode cX7_shown 14 = .ok (.iload_n 2, 1) := by decide +kernel
theorem dX7_shown_15 : decode cX7_shown 15 = .ok (.istore 5, 2) := by decide +kernel
theorem dX7_shown_17 : decode cX7_shown 17 = .ok (.iconst 0, 1) := by decide +kernel
theorem dX7_shown_18 : decode cX7_shown 18 = .ok (.istore 6, 2) := by decide +kernel
theorem dX7_shown_20 : decode cX7_shown 20 = .ok (.iconst 1, 1) := by decide +kernel
theorem dX7_shown_21 : decode cX7_shown 21 = .ok (.istore 7, 2) := by decide +kernel
theorem dX7_shown_23 : decode cX7_shown 23 = .ok (.iconst 0, 1) := by decide +kernel
theorem dX7_shown_24 : decode cX7_shown 24 = .ok (.istore 8, 2) := by decide +kernel
theorem dX7_shown_26 : decode cX7_shown 26 = .ok (.iload 8, 2) := by decide +kernel
theorem dX7_shown_28 : decode cX7_shown 28 = .ok (.aload_n 0, 1) := by decide +kernel
theorem dX7_shown_29 : decode cX7_shown 29 = .ok (.getfield 7, 3) := by decide +kernel
theorem dX7_shown_32 : decode cX7_shown 32 = .ok (.if_icmp .ge 96, 3) := by decide +kernel
theorem dX7_shown_35 : decode cX7_shown 35 = .ok (.iload 4, 2) := by decide +kernel
theorem dX7_shown_37 : decode cX7_shown 37 = .ok (.iload 8, 2) := by decide +kernel
theorem dX7_shown_39 : decode cX7_shown 39 = .ok (.ishr, 1) := by decide +kernel
theorem dX7_shown_40 : decode cX7_shown 40 = .ok (.iconst 1, 1) := by decide +kernel
theorem dX7_shown_41 : decode cX7_shown 41 = .ok (.iand, 1) := by decide +kernel
theorem dX7_shown_42 : decode cX7_shown 42 = .ok (.iconst 1, 1) := by decide +kernel
theorem dX7_shown_43 : decode cX7_shown 43 = .ok (.if_icmp .ne 79, 3) := by decide +kernel
theorem dX7_shown_46 : decode cX7_shown 46 = .ok (.iload 7, 2) := by decide +kernel
theorem dX7_shown_48 : decode cX7_shown 48 = .ok (.ifCond .eq 17, 3) := by decide +kernel
theorem dX7_shown_51 : decode cX7_shown 51 = .ok (.aload_n 0, 1) := by decide +kernel
theorem dX7_shown_52 : decode cX7_shown 52 = .ok (.iload_n 2, 1) := by decide +kernel
theorem dX7_shown_53 : decode cX7_shown 53 = .ok (.iload 8, 2) := by decide +kernel
theorem dX7_shown_55 : decode cX7_shown 55 = .ok (.invokevirtual 102, 3) := by decide +kernel
theorem dX7_shown_58 : decode cX7_shown 58 = .ok (.ifCond .ne 7, 3) := by decide +kernel
theorem dX7_shown_61 : decode cX7_shown 61 = .ok (.iconst 1, 1) := by decide +kernel
theorem dX7_shown_62 : decode cX7_shown 62 = .ok (.goto 4, 3) := by decide +kernel
theorem dX7_shown_65 : decode cX7_shown 65 = .ok (.iconst 0, 1) := by decide +kernel
theorem dX7_shown_66 : decode cX7_shown 66 = .ok (.istore 7, 2) := by decide +kernel
theorem dX7_shown_68 : decode cX7_shown 68 = .ok (.iload 5, 2) := by decide +kernel
theorem dX7_shown_70 : decode cX7_shown 70 = .ok (.aload_n 0, 1) := by decide +kernel
theorem dX7_shown_71 : decode cX7_shown 71 = .ok (.iload_n 2, 1) := by decide +kernel
theorem dX7_shown_72 : decode cX7_shown 72 = .ok (.iload 8, 2) := by decide +kernel
theorem dX7_shown_74 : decode cX7_shown 74 = .ok (.invokevirtual 102, 3) := by decide +kernel
theorem dX7_shown_77 : decode cX7_shown 77 = .ok (.ifCond .ne 29, 3) := by decide +kernel
theorem dX7_shown_80 : decode cX7_shown 80 = .ok (.aload_n 0, 1) := by decide +kernel
theorem dX7_shown_81 : decode cX7_shown 81 = .ok (.getfield 52, 3) := by decide +kernel
theorem dX7_shown_84 : decode cX7_shown 84 = .ok (.iload 8, 2) := by decide +kernel
theorem dX7_shown_86 : decode cX7_shown 86 = .ok (.iaload, 1) := by decide +kernel
theorem dX7_shown_87 : decode cX7_shown 87 = .ok (.iload_n 1, 1) := by decide +kernel
theorem dX7_shown_88 : decode cX7_shown 88 = .ok (.iload 8, 2) := by decide +kernel
theorem dX7_shown_90 : decode cX7_shown 90 = .ok (.ishr, 1) := by decide +kernel
theorem dX7_shown_91 : decode cX7_shown 91 = .ok (.iconst 1, 1) := by decide +kernel
theorem dX7_shown_92 : decode cX7_shown 92 = .ok (.iand, 1) := by decide +kernel
theorem dX7_shown_93 : decode cX7_shown 93 = .ok (.iconst 1, 1) := by decide +kernel
theorem dX7_shown_94 : decode cX7_shown 94 = .ok (.if_icmp .ne 7, 3) := by decide +kernel
theorem dX7_shown_97 : decode cX7_shown 97 = .ok (.iconst 1, 1) := by decide +kernel
theorem dX7_shown_98 : decode cX7_shown 98 = .ok (.goto 4, 3) := by decide +kernel
theorem dX7_shown_101 : decode cX7_shown 101 = .ok (.iconst 2, 1) := by decide +kernel
theorem dX7_shown_102 : decode cX7_shown 102 = .ok (.imul, 1) := by decide +kernel
theorem dX7_shown_103 : decode cX7_shown 103 = .ok (.goto 4, 3) := by decide +kernel
theorem dX7_shown_106 : decode cX7_shown 106 = .ok (.iconst 0, 1) := by decide +kernel
theorem dX7_shown_107 : decode cX7_shown 107 = .ok (.iadd, 1) := by decide +kernel
theorem dX7_shown_108 : decode cX7_shown 108 = .ok (.istore 5, 2) := by decide +kernel
theorem dX7_shown_110 : decode cX7_shown 110 = .ok (.iload 6, 2) := by decide +kernel
theorem dX7_shown_112 : decode cX7_shown 112 = .ok (.aload_n 0, 1) := by decide +kernel
theorem dX7_shown_113 : decode cX7_shown 113 = .ok (.getfield 20, 3) := by decide +kernel
theorem dX7_shown_116 : decode cX7_shown 116 = .ok (.iload 8, 2) := by decide +kernel
theorem dX7_shown_118 : decode cX7_shown 118 = .ok (.iaload, 1) := by decide +kernel
theorem dX7_shown_119 : decode cX7_shown 119 = .ok (.iadd, 1) := by decide +kernel
theorem dX7_shown_120 : decode cX7_shown 120 = .ok (.istore 6, 2) := by decide +kernel
theorem dX7_shown_122 : decode cX7_shown 122 = .ok (.iinc 8 1, 3) := by decide +kernel
theorem dX7_shown_125 : decode cX7_shown 125 = .ok (.goto (-99), 3) := by decide +kernel
theorem dX7_shown_128 : decode cX7_shown 128 = .ok (.iload 7, 2) := by decide +kernel
theorem dX7_shown_130 : decode cX7_shown 130 = .ok (.ifCond .eq 27, 3) := by decide +kernel
theorem dX7_shown_133 : decode cX7_shown 133 = .ok (.iload_n 3, 1) := by decide +kernel
theorem dX7_shown_134 : decode cX7_shown 134 = .ok (.iconst (-1), 1) := by decide +kernel
theorem dX7_shown_135 : decode cX7_shown 135 = .ok (.if_icmp .eq 9, 3) := by decide +kernel
theorem dX7_shown_138 : decode cX7_shown 138 = .ok (.iload 6, 2) := by decide +kernel
theorem dX7_shown_140 : decode cX7_shown 140 = .ok (.iload_n 3, 1) := by decide +kernel
theorem dX7_shown_141 : decode cX7_shown 141 = .ok (.if_icmp .ge 16, 3) := by decide +kernel
theorem dX7_shown_144 : decode cX7_shown 144 = .ok (.aload_n 0, 1) := by decide +kernel
theorem dX7_shown_145 : decode cX7_shown 145 = .ok (.iload 5, 2) := by decide +kernel
theorem dX7_shown_147 : decode cX7_shown 147 = .ok (.invokevirtual 112, 3) := by decide +kernel
theorem dX7_shown_150 : decode cX7_shown 150 = .ok (.iconst (-1), 1) := by decide +kernel
theorem dX7_shown_151 : decode cX7_shown 151 = .ok (.if_icmp .eq 6, 3) := by decide +kernel
theorem dX7_shown_154 : decode cX7_shown 154 = .ok (.iload 6, 2) := by decide +kernel
theorem dX7_shown_156 : decode cX7_shown 156 = .ok (.istore_n 3, 1) := by decide +kernel
theorem dX7_shown_157 : decode cX7_shown 157 = .ok (.iinc 4 1, 3) := by decide +kernel
theorem dX7_shown_160 : decode cX7_shown 160 = .ok (.goto (-155), 3) := by decide +kernel
theorem dX7_shown_163 : decode cX7_shown 163 = .ok (.iload_n 3, 1) := by decide +kernel
theorem dX7_shown_164 : decode cX7_shown 164 = .ok (.ireturn, 1) := by decide +kernel
set_option maxRecDepth 20000 in
theorem ggX7_told_X7_now : GoodIn wsX7_told wsX7_now := goodIn_r _ [14, 15, 16, 17, 83, 84, 85, 86, 87, 88, 89, 90, 91, 92, 93, 94, 95, 96, 97, 98, 99] (by decide +kernel) (by decide +kernel)
set_option maxRecDepth 20000 in
theorem gX7_told_X7_now : GoodIn wsX7_told (wsV RX7 109 RX7 yX7_now wsX7_now) := goodIn_app (goodIn_of _ (by decide +kernel)) ggX7_told_X7_now
set_option maxRecDepth 20000 in
theorem ggX7_told_X7_left : GoodIn wsX7_told wsX7_left := goodIn_r _ [21, 15, 22, 23, 24, 25, 26, 13, 27, 16, 83, 84, 85, 86, 87, 88, 89, 90, 91, 92, 93, 94, 95, 96, 97, 98, 99] (by decide +kernel) (by decide +kernel)
set_option maxRecDepth 20000 in
theorem gX7_told_X7_left : GoodIn wsX7_told (wsV RX7 123 RX7 yX7_left wsX7_left) := goodIn_app (goodIn_of _ (by decide +kernel)) ggX7_told_X7_left
set_option maxRecDepth 20000 in
theorem ggX7_told_X7_in : GoodIn wsX7_told wsX7_in := goodIn_r _ [30] (by decide +kernel) (by decide +kernel)
set_option maxRecDepth 20000 in
theorem gX7_told_X7_in : GoodIn wsX7_told (va_wsS RX7 55 yX7_in wsX7_in) := goodIn_app (goodIn_of _ (by decide +kernel)) ggX7_told_X7_in
set_option maxRecDepth 20000 in
theorem ggX7_told_X7_plans : GoodIn wsX7_told wsX7_plans := goodIn_r _ [34, 15, 16, 35, 36, 37, 13, 38, 24, 25, 26, 27, 39, 40, 41, 42, 6, 8, 7, 9, 43, 44, 45, 46, 47, 48, 49, 50, 51, 52, 53, 54, 55, 56, 1, 57, 58, 59, 60, 18, 19, 20, 21, 22, 23, 83, 84, 85, 86, 87, 88, 89, 90, 91, 92, 93, 94, 95, 96, 97, 98, 99] (by decide +kernel) (by decide +kernel)
set_option maxRecDepth 20000 in
theorem gX7_told_X7_plans : GoodIn wsX7_told (wsV RX7 138 RX7 yX7_plans wsX7_plans) := goodIn_app (goodIn_of _ (by decide +kernel)) ggX7_told_X7_plans
set_option maxRecDepth 20000 in
theorem ggX7_told_X7_settings : GoodIn wsX7_told wsX7_settings := goodIn_r _ [60, 15, 83, 84, 85, 86, 87, 88, 89, 90, 91, 92, 93, 94, 95, 96, 97, 98, 99] (by decide +kernel) (by decide +kernel)
set_option maxRecDepth 20000 in
theorem gX7_told_X7_settings : GoodIn wsX7_told (wsV RX7 76 RX7 yX7_settings wsX7_settings) := goodIn_app (goodIn_of _ (by decide +kernel)) ggX7_told_X7_settings
set_option maxRecDepth 20000 in
theorem ggX7_told_X7_isSuch : GoodIn wsX7_told wsX7_isSuch := goodIn_r _ [64, 15, 24, 25, 26, 13, 27, 16, 83, 84, 85, 86, 87, 88, 89, 90, 91, 92, 93, 94, 95, 96, 97, 98, 99] (by decide +kernel) (by decide +kernel)
set_option maxRecDepth 20000 in
theorem gX7_told_X7_isSuch : GoodIn wsX7_told (wsV RX7 141 RX7 yX7_isSuch wsX7_isSuch) := goodIn_app (goodIn_of _ (by decide +kernel)) ggX7_told_X7_isSuch
set_option maxRecDepth 20000 in
theorem ggX7_told_X7_isGood : GoodIn wsX7_told wsX7_isGood := goodIn_r _ [55, 56, 1, 83, 84, 85, 86, 87, 88, 89, 90, 91, 92, 93, 94, 95, 96, 97, 98, 99] (by decide +kernel) (by decide +kernel)
set_option maxRecDepth 20000 in
theorem gX7_told_X7_isGood : GoodIn wsX7_told (wsV RX7 94 RX7 yX7_isGood wsX7_isGood) := goodIn_app (goodIn_of _ (by decide +kernel)) ggX7_told_X7_isGood
set_option maxRecDepth 20000 in
theorem ggX7_told_X7_weight : GoodIn wsX7_told wsX7_weight := goodIn_r _ [68, 15, 22, 23, 83, 84, 85, 86, 87, 88, 89, 90, 91, 92, 93, 94, 95, 96, 97, 98, 99] (by decide +kernel) (by decide +kernel)
set_option maxRecDepth 20000 in
theorem gX7_told_X7_weight : GoodIn wsX7_told (wsV RX7 144 RX7 yX7_weight wsX7_weight) := goodIn_app (goodIn_of _ (by decide +kernel)) ggX7_told_X7_weight
set_option maxRecDepth 20000 in
theorem ggX7_told_X7_shown : GoodIn wsX7_told wsX7_shown := goodIn_r _ [72, 15, 16, 43, 57, 58, 59, 13, 60, 24, 25, 26, 27, 44, 45, 46, 47, 48, 49, 50, 51, 52, 53, 54, 55, 56, 1, 83, 84, 85, 86, 87, 88, 89, 90, 91, 92, 93, 94, 95, 96, 97, 98, 99] (by decide +kernel) (by decide +kernel)
set_option maxRecDepth 20000 in
theorem gX7_told_X7_shown : GoodIn wsX7_told (wsV RX7 147 RX7 yX7_shown wsX7_shown) := goodIn_app (goodIn_of _ (by decide +kernel)) ggX7_told_X7_shown
set_option maxRecDepth 20000 in
theorem ggX7_told_X7_byOrder : GoodIn wsX7_told wsX7_byOrder := goodIn_r _ [76, 43, 16, 44, 45, 46, 13, 47, 48, 49, 50, 51, 15, 24, 25, 26, 27, 52, 53, 54, 55, 56, 1, 57, 58, 59, 60, 77, 78, 79, 80, 81, 82, 83, 84, 85, 86, 87, 88, 89, 90, 91, 92, 93, 94, 95, 96, 97, 98, 99] (by decide +kernel) (by decide +kernel)
set_option maxRecDepth 20000 in
theorem gX7_told_X7_byOrder : GoodIn wsX7_told (wsV RX7 150 RX7 yX7_byOrder wsX7_byOrder) := goodIn_app (goodIn_of _ (by decide +kernel)) ggX7_told_X7_byOrder
theorem dX7_told_0 : decode cX7_told 0 = .ok (.aload_n 0, 1) := by decide +kernel
theorem dX7_told_1 : decode cX7_told 1 = .ok (.invokevirtual 109, 3) := by decide +kernel
theorem dX7_told_4 : decode cX7_told 4 = .ok (.istore_n 2, 1) := by decide +kernel
theorem dX7_told_5 : decode cX7_told 5 = .ok (.iload_n 1, 1) := by decide +kernel
theorem dX7_told_6 : decode cX7_told 6 = .ok (.ifCond .ne 9, 3) := by decide +kernel
theorem dX7_told_9 : decode cX7_told 9 = .ok (.aload_n 0, 1) := by decide +kernel
theorem dX7_told_10 : decode cX7_told 10 = .ok (.iload_n 2, 1) := by decide +kernel
theorem dX7_told_11 : decode cX7_told 11 = .ok (.invokevirtual 123, 3) := by decide +kernel
theorem dX7_told_14 : decode cX7_told 14 = .ok (.lreturn, 1) := by decide +kernel
theorem dX7_told_15 : decode cX7_told 15 = .ok (.aload_n 0, 1) := by decide +kernel
theorem dX7_told_16 : decode cX7_told 16 = .ok (.getfield 27, 3) := by decide +kernel
theorem dX7_told_19 : decode cX7_told 19 = .ok (.ifCond .lt 15, 3) := by decide +kernel
theorem dX7_told_22 : decode cX7_told 22 = .ok (.iload_n 1, 1) := by decide +kernel
theorem dX7_told_23 : decode cX7_told 23 = .ok (.i2l, 1) := by decide +kernel
theorem dX7_told_24 : decode cX7_told 24 = .ok (.lconst 1, 1) := by decide +kernel
theorem dX7_told_25 : decode cX7_told 25 = .ok (.ldc2_w 130, 3) := by decide +kernel
theorem dX7_told_28 : decode cX7_told 28 = .ok (.invokestatic 55, 3) := by decide +kernel
theorem dX7_told_31 : decode cX7_told 31 = .ok (.ifCond .ne 7, 3) := by decide +kernel
theorem dX7_told_34 : decode cX7_told 34 = .ok (.ldc2_w 132, 3) := by decide +kernel
theorem dX7_told_37 : decode cX7_told 37 = .ok (.lreturn, 1) := by decide +kernel
theorem dX7_told_38 : decode cX7_told 38 = .ok (.iload_n 1, 1) := by decide +kernel
theorem dX7_told_39 : decode cX7_told 39 = .ok (.i2l, 1) := by decide +kernel
theorem dX7_told_40 : decode cX7_told 40 = .ok (.ldc2_w 134, 3) := by decide +kernel
theorem dX7_told_43 : decode cX7_told 43 = .ok (.ldc2_w 136, 3) := by decide +kernel
theorem dX7_told_46 : decode cX7_told 46 = .ok (.invokestatic 55, 3) := by decide +kernel
theorem dX7_told_49 : decode cX7_told 49 = .ok (.ifCond .eq 59, 3) := by decide +kernel
theorem dX7_told_52 : decode cX7_told 52 = .ok (.aload_n 0, 1) := by decide +kernel
theorem dX7_told_53 : decode cX7_told 53 = .ok (.invokevirtual 138, 3) := by decide +kernel
theorem dX7_told_56 : decode cX7_told 56 = .ok (.iload_n 1, 1) := by decide +kernel
theorem dX7_told_57 : decode cX7_told 57 = .ok (.iconst 2, 1) := by decide +kernel
theorem dX7_told_58 : decode cX7_told 58 = .ok (.if_icmp .ne 12, 3) := by decide +kernel
theorem dX7_told_61 : decode cX7_told 61 = .ok (.aload_n 0, 1) := by decide +kernel
theorem dX7_told_62 : decode cX7_told 62 = .ok (.getfield 39, 3) := by decide +kernel
theorem dX7_told_65 : decode cX7_told 65 = .ok (.iload_n 2, 1) := by decide +kernel
theorem dX7_told_66 : decode cX7_told 66 = .ok (.laload, 1) := by decide +kernel
theorem dX7_told_67 : decode cX7_told 67 = .ok (.goto 40, 3) := by decide +kernel
theorem dX7_told_70 : decode cX7_told 70 = .ok (.iload_n 1, 1) := by decide +kernel
theorem dX7_told_71 : decode cX7_told 71 = .ok (.iconst 3, 1) := by decide +kernel
theorem dX7_told_72 : decode cX7_told 72 = .ok (.if_icmp .ne 13, 3) := by decide +kernel
theorem dX7_told_75 : decode cX7_told 75 = .ok (.aload_n 0, 1) := by decide +kernel
theorem dX7_told_76 : decode cX7_told 76 = .ok (.getfield 43, 3) := by decide +kernel
theorem dX7_told_79 : decode cX7_told 79 = .ok (.iload_n 2, 1) := by decide +kernel
theorem dX7_told_80 : decode cX7_told 80 = .ok (.iaload, 1) := by decide +kernel
theorem dX7_told_81 : decode cX7_told 81 = .ok (.i2l, 1) := by decide +kernel
theorem dX7_told_82 : decode cX7_told 82 = .ok (.goto 25, 3) := by decide +kernel
theorem dX7_told_85 : decode cX7_told 85 = .ok (.iload_n 1, 1) := by decide +kernel
theorem dX7_told_86 : decode cX7_told 86 = .ok (.iconst 4, 1) := by decide +kernel
theorem dX7_told_87 : decode cX7_told 87 = .ok (.if_icmp .ne 13, 3) := by decide +kernel
theorem dX7_told_90 : decode cX7_told 90 = .ok (.aload_n 0, 1) := by decide +kernel
theorem dX7_told_91 : decode cX7_told 91 = .ok (.getfield 46, 3) := by decide +kernel
theorem dX7_told_94 : decode cX7_told 94 = .ok (.iload_n 2, 1) := by decide +kernel
theorem dX7_told_95 : decode cX7_told 95 = .ok (.iaload, 1) := by decide +kernel
theorem dX7_told_96 : decode cX7_told 96 = .ok (.i2l, 1) := by decide +kernel
theorem dX7_told_97 : decode cX7_told 97 = .ok (.goto 10, 3) := by decide +kernel
theorem dX7_told_100 : decode cX7_told 100 = .ok (.aload_n 0, 1) := by decide +kernel
theorem dX7_told_101 : decode cX7_told 101 = .ok (.getfield 49, 3) := by decide +kernel
theorem dX7_told_104 : decode cX7_told 104 = .ok (.iload_n 2, 1) := by decide +kernel
theorem dX7_told_105 : decode cX7_told 105 = .ok (.iaload, 1) := by decide +kernel
theorem dX7_told_106 : decode cX7_told 106 = .ok (.i2l, 1) := by decide +kernel
theorem dX7_told_107 : decode cX7_told 107 = .ok (.lreturn, 1) := by decide +kernel
theorem dX7_told_108 : decode cX7_told 108 = .ok (.lconst 0, 1) := by decide +kernel
theorem dX7_told_109 : decode cX7_told 109 = .ok (.lstore_n 3, 1) := by decide +kernel
theorem dX7_told_110 : decode cX7_told 110 = .ok (.iconst 0, 1) := by decide +kernel
theorem dX7_told_111 : decode cX7_told 111 = .ok (.istore 5, 2) := by decide +kernel
theorem dX7_told_113 : decode cX7_told 113 = .ok (.iload 5, 2) := by decide +kernel
theorem dX7_told_115 : decode cX7_told 115 = .ok (.aload_n 0, 1) := by decide +kernel
theorem dX7_told_116 : decode cX7_told 116 = .ok (.invokevirtual 76, 3) := by decide +kernel
theorem dX7_told_119 : decode cX7_told 119 = .ok (.if_icmp .ge 154, 3) := by decide +kernel
theorem dX7_told_122 : decode cX7_told 122 = .ok (.aload_n 0, 1) := by decide +kernel
theorem dX7_told_123 : decode cX7_told 123 = .ok (.iload 5, 2) := by decide +kernel
theorem dX7_told_125 : decode cX7_told 125 = .ok (.iload_n 2, 1) := by decide +kernel
theorem dX7_told_126 : decode cX7_told 126 = .ok (.invokevirtual 141, 3) := by decide +kernel
theorem dX7_told_129 : decode cX7_told 129 = .ok (.ifCond .ne 6, 3) := by decide +kernel
theorem dX7_told_132 : decode cX7_told 132 = .ok (.goto 135, 3) := by decide +kernel
theorem dX7_told_135 : decode cX7_told 135 = .ok (.iload_n 1, 1) := by decide +kernel
theorem dX7_told_136 : decode cX7_told 136 = .ok (.lookupswitch 103 #[(1, 36), (6, 61), (7, 82)], 36) := by decide +kernel
theorem dX7_told_172 : decode cX7_told 172 = .ok (.lload_n 3, 1) := by decide +kernel
theorem dX7_told_173 : decode cX7_told 173 = .ok (.aload_n 0, 1) := by decide +kernel
theorem dX7_told_174 : decode cX7_told 174 = .ok (.iload 5, 2) := by decide +kernel
theorem dX7_told_176 : decode cX7_told 176 = .ok (.invokevirtual 94, 3) := by decide +kernel
theorem dX7_told_179 : decode cX7_told 179 = .ok (.ifCond .eq 12, 3) := by decide +kernel
theorem dX7_told_182 : decode cX7_told 182 = .ok (.aload_n 0, 1) := by decide +kernel
theorem dX7_told_183 : decode cX7_told 183 = .ok (.iload 5, 2) := by decide +kernel
theorem dX7_told_185 : decode cX7_told 185 = .ok (.invokevirtual 144, 3) := by decide +kernel
theorem dX7_told_188 : decode cX7_told 188 = .ok (.goto 4, 3) := by decide +kernel
theorem dX7_told_191 : decode cX7_told 191 = .ok (.lconst 0, 1) := by decide +kernel
theorem dX7_told_192 : decode cX7_told 192 = .ok (.ladd, 1) := by decide +kernel
theorem dX7_told_193 : decode cX7_told 193 = .ok (.lstore_n 3, 1) := by decide +kernel
theorem dX7_told_194 : decode cX7_told 194 = .ok (.goto 73, 3) := by decide +kernel
theorem dX7_told_197 : decode cX7_told 197 = .ok (.lload_n 3, 1) := by decide +kernel
theorem dX7_told_198 : decode cX7_told 198 = .ok (.aload_n 0, 1) := by decide +kernel
theorem dX7_told_199 : decode cX7_told 199 = .ok (.iload 5, 2) := by decide +kernel
theorem dX7_told_201 : decode cX7_told 201 = .ok (.invokevirtual 144, 3) := by decide +kernel
theorem dX7_told_204 : decode cX7_told 204 = .ok (.aload_n 0, 1) := by decide +kernel
theorem dX7_told_205 : decode cX7_told 205 = .ok (.iload 5, 2) := by decide +kernel
theorem dX7_told_207 : decode cX7_told 207 = .ok (.iload_n 2, 1) := by decide +kernel
theorem dX7_told_208 : decode cX7_told 208 = .ok (.invokevirtual 147, 3) := by decide +kernel
theorem dX7_told_211 : decode cX7_told 211 = .ok (.i2l, 1) := by decide +kernel
theorem dX7_told_212 : decode cX7_told 212 = .ok (.lmul, 1) := by decide +kernel
theorem dX7_told_213 : decode cX7_told 213 = .ok (.ladd, 1) := by decide +kernel
theorem dX7_told_214 : decode cX7_told 214 = .ok (.lstore_n 3, 1) := by decide +kernel
theorem dX7_told_215 : decode cX7_told 215 = .ok (.goto 52, 3) := by decide +kernel
theorem dX7_told_218 : decode cX7_told 218 = .ok (.lload_n 3, 1) := by decide +kernel
theorem dX7_told_219 : decode cX7_told 219 = .ok (.aload_n 0, 1) := by decide +kernel
theorem dX7_told_220 : decode cX7_told 220 = .ok (.iload 5, 2) := by decide +kernel
theorem dX7_told_222 : decode cX7_told 222 = .ok (.invokevirtual 144, 3) := by decide +kernel
theorem dX7_told_225 : decode cX7_told 225 = .ok (.aload_n 0, 1) := by decide +kernel
theorem dX7_told_226 : decode cX7_told 226 = .ok (.iload 5, 2) := by decide +kernel
theorem dX7_told_228 : decode cX7_told 228 = .ok (.iload_n 2, 1) := by decide +kernel
theorem dX7_told_229 : decode cX7_told 229 = .ok (.invokevirtual 150, 3) := by decide +kernel
theorem dX7_told_232 : decode cX7_told 232 = .ok (.i2l, 1) := by decide +kernel
theorem dX7_told_233 : decode cX7_told 233 = .ok (.lmul, 1) := by decide +kernel
theorem dX7_told_234 : decode cX7_told 234 = .ok (.ladd, 1) := by decide +kernel
theorem dX7_told_235 : decode cX7_told 235 = .ok (.lstore_n 3, 1) := by decide +kernel
theorem dX7_told_236 : decode cX7_told 236 = .ok (.goto 31, 3) := by decide +kernel
theorem dX7_told_239 : decode cX7_told 239 = .ok (.aload_n 0, 1) := by decide +kernel
theorem dX7_told_240 : decode cX7_told 240 = .ok (.iload 5, 2) := by decide +kernel
theorem dX7_told_242 : decode cX7_told 242 = .ok (.iload_n 2, 1) := by decide +kernel
theorem dX7_told_243 : decode cX7_told 243 = .ok (.invokevirtual 150, 3) := by decide +kernel
theorem dX7_told_246 : decode cX7_told 246 = .ok (.istore 6, 2) := by decide +kernel
theorem dX7_told_248 : decode cX7_told 248 = .ok (.iload 6, 2) := by decide +kernel
theorem dX7_told_250 : decode cX7_told 250 = .ok (.i2l, 1) := by decide +kernel
theorem dX7_told_251 : decode cX7_told 251 = .ok (.lload_n 3, 1) := by decide +kernel
theorem dX7_told_252 : decode cX7_told 252 = .ok (.lcmp, 1) := by decide +kernel
theorem dX7_told_253 : decode cX7_told 253 = .ok (.ifCond .le 9, 3) := by decide +kernel
theorem dX7_told_256 : decode cX7_told 256 = .ok (.iload 6, 2) := by decide +kernel
theorem dX7_told_258 : decode cX7_told 258 = .ok (.i2l, 1) := by decide +kernel
theorem dX7_told_259 : decode cX7_told 259 = .ok (.goto 4, 3) := by decide +kernel
theorem dX7_told_262 : decode cX7_told 262 = .ok (.lload_n 3, 1) := by decide +kernel
theorem dX7_told_263 : decode cX7_told 263 = .ok (.lstore_n 3, 1) := by decide +kernel
theorem dX7_told_264 : decode cX7_told 264 = .ok (.goto 3, 3) := by decide +kernel
theorem dX7_told_267 : decode cX7_told 267 = .ok (.iinc 5 1, 3) := by decide +kernel
theorem dX7_told_270 : decode cX7_told 270 = .ok (.goto (-157), 3) := by decide +kernel
theorem dX7_told_273 : decode cX7_told 273 = .ok (.lload_n 3, 1) := by decide +kernel
theorem dX7_told_274 : decode cX7_told 274 = .ok (.lreturn, 1) := by decide +kernel
set_option maxRecDepth 20000 in
theorem ggX7_of_X7_isPart : GoodIn wsX7_of wsX7_isPart := goodIn_r _ [10, 11, 12, 13, 9, 14, 70, 71, 72, 73, 74, 75, 76, 77, 78, 79, 80, 81, 82, 83, 84, 85, 86] (by decide +kernel) (by decide +kernel)
set_option maxRecDepth 20000 in
theorem gX7_of_X7_isPart : GoodIn wsX7_of (wsV RX7 70 RX7 yX7_isPart wsX7_isPart) := goodIn_app (goodIn_of _ (by decide +kernel)) ggX7_of_X7_isPart
set_option maxRecDepth 20000 in
theorem ggX7_of_X7_in : GoodIn wsX7_of wsX7_in := goodIn_r _ [14] (by decide +kernel) (by decide +kernel)
set_option maxRecDepth 20000 in
theorem gX7_of_X7_in : GoodIn wsX7_of (va_wsS RX7 55 yX7_in wsX7_in) := goodIn_app (goodIn_of _ (by decide +kernel)) ggX7_of_X7_in
set_option maxRecDepth 20000 in
theorem ggX7_of_X7_now : GoodIn wsX7_of wsX7_now := goodIn_r _ [18, 11, 5, 1, 70, 71, 72, 73, 74, 75, 76, 77, 78, 79, 80, 81, 82, 83, 84, 85, 86] (by decide +kernel) (by decide +kernel)
set_option maxRecDepth 20000 in
theorem gX7_of_X7_now : GoodIn wsX7_of (wsV RX7 109 RX7 yX7_now wsX7_now) := goodIn_app (goodIn_of _ (by decide +kernel)) ggX7_of_X7_now
set_option maxRecDepth 20000 in
theorem ggX7_of_X7_plans : GoodIn wsX7_of wsX7_plans := goodIn_r _ [22, 11, 5, 23, 24, 25, 9, 26, 27, 28, 29, 30, 31, 32, 33, 34, 4, 35, 36, 37, 38, 39, 40, 41, 42, 43, 44, 45, 46, 47, 48, 49, 50, 51, 2, 52, 53, 54, 55, 56, 57, 58, 59, 60, 61, 70, 71, 72, 73, 74, 75, 76, 77, 78, 79, 80, 81, 82, 83, 84, 85, 86] (by decide +kernel) (by decide +kernel)
set_option maxRecDepth 20000 in
theorem gX7_of_X7_plans : GoodIn wsX7_of (wsV RX7 138 RX7 yX7_plans wsX7_plans) := goodIn_app (goodIn_of _ (by decide +kernel)) ggX7_of_X7_plans
set_option maxRecDepth 20000 in
theorem ggX7_of_X7_settings : GoodIn wsX7_of wsX7_settings := goodIn_r _ [55, 11, 70, 71, 72, 73, 74, 75, 76, 77, 78, 79, 80, 81, 82, 83, 84, 85, 86] (by decide +kernel) (by decide +kernel)
set_option maxRecDepth 20000 in
theorem gX7_of_X7_settings : GoodIn wsX7_of (wsV RX7 76 RX7 yX7_settings wsX7_settings) := goodIn_app (goodIn_of _ (by decide +kernel)) ggX7_of_X7_settings
set_option maxRecDepth 20000 in
theorem ggX7_of_X7_isSuch : GoodIn wsX7_of wsX7_isSuch := goodIn_r _ [65, 11, 27, 28, 29, 9, 30, 5, 70, 71, 72, 73, 74, 75, 76, 77, 78, 79, 80, 81, 82, 83, 84, 85, 86] (by decide +kernel) (by decide +kernel)
set_option maxRecDepth 20000 in
theorem gX7_of_X7_isSuch : GoodIn wsX7_of (wsV RX7 141 RX7 yX7_isSuch wsX7_isSuch) := goodIn_app (goodIn_of _ (by decide +kernel)) ggX7_of_X7_isSuch
set_option maxRecDepth 20000 in
theorem ggX7_of_X7_isGood : GoodIn wsX7_of wsX7_isGood := goodIn_r _ [50, 51, 2, 70, 71, 72, 73, 74, 75, 76, 77, 78, 79, 80, 81, 82, 83, 84, 85, 86] (by decide +kernel) (by decide +kernel)
set_option maxRecDepth 20000 in
theorem gX7_of_X7_isGood : GoodIn wsX7_of (wsV RX7 94 RX7 yX7_isGood wsX7_isGood) := goodIn_app (goodIn_of _ (by decide +kernel)) ggX7_of_X7_isGood
set_option maxRecDepth 20000 in
theorem ggX7_of_X7_weight : GoodIn wsX7_of wsX7_weight := goodIn_r _ [69, 11, 60, 61, 70, 71, 72, 73, 74, 75, 76, 77, 78, 79, 80, 81, 82, 83, 84, 85, 86] (by decide +kernel) (by decide +kernel)
set_option maxRecDepth 20000 in
theorem gX7_of_X7_weight : GoodIn wsX7_of (wsV RX7 144 RX7 yX7_weight wsX7_weight) := goodIn_app (goodIn_of _ (by decide +kernel)) ggX7_of_X7_weight
theorem dX7_of_0 : decode cX7_of 0 = .ok (.aload_n 0, 1) := by decide +kernel
theorem dX7_of_1 : decode cX7_of 1 = .ok (.iload_n 1, 1) := by decide +kernel
theorem dX7_of_2 : decode cX7_of 2 = .ok (.invokevirtual 70, 3) := by decide +kernel
theorem dX7_of_5 : decode cX7_of 5 = .ok (.ifCond .eq 30, 3) := by decide +kernel
theorem dX7_of_8 : decode cX7_of 8 = .ok (.iload_n 2, 1) := by decide +kernel
theorem dX7_of_9 : decode cX7_of 9 = .ok (.i2l, 1) := by decide +kernel
theorem dX7_of_10 : decode cX7_of 10 = .ok (.lconst 0, 1) := by decide +kernel
theorem dX7_of_11 : decode cX7_of 11 = .ok (.lconst 1, 1) := by decide +kernel
theorem dX7_of_12 : decode cX7_of 12 = .ok (.invokestatic 55, 3) := by decide +kernel
theorem dX7_of_15 : decode cX7_of 15 = .ok (.ifCond .eq 20, 3) := by decide +kernel
theorem dX7_of_18 : decode cX7_of 18 = .ok (.aload_n 0, 1) := by decide +kernel
theorem dX7_of_19 : decode cX7_of 19 = .ok (.getfield 30, 3) := by decide +kernel
theorem dX7_of_22 : decode cX7_of 22 = .ok (.iload_n 1, 1) := by decide +kernel
theorem dX7_of_23 : decode cX7_of 23 = .ok (.iaload, 1) := by decide +kernel
theorem dX7_of_24 : decode cX7_of 24 = .ok (.iconst (-1), 1) := by decide +kernel
theorem dX7_of_25 : decode cX7_of 25 = .ok (.if_icmp .ne 10, 3) := by decide +kernel
theorem dX7_of_28 : decode cX7_of 28 = .ok (.aload_n 0, 1) := by decide +kernel
theorem dX7_of_29 : decode cX7_of 29 = .ok (.getfield 27, 3) := by decide +kernel
theorem dX7_of_32 : decode cX7_of 32 = .ok (.ifCond .ge 7, 3) := by decide +kernel
theorem dX7_of_35 : decode cX7_of 35 = .ok (.ldc2_w 132, 3) := by decide +kernel
theorem dX7_of_38 : decode cX7_of 38 = .ok (.lreturn, 1) := by decide +kernel
theorem dX7_of_39 : decode cX7_of 39 = .ok (.aload_n 0, 1) := by decide +kernel
theorem dX7_of_40 : decode cX7_of 40 = .ok (.invokevirtual 109, 3) := by decide +kernel
theorem dX7_of_43 : decode cX7_of 43 = .ok (.istore_n 3, 1) := by decide +kernel
theorem dX7_of_44 : decode cX7_of 44 = .ok (.iload_n 2, 1) := by decide +kernel
theorem dX7_of_45 : decode cX7_of 45 = .ok (.ifCond .ne 44, 3) := by decide +kernel
theorem dX7_of_48 : decode cX7_of 48 = .ok (.aload_n 0, 1) := by decide +kernel
theorem dX7_of_49 : decode cX7_of 49 = .ok (.invokevirtual 138, 3) := by decide +kernel
theorem dX7_of_52 : decode cX7_of 52 = .ok (.aload_n 0, 1) := by decide +kernel
theorem dX7_of_53 : decode cX7_of 53 = .ok (.getfield 39, 3) := by decide +kernel
theorem dX7_of_56 : decode cX7_of 56 = .ok (.iload_n 3, 1) := by decide +kernel
theorem dX7_of_57 : decode cX7_of 57 = .ok (.laload, 1) := by decide +kernel
theorem dX7_of_58 : decode cX7_of 58 = .ok (.aload_n 0, 1) := by decide +kernel
theorem dX7_of_59 : decode cX7_of 59 = .ok (.getfield 39, 3) := by decide +kernel
theorem dX7_of_62 : decode cX7_of 62 = .ok (.iload_n 3, 1) := by decide +kernel
theorem dX7_of_63 : decode cX7_of 63 = .ok (.aload_n 0, 1) := by decide +kernel
theorem dX7_of_64 : decode cX7_of 64 = .ok (.getfield 52, 3) := by decide +kernel
theorem dX7_of_67 : decode cX7_of 67 = .ok (.iload_n 1, 1) := by decide +kernel
theorem dX7_of_68 : decode cX7_of 68 = .ok (.iaload, 1) := by decide +kernel
theorem dX7_of_69 : decode cX7_of 69 = .ok (.iadd, 1) := by decide +kernel
theorem dX7_of_70 : decode cX7_of 70 = .ok (.laload, 1) := by decide +kernel
theorem dX7_of_71 : decode cX7_of 71 = .ok (.lsub, 1) := by decide +kernel
theorem dX7_of_72 : decode cX7_of 72 = .ok (.aload_n 0, 1) := by decide +kernel
theorem dX7_of_73 : decode cX7_of 73 = .ok (.getfield 39, 3) := by decide +kernel
theorem dX7_of_76 : decode cX7_of 76 = .ok (.iload_n 3, 1) := by decide +kernel
theorem dX7_of_77 : decode cX7_of 77 = .ok (.iconst 2, 1) := by decide +kernel
theorem dX7_of_78 : decode cX7_of 78 = .ok (.aload_n 0, 1) := by decide +kernel
theorem dX7_of_79 : decode cX7_of 79 = .ok (.getfield 52, 3) := by decide +kernel
theorem dX7_of_82 : decode cX7_of 82 = .ok (.iload_n 1, 1) := by decide +kernel
theorem dX7_of_83 : decode cX7_of 83 = .ok (.iaload, 1) := by decide +kernel
theorem dX7_of_84 : decode cX7_of 84 = .ok (.imul, 1) := by decide +kernel
theorem dX7_of_85 : decode cX7_of 85 = .ok (.iadd, 1) := by decide +kernel
theorem dX7_of_86 : decode cX7_of 86 = .ok (.laload, 1) := by decide +kernel
theorem dX7_of_87 : decode cX7_of 87 = .ok (.lsub, 1) := by decide +kernel
theorem dX7_of_88 : decode cX7_of 88 = .ok (.lreturn, 1) := by decide +kernel
theorem dX7_of_89 : decode cX7_of 89 = .ok (.lconst 0, 1) := by decide +kernel
theorem dX7_of_90 : decode cX7_of 90 = .ok (.lstore 4, 2) := by decide +kernel
theorem dX7_of_92 : decode cX7_of 92 = .ok (.iconst 0, 1) := by decide +kernel
theorem dX7_of_93 : decode cX7_of 93 = .ok (.istore 6, 2) := by decide +kernel
theorem dX7_of_95 : decode cX7_of 95 = .ok (.iload 6, 2) := by decide +kernel
theorem dX7_of_97 : decode cX7_of 97 = .ok (.aload_n 0, 1) := by decide +kernel
theorem dX7_of_98 : decode cX7_of 98 = .ok (.invokevirtual 76, 3) := by decide +kernel
theorem dX7_of_101 : decode cX7_of 101 = .ok (.if_icmp .ge 53, 3) := by decide +kernel
theorem dX7_of_104 : decode cX7_of 104 = .ok (.lload 4, 2) := by decide +kernel
theorem dX7_of_106 : decode cX7_of 106 = .ok (.aload_n 0, 1) := by decide +kernel
theorem dX7_of_107 : decode cX7_of 107 = .ok (.iload 6, 2) := by decide +kernel
theorem dX7_of_109 : decode cX7_of 109 = .ok (.iload_n 3, 1) := by decide +kernel
theorem dX7_of_110 : decode cX7_of 110 = .ok (.invokevirtual 141, 3) := by decide +kernel
theorem dX7_of_113 : decode cX7_of 113 = .ok (.ifCond .eq 31, 3) := by decide +kernel
theorem dX7_of_116 : decode cX7_of 116 = .ok (.aload_n 0, 1) := by decide +kernel
theorem dX7_of_117 : decode cX7_of 117 = .ok (.iload 6, 2) := by decide +kernel
theorem dX7_of_119 : decode cX7_of 119 = .ok (.invokevirtual 94, 3) := by decide +kernel
theorem dX7_of_122 : decode cX7_of 122 = .ok (.aload_n 0, 1) := by decide +kernel
theorem dX7_of_123 : decode cX7_of 123 = .ok (.iload 6, 2) := by decide +kernel
theorem dX7_of_125 : decode cX7_of 125 = .ok (.iconst 1, 1) := by decide +kernel
theorem dX7_of_126 : decode cX7_of 126 = .ok (.iload_n 1, 1) := by decide +kernel
theorem dX7_of_127 : decode cX7_of 127 = .ok (.ishl, 1) := by decide +kernel
theorem dX7_of_128 : decode cX7_of 128 = .ok (.ixor, 1) := by decide +kernel
theorem dX7_of_129 : decode cX7_of 129 = .ok (.invokevirtual 94, 3) := by decide +kernel
theorem dX7_of_132 : decode cX7_of 132 = .ok (.if_icmp .eq 12, 3) := by decide +kernel
theorem dX7_of_135 : decode cX7_of 135 = .ok (.aload_n 0, 1) := by decide +kernel
theorem dX7_of_136 : decode cX7_of 136 = .ok (.iload 6, 2) := by decide +kernel
theorem dX7_of_138 : decode cX7_of 138 = .ok (.invokevirtual 144, 3) := by decide +kernel
theorem dX7_of_141 : decode cX7_of 141 = .ok (.goto 4, 3) := by decide +kernel
theorem dX7_of_144 : decode cX7_of 144 = .ok (.lconst 0, 1) := by decide +kernel
theorem dX7_of_145 : decode cX7_of 145 = .ok (.ladd, 1) := by decide +kernel
theorem dX7_of_146 : decode cX7_of 146 = .ok (.lstore 4, 2) := by decide +kernel
theorem dX7_of_148 : decode cX7_of 148 = .ok (.iinc 6 1, 3) := by decide +kernel
theorem dX7_of_151 : decode cX7_of 151 = .ok (.goto (-56), 3) := by decide +kernel
theorem dX7_of_154 : decode cX7_of 154 = .ok (.lload 4, 2) := by decide +kernel
theorem dX7_of_156 : decode cX7_of 156 = .ok (.lreturn, 1) := by decide +kernel
theorem dX7_placeOf_0 : decode cX7_placeOf 0 = .ok (.iconst (-1), 1) := by decide +kernel
theorem dX7_placeOf_1 : decode cX7_placeOf 1 = .ok (.istore_n 2, 1) := by decide +kernel
theorem dX7_placeOf_2 : decode cX7_placeOf 2 = .ok (.iconst 0, 1) := by decide +kernel
theorem dX7_placeOf_3 : decode cX7_placeOf 3 = .ok (.istore_n 3, 1) := by decide +kernel
theorem dX7_placeOf_4 : decode cX7_placeOf 4 = .ok (.iload_n 3, 1) := by decide +kernel
theorem dX7_placeOf_5 : decode cX7_placeOf 5 = .ok (.aload_n 0, 1) := by decide +kernel
theorem dX7_placeOf_6 : decode cX7_placeOf 6 = .ok (.getfield 64, 3) := by decide +kernel
theorem dX7_placeOf_9 : decode cX7_placeOf 9 = .ok (.if_icmp .ge 25, 3) := by decide +kernel
theorem dX7_placeOf_12 : decode cX7_placeOf 12 = .ok (.aload_n 0, 1) := by decide +kernel
theorem dX7_placeOf_13 : decode cX7_placeOf 13 = .ok (.getfield 33, 3) := by decide +kernel
theorem dX7_placeOf_16 : decode cX7_placeOf 16 = .ok (.iload_n 3, 1) := by decide +kernel
theorem dX7_placeOf_17 : decode cX7_placeOf 17 = .ok (.iaload, 1) := by decide +kernel
theorem dX7_placeOf_18 : decode cX7_placeOf 18 = .ok (.iload_n 1, 1) := by decide +kernel
theorem dX7_placeOf_19 : decode cX7_placeOf 19 = .ok (.if_icmp .ne 7, 3) := by decide +kernel
theorem dX7_placeOf_22 : decode cX7_placeOf 22 = .ok (.iload_n 3, 1) := by decide +kernel
theorem dX7_placeOf_23 : decode cX7_placeOf 23 = .ok (.goto 4, 3) := by decide +kernel
theorem dX7_placeOf_26 : decode cX7_placeOf 26 = .ok (.iload_n 2, 1) := by decide +kernel
theorem dX7_placeOf_27 : decode cX7_placeOf 27 = .ok (.istore_n 2, 1) := by decide +kernel
theorem dX7_placeOf_28 : decode cX7_placeOf 28 = .ok (.iinc 3 1, 3) := by decide +kernel
theorem dX7_placeOf_31 : decode cX7_placeOf 31 = .ok (.goto (-27), 3) := by decide +kernel
theorem dX7_placeOf_34 : decode cX7_placeOf 34 = .ok (.iload_n 2, 1) := by decide +kernel
theorem dX7_placeOf_35 : decode cX7_placeOf 35 = .ok (.ireturn, 1) := by decide +kernel
set_option maxRecDepth 20000 in
theorem ggX7_order_X7_isPart : GoodIn wsX7_order wsX7_isPart := goodIn_r _ [7, 8, 9, 10, 6, 11, 16, 17, 18, 19, 20, 21, 22, 23, 24, 25, 26, 27, 28, 29, 30, 31, 32] (by decide +kernel) (by decide +kernel)
set_option maxRecDepth 20000 in
theorem gX7_order_X7_isPart : GoodIn wsX7_order (wsV RX7 70 RX7 yX7_isPart wsX7_isPart) := goodIn_app (goodIn_of _ (by decide +kernel)) ggX7_order_X7_isPart
set_option maxRecDepth 20000 in
theorem ggX7_order_X7_placeOf : GoodIn wsX7_order wsX7_placeOf := goodIn_r _ [15, 2, 1, 16, 17, 18, 19, 20, 21, 22, 23, 24, 25, 26, 27, 28, 29, 30, 31, 32] (by decide +kernel) (by decide +kernel)
set_option maxRecDepth 20000 in
theorem gX7_order_X7_placeOf : GoodIn wsX7_order (wsV RX7 153 RX7 yX7_placeOf wsX7_placeOf) := goodIn_app (goodIn_of _ (by decide +kernel)) ggX7_order_X7_placeOf
theorem dX7_order_0 : decode cX7_order 0 = .ok (.aload_n 0, 1) := by decide +kernel
theorem dX7_order_1 : decode cX7_order 1 = .ok (.iload_n 1, 1) := by decide +kernel
theorem dX7_order_2 : decode cX7_order 2 = .ok (.invokevirtual 70, 3) := by decide +kernel
theorem dX7_order_5 : decode cX7_order 5 = .ok (.ifCond .eq 11, 3) := by decide +kernel
theorem dX7_order_8 : decode cX7_order 8 = .ok (.aload_n 0, 1) := by decide +kernel
theorem dX7_order_9 : decode cX7_order 9 = .ok (.iload_n 1, 1) := by decide +kernel
theorem dX7_order_10 : decode cX7_order 10 = .ok (.invokevirtual 153, 3) := by decide +kernel
theorem dX7_order_13 : decode cX7_order 13 = .ok (.ifCond .lt 5, 3) := by decide +kernel
theorem dX7_order_16 : decode cX7_order 16 = .ok (.iconst (-1), 1) := by decide +kernel
theorem dX7_order_17 : decode cX7_order 17 = .ok (.ireturn, 1) := by decide +kernel
theorem dX7_order_18 : decode cX7_order 18 = .ok (.aload_n 0, 1) := by decide +kernel
theorem dX7_order_19 : decode cX7_order 19 = .ok (.getfield 33, 3) := by decide +kernel
theorem dX7_order_22 : decode cX7_order 22 = .ok (.aload_n 0, 1) := by decide +kernel
theorem dX7_order_23 : decode cX7_order 23 = .ok (.getfield 64, 3) := by decide +kernel
theorem dX7_order_26 : decode cX7_order 26 = .ok (.iload_n 1, 1) := by decide +kernel
theorem dX7_order_27 : decode cX7_order 27 = .ok (.iastore, 1) := by decide +kernel
theorem dX7_order_28 : decode cX7_order 28 = .ok (.aload_n 0, 1) := by decide +kernel
theorem dX7_order_29 : decode cX7_order 29 = .ok (.dup, 1) := by decide +kernel
theorem dX7_order_30 : decode cX7_order 30 = .ok (.getfield 64, 3) := by decide +kernel
theorem dX7_order_33 : decode cX7_order 33 = .ok (.iconst 1, 1) := by decide +kernel
theorem dX7_order_34 : decode cX7_order 34 = .ok (.iadd, 1) := by decide +kernel
theorem dX7_order_35 : decode cX7_order 35 = .ok (.putfield 64, 3) := by decide +kernel
theorem dX7_order_38 : decode cX7_order 38 = .ok (.aload_n 0, 1) := by decide +kernel
theorem dX7_order_39 : decode cX7_order 39 = .ok (.getfield 64, 3) := by decide +kernel
theorem dX7_order_42 : decode cX7_order 42 = .ok (.ireturn, 1) := by decide +kernel
set_option maxRecDepth 20000 in
theorem ggX7_ratios_X7_placeOf : GoodIn wsX7_ratios wsX7_placeOf := goodIn_r _ [8, 1, 3, 20, 21, 22, 23, 24, 25, 26, 27, 28, 29, 30, 31, 32, 33, 34, 35, 36] (by decide +kernel) (by decide +kernel)
set_option maxRecDepth 20000 in
theorem gX7_ratios_X7_placeOf : GoodIn wsX7_ratios (wsV RX7 153 RX7 yX7_placeOf wsX7_placeOf) := goodIn_app (goodIn_of _ (by decide +kernel)) ggX7_ratios_X7_placeOf
set_option maxRecDepth 20000 in
theorem ggX7_ratios_X7_ratioUp : GoodIn wsX7_ratios wsX7_ratioUp := goodIn_r _ [12, 13, 14, 15, 20, 21, 22, 23, 24, 25, 26, 27, 28, 29, 30, 31, 32, 33, 34, 35, 36] (by decide +kernel) (by decide +kernel)
set_option maxRecDepth 20000 in
theorem gX7_ratios_X7_ratioUp : GoodIn wsX7_ratios (wsV RX7 156 RX7 yX7_ratioUp wsX7_ratioUp) := goodIn_app (goodIn_of _ (by decide +kernel)) ggX7_ratios_X7_ratioUp
set_option maxRecDepth 20000 in
theorem ggX7_ratios_X7_down : GoodIn wsX7_ratios wsX7_down := goodIn_r _ [19, 14, 15, 20, 21, 22, 23, 24, 25, 26, 27, 28, 29, 30, 31, 32, 33, 34, 35, 36] (by decide +kernel) (by decide +kernel)
set_option maxRecDepth 20000 in
theorem gX7_ratios_X7_down : GoodIn wsX7_ratios (wsV RX7 159 RX7 yX7_down wsX7_down) := goodIn_app (goodIn_of _ (by decide +kernel)) ggX7_ratios_X7_down
theorem dX7_ratios_0 : decode cX7_ratios 0 = .ok (.aload_n 0, 1) := by decide +kernel
theorem dX7_ratios_1 : decode cX7_ratios 1 = .ok (.iconst 0, 1) := by decide +kernel
theorem dX7_ratios_2 : decode cX7_ratios 2 = .ok (.putfield 64, 3) := by decide +kernel
theorem dX7_ratios_5 : decode cX7_ratios 5 = .ok (.iload_n 2, 1) := by decide +kernel
theorem dX7_ratios_6 : decode cX7_ratios 6 = .ok (.ifCond .ne 103, 3) := by decide +kernel
theorem dX7_ratios_9 : decode cX7_ratios 9 = .ok (.aload_n 0, 1) := by decide +kernel
theorem dX7_ratios_10 : decode cX7_ratios 10 = .ok (.getfield 64, 3) := by decide +kernel
theorem dX7_ratios_13 : decode cX7_ratios 13 = .ok (.aload_n 0, 1) := by decide +kernel
theorem dX7_ratios_14 : decode cX7_ratios 14 = .ok (.getfield 7, 3) := by decide +kernel
theorem dX7_ratios_17 : decode cX7_ratios 17 = .ok (.if_icmp .ge 92, 3) := by decide +kernel
theorem dX7_ratios_20 : decode cX7_ratios 20 = .ok (.iconst (-1), 1) := by decide +kernel
theorem dX7_ratios_21 : decode cX7_ratios 21 = .ok (.istore_n 3, 1) := by decide +kernel
theorem dX7_ratios_22 : decode cX7_ratios 22 = .ok (.iconst 0, 1) := by decide +kernel
theorem dX7_ratios_23 : decode cX7_ratios 23 = .ok (.istore 4, 2) := by decide +kernel
theorem dX7_ratios_25 : decode cX7_ratios 25 = .ok (.iload 4, 2) := by decide +kernel
theorem dX7_ratios_27 : decode cX7_ratios 27 = .ok (.aload_n 0, 1) := by decide +kernel
theorem dX7_ratios_28 : decode cX7_ratios 28 = .ok (.getfield 7, 3) := by decide +kernel
theorem dX7_ratios_31 : decode cX7_ratios 31 = .ok (.if_icmp .ge 55, 3) := by decide +kernel
theorem dX7_ratios_34 : decode cX7_ratios 34 = .ok (.aload_n 0, 1) := by decide +kernel
theorem dX7_ratios_35 : decode cX7_ratios 35 = .ok (.iload 4, 2) := by decide +kernel
theorem dX7_ratios_37 : decode cX7_ratios 37 = .ok (.invokevirtual 153, 3) := by decide +kernel
theorem dX7_ratios_40 : decode cX7_ratios 40 = .ok (.ifCond .ge 40, 3) := by decide +kernel
theorem dX7_ratios_43 : decode cX7_ratios 43 = .ok (.iload_n 3, 1) := by decide +kernel
theorem dX7_ratios_44 : decode cX7_ratios 44 = .ok (.iconst (-1), 1) := by decide +kernel
theorem dX7_ratios_45 : decode cX7_ratios 45 = .ok (.if_icmp .eq 32, 3) := by decide +kernel
theorem dX7_ratios_48 : decode cX7_ratios 48 = .ok (.aload_n 0, 1) := by decide +kernel
theorem dX7_ratios_49 : decode cX7_ratios 49 = .ok (.iload 4, 2) := by decide +kernel
theorem dX7_ratios_51 : decode cX7_ratios 51 = .ok (.invokevirtual 156, 3) := by decide +kernel
theorem dX7_ratios_54 : decode cX7_ratios 54 = .ok (.aload_n 0, 1) := by decide +kernel
theorem dX7_ratios_55 : decode cX7_ratios 55 = .ok (.iload_n 3, 1) := by decide +kernel
theorem dX7_ratios_56 : decode cX7_ratios 56 = .ok (.iload_n 1, 1) := by decide +kernel
theorem dX7_ratios_57 : decode cX7_ratios 57 = .ok (.invokevirtual 159, 3) := by decide +kernel
theorem dX7_ratios_60 : decode cX7_ratios 60 = .ok (.imul, 1) := by decide +kernel
theorem dX7_ratios_61 : decode cX7_ratios 61 = .ok (.aload_n 0, 1) := by decide +kernel
theorem dX7_ratios_62 : decode cX7_ratios 62 = .ok (.iload_n 3, 1) := by decide +kernel
theorem dX7_ratios_63 : decode cX7_ratios 63 = .ok (.invokevirtual 156, 3) := by decide +kernel
theorem dX7_ratios_66 : decode cX7_ratios 66 = .ok (.aload_n 0, 1) := by decide +kernel
theorem dX7_ratios_67 : decode cX7_ratios 67 = .ok (.iload 4, 2) := by decide +kernel
theorem dX7_ratios_69 : decode cX7_ratios 69 = .ok (.iload_n 1, 1) := by decide +kernel
theorem dX7_ratios_70 : decode cX7_ratios 70 = .ok (.invokevirtual 159, 3) := by decide +kernel
theorem dX7_ratios_73 : decode cX7_ratios 73 = .ok (.imul, 1) := by decide +kernel
theorem dX7_ratios_74 : decode cX7_ratios 74 = .ok (.if_icmp .ge 6, 3) := by decide +kernel
theorem dX7_ratios_77 : decode cX7_ratios 77 = .ok (.iload 4, 2) := by decide +kernel
theorem dX7_ratios_79 : decode cX7_ratios 79 = .ok (.istore_n 3, 1) := by decide +kernel
theorem dX7_ratios_80 : decode cX7_ratios 80 = .ok (.iinc 4 1, 3) := by decide +kernel
theorem dX7_ratios_83 : decode cX7_ratios 83 = .ok (.goto (-58), 3) := by decide +kernel
theorem dX7_ratios_86 : decode cX7_ratios 86 = .ok (.aload_n 0, 1) := by decide +kernel
theorem dX7_ratios_87 : decode cX7_ratios 87 = .ok (.getfield 33, 3) := by decide +kernel
theorem dX7_ratios_90 : decode cX7_ratios 90 = .ok (.aload_n 0, 1) := by decide +kernel
end
section
theorem dX7_ratios_91 : decode cX7_ratios 91 = .ok (.getfield 64, 3) := by decide +kernel
theorem dX7_ratios_94 : decode cX7_ratios 94 = .ok (.iload_n 3, 1) := by decide +kernel
theorem dX7_ratios_95 : decode cX7_ratios 95 = .ok (.iastore, 1) := by decide +kernel
theorem dX7_ratios_96 : decode cX7_ratios 96 = .ok (.aload_n 0, 1) := by decide +kernel
theorem dX7_ratios_97 : decode cX7_ratios 97 = .ok (.dup, 1) := by decide +kernel
theorem dX7_ratios_98 : decode cX7_ratios 98 = .ok (.getfield 64, 3) := by decide +kernel
theorem dX7_ratios_101 : decode cX7_ratios 101 = .ok (.iconst 1, 1) := by decide +kernel
theorem dX7_ratios_102 : decode cX7_ratios 102 = .ok (.iadd, 1) := by decide +kernel
theorem dX7_ratios_103 : decode cX7_ratios 103 = .ok (.putfield 64, 3) := by decide +kernel
theorem dX7_ratios_106 : decode cX7_ratios 106 = .ok (.goto (-101), 3) := by decide +kernel
theorem dX7_ratios_109 : decode cX7_ratios 109 = .ok (.aload_n 0, 1) := by decide +kernel
theorem dX7_ratios_110 : decode cX7_ratios 110 = .ok (.getfield 64, 3) := by decide +kernel
theorem dX7_ratios_113 : decode cX7_ratios 113 = .ok (.ireturn, 1) := by decide +kernel
theorem dX7_ratioUp_0 : decode cX7_ratioUp 0 = .ok (.aload_n 0, 1) := by decide +kernel
theorem dX7_ratioUp_1 : decode cX7_ratioUp 1 = .ok (.getfield 20, 3) := by decide +kernel
theorem dX7_ratioUp_4 : decode cX7_ratioUp 4 = .ok (.iload_n 1, 1) := by decide +kernel
theorem dX7_ratioUp_5 : decode cX7_ratioUp 5 = .ok (.iaload, 1) := by decide +kernel
theorem dX7_ratioUp_6 : decode cX7_ratioUp 6 = .ok (.aload_n 0, 1) := by decide +kernel
theorem dX7_ratioUp_7 : decode cX7_ratioUp 7 = .ok (.getfield 13, 3) := by decide +kernel
theorem dX7_ratioUp_10 : decode cX7_ratioUp 10 = .ok (.iload_n 1, 1) := by decide +kernel
theorem dX7_ratioUp_11 : decode cX7_ratioUp 11 = .ok (.iaload, 1) := by decide +kernel
theorem dX7_ratioUp_12 : decode cX7_ratioUp 12 = .ok (.aload_n 0, 1) := by decide +kernel
theorem dX7_ratioUp_13 : decode cX7_ratioUp 13 = .ok (.getfield 17, 3) := by decide +kernel
theorem dX7_ratioUp_16 : decode cX7_ratioUp 16 = .ok (.iload_n 1, 1) := by decide +kernel
theorem dX7_ratioUp_17 : decode cX7_ratioUp 17 = .ok (.iaload, 1) := by decide +kernel
theorem dX7_ratioUp_18 : decode cX7_ratioUp 18 = .ok (.iadd, 1) := by decide +kernel
theorem dX7_ratioUp_19 : decode cX7_ratioUp 19 = .ok (.imul, 1) := by decide +kernel
theorem dX7_ratioUp_20 : decode cX7_ratioUp 20 = .ok (.ireturn, 1) := by decide +kernel
theorem dX7_down_0 : decode cX7_down 0 = .ok (.iload_n 2, 1) := by decide +kernel
theorem dX7_down_1 : decode cX7_down 1 = .ok (.ifCond .eq 12, 3) := by decide +kernel
theorem dX7_down_4 : decode cX7_down 4 = .ok (.aload_n 0, 1) := by decide +kernel
theorem dX7_down_5 : decode cX7_down 5 = .ok (.getfield 13, 3) := by decide +kernel
theorem dX7_down_8 : decode cX7_down 8 = .ok (.iload_n 1, 1) := by decide +kernel
theorem dX7_down_9 : decode cX7_down 9 = .ok (.iaload, 1) := by decide +kernel
theorem dX7_down_10 : decode cX7_down 10 = .ok (.goto 9, 3) := by decide +kernel
theorem dX7_down_13 : decode cX7_down 13 = .ok (.aload_n 0, 1) := by decide +kernel
theorem dX7_down_14 : decode cX7_down 14 = .ok (.getfield 17, 3) := by decide +kernel
theorem dX7_down_17 : decode cX7_down 17 = .ok (.iload_n 1, 1) := by decide +kernel
theorem dX7_down_18 : decode cX7_down 18 = .ok (.iaload, 1) := by decide +kernel
theorem dX7_down_19 : decode cX7_down 19 = .ok (.ireturn, 1) := by decide +kernel
set_option maxRecDepth 20000 in
theorem ggX7_ordered_X7_in : GoodIn wsX7_ordered wsX7_in := goodIn_r _ [6] (by decide +kernel) (by decide +kernel)
set_option maxRecDepth 20000 in
theorem gX7_ordered_X7_in : GoodIn wsX7_ordered (va_wsS RX7 55 yX7_in wsX7_in) := goodIn_app (goodIn_of _ (by decide +kernel)) ggX7_ordered_X7_in
theorem dX7_ordered_0 : decode cX7_ordered 0 = .ok (.iload_n 1, 1) := by decide +kernel
theorem dX7_ordered_1 : decode cX7_ordered 1 = .ok (.i2l, 1) := by decide +kernel
theorem dX7_ordered_2 : decode cX7_ordered 2 = .ok (.lconst 0, 1) := by decide +kernel
theorem dX7_ordered_3 : decode cX7_ordered 3 = .ok (.aload_n 0, 1) := by decide +kernel
theorem dX7_ordered_4 : decode cX7_ordered 4 = .ok (.getfield 64, 3) := by decide +kernel
theorem dX7_ordered_7 : decode cX7_ordered 7 = .ok (.iconst 1, 1) := by decide +kernel
theorem dX7_ordered_8 : decode cX7_ordered 8 = .ok (.isub, 1) := by decide +kernel
theorem dX7_ordered_9 : decode cX7_ordered 9 = .ok (.i2l, 1) := by decide +kernel
theorem dX7_ordered_10 : decode cX7_ordered 10 = .ok (.invokestatic 55, 3) := by decide +kernel
theorem dX7_ordered_13 : decode cX7_ordered 13 = .ok (.ifCond .eq 12, 3) := by decide +kernel
theorem dX7_ordered_16 : decode cX7_ordered 16 = .ok (.aload_n 0, 1) := by decide +kernel
theorem dX7_ordered_17 : decode cX7_ordered 17 = .ok (.getfield 33, 3) := by decide +kernel
theorem dX7_ordered_20 : decode cX7_ordered 20 = .ok (.iload_n 1, 1) := by decide +kernel
theorem dX7_ordered_21 : decode cX7_ordered 21 = .ok (.iaload, 1) := by decide +kernel
theorem dX7_ordered_22 : decode cX7_ordered 22 = .ok (.goto 4, 3) := by decide +kernel
theorem dX7_ordered_25 : decode cX7_ordered 25 = .ok (.iconst (-1), 1) := by decide +kernel
theorem dX7_ordered_26 : decode cX7_ordered 26 = .ok (.ireturn, 1) := by decide +kernel
set_option maxRecDepth 20000 in
theorem ggX7_run_X7_now : GoodIn wsX7_run wsX7_now := goodIn_r _ [13, 14, 8, 15, 70, 71, 72, 73, 74, 75, 76, 77, 78, 79, 80, 81, 82, 83, 84, 85, 86] (by decide +kernel) (by decide +kernel)
set_option maxRecDepth 20000 in
theorem gX7_run_X7_now : GoodIn wsX7_run (wsV RX7 109 RX7 yX7_now wsX7_now) := goodIn_app (goodIn_of _ (by decide +kernel)) ggX7_run_X7_now
set_option maxRecDepth 20000 in
theorem ggX7_run_X7_in : GoodIn wsX7_run wsX7_in := goodIn_r _ [18] (by decide +kernel) (by decide +kernel)
set_option maxRecDepth 20000 in
theorem gX7_run_X7_in : GoodIn wsX7_run (va_wsS RX7 55 yX7_in wsX7_in) := goodIn_app (goodIn_of _ (by decide +kernel)) ggX7_run_X7_in
set_option maxRecDepth 20000 in
theorem ggX7_run_X7_settings : GoodIn wsX7_run wsX7_settings := goodIn_r _ [22, 14, 70, 71, 72, 73, 74, 75, 76, 77, 78, 79, 80, 81, 82, 83, 84, 85, 86] (by decide +kernel) (by decide +kernel)
set_option maxRecDepth 20000 in
theorem gX7_run_X7_settings : GoodIn wsX7_run (wsV RX7 76 RX7 yX7_settings wsX7_settings) := goodIn_app (goodIn_of _ (by decide +kernel)) ggX7_run_X7_settings
set_option maxRecDepth 20000 in
theorem ggX7_run_X7_isSuch : GoodIn wsX7_run wsX7_isSuch := goodIn_r _ [26, 14, 27, 28, 29, 12, 30, 8, 70, 71, 72, 73, 74, 75, 76, 77, 78, 79, 80, 81, 82, 83, 84, 85, 86] (by decide +kernel) (by decide +kernel)
set_option maxRecDepth 20000 in
theorem gX7_run_X7_isSuch : GoodIn wsX7_run (wsV RX7 141 RX7 yX7_isSuch wsX7_isSuch) := goodIn_app (goodIn_of _ (by decide +kernel)) ggX7_run_X7_isSuch
set_option maxRecDepth 20000 in
theorem ggX7_run_X7_plans : GoodIn wsX7_run wsX7_plans := goodIn_r _ [34, 14, 8, 35, 36, 37, 12, 38, 27, 28, 29, 30, 39, 40, 41, 42, 43, 44, 4, 5, 7, 45, 46, 47, 48, 49, 50, 51, 52, 53, 54, 55, 56, 57, 2, 19, 20, 21, 22, 58, 59, 60, 61, 62, 63, 70, 71, 72, 73, 74, 75, 76, 77, 78, 79, 80, 81, 82, 83, 84, 85, 86] (by decide +kernel) (by decide +kernel)
set_option maxRecDepth 20000 in
theorem gX7_run_X7_plans : GoodIn wsX7_run (wsV RX7 138 RX7 yX7_plans wsX7_plans) := goodIn_app (goodIn_of _ (by decide +kernel)) ggX7_run_X7_plans
set_option maxRecDepth 20000 in
theorem ggX7_run_X7_sureAt : GoodIn wsX7_run wsX7_sureAt := goodIn_r _ [48, 49, 50, 51, 12, 52, 14, 27, 28, 29, 30, 8, 53, 54, 55, 56, 57, 2, 19, 20, 21, 22, 70, 71, 72, 73, 74, 75, 76, 77, 78, 79, 80, 81, 82, 83, 84, 85, 86] (by decide +kernel) (by decide +kernel)
set_option maxRecDepth 20000 in
theorem gX7_run_X7_sureAt : GoodIn wsX7_run (wsV RX7 112 RX7 yX7_sureAt wsX7_sureAt) := goodIn_app (goodIn_of _ (by decide +kernel)) ggX7_run_X7_sureAt
set_option maxRecDepth 20000 in
theorem ggX7_run_X7_orderNext : GoodIn wsX7_run wsX7_orderNext := goodIn_r _ [67, 68, 69, 14, 27, 28, 29, 12, 30, 8, 70, 71, 72, 73, 74, 75, 76, 77, 78, 79, 80, 81, 82, 83, 84, 85, 86] (by decide +kernel) (by decide +kernel)
set_option maxRecDepth 20000 in
theorem gX7_run_X7_orderNext : GoodIn wsX7_run (wsV RX7 127 RX7 yX7_orderNext wsX7_orderNext) := goodIn_app (goodIn_of _ (by decide +kernel)) ggX7_run_X7_orderNext
theorem dX7_run_0 : decode cX7_run 0 = .ok (.aload_n 0, 1) := by decide +kernel
theorem dX7_run_1 : decode cX7_run 1 = .ok (.invokevirtual 109, 3) := by decide +kernel
theorem dX7_run_4 : decode cX7_run 4 = .ok (.istore_n 3, 1) := by decide +kernel
theorem dX7_run_5 : decode cX7_run 5 = .ok (.iload_n 1, 1) := by decide +kernel
theorem dX7_run_6 : decode cX7_run 6 = .ok (.i2l, 1) := by decide +kernel
theorem dX7_run_7 : decode cX7_run 7 = .ok (.lconst 0, 1) := by decide +kernel
theorem dX7_run_8 : decode cX7_run 8 = .ok (.ldc2_w 134, 3) := by decide +kernel
theorem dX7_run_11 : decode cX7_run 11 = .ok (.invokestatic 55, 3) := by decide +kernel
theorem dX7_run_14 : decode cX7_run 14 = .ok (.ifCond .eq 35, 3) := by decide +kernel
theorem dX7_run_17 : decode cX7_run 17 = .ok (.iload_n 2, 1) := by decide +kernel
theorem dX7_run_18 : decode cX7_run 18 = .ok (.i2l, 1) := by decide +kernel
theorem dX7_run_19 : decode cX7_run 19 = .ok (.lconst 0, 1) := by decide +kernel
theorem dX7_run_20 : decode cX7_run 20 = .ok (.aload_n 0, 1) := by decide +kernel
theorem dX7_run_21 : decode cX7_run 21 = .ok (.invokevirtual 76, 3) := by decide +kernel
theorem dX7_run_24 : decode cX7_run 24 = .ok (.iconst 1, 1) := by decide +kernel
theorem dX7_run_25 : decode cX7_run 25 = .ok (.isub, 1) := by decide +kernel
theorem dX7_run_26 : decode cX7_run 26 = .ok (.i2l, 1) := by decide +kernel
theorem dX7_run_27 : decode cX7_run 27 = .ok (.invokestatic 55, 3) := by decide +kernel
theorem dX7_run_30 : decode cX7_run 30 = .ok (.ifCond .eq 19, 3) := by decide +kernel
theorem dX7_run_33 : decode cX7_run 33 = .ok (.aload_n 0, 1) := by decide +kernel
theorem dX7_run_34 : decode cX7_run 34 = .ok (.getfield 27, 3) := by decide +kernel
theorem dX7_run_37 : decode cX7_run 37 = .ok (.ifCond .lt 12, 3) := by decide +kernel
theorem dX7_run_40 : decode cX7_run 40 = .ok (.aload_n 0, 1) := by decide +kernel
theorem dX7_run_41 : decode cX7_run 41 = .ok (.iload_n 2, 1) := by decide +kernel
theorem dX7_run_42 : decode cX7_run 42 = .ok (.iload_n 3, 1) := by decide +kernel
theorem dX7_run_43 : decode cX7_run 43 = .ok (.invokevirtual 141, 3) := by decide +kernel
theorem dX7_run_46 : decode cX7_run 46 = .ok (.ifCond .ne 5, 3) := by decide +kernel
theorem dX7_run_49 : decode cX7_run 49 = .ok (.iconst (-1), 1) := by decide +kernel
theorem dX7_run_50 : decode cX7_run 50 = .ok (.ireturn, 1) := by decide +kernel
theorem dX7_run_51 : decode cX7_run 51 = .ok (.iload_n 1, 1) := by decide +kernel
theorem dX7_run_52 : decode cX7_run 52 = .ok (.iconst 2, 1) := by decide +kernel
theorem dX7_run_53 : decode cX7_run 53 = .ok (.if_icmp .ge 7, 3) := by decide +kernel
theorem dX7_run_56 : decode cX7_run 56 = .ok (.aload_n 0, 1) := by decide +kernel
theorem dX7_run_57 : decode cX7_run 57 = .ok (.invokevirtual 138, 3) := by decide +kernel
theorem dX7_run_60 : decode cX7_run 60 = .ok (.iconst 0, 1) := by decide +kernel
theorem dX7_run_61 : decode cX7_run 61 = .ok (.istore 4, 2) := by decide +kernel
theorem dX7_run_63 : decode cX7_run 63 = .ok (.aload_n 0, 1) := by decide +kernel
theorem dX7_run_64 : decode cX7_run 64 = .ok (.iconst 0, 1) := by decide +kernel
theorem dX7_run_65 : decode cX7_run 65 = .ok (.putfield 67, 3) := by decide +kernel
theorem dX7_run_68 : decode cX7_run 68 = .ok (.aload_n 0, 1) := by decide +kernel
theorem dX7_run_69 : decode cX7_run 69 = .ok (.iload_n 3, 1) := by decide +kernel
theorem dX7_run_70 : decode cX7_run 70 = .ok (.invokevirtual 112, 3) := by decide +kernel
theorem dX7_run_73 : decode cX7_run 73 = .ok (.iconst (-1), 1) := by decide +kernel
theorem dX7_run_74 : decode cX7_run 74 = .ok (.if_icmp .ne 99, 3) := by decide +kernel
theorem dX7_run_77 : decode cX7_run 77 = .ok (.iload_n 1, 1) := by decide +kernel
theorem dX7_run_78 : decode cX7_run 78 = .ok (.ifCond .ne 12, 3) := by decide +kernel
theorem dX7_run_81 : decode cX7_run 81 = .ok (.aload_n 0, 1) := by decide +kernel
theorem dX7_run_82 : decode cX7_run 82 = .ok (.getfield 43, 3) := by decide +kernel
theorem dX7_run_85 : decode cX7_run 85 = .ok (.iload_n 3, 1) := by decide +kernel
theorem dX7_run_86 : decode cX7_run 86 = .ok (.iaload, 1) := by decide +kernel
theorem dX7_run_87 : decode cX7_run 87 = .ok (.goto 22, 3) := by decide +kernel
theorem dX7_run_90 : decode cX7_run 90 = .ok (.iload_n 1, 1) := by decide +kernel
theorem dX7_run_91 : decode cX7_run 91 = .ok (.iconst 1, 1) := by decide +kernel
theorem dX7_run_92 : decode cX7_run 92 = .ok (.if_icmp .ne 12, 3) := by decide +kernel
theorem dX7_run_95 : decode cX7_run 95 = .ok (.aload_n 0, 1) := by decide +kernel
theorem dX7_run_96 : decode cX7_run 96 = .ok (.getfield 49, 3) := by decide +kernel
theorem dX7_run_99 : decode cX7_run 99 = .ok (.iload_n 3, 1) := by decide +kernel
theorem dX7_run_100 : decode cX7_run 100 = .ok (.iaload, 1) := by decide +kernel
theorem dX7_run_101 : decode cX7_run 101 = .ok (.goto 8, 3) := by decide +kernel
theorem dX7_run_104 : decode cX7_run 104 = .ok (.aload_n 0, 1) := by decide +kernel
theorem dX7_run_105 : decode cX7_run 105 = .ok (.iload_n 3, 1) := by decide +kernel
theorem dX7_run_106 : decode cX7_run 106 = .ok (.invokevirtual 127, 3) := by decide +kernel
theorem dX7_run_109 : decode cX7_run 109 = .ok (.istore 5, 2) := by decide +kernel
theorem dX7_run_111 : decode cX7_run 111 = .ok (.aload_n 0, 1) := by decide +kernel
theorem dX7_run_112 : decode cX7_run 112 = .ok (.getfield 36, 3) := by decide +kernel
theorem dX7_run_115 : decode cX7_run 115 = .ok (.aload_n 0, 1) := by decide +kernel
theorem dX7_run_116 : decode cX7_run 116 = .ok (.getfield 67, 3) := by decide +kernel
theorem dX7_run_119 : decode cX7_run 119 = .ok (.iload 5, 2) := by decide +kernel
theorem dX7_run_121 : decode cX7_run 121 = .ok (.iastore, 1) := by decide +kernel
theorem dX7_run_122 : decode cX7_run 122 = .ok (.aload_n 0, 1) := by decide +kernel
theorem dX7_run_123 : decode cX7_run 123 = .ok (.dup, 1) := by decide +kernel
theorem dX7_run_124 : decode cX7_run 124 = .ok (.getfield 67, 3) := by decide +kernel
theorem dX7_run_127 : decode cX7_run 127 = .ok (.iconst 1, 1) := by decide +kernel
theorem dX7_run_128 : decode cX7_run 128 = .ok (.iadd, 1) := by decide +kernel
theorem dX7_run_129 : decode cX7_run 129 = .ok (.putfield 67, 3) := by decide +kernel
theorem dX7_run_132 : decode cX7_run 132 = .ok (.iload 4, 2) := by decide +kernel
theorem dX7_run_134 : decode cX7_run 134 = .ok (.aload_n 0, 1) := by decide +kernel
theorem dX7_run_135 : decode cX7_run 135 = .ok (.getfield 20, 3) := by decide +kernel
theorem dX7_run_138 : decode cX7_run 138 = .ok (.iload 5, 2) := by decide +kernel
theorem dX7_run_140 : decode cX7_run 140 = .ok (.iaload, 1) := by decide +kernel
theorem dX7_run_141 : decode cX7_run 141 = .ok (.iadd, 1) := by decide +kernel
theorem dX7_run_142 : decode cX7_run 142 = .ok (.istore 4, 2) := by decide +kernel
theorem dX7_run_144 : decode cX7_run 144 = .ok (.iload_n 3, 1) := by decide +kernel
theorem dX7_run_145 : decode cX7_run 145 = .ok (.aload_n 0, 1) := by decide +kernel
theorem dX7_run_146 : decode cX7_run 146 = .ok (.getfield 52, 3) := by decide +kernel
theorem dX7_run_149 : decode cX7_run 149 = .ok (.iload 5, 2) := by decide +kernel
theorem dX7_run_151 : decode cX7_run 151 = .ok (.iaload, 1) := by decide +kernel
theorem dX7_run_152 : decode cX7_run 152 = .ok (.iload_n 2, 1) := by decide +kernel
theorem dX7_run_153 : decode cX7_run 153 = .ok (.iload 5, 2) := by decide +kernel
theorem dX7_run_155 : decode cX7_run 155 = .ok (.ishr, 1) := by decide +kernel
theorem dX7_run_156 : decode cX7_run 156 = .ok (.iconst 1, 1) := by decide +kernel
theorem dX7_run_157 : decode cX7_run 157 = .ok (.iand, 1) := by decide +kernel
theorem dX7_run_158 : decode cX7_run 158 = .ok (.iconst 1, 1) := by decide +kernel
theorem dX7_run_159 : decode cX7_run 159 = .ok (.if_icmp .ne 7, 3) := by decide +kernel
theorem dX7_run_162 : decode cX7_run 162 = .ok (.iconst 1, 1) := by decide +kernel
theorem dX7_run_163 : decode cX7_run 163 = .ok (.goto 4, 3) := by decide +kernel
theorem dX7_run_166 : decode cX7_run 166 = .ok (.iconst 2, 1) := by decide +kernel
theorem dX7_run_167 : decode cX7_run 167 = .ok (.imul, 1) := by decide +kernel
theorem dX7_run_168 : decode cX7_run 168 = .ok (.iadd, 1) := by decide +kernel
theorem dX7_run_169 : decode cX7_run 169 = .ok (.istore_n 3, 1) := by decide +kernel
theorem dX7_run_170 : decode cX7_run 170 = .ok (.goto (-102), 3) := by decide +kernel
theorem dX7_run_173 : decode cX7_run 173 = .ok (.iload 4, 2) := by decide +kernel
theorem dX7_run_175 : decode cX7_run 175 = .ok (.ireturn, 1) := by decide +kernel
set_option maxRecDepth 20000 in
theorem ggX7_looked_X7_in : GoodIn wsX7_looked wsX7_in := goodIn_r _ [6] (by decide +kernel) (by decide +kernel)
set_option maxRecDepth 20000 in
theorem gX7_looked_X7_in : GoodIn wsX7_looked (va_wsS RX7 55 yX7_in wsX7_in) := goodIn_app (goodIn_of _ (by decide +kernel)) ggX7_looked_X7_in
theorem dX7_looked_0 : decode cX7_looked 0 = .ok (.iload_n 1, 1) := by decide +kernel
theorem dX7_looked_1 : decode cX7_looked 1 = .ok (.i2l, 1) := by decide +kernel
theorem dX7_looked_2 : decode cX7_looked 2 = .ok (.lconst 0, 1) := by decide +kernel
theorem dX7_looked_3 : decode cX7_looked 3 = .ok (.aload_n 0, 1) := by decide +kernel
theorem dX7_looked_4 : decode cX7_looked 4 = .ok (.getfield 67, 3) := by decide +kernel
theorem dX7_looked_7 : decode cX7_looked 7 = .ok (.iconst 1, 1) := by decide +kernel
theorem dX7_looked_8 : decode cX7_looked 8 = .ok (.isub, 1) := by decide +kernel
theorem dX7_looked_9 : decode cX7_looked 9 = .ok (.i2l, 1) := by decide +kernel
theorem dX7_looked_10 : decode cX7_looked 10 = .ok (.invokestatic 55, 3) := by decide +kernel
theorem dX7_looked_13 : decode cX7_looked 13 = .ok (.ifCond .eq 12, 3) := by decide +kernel
theorem dX7_looked_16 : decode cX7_looked 16 = .ok (.aload_n 0, 1) := by decide +kernel
theorem dX7_looked_17 : decode cX7_looked 17 = .ok (.getfield 36, 3) := by decide +kernel
theorem dX7_looked_20 : decode cX7_looked 20 = .ok (.iload_n 1, 1) := by decide +kernel
theorem dX7_looked_21 : decode cX7_looked 21 = .ok (.iaload, 1) := by decide +kernel
theorem dX7_looked_22 : decode cX7_looked 22 = .ok (.goto 4, 3) := by decide +kernel
theorem dX7_looked_25 : decode cX7_looked 25 = .ok (.iconst (-1), 1) := by decide +kernel
theorem dX7_looked_26 : decode cX7_looked 26 = .ok (.ireturn, 1) := by decide +kernel
theorem dX7_about_0 : decode cX7_about 0 = .ok (.iload_n 1, 1) := by decide +kernel
theorem dX7_about_1 : decode cX7_about 1 = .ok (.tableswitch 60 0 4 #[35, 40, 45, 50, 55], 35) := by decide +kernel
theorem dX7_about_36 : decode cX7_about 36 = .ok (.aload_n 0, 1) := by decide +kernel
theorem dX7_about_37 : decode cX7_about 37 = .ok (.getfield 7, 3) := by decide +kernel
theorem dX7_about_40 : decode cX7_about 40 = .ok (.ireturn, 1) := by decide +kernel
theorem dX7_about_41 : decode cX7_about 41 = .ok (.aload_n 0, 1) := by decide +kernel
theorem dX7_about_42 : decode cX7_about 42 = .ok (.getfield 59, 3) := by decide +kernel
theorem dX7_about_45 : decode cX7_about 45 = .ok (.ireturn, 1) := by decide +kernel
theorem dX7_about_46 : decode cX7_about 46 = .ok (.aload_n 0, 1) := by decide +kernel
theorem dX7_about_47 : decode cX7_about 47 = .ok (.getfield 27, 3) := by decide +kernel
theorem dX7_about_50 : decode cX7_about 50 = .ok (.ireturn, 1) := by decide +kernel
theorem dX7_about_51 : decode cX7_about 51 = .ok (.aload_n 0, 1) := by decide +kernel
theorem dX7_about_52 : decode cX7_about 52 = .ok (.getfield 64, 3) := by decide +kernel
theorem dX7_about_55 : decode cX7_about 55 = .ok (.ireturn, 1) := by decide +kernel
theorem dX7_about_56 : decode cX7_about 56 = .ok (.aload_n 0, 1) := by decide +kernel
theorem dX7_about_57 : decode cX7_about 57 = .ok (.getfield 67, 3) := by decide +kernel
theorem dX7_about_60 : decode cX7_about 60 = .ok (.ireturn, 1) := by decide +kernel
theorem dX7_about_61 : decode cX7_about 61 = .ok (.iconst (-1), 1) := by decide +kernel
theorem dX7_about_62 : decode cX7_about 62 = .ok (.ireturn, 1) := by decide +kernel
theorem dJ9_max_7cf53_0 : decode cJ9_max_7cf53 0 = .ok (.iload_n 0, 1) := by decide +kernel
theorem dJ9_max_7cf53_1 : decode cJ9_max_7cf53 1 = .ok (.iload_n 1, 1) := by decide +kernel
theorem dJ9_max_7cf53_2 : decode cJ9_max_7cf53 2 = .ok (.if_icmp .lt 7, 3) := by decide +kernel
theorem dJ9_max_7cf53_5 : decode cJ9_max_7cf53 5 = .ok (.iload_n 0, 1) := by decide +kernel
theorem dJ9_max_7cf53_6 : decode cJ9_max_7cf53 6 = .ok (.goto 4, 3) := by decide +kernel
theorem dJ9_max_7cf53_9 : decode cJ9_max_7cf53 9 = .ok (.iload_n 1, 1) := by decide +kernel
theorem dJ9_max_7cf53_10 : decode cJ9_max_7cf53 10 = .ok (.ireturn, 1) := by decide +kernel
theorem dJ9_min_7cf53_0 : decode cJ9_min_7cf53 0 = .ok (.iload_n 0, 1) := by decide +kernel
theorem dJ9_min_7cf53_1 : decode cJ9_min_7cf53 1 = .ok (.iload_n 1, 1) := by decide +kernel
theorem dJ9_min_7cf53_2 : decode cJ9_min_7cf53 2 = .ok (.if_icmp .gt 7, 3) := by decide +kernel
theorem dJ9_min_7cf53_5 : decode cJ9_min_7cf53 5 = .ok (.iload_n 0, 1) := by decide +kernel
theorem dJ9_min_7cf53_6 : decode cJ9_min_7cf53 6 = .ok (.goto 4, 3) := by decide +kernel
theorem dJ9_min_7cf53_9 : decode cJ9_min_7cf53 9 = .ok (.iload_n 1, 1) := by decide +kernel
theorem dJ9_min_7cf53_10 : decode cJ9_min_7cf53 10 = .ok (.ireturn, 1) := by decide +kernel
set_option maxRecDepth 20000 in
theorem ggL_law_X6_init : GoodIn wsL_law wsX6_init := goodIn_r _ [9, 10, 11, 12, 13, 14, 15, 16, 17, 18, 19, 20, 21, 22, 23, 24, 25, 26, 27, 28, 29, 30, 31, 32, 33, 34, 35, 36, 37, 38, 39, 40, 41, 42, 43, 44, 45, 46, 47, 48, 49, 50, 51, 52, 53, 54, 55, 56, 57, 58, 59, 60, 61, 62, 63, 64, 65, 66, 67, 68, 69, 70, 71, 72, 73, 74, 75, 76, 77, 78, 79, 80, 81, 82, 83, 84, 85, 86, 87, 88, 89, 90, 91, 92, 93, 94, 695, 696, 697, 698, 699, 700, 672, 673, 674, 675, 676, 677, 701, 702, 703, 704, 705, 706, 707, 708, 709, 710, 711, 712, 713, 714, 715, 716, 717, 718, 719] (by decide +kernel) (by decide +kernel)
set_option maxRecDepth 20000 in
theorem gL_law_X6_init : GoodIn wsL_law (wsX6_init) := ggL_law_X6_init
set_option maxRecDepth 20000 in
theorem ggL_law_X7_init : GoodIn wsL_law wsX7_init := goodIn_r _ [97, 98, 11, 12, 99, 41, 100, 101, 102, 103, 104, 105, 106, 107, 108, 60, 109, 110, 111, 112, 113, 678, 679, 680, 681, 682, 683, 684, 685, 686, 687, 688, 689, 690, 691, 692, 693, 694] (by decide +kernel) (by decide +kernel)
set_option maxRecDepth 20000 in
theorem gL_law_X7_init : GoodIn wsL_law (wsX7_init) := ggL_law_X7_init
set_option maxRecDepth 20000 in
theorem ggL_law_X6_parts : GoodIn wsL_law wsX6_parts := goodIn_r _ [117, 16, 20, 24, 28, 118, 46, 47, 15, 48, 49, 50, 51, 52, 53, 54, 55, 42, 43, 44, 119, 64, 65, 19, 66, 67, 68, 69, 120, 121, 122, 23, 123, 124, 125, 126, 127, 27, 128, 129, 672, 673, 674, 675, 676, 677, 695, 696, 697, 698, 699, 700, 701, 702, 703, 704, 705, 706, 707, 708, 709, 710, 711, 712, 713, 714] (by decide +kernel) (by decide +kernel)
set_option maxRecDepth 20000 in
theorem gL_law_X6_parts : GoodIn wsL_law (wsV RL 13 RX6 yX6_parts wsX6_parts) := goodIn_app (goodIn_of _ (by decide +kernel)) ggL_law_X6_parts
set_option maxRecDepth 20000 in
theorem ggL_law_X7_parts : GoodIn wsL_law wsX7_parts := goodIn_r _ [133, 134, 99, 100, 101, 102, 106, 135, 105, 136, 137, 138, 139, 5, 140, 678, 679, 680, 681, 682, 683, 684, 685, 686, 687, 688, 689, 690, 691, 692, 693, 694] (by decide +kernel) (by decide +kernel)
set_option maxRecDepth 20000 in
theorem gL_law_X7_parts : GoodIn wsL_law (wsV RL 17 RX7 yX7_parts wsX7_parts) := goodIn_app (goodIn_of _ (by decide +kernel)) ggL_law_X7_parts
set_option maxRecDepth 20000 in
theorem ggL_law_X6_part : GoodIn wsL_law wsX6_part := goodIn_r _ [144, 16, 28, 145, 146, 147, 15, 148, 49, 149, 53, 54, 55, 42, 43, 44, 125, 126, 127, 27, 128, 129, 672, 673, 674, 675, 676, 677, 695, 696, 697, 698, 699, 700, 708, 709, 710, 711, 712, 713, 714] (by decide +kernel) (by decide +kernel)
set_option maxRecDepth 20000 in
theorem gL_law_X6_part : GoodIn wsL_law (wsV RL 18 RX6 yX6_part wsX6_part) := goodIn_app (goodIn_of _ (by decide +kernel)) ggL_law_X6_part
set_option maxRecDepth 20000 in
theorem ggL_law_X7_part : GoodIn wsL_law wsX7_part := goodIn_r _ [153, 134, 154, 100, 101, 102, 155, 156, 157, 5, 158, 99, 138, 139, 140, 678, 679, 680, 681, 682, 683, 684, 685, 686, 687, 688, 689, 690, 691, 692, 693, 694] (by decide +kernel) (by decide +kernel)
set_option maxRecDepth 20000 in
theorem gL_law_X7_part : GoodIn wsL_law (wsV RL 22 RX7 yX7_part wsX7_part) := goodIn_app (goodIn_of _ (by decide +kernel)) ggL_law_X7_part
set_option maxRecDepth 20000 in
theorem ggL_law_X6_single : GoodIn wsL_law wsX6_single := goodIn_r _ [162, 16, 20, 145, 146, 147, 15, 148, 49, 163, 164, 165, 19, 166, 68, 167, 168, 169, 170, 67, 171, 172, 173, 174, 61, 175, 176, 177, 178, 672, 673, 674, 675, 676, 677, 695, 696, 697, 698, 699, 700, 701, 702, 703, 704, 705] (by decide +kernel) (by decide +kernel)
set_option maxRecDepth 20000 in
theorem gL_law_X6_single : GoodIn wsL_law (wsV RL 23 RX6 yX6_single wsX6_single) := goodIn_app (goodIn_of _ (by decide +kernel)) ggL_law_X6_single
set_option maxRecDepth 20000 in
theorem ggL_law_X7_single : GoodIn wsL_law wsX7_single := goodIn_r _ [182, 135, 104, 155, 156, 157, 5, 158, 99, 138, 139, 140, 183, 184, 185, 186, 187, 188, 189, 190, 678, 679, 680, 681, 682, 683, 684, 685, 686, 687, 688, 689, 690, 691, 692, 693, 694] (by decide +kernel) (by decide +kernel)
set_option maxRecDepth 20000 in
theorem gL_law_X7_single : GoodIn wsL_law (wsV RL 27 RX7 yX7_single wsX7_single) := goodIn_app (goodIn_of _ (by decide +kernel)) ggL_law_X7_single
set_option maxRecDepth 20000 in
theorem ggL_law_X6_row : GoodIn wsL_law wsX6_row := goodIn_r _ [194, 20, 195, 196, 197, 19, 198, 68, 163, 164, 165, 166, 199, 200, 201, 202, 61, 672, 673, 674, 675, 676, 677, 701, 702, 703, 704, 705] (by decide +kernel) (by decide +kernel)
set_option maxRecDepth 20000 in
theorem gL_law_X6_row : GoodIn wsL_law (wsV RL 28 RX6 yX6_row wsX6_row) := goodIn_app (goodIn_of _ (by decide +kernel)) ggL_law_X6_row
set_option maxRecDepth 20000 in
theorem ggL_law_X7_row : GoodIn wsL_law wsX7_row := goodIn_r _ [206, 135, 104, 207, 208, 209, 5, 210, 138, 139, 140, 183, 184, 185, 186, 99, 187, 188, 189, 190, 678, 679, 680, 681, 682, 683, 684, 685, 686, 687, 688, 689, 690, 691, 692, 693, 694] (by decide +kernel) (by decide +kernel)
set_option maxRecDepth 20000 in
theorem gL_law_X7_row : GoodIn wsL_law (wsV RL 32 RX7 yX7_row wsX7_row) := goodIn_app (goodIn_of _ (by decide +kernel)) ggL_law_X7_row
set_option maxRecDepth 20000 in
theorem ggL_law_X6_side : GoodIn wsL_law wsX6_side := goodIn_r _ [214, 20, 195, 196, 197, 19, 198, 68, 163, 164, 165, 166, 215, 216, 217, 218, 61, 672, 673, 674, 675, 676, 677, 701, 702, 703, 704, 705] (by decide +kernel) (by decide +kernel)
set_option maxRecDepth 20000 in
theorem gL_law_X6_side : GoodIn wsL_law (wsV RL 33 RX6 yX6_side wsX6_side) := goodIn_app (goodIn_of _ (by decide +kernel)) ggL_law_X6_side
set_option maxRecDepth 20000 in
theorem ggL_law_X7_side : GoodIn wsL_law wsX7_side := goodIn_r _ [222, 135, 104, 207, 208, 209, 5, 210, 138, 139, 140, 183, 184, 185, 186, 99, 187, 188, 189, 190, 678, 679, 680, 681, 682, 683, 684, 685, 686, 687, 688, 689, 690, 691, 692, 693, 694] (by decide +kernel) (by decide +kernel)
set_option maxRecDepth 20000 in
theorem gL_law_X7_side : GoodIn wsL_law (wsV RL 36 RX7 yX7_side wsX7_side) := goodIn_app (goodIn_of _ (by decide +kernel)) ggL_law_X7_side
set_option maxRecDepth 20000 in
theorem ggL_law_X6_some : GoodIn wsL_law wsX6_some := goodIn_r _ [226, 16, 20, 227, 228, 229, 15, 230, 49, 163, 164, 165, 19, 166, 68, 231, 232, 233, 234, 67, 235, 236, 237, 238, 62, 171, 172, 173, 174, 61, 239, 240, 241, 242, 175, 176, 177, 178, 672, 673, 674, 675, 676, 677, 695, 696, 697, 698, 699, 700, 701, 702, 703, 704, 705] (by decide +kernel) (by decide +kernel)
set_option maxRecDepth 20000 in
theorem gL_law_X6_some : GoodIn wsL_law (wsV RL 39 RX6 yX6_some wsX6_some) := goodIn_app (goodIn_of _ (by decide +kernel)) ggL_law_X6_some
set_option maxRecDepth 20000 in
theorem ggL_law_X7_some : GoodIn wsL_law wsX7_some := goodIn_r _ [246, 247, 248, 135, 99, 104, 183, 184, 185, 5, 186, 138, 139, 140, 187, 188, 189, 190, 678, 679, 680, 681, 682, 683, 684, 685, 686, 687, 688, 689, 690, 691, 692, 693, 694] (by decide +kernel) (by decide +kernel)
set_option maxRecDepth 20000 in
theorem gL_law_X7_some : GoodIn wsL_law (wsV RL 43 RX7 yX7_some wsX7_some) := goodIn_app (goodIn_of _ (by decide +kernel)) ggL_law_X7_some
set_option maxRecDepth 20000 in
theorem ggL_law_X6_dual : GoodIn wsL_law wsX6_dual := goodIn_r _ [252, 20, 195, 196, 197, 19, 198, 68, 163, 164, 165, 166, 253, 254, 255, 256, 67, 171, 172, 173, 174, 61, 257, 258, 259, 260, 175, 176, 177, 178, 672, 673, 674, 675, 676, 677, 701, 702, 703, 704, 705] (by decide +kernel) (by decide +kernel)
set_option maxRecDepth 20000 in
theorem gL_law_X6_dual : GoodIn wsL_law (wsV RL 44 RX6 yX6_dual wsX6_dual) := goodIn_app (goodIn_of _ (by decide +kernel)) ggL_law_X6_dual
set_option maxRecDepth 20000 in
theorem ggL_law_X7_dual : GoodIn wsL_law wsX7_dual := goodIn_r _ [264, 135, 104, 207, 208, 209, 5, 210, 138, 139, 140, 183, 184, 185, 186, 99, 187, 188, 189, 190, 678, 679, 680, 681, 682, 683, 684, 685, 686, 687, 688, 689, 690, 691, 692, 693, 694] (by decide +kernel) (by decide +kernel)
set_option maxRecDepth 20000 in
theorem gL_law_X7_dual : GoodIn wsL_law (wsV RL 47 RX7 yX7_dual wsX7_dual) := goodIn_app (goodIn_of _ (by decide +kernel)) ggL_law_X7_dual
set_option maxRecDepth 20000 in
theorem ggL_law_X6_system : GoodIn wsL_law wsX6_system := goodIn_r _ [268, 20, 28, 195, 196, 197, 19, 198, 68, 125, 126, 127, 27, 128, 129, 672, 673, 674, 675, 676, 677, 701, 702, 703, 704, 705, 708, 709, 710, 711, 712, 713, 714] (by decide +kernel) (by decide +kernel)
set_option maxRecDepth 20000 in
theorem gL_law_X6_system : GoodIn wsL_law (wsV RL 48 RX6 yX6_system wsX6_system) := goodIn_app (goodIn_of _ (by decide +kernel)) ggL_law_X6_system
set_option maxRecDepth 20000 in
theorem ggL_law_X7_system : GoodIn wsL_law wsX7_system := goodIn_r _ [272, 105, 207, 208, 209, 5, 210, 135, 138, 139, 140, 678, 679, 680, 681, 682, 683, 684, 685, 686, 687, 688, 689, 690, 691, 692, 693, 694] (by decide +kernel) (by decide +kernel)
set_option maxRecDepth 20000 in
theorem gL_law_X7_system : GoodIn wsL_law (wsV RL 51 RX7 yX7_system wsX7_system) := goodIn_app (goodIn_of _ (by decide +kernel)) ggL_law_X7_system
set_option maxRecDepth 20000 in
theorem ggL_law_X6_says : GoodIn wsL_law wsX6_says := goodIn_r _ [276, 20, 16, 195, 196, 197, 19, 198, 68, 227, 228, 229, 15, 230, 49, 277, 258, 259, 260, 61, 672, 673, 674, 675, 676, 677, 701, 702, 703, 704, 705, 695, 696, 697, 698, 699, 700] (by decide +kernel) (by decide +kernel)
set_option maxRecDepth 20000 in
theorem gL_law_X6_says : GoodIn wsL_law (wsV RL 52 RX6 yX6_says wsX6_says) := goodIn_app (goodIn_of _ (by decide +kernel)) ggL_law_X6_says
set_option maxRecDepth 20000 in
theorem ggL_law_X7_says : GoodIn wsL_law wsX7_says := goodIn_r _ [281, 104, 207, 208, 209, 5, 210, 135, 138, 139, 140, 183, 184, 185, 186, 99, 678, 679, 680, 681, 682, 683, 684, 685, 686, 687, 688, 689, 690, 691, 692, 693, 694] (by decide +kernel) (by decide +kernel)
set_option maxRecDepth 20000 in
theorem gL_law_X7_says : GoodIn wsL_law (wsV RL 55 RX7 yX7_says wsX7_says) := goodIn_app (goodIn_of _ (by decide +kernel)) ggL_law_X7_says
set_option maxRecDepth 20000 in
theorem ggL_law_X6_differ : GoodIn wsL_law wsX6_differ := goodIn_r _ [285, 20, 195, 196, 197, 19, 198, 68, 286, 287, 288, 289, 67, 257, 258, 259, 260, 61, 672, 673, 674, 675, 676, 677, 701, 702, 703, 704, 705] (by decide +kernel) (by decide +kernel)
set_option maxRecDepth 20000 in
theorem gL_law_X6_differ : GoodIn wsL_law (wsV RL 56 RX6 yX6_differ wsX6_differ) := goodIn_app (goodIn_of _ (by decide +kernel)) ggL_law_X6_differ
set_option maxRecDepth 20000 in
theorem ggL_law_X7_differ : GoodIn wsL_law wsX7_differ := goodIn_r _ [293, 104, 207, 208, 209, 5, 210, 135, 138, 139, 140, 183, 184, 185, 186, 99, 678, 679, 680, 681, 682, 683, 684, 685, 686, 687, 688, 689, 690, 691, 692, 693, 694] (by decide +kernel) (by decide +kernel)
set_option maxRecDepth 20000 in
theorem gL_law_X7_differ : GoodIn wsL_law (wsV RL 59 RX7 yX7_differ wsX7_differ) := goodIn_app (goodIn_of _ (by decide +kernel)) ggL_law_X7_differ
set_option maxRecDepth 20000 in
theorem ggL_law_X6_sets : GoodIn wsL_law wsX6_sets := goodIn_r _ [297, 20, 298, 299, 300, 19, 301, 69, 302, 196, 197, 198, 68, 303, 304, 305, 306, 67, 307, 308, 309, 310, 311, 312, 313, 314, 315, 316, 317, 318, 257, 258, 259, 260, 61, 672, 673, 674, 675, 676, 677, 701, 702, 703, 704, 705] (by decide +kernel) (by decide +kernel)
set_option maxRecDepth 20000 in
theorem gL_law_X6_sets : GoodIn wsL_law (wsV RL 60 RX6 yX6_sets wsX6_sets) := goodIn_app (goodIn_of _ (by decide +kernel)) ggL_law_X6_sets
set_option maxRecDepth 20000 in
theorem ggL_law_X7_sets : GoodIn wsL_law wsX7_sets := goodIn_r _ [322, 105, 138, 139, 5, 140, 183, 184, 185, 186, 99, 323, 324, 325, 326, 327, 328, 329, 330, 331, 332, 333, 334, 104, 678, 679, 680, 681, 682, 683, 684, 685, 686, 687, 688, 689, 690, 691, 692, 693, 694] (by decide +kernel) (by decide +kernel)
set_option maxRecDepth 20000 in
theorem gL_law_X7_sets : GoodIn wsL_law (wsV RL 63 RX7 yX7_sets wsX7_sets) := goodIn_app (goodIn_of _ (by decide +kernel)) ggL_law_X7_sets
set_option maxRecDepth 20000 in
theorem ggL_law_X6_set : GoodIn wsL_law wsX6_set := goodIn_r _ [338, 20, 298, 299, 300, 19, 301, 69, 302, 196, 197, 198, 68, 339, 340, 341, 342, 67, 307, 308, 309, 310, 311, 312, 313, 314, 315, 316, 317, 318, 257, 258, 259, 260, 61, 672, 673, 674, 675, 676, 677, 701, 702, 703, 704, 705] (by decide +kernel) (by decide +kernel)
set_option maxRecDepth 20000 in
theorem gL_law_X6_set : GoodIn wsL_law (wsV RL 64 RX6 yX6_set wsX6_set) := goodIn_app (goodIn_of _ (by decide +kernel)) ggL_law_X6_set
set_option maxRecDepth 20000 in
theorem ggL_law_X7_set : GoodIn wsL_law wsX7_set := goodIn_r _ [346, 105, 138, 139, 5, 140, 183, 184, 185, 186, 99, 323, 324, 325, 326, 327, 328, 329, 330, 331, 332, 333, 334, 104, 678, 679, 680, 681, 682, 683, 684, 685, 686, 687, 688, 689, 690, 691, 692, 693, 694] (by decide +kernel) (by decide +kernel)
set_option maxRecDepth 20000 in
theorem gL_law_X7_set : GoodIn wsL_law (wsV RL 67 RX7 yX7_set wsX7_set) := goodIn_app (goodIn_of _ (by decide +kernel)) ggL_law_X7_set
set_option maxRecDepth 20000 in
theorem ggL_law_X6_see : GoodIn wsL_law wsX6_see := goodIn_r _ [350, 16, 145, 146, 147, 15, 148, 49, 351, 352, 353, 354, 50, 51, 672, 673, 674, 675, 676, 677, 695, 696, 697, 698, 699, 700] (by decide +kernel) (by decide +kernel)
set_option maxRecDepth 20000 in
theorem gL_law_X6_see : GoodIn wsL_law (wsV RL 68 RX6 yX6_see wsX6_see) := goodIn_app (goodIn_of _ (by decide +kernel)) ggL_law_X6_see
set_option maxRecDepth 20000 in
theorem ggL_law_X7_see : GoodIn wsL_law wsX7_see := goodIn_r _ [358, 359, 106, 155, 156, 157, 5, 158, 99, 138, 139, 140, 678, 679, 680, 681, 682, 683, 684, 685, 686, 687, 688, 689, 690, 691, 692, 693, 694] (by decide +kernel) (by decide +kernel)
set_option maxRecDepth 20000 in
theorem gL_law_X7_see : GoodIn wsL_law (wsV RL 72 RX7 yX7_see wsX7_see) := goodIn_app (goodIn_of _ (by decide +kernel)) ggL_law_X7_see
set_option maxRecDepth 20000 in
theorem ggL_law_X6_partOf : GoodIn wsL_law wsX6_partOf := goodIn_r _ [363, 16, 145, 146, 147, 15, 148, 49, 364, 365, 366, 367, 50, 51, 672, 673, 674, 675, 676, 677, 695, 696, 697, 698, 699, 700] (by decide +kernel) (by decide +kernel)
set_option maxRecDepth 20000 in
theorem gL_law_X6_partOf : GoodIn wsL_law (wsV RL 73 RX6 yX6_partOf wsX6_partOf) := goodIn_app (goodIn_of _ (by decide +kernel)) ggL_law_X6_partOf
set_option maxRecDepth 20000 in
theorem ggL_law_X7_partOf : GoodIn wsL_law wsX7_partOf := goodIn_r _ [371, 100, 101, 102, 106, 155, 156, 157, 5, 158, 99, 138, 139, 140, 678, 679, 680, 681, 682, 683, 684, 685, 686, 687, 688, 689, 690, 691, 692, 693, 694] (by decide +kernel) (by decide +kernel)
set_option maxRecDepth 20000 in
theorem gL_law_X7_partOf : GoodIn wsL_law (wsV RL 76 RX7 yX7_partOf wsX7_partOf) := goodIn_app (goodIn_of _ (by decide +kernel)) ggL_law_X7_partOf
set_option maxRecDepth 20000 in
theorem ggL_law_X6_sure : GoodIn wsL_law wsX6_sure := goodIn_r _ [375, 20, 16, 298, 299, 300, 19, 301, 69, 302, 196, 197, 198, 68, 376, 377, 378, 15, 379, 49, 50, 380, 381, 382, 383, 315, 316, 317, 318, 257, 258, 259, 260, 61, 672, 673, 674, 675, 676, 677, 695, 696, 697, 698, 699, 700, 701, 702, 703, 704, 705] (by decide +kernel) (by decide +kernel)
set_option maxRecDepth 20000 in
theorem gL_law_X6_sure : GoodIn wsL_law (wsV RL 77 RX6 yX6_sure wsX6_sure) := goodIn_app (goodIn_of _ (by decide +kernel)) ggL_law_X6_sure
set_option maxRecDepth 20000 in
theorem ggL_law_X7_sure : GoodIn wsL_law wsX7_sure := goodIn_r _ [387, 105, 388, 389, 390, 5, 391, 99, 113, 106, 392, 393, 394, 395, 396, 397, 398, 399, 400, 401, 402, 403, 331, 332, 333, 334, 104, 183, 184, 185, 186, 678, 679, 680, 681, 682, 683, 684, 685, 686, 687, 688, 689, 690, 691, 692, 693, 694] (by decide +kernel) (by decide +kernel)
set_option maxRecDepth 20000 in
theorem gL_law_X7_sure : GoodIn wsL_law (wsV RL 81 RX7 yX7_sure wsX7_sure) := goodIn_app (goodIn_of _ (by decide +kernel)) ggL_law_X7_sure
set_option maxRecDepth 20000 in
theorem ggL_law_X6_told : GoodIn wsL_law wsX6_told := goodIn_r _ [407, 16, 20, 408, 32, 28, 409, 410, 411, 15, 412, 49, 42, 43, 298, 299, 300, 19, 301, 69, 302, 196, 197, 198, 68, 413, 414, 415, 31, 416, 89, 90, 417, 418, 419, 420, 50, 51, 421, 316, 317, 318, 257, 258, 259, 260, 61, 422, 423, 424, 425, 426, 427, 428, 429, 27, 430, 79, 431, 432, 433, 434, 129, 435, 81, 60, 41, 80, 82, 436, 381, 382, 383, 315, 437, 438, 439, 440, 441, 442, 443, 444, 78, 445, 446, 447, 448, 449, 450, 451, 452, 453, 454, 455, 456, 457, 458, 459, 83, 460, 461, 462, 23, 463, 124, 73, 464, 465, 466, 467, 468, 469, 470, 471, 472, 473, 474, 475, 476, 477, 478, 479, 480, 481, 482, 483, 484, 485, 486, 487, 488, 489, 490, 491, 492, 493, 494, 495, 496, 88, 497, 312, 313, 314, 67, 498, 499, 500, 501, 502, 503, 504, 505, 377, 378, 379, 506, 507, 508, 509, 44, 510, 511, 512, 513, 514, 515, 516, 517, 518, 519, 520, 521, 522, 523, 524, 525, 526, 672, 673, 674, 675, 676, 677, 695, 696, 697, 698, 699, 700, 701, 702, 703, 704, 705, 715, 716, 717, 708, 709, 710, 711, 712, 713, 714, 706, 707] (by decide +kernel) (by decide +kernel)
set_option maxRecDepth 20000 in
theorem gL_law_X6_told : GoodIn wsL_law (wsV RL 82 RX6 yX6_told wsX6_told) := goodIn_app (goodIn_of _ (by decide +kernel)) ggL_law_X6_told
set_option maxRecDepth 20000 in
theorem ggL_law_X7_told : GoodIn wsL_law wsX7_told := goodIn_r _ [530, 105, 531, 532, 533, 534, 109, 110, 111, 112, 388, 389, 390, 5, 391, 99, 113, 106, 535, 536, 537, 538, 100, 101, 400, 401, 402, 403, 138, 139, 140, 539, 540, 541, 542, 543, 544, 545, 546, 547, 548, 549, 550, 102, 392, 393, 394, 395, 396, 397, 398, 399, 331, 332, 333, 334, 104, 183, 184, 185, 186, 551, 552, 553, 554, 555, 556, 557, 558, 559, 560, 561, 562, 563, 564, 565, 566, 567, 568, 569, 570, 136, 107, 678, 679, 680, 681, 682, 683, 684, 685, 686, 687, 688, 689, 690, 691, 692, 693, 694] (by decide +kernel) (by decide +kernel)
set_option maxRecDepth 20000 in
theorem gL_law_X7_told : GoodIn wsL_law (wsV RL 86 RX7 yX7_told wsX7_told) := goodIn_app (goodIn_of _ (by decide +kernel)) ggL_law_X7_told
set_option maxRecDepth 20000 in
theorem ggL_law_X6_of : GoodIn wsL_law wsX6_of := goodIn_r _ [574, 16, 20, 408, 28, 32, 145, 146, 147, 15, 148, 49, 364, 365, 366, 367, 50, 51, 298, 299, 300, 19, 301, 69, 302, 196, 197, 198, 68, 575, 576, 577, 27, 578, 81, 79, 435, 431, 432, 433, 434, 129, 60, 41, 80, 82, 436, 381, 382, 383, 315, 316, 317, 318, 257, 258, 259, 260, 61, 437, 438, 439, 440, 441, 442, 443, 444, 78, 445, 446, 447, 448, 449, 450, 451, 452, 453, 454, 455, 579, 580, 581, 31, 582, 89, 90, 417, 418, 419, 420, 421, 422, 423, 424, 425, 426, 410, 411, 412, 42, 43, 672, 673, 674, 675, 676, 677, 695, 696, 697, 698, 699, 700, 701, 702, 703, 704, 705, 708, 709, 710, 711, 712, 713, 714, 715, 716, 717] (by decide +kernel) (by decide +kernel)
set_option maxRecDepth 20000 in
theorem gL_law_X6_of : GoodIn wsL_law (wsV RL 87 RX6 yX6_of wsX6_of) := goodIn_app (goodIn_of _ (by decide +kernel)) ggL_law_X6_of
set_option maxRecDepth 20000 in
theorem ggL_law_X7_of : GoodIn wsL_law wsX7_of := goodIn_r _ [586, 106, 105, 532, 109, 113, 155, 156, 157, 5, 158, 99, 138, 139, 140, 388, 389, 390, 391, 539, 540, 541, 542, 543, 544, 545, 546, 400, 401, 402, 403, 547, 548, 549, 550, 111, 110, 112, 102, 392, 393, 394, 395, 396, 397, 398, 399, 331, 332, 333, 334, 104, 183, 184, 185, 186, 535, 536, 537, 538, 100, 101, 551, 552, 553, 554, 555, 556, 557, 558, 678, 679, 680, 681, 682, 683, 684, 685, 686, 687, 688, 689, 690, 691, 692, 693, 694] (by decide +kernel) (by decide +kernel)
set_option maxRecDepth 20000 in
theorem gL_law_X7_of : GoodIn wsL_law (wsV RL 91 RX7 yX7_of wsX7_of) := goodIn_app (goodIn_of _ (by decide +kernel)) ggL_law_X7_of
set_option maxRecDepth 20000 in
theorem ggL_law_X6_order : GoodIn wsL_law wsX6_order := goodIn_r _ [590, 16, 24, 145, 146, 147, 15, 148, 49, 591, 592, 593, 23, 594, 124, 73, 595, 596, 597, 598, 672, 673, 674, 675, 676, 677, 706, 707, 695, 696, 697, 698, 699, 700] (by decide +kernel) (by decide +kernel)
set_option maxRecDepth 20000 in
theorem gL_law_X6_order : GoodIn wsL_law (wsV RL 92 RX6 yX6_order wsX6_order) := goodIn_app (goodIn_of _ (by decide +kernel)) ggL_law_X6_order
set_option maxRecDepth 20000 in
theorem ggL_law_X7_order : GoodIn wsL_law wsX7_order := goodIn_r _ [602, 107, 136, 155, 156, 157, 5, 158, 99, 138, 139, 140, 603, 604, 605, 606, 678, 679, 680, 681, 682, 683, 684, 685, 686, 687, 688, 689, 690, 691, 692, 693, 694] (by decide +kernel) (by decide +kernel)
set_option maxRecDepth 20000 in
theorem gL_law_X7_order : GoodIn wsL_law (wsV RL 95 RX7 yX7_order wsX7_order) := goodIn_app (goodIn_of _ (by decide +kernel)) ggL_law_X7_order
set_option maxRecDepth 20000 in
theorem ggL_law_X6_ratios : GoodIn wsL_law wsX6_ratios := goodIn_r _ [610, 24, 16, 120, 121, 122, 23, 123, 124, 611, 612, 613, 614, 73, 615, 616, 617, 672, 673, 674, 675, 676, 677, 706, 707, 695, 696, 697, 698, 699, 700] (by decide +kernel) (by decide +kernel)
set_option maxRecDepth 20000 in
theorem gL_law_X6_ratios : GoodIn wsL_law (wsV RL 96 RX6 yX6_ratios wsX6_ratios) := goodIn_app (goodIn_of _ (by decide +kernel)) ggL_law_X6_ratios
set_option maxRecDepth 20000 in
theorem ggL_law_X7_ratios : GoodIn wsL_law wsX7_ratios := goodIn_r _ [621, 136, 99, 107, 603, 604, 605, 5, 606, 622, 623, 624, 625, 102, 100, 101, 626, 627, 628, 629, 678, 679, 680, 681, 682, 683, 684, 685, 686, 687, 688, 689, 690, 691, 692, 693, 694] (by decide +kernel) (by decide +kernel)
set_option maxRecDepth 20000 in
theorem gL_law_X7_ratios : GoodIn wsL_law (wsV RL 100 RX7 yX7_ratios wsX7_ratios) := goodIn_app (goodIn_of _ (by decide +kernel)) ggL_law_X7_ratios
set_option maxRecDepth 20000 in
theorem ggL_law_X6_ordered : GoodIn wsL_law wsX6_ordered := goodIn_r _ [633, 24, 672, 673, 674, 675, 676, 677, 706, 707] (by decide +kernel) (by decide +kernel)
set_option maxRecDepth 20000 in
theorem gL_law_X6_ordered : GoodIn wsL_law (wsV RL 101 RX6 yX6_ordered wsX6_ordered) := goodIn_app (goodIn_of _ (by decide +kernel)) ggL_law_X6_ordered
set_option maxRecDepth 20000 in
theorem ggL_law_X7_ordered : GoodIn wsL_law wsX7_ordered := goodIn_r _ [637, 136, 107, 138, 139, 5, 140, 678, 679, 680, 681, 682, 683, 684, 685, 686, 687, 688, 689, 690, 691, 692, 693, 694] (by decide +kernel) (by decide +kernel)
set_option maxRecDepth 20000 in
theorem gL_law_X7_ordered : GoodIn wsL_law (wsV RL 104 RX7 yX7_ordered wsX7_ordered) := goodIn_app (goodIn_of _ (by decide +kernel)) ggL_law_X7_ordered
set_option maxRecDepth 20000 in
theorem ggL_law_X6_run : GoodIn wsL_law wsX6_run := goodIn_r _ [641, 20, 16, 298, 299, 300, 19, 301, 69, 302, 196, 197, 198, 68, 227, 228, 229, 15, 230, 49, 642, 418, 419, 420, 50, 51, 643, 644, 645, 2, 646, 36, 28, 456, 457, 458, 27, 459, 81, 82, 83, 436, 381, 382, 383, 315, 316, 317, 318, 257, 258, 259, 260, 61, 460, 461, 462, 23, 463, 124, 73, 431, 432, 433, 434, 129, 435, 79, 60, 41, 80, 437, 438, 439, 440, 441, 442, 443, 444, 78, 445, 446, 447, 448, 449, 450, 451, 452, 453, 454, 455, 464, 410, 411, 412, 42, 43, 465, 466, 467, 468, 469, 470, 471, 472, 473, 474, 475, 476, 477, 478, 479, 480, 481, 482, 483, 484, 647, 648, 649, 35, 650, 651, 94, 672, 673, 674, 675, 676, 677, 701, 702, 703, 704, 705, 695, 696, 697, 698, 699, 700, 718, 719, 708, 709, 710, 711, 712, 713, 714, 706, 707] (by decide +kernel) (by decide +kernel)
set_option maxRecDepth 20000 in
theorem gL_law_X6_run : GoodIn wsL_law (wsV RL 105 RX6 yX6_run wsX6_run) := goodIn_app (goodIn_of _ (by decide +kernel)) ggL_law_X6_run
set_option maxRecDepth 20000 in
theorem ggL_law_X7_run : GoodIn wsL_law wsX7_run := goodIn_r _ [655, 533, 105, 137, 110, 112, 108, 102, 113, 388, 389, 390, 5, 391, 99, 106, 138, 139, 140, 183, 184, 185, 186, 551, 552, 553, 554, 400, 401, 402, 403, 539, 540, 541, 542, 543, 544, 545, 546, 547, 548, 549, 550, 109, 111, 392, 393, 394, 395, 396, 397, 398, 399, 331, 332, 333, 334, 104, 535, 536, 537, 538, 100, 101, 567, 568, 569, 570, 136, 107, 678, 679, 680, 681, 682, 683, 684, 685, 686, 687, 688, 689, 690, 691, 692, 693, 694] (by decide +kernel) (by decide +kernel)
set_option maxRecDepth 20000 in
theorem gL_law_X7_run : GoodIn wsL_law (wsV RL 108 RX7 yX7_run wsX7_run) := goodIn_app (goodIn_of _ (by decide +kernel)) ggL_law_X7_run
set_option maxRecDepth 20000 in
theorem ggL_law_X6_looked : GoodIn wsL_law wsX6_looked := goodIn_r _ [659, 36, 672, 673, 674, 675, 676, 677, 718, 719] (by decide +kernel) (by decide +kernel)
set_option maxRecDepth 20000 in
theorem gL_law_X6_looked : GoodIn wsL_law (wsV RL 109 RX6 yX6_looked wsX6_looked) := goodIn_app (goodIn_of _ (by decide +kernel)) ggL_law_X6_looked
set_option maxRecDepth 20000 in
theorem ggL_law_X7_looked : GoodIn wsL_law wsX7_looked := goodIn_r _ [663, 137, 108, 138, 139, 5, 140, 678, 679, 680, 681, 682, 683, 684, 685, 686, 687, 688, 689, 690, 691, 692, 693, 694] (by decide +kernel) (by decide +kernel)
set_option maxRecDepth 20000 in
theorem gL_law_X7_looked : GoodIn wsL_law (wsV RL 112 RX7 yX7_looked wsX7_looked) := goodIn_app (goodIn_of _ (by decide +kernel)) ggL_law_X7_looked
set_option maxRecDepth 20000 in
theorem ggL_law_X6_about : GoodIn wsL_law wsX6_about := goodIn_r _ [667, 16, 20, 24, 36, 672, 673, 674, 675, 676, 677, 695, 696, 697, 698, 699, 700, 701, 702, 703, 704, 705, 706, 707, 718, 719] (by decide +kernel) (by decide +kernel)
set_option maxRecDepth 20000 in
theorem gL_law_X6_about : GoodIn wsL_law (wsV RL 113 RX6 yX6_about wsX6_about) := goodIn_app (goodIn_of _ (by decide +kernel)) ggL_law_X6_about
set_option maxRecDepth 20000 in
theorem ggL_law_X7_about : GoodIn wsL_law wsX7_about := goodIn_r _ [671, 99, 135, 105, 136, 137, 678, 679, 680, 681, 682, 683, 684, 685, 686, 687, 688, 689, 690, 691, 692, 693, 694] (by decide +kernel) (by decide +kernel)
set_option maxRecDepth 20000 in
theorem gL_law_X7_about : GoodIn wsL_law (wsV RL 116 RX7 yX7_about wsX7_about) := goodIn_app (goodIn_of _ (by decide +kernel)) ggL_law_X7_about
theorem dL_law_0 : decode cL_law 0 = .ok (.new 7, 3) := by decide +kernel
theorem dL_law_3 : decode cL_law 3 = .ok (.dup, 1) := by decide +kernel
theorem dL_law_4 : decode cL_law 4 = .ok (.invokespecial 9, 3) := by decide +kernel
theorem dL_law_7 : decode cL_law 7 = .ok (.astore_n 1, 1) := by decide +kernel
theorem dL_law_8 : decode cL_law 8 = .ok (.new 10, 3) := by decide +kernel
theorem dL_law_11 : decode cL_law 11 = .ok (.dup, 1) := by decide +kernel
theorem dL_law_12 : decode cL_law 12 = .ok (.invokespecial 12, 3) := by decide +kernel
theorem dL_law_15 : decode cL_law 15 = .ok (.astore_n 2, 1) := by decide +kernel
theorem dL_law_16 : decode cL_law 16 = .ok (.iconst 0, 1) := by decide +kernel
theorem dL_law_17 : decode cL_law 17 = .ok (.istore_n 3, 1) := by decide +kernel
theorem dL_law_18 : decode cL_law 18 = .ok (.iload_n 3, 1) := by decide +kernel
theorem dL_law_19 : decode cL_law 19 = .ok (.aload_n 0, 1) := by decide +kernel
theorem dL_law_20 : decode cL_law 20 = .ok (.arraylength, 1) := by decide +kernel
theorem dL_law_21 : decode cL_law 21 = .ok (.bipush 6, 2) := by decide +kernel
theorem dL_law_23 : decode cL_law 23 = .ok (.isub, 1) := by decide +kernel
theorem dL_law_24 : decode cL_law 24 = .ok (.if_icmp .gt 865, 3) := by decide +kernel
theorem dL_law_27 : decode cL_law 27 = .ok (.aload_n 0, 1) := by decide +kernel
theorem dL_law_28 : decode cL_law 28 = .ok (.iload_n 3, 1) := by decide +kernel
theorem dL_law_29 : decode cL_law 29 = .ok (.iaload, 1) := by decide +kernel
theorem dL_law_30 : decode cL_law 30 = .ok (.bipush 31, 2) := by decide +kernel
theorem dL_law_32 : decode cL_law 32 = .ok (.iand, 1) := by decide +kernel
theorem dL_law_33 : decode cL_law 33 = .ok (.tableswitch 850 0 22 #[107, 130, 183, 206, 239, 272, 355, 378, 401, 434, 467, 490, 523, 556, 589, 602, 626, 660, 683, 748, 771, 804, 827], 107) := by decide +kernel
theorem dL_law_140 : decode cL_law 140 = .ok (.aload_n 1, 1) := by decide +kernel
theorem dL_law_141 : decode cL_law 141 = .ok (.aload_n 0, 1) := by decide +kernel
theorem dL_law_142 : decode cL_law 142 = .ok (.iload_n 3, 1) := by decide +kernel
theorem dL_law_143 : decode cL_law 143 = .ok (.iconst 1, 1) := by decide +kernel
theorem dL_law_144 : decode cL_law 144 = .ok (.iadd, 1) := by decide +kernel
theorem dL_law_145 : decode cL_law 145 = .ok (.iaload, 1) := by decide +kernel
theorem dL_law_146 : decode cL_law 146 = .ok (.invokevirtual 13, 3) := by decide +kernel
theorem dL_law_149 : decode cL_law 149 = .ok (.aload_n 2, 1) := by decide +kernel
theorem dL_law_150 : decode cL_law 150 = .ok (.aload_n 0, 1) := by decide +kernel
theorem dL_law_151 : decode cL_law 151 = .ok (.iload_n 3, 1) := by decide +kernel
theorem dL_law_152 : decode cL_law 152 = .ok (.iconst 1, 1) := by decide +kernel
theorem dL_law_153 : decode cL_law 153 = .ok (.iadd, 1) := by decide +kernel
theorem dL_law_154 : decode cL_law 154 = .ok (.iaload, 1) := by decide +kernel
theorem dL_law_155 : decode cL_law 155 = .ok (.invokevirtual 17, 3) := by decide +kernel
theorem dL_law_158 : decode cL_law 158 = .ok (.if_icmp .eq 725, 3) := by decide +kernel
theorem dL_law_161 : decode cL_law 161 = .ok (.iconst 0, 1) := by decide +kernel
theorem dL_law_162 : decode cL_law 162 = .ok (.ireturn, 1) := by decide +kernel
theorem dL_law_163 : decode cL_law 163 = .ok (.aload_n 1, 1) := by decide +kernel
theorem dL_law_164 : decode cL_law 164 = .ok (.aload_n 0, 1) := by decide +kernel
theorem dL_law_165 : decode cL_law 165 = .ok (.iload_n 3, 1) := by decide +kernel
theorem dL_law_166 : decode cL_law 166 = .ok (.iconst 1, 1) := by decide +kernel
theorem dL_law_167 : decode cL_law 167 = .ok (.iadd, 1) := by decide +kernel
theorem dL_law_168 : decode cL_law 168 = .ok (.iaload, 1) := by decide +kernel
theorem dL_law_169 : decode cL_law 169 = .ok (.aload_n 0, 1) := by decide +kernel
theorem dL_law_170 : decode cL_law 170 = .ok (.iload_n 3, 1) := by decide +kernel
theorem dL_law_171 : decode cL_law 171 = .ok (.iconst 2, 1) := by decide +kernel
theorem dL_law_172 : decode cL_law 172 = .ok (.iadd, 1) := by decide +kernel
theorem dL_law_173 : decode cL_law 173 = .ok (.iaload, 1) := by decide +kernel
theorem dL_law_174 : decode cL_law 174 = .ok (.aload_n 0, 1) := by decide +kernel
theorem dL_law_175 : decode cL_law 175 = .ok (.iload_n 3, 1) := by decide +kernel
theorem dL_law_176 : decode cL_law 176 = .ok (.iconst 3, 1) := by decide +kernel
theorem dL_law_177 : decode cL_law 177 = .ok (.iadd, 1) := by decide +kernel
theorem dL_law_178 : decode cL_law 178 = .ok (.iaload, 1) := by decide +kernel
theorem dL_law_179 : decode cL_law 179 = .ok (.aload_n 0, 1) := by decide +kernel
theorem dL_law_180 : decode cL_law 180 = .ok (.iload_n 3, 1) := by decide +kernel
theorem dL_law_181 : decode cL_law 181 = .ok (.iconst 4, 1) := by decide +kernel
theorem dL_law_182 : decode cL_law 182 = .ok (.iadd, 1) := by decide +kernel
theorem dL_law_183 : decode cL_law 183 = .ok (.iaload, 1) := by decide +kernel
theorem dL_law_184 : decode cL_law 184 = .ok (.invokevirtual 18, 3) := by decide +kernel
theorem dL_law_187 : decode cL_law 187 = .ok (.aload_n 2, 1) := by decide +kernel
theorem dL_law_188 : decode cL_law 188 = .ok (.aload_n 0, 1) := by decide +kernel
theorem dL_law_189 : decode cL_law 189 = .ok (.iload_n 3, 1) := by decide +kernel
theorem dL_law_190 : decode cL_law 190 = .ok (.iconst 1, 1) := by decide +kernel
theorem dL_law_191 : decode cL_law 191 = .ok (.iadd, 1) := by decide +kernel
theorem dL_law_192 : decode cL_law 192 = .ok (.iaload, 1) := by decide +kernel
theorem dL_law_193 : decode cL_law 193 = .ok (.aload_n 0, 1) := by decide +kernel
theorem dL_law_194 : decode cL_law 194 = .ok (.iload_n 3, 1) := by decide +kernel
theorem dL_law_195 : decode cL_law 195 = .ok (.iconst 2, 1) := by decide +kernel
theorem dL_law_196 : decode cL_law 196 = .ok (.iadd, 1) := by decide +kernel
theorem dL_law_197 : decode cL_law 197 = .ok (.iaload, 1) := by decide +kernel
theorem dL_law_198 : decode cL_law 198 = .ok (.aload_n 0, 1) := by decide +kernel
theorem dL_law_199 : decode cL_law 199 = .ok (.iload_n 3, 1) := by decide +kernel
theorem dL_law_200 : decode cL_law 200 = .ok (.iconst 3, 1) := by decide +kernel
theorem dL_law_201 : decode cL_law 201 = .ok (.iadd, 1) := by decide +kernel
theorem dL_law_202 : decode cL_law 202 = .ok (.iaload, 1) := by decide +kernel
theorem dL_law_203 : decode cL_law 203 = .ok (.aload_n 0, 1) := by decide +kernel
theorem dL_law_204 : decode cL_law 204 = .ok (.iload_n 3, 1) := by decide +kernel
theorem dL_law_205 : decode cL_law 205 = .ok (.iconst 4, 1) := by decide +kernel
theorem dL_law_206 : decode cL_law 206 = .ok (.iadd, 1) := by decide +kernel
theorem dL_law_207 : decode cL_law 207 = .ok (.iaload, 1) := by decide +kernel
theorem dL_law_208 : decode cL_law 208 = .ok (.invokevirtual 22, 3) := by decide +kernel
theorem dL_law_211 : decode cL_law 211 = .ok (.if_icmp .eq 672, 3) := by decide +kernel
theorem dL_law_214 : decode cL_law 214 = .ok (.iconst 0, 1) := by decide +kernel
theorem dL_law_215 : decode cL_law 215 = .ok (.ireturn, 1) := by decide +kernel
theorem dL_law_216 : decode cL_law 216 = .ok (.aload_n 1, 1) := by decide +kernel
theorem dL_law_217 : decode cL_law 217 = .ok (.aload_n 0, 1) := by decide +kernel
theorem dL_law_218 : decode cL_law 218 = .ok (.iload_n 3, 1) := by decide +kernel
theorem dL_law_219 : decode cL_law 219 = .ok (.iconst 1, 1) := by decide +kernel
theorem dL_law_220 : decode cL_law 220 = .ok (.iadd, 1) := by decide +kernel
theorem dL_law_221 : decode cL_law 221 = .ok (.iaload, 1) := by decide +kernel
theorem dL_law_222 : decode cL_law 222 = .ok (.invokevirtual 23, 3) := by decide +kernel
theorem dL_law_225 : decode cL_law 225 = .ok (.aload_n 2, 1) := by decide +kernel
theorem dL_law_226 : decode cL_law 226 = .ok (.aload_n 0, 1) := by decide +kernel
theorem dL_law_227 : decode cL_law 227 = .ok (.iload_n 3, 1) := by decide +kernel
theorem dL_law_228 : decode cL_law 228 = .ok (.iconst 1, 1) := by decide +kernel
theorem dL_law_229 : decode cL_law 229 = .ok (.iadd, 1) := by decide +kernel
theorem dL_law_230 : decode cL_law 230 = .ok (.iaload, 1) := by decide +kernel
theorem dL_law_231 : decode cL_law 231 = .ok (.invokevirtual 27, 3) := by decide +kernel
theorem dL_law_234 : decode cL_law 234 = .ok (.if_icmp .eq 649, 3) := by decide +kernel
theorem dL_law_237 : decode cL_law 237 = .ok (.iconst 0, 1) := by decide +kernel
theorem dL_law_238 : decode cL_law 238 = .ok (.ireturn, 1) := by decide +kernel
theorem dL_law_239 : decode cL_law 239 = .ok (.aload_n 1, 1) := by decide +kernel
theorem dL_law_240 : decode cL_law 240 = .ok (.aload_n 0, 1) := by decide +kernel
theorem dL_law_241 : decode cL_law 241 = .ok (.iload_n 3, 1) := by decide +kernel
theorem dL_law_242 : decode cL_law 242 = .ok (.iconst 1, 1) := by decide +kernel
theorem dL_law_243 : decode cL_law 243 = .ok (.iadd, 1) := by decide +kernel
theorem dL_law_244 : decode cL_law 244 = .ok (.iaload, 1) := by decide +kernel
theorem dL_law_245 : decode cL_law 245 = .ok (.aload_n 0, 1) := by decide +kernel
theorem dL_law_246 : decode cL_law 246 = .ok (.iload_n 3, 1) := by decide +kernel
theorem dL_law_247 : decode cL_law 247 = .ok (.iconst 2, 1) := by decide +kernel
theorem dL_law_248 : decode cL_law 248 = .ok (.iadd, 1) := by decide +kernel
theorem dL_law_249 : decode cL_law 249 = .ok (.iaload, 1) := by decide +kernel
theorem dL_law_250 : decode cL_law 250 = .ok (.invokevirtual 28, 3) := by decide +kernel
theorem dL_law_253 : decode cL_law 253 = .ok (.aload_n 2, 1) := by decide +kernel
theorem dL_law_254 : decode cL_law 254 = .ok (.aload_n 0, 1) := by decide +kernel
theorem dL_law_255 : decode cL_law 255 = .ok (.iload_n 3, 1) := by decide +kernel
theorem dL_law_256 : decode cL_law 256 = .ok (.iconst 1, 1) := by decide +kernel
theorem dL_law_257 : decode cL_law 257 = .ok (.iadd, 1) := by decide +kernel
theorem dL_law_258 : decode cL_law 258 = .ok (.iaload, 1) := by decide +kernel
theorem dL_law_259 : decode cL_law 259 = .ok (.aload_n 0, 1) := by decide +kernel
theorem dL_law_260 : decode cL_law 260 = .ok (.iload_n 3, 1) := by decide +kernel
theorem dL_law_261 : decode cL_law 261 = .ok (.iconst 2, 1) := by decide +kernel
theorem dL_law_262 : decode cL_law 262 = .ok (.iadd, 1) := by decide +kernel
theorem dL_law_263 : decode cL_law 263 = .ok (.iaload, 1) := by decide +kernel
theorem dL_law_264 : decode cL_law 264 = .ok (.invokevirtual 32, 3) := by decide +kernel
theorem dL_law_267 : decode cL_law 267 = .ok (.if_icmp .eq 616, 3) := by decide +kernel
theorem dL_law_270 : decode cL_law 270 = .ok (.iconst 0, 1) := by decide +kernel
theorem dL_law_271 : decode cL_law 271 = .ok (.ireturn, 1) := by decide +kernel
theorem dL_law_272 : decode cL_law 272 = .ok (.aload_n 1, 1) := by decide +kernel
theorem dL_law_273 : decode cL_law 273 = .ok (.aload_n 0, 1) := by decide +kernel
theorem dL_law_274 : decode cL_law 274 = .ok (.iload_n 3, 1) := by decide +kernel
theorem dL_law_275 : decode cL_law 275 = .ok (.iconst 1, 1) := by decide +kernel
theorem dL_law_276 : decode cL_law 276 = .ok (.iadd, 1) := by decide +kernel
theorem dL_law_277 : decode cL_law 277 = .ok (.iaload, 1) := by decide +kernel
theorem dL_law_278 : decode cL_law 278 = .ok (.aload_n 0, 1) := by decide +kernel
theorem dL_law_279 : decode cL_law 279 = .ok (.iload_n 3, 1) := by decide +kernel
theorem dL_law_280 : decode cL_law 280 = .ok (.iconst 2, 1) := by decide +kernel
theorem dL_law_281 : decode cL_law 281 = .ok (.iadd, 1) := by decide +kernel
theorem dL_law_282 : decode cL_law 282 = .ok (.iaload, 1) := by decide +kernel
theorem dL_law_283 : decode cL_law 283 = .ok (.invokevirtual 33, 3) := by decide +kernel
theorem dL_law_286 : decode cL_law 286 = .ok (.aload_n 2, 1) := by decide +kernel
theorem dL_law_287 : decode cL_law 287 = .ok (.aload_n 0, 1) := by decide +kernel
theorem dL_law_288 : decode cL_law 288 = .ok (.iload_n 3, 1) := by decide +kernel
theorem dL_law_289 : decode cL_law 289 = .ok (.iconst 1, 1) := by decide +kernel
theorem dL_law_290 : decode cL_law 290 = .ok (.iadd, 1) := by decide +kernel
theorem dL_law_291 : decode cL_law 291 = .ok (.iaload, 1) := by decide +kernel
theorem dL_law_292 : decode cL_law 292 = .ok (.aload_n 0, 1) := by decide +kernel
theorem dL_law_293 : decode cL_law 293 = .ok (.iload_n 3, 1) := by decide +kernel
theorem dL_law_294 : decode cL_law 294 = .ok (.iconst 2, 1) := by decide +kernel
theorem dL_law_295 : decode cL_law 295 = .ok (.iadd, 1) := by decide +kernel
theorem dL_law_296 : decode cL_law 296 = .ok (.iaload, 1) := by decide +kernel
theorem dL_law_297 : decode cL_law 297 = .ok (.invokevirtual 36, 3) := by decide +kernel
theorem dL_law_300 : decode cL_law 300 = .ok (.if_icmp .eq 583, 3) := by decide +kernel
theorem dL_law_303 : decode cL_law 303 = .ok (.iconst 0, 1) := by decide +kernel
theorem dL_law_304 : decode cL_law 304 = .ok (.ireturn, 1) := by decide +kernel
theorem dL_law_305 : decode cL_law 305 = .ok (.aload_n 1, 1) := by decide +kernel
theorem dL_law_306 : decode cL_law 306 = .ok (.aload_n 0, 1) := by decide +kernel
theorem dL_law_307 : decode cL_law 307 = .ok (.iload_n 3, 1) := by decide +kernel
theorem dL_law_308 : decode cL_law 308 = .ok (.iconst 1, 1) := by decide +kernel
theorem dL_law_309 : decode cL_law 309 = .ok (.iadd, 1) := by decide +kernel
theorem dL_law_310 : decode cL_law 310 = .ok (.iaload, 1) := by decide +kernel
theorem dL_law_311 : decode cL_law 311 = .ok (.aload_n 0, 1) := by decide +kernel
theorem dL_law_312 : decode cL_law 312 = .ok (.iload_n 3, 1) := by decide +kernel
theorem dL_law_313 : decode cL_law 313 = .ok (.iconst 2, 1) := by decide +kernel
theorem dL_law_314 : decode cL_law 314 = .ok (.iadd, 1) := by decide +kernel
theorem dL_law_315 : decode cL_law 315 = .ok (.iaload, 1) := by decide +kernel
theorem dL_law_316 : decode cL_law 316 = .ok (.i2l, 1) := by decide +kernel
theorem dL_law_317 : decode cL_law 317 = .ok (.bipush 32, 2) := by decide +kernel
theorem dL_law_319 : decode cL_law 319 = .ok (.lshl, 1) := by decide +kernel
theorem dL_law_320 : decode cL_law 320 = .ok (.aload_n 0, 1) := by decide +kernel
theorem dL_law_321 : decode cL_law 321 = .ok (.iload_n 3, 1) := by decide +kernel
theorem dL_law_322 : decode cL_law 322 = .ok (.iconst 3, 1) := by decide +kernel
theorem dL_law_323 : decode cL_law 323 = .ok (.iadd, 1) := by decide +kernel
theorem dL_law_324 : decode cL_law 324 = .ok (.iaload, 1) := by decide +kernel
theorem dL_law_325 : decode cL_law 325 = .ok (.i2l, 1) := by decide +kernel
theorem dL_law_326 : decode cL_law 326 = .ok (.ldc2_w 37, 3) := by decide +kernel
theorem dL_law_329 : decode cL_law 329 = .ok (.land, 1) := by decide +kernel
theorem dL_law_330 : decode cL_law 330 = .ok (.lor, 1) := by decide +kernel
theorem dL_law_331 : decode cL_law 331 = .ok (.aload_n 0, 1) := by decide +kernel
theorem dL_law_332 : decode cL_law 332 = .ok (.iload_n 3, 1) := by decide +kernel
theorem dL_law_333 : decode cL_law 333 = .ok (.iconst 4, 1) := by decide +kernel
theorem dL_law_334 : decode cL_law 334 = .ok (.iadd, 1) := by decide +kernel
theorem dL_law_335 : decode cL_law 335 = .ok (.iaload, 1) := by decide +kernel
theorem dL_law_336 : decode cL_law 336 = .ok (.aload_n 0, 1) := by decide +kernel
theorem dL_law_337 : decode cL_law 337 = .ok (.iload_n 3, 1) := by decide +kernel
theorem dL_law_338 : decode cL_law 338 = .ok (.iconst 5, 1) := by decide +kernel
theorem dL_law_339 : decode cL_law 339 = .ok (.iadd, 1) := by decide +kernel
theorem dL_law_340 : decode cL_law 340 = .ok (.iaload, 1) := by decide +kernel
theorem dL_law_341 : decode cL_law 341 = .ok (.invokevirtual 39, 3) := by decide +kernel
theorem dL_law_344 : decode cL_law 344 = .ok (.aload_n 2, 1) := by decide +kernel
theorem dL_law_345 : decode cL_law 345 = .ok (.aload_n 0, 1) := by decide +kernel
theorem dL_law_346 : decode cL_law 346 = .ok (.iload_n 3, 1) := by decide +kernel
theorem dL_law_347 : decode cL_law 347 = .ok (.iconst 1, 1) := by decide +kernel
theorem dL_law_348 : decode cL_law 348 = .ok (.iadd, 1) := by decide +kernel
theorem dL_law_349 : decode cL_law 349 = .ok (.iaload, 1) := by decide +kernel
theorem dL_law_350 : decode cL_law 350 = .ok (.aload_n 0, 1) := by decide +kernel
theorem dL_law_351 : decode cL_law 351 = .ok (.iload_n 3, 1) := by decide +kernel
theorem dL_law_352 : decode cL_law 352 = .ok (.iconst 2, 1) := by decide +kernel
theorem dL_law_353 : decode cL_law 353 = .ok (.iadd, 1) := by decide +kernel
theorem dL_law_354 : decode cL_law 354 = .ok (.iaload, 1) := by decide +kernel
theorem dL_law_355 : decode cL_law 355 = .ok (.i2l, 1) := by decide +kernel
theorem dL_law_356 : decode cL_law 356 = .ok (.bipush 32, 2) := by decide +kernel
theorem dL_law_358 : decode cL_law 358 = .ok (.lshl, 1) := by decide +kernel
theorem dL_law_359 : decode cL_law 359 = .ok (.aload_n 0, 1) := by decide +kernel
theorem dL_law_360 : decode cL_law 360 = .ok (.iload_n 3, 1) := by decide +kernel
theorem dL_law_361 : decode cL_law 361 = .ok (.iconst 3, 1) := by decide +kernel
theorem dL_law_362 : decode cL_law 362 = .ok (.iadd, 1) := by decide +kernel
theorem dL_law_363 : decode cL_law 363 = .ok (.iaload, 1) := by decide +kernel
theorem dL_law_364 : decode cL_law 364 = .ok (.i2l, 1) := by decide +kernel
theorem dL_law_365 : decode cL_law 365 = .ok (.ldc2_w 37, 3) := by decide +kernel
theorem dL_law_368 : decode cL_law 368 = .ok (.land, 1) := by decide +kernel
theorem dL_law_369 : decode cL_law 369 = .ok (.lor, 1) := by decide +kernel
theorem dL_law_370 : decode cL_law 370 = .ok (.aload_n 0, 1) := by decide +kernel
theorem dL_law_371 : decode cL_law 371 = .ok (.iload_n 3, 1) := by decide +kernel
theorem dL_law_372 : decode cL_law 372 = .ok (.iconst 4, 1) := by decide +kernel
theorem dL_law_373 : decode cL_law 373 = .ok (.iadd, 1) := by decide +kernel
theorem dL_law_374 : decode cL_law 374 = .ok (.iaload, 1) := by decide +kernel
theorem dL_law_375 : decode cL_law 375 = .ok (.aload_n 0, 1) := by decide +kernel
theorem dL_law_376 : decode cL_law 376 = .ok (.iload_n 3, 1) := by decide +kernel
theorem dL_law_377 : decode cL_law 377 = .ok (.iconst 5, 1) := by decide +kernel
theorem dL_law_378 : decode cL_law 378 = .ok (.iadd, 1) := by decide +kernel
theorem dL_law_379 : decode cL_law 379 = .ok (.iaload, 1) := by decide +kernel
theorem dL_law_380 : decode cL_law 380 = .ok (.invokevirtual 43, 3) := by decide +kernel
theorem dL_law_383 : decode cL_law 383 = .ok (.if_icmp .eq 500, 3) := by decide +kernel
theorem dL_law_386 : decode cL_law 386 = .ok (.iconst 0, 1) := by decide +kernel
theorem dL_law_387 : decode cL_law 387 = .ok (.ireturn, 1) := by decide +kernel
theorem dL_law_388 : decode cL_law 388 = .ok (.aload_n 1, 1) := by decide +kernel
theorem dL_law_389 : decode cL_law 389 = .ok (.aload_n 0, 1) := by decide +kernel
theorem dL_law_390 : decode cL_law 390 = .ok (.iload_n 3, 1) := by decide +kernel
theorem dL_law_391 : decode cL_law 391 = .ok (.iconst 1, 1) := by decide +kernel
theorem dL_law_392 : decode cL_law 392 = .ok (.iadd, 1) := by decide +kernel
theorem dL_law_393 : decode cL_law 393 = .ok (.iaload, 1) := by decide +kernel
theorem dL_law_394 : decode cL_law 394 = .ok (.invokevirtual 44, 3) := by decide +kernel
theorem dL_law_397 : decode cL_law 397 = .ok (.aload_n 2, 1) := by decide +kernel
theorem dL_law_398 : decode cL_law 398 = .ok (.aload_n 0, 1) := by decide +kernel
theorem dL_law_399 : decode cL_law 399 = .ok (.iload_n 3, 1) := by decide +kernel
theorem dL_law_400 : decode cL_law 400 = .ok (.iconst 1, 1) := by decide +kernel
theorem dL_law_401 : decode cL_law 401 = .ok (.iadd, 1) := by decide +kernel
theorem dL_law_402 : decode cL_law 402 = .ok (.iaload, 1) := by decide +kernel
theorem dL_law_403 : decode cL_law 403 = .ok (.invokevirtual 47, 3) := by decide +kernel
theorem dL_law_406 : decode cL_law 406 = .ok (.if_icmp .eq 477, 3) := by decide +kernel
theorem dL_law_409 : decode cL_law 409 = .ok (.iconst 0, 1) := by decide +kernel
theorem dL_law_410 : decode cL_law 410 = .ok (.ireturn, 1) := by decide +kernel
theorem dL_law_411 : decode cL_law 411 = .ok (.aload_n 1, 1) := by decide +kernel
theorem dL_law_412 : decode cL_law 412 = .ok (.aload_n 0, 1) := by decide +kernel
theorem dL_law_413 : decode cL_law 413 = .ok (.iload_n 3, 1) := by decide +kernel
theorem dL_law_414 : decode cL_law 414 = .ok (.iconst 1, 1) := by decide +kernel
theorem dL_law_415 : decode cL_law 415 = .ok (.iadd, 1) := by decide +kernel
theorem dL_law_416 : decode cL_law 416 = .ok (.iaload, 1) := by decide +kernel
theorem dL_law_417 : decode cL_law 417 = .ok (.invokevirtual 48, 3) := by decide +kernel
theorem dL_law_420 : decode cL_law 420 = .ok (.aload_n 2, 1) := by decide +kernel
theorem dL_law_421 : decode cL_law 421 = .ok (.aload_n 0, 1) := by decide +kernel
theorem dL_law_422 : decode cL_law 422 = .ok (.iload_n 3, 1) := by decide +kernel
theorem dL_law_423 : decode cL_law 423 = .ok (.iconst 1, 1) := by decide +kernel
theorem dL_law_424 : decode cL_law 424 = .ok (.iadd, 1) := by decide +kernel
theorem dL_law_425 : decode cL_law 425 = .ok (.iaload, 1) := by decide +kernel
theorem dL_law_426 : decode cL_law 426 = .ok (.invokevirtual 51, 3) := by decide +kernel
theorem dL_law_429 : decode cL_law 429 = .ok (.if_icmp .eq 454, 3) := by decide +kernel
theorem dL_law_432 : decode cL_law 432 = .ok (.iconst 0, 1) := by decide +kernel
theorem dL_law_433 : decode cL_law 433 = .ok (.ireturn, 1) := by decide +kernel
theorem dL_law_434 : decode cL_law 434 = .ok (.aload_n 1, 1) := by decide +kernel
theorem dL_law_435 : decode cL_law 435 = .ok (.aload_n 0, 1) := by decide +kernel
theorem dL_law_436 : decode cL_law 436 = .ok (.iload_n 3, 1) := by decide +kernel
theorem dL_law_437 : decode cL_law 437 = .ok (.iconst 1, 1) := by decide +kernel
theorem dL_law_438 : decode cL_law 438 = .ok (.iadd, 1) := by decide +kernel
theorem dL_law_439 : decode cL_law 439 = .ok (.iaload, 1) := by decide +kernel
theorem dL_law_440 : decode cL_law 440 = .ok (.aload_n 0, 1) := by decide +kernel
theorem dL_law_441 : decode cL_law 441 = .ok (.iload_n 3, 1) := by decide +kernel
theorem dL_law_442 : decode cL_law 442 = .ok (.iconst 2, 1) := by decide +kernel
theorem dL_law_443 : decode cL_law 443 = .ok (.iadd, 1) := by decide +kernel
theorem dL_law_444 : decode cL_law 444 = .ok (.iaload, 1) := by decide +kernel
theorem dL_law_445 : decode cL_law 445 = .ok (.invokevirtual 52, 3) := by decide +kernel
theorem dL_law_448 : decode cL_law 448 = .ok (.aload_n 2, 1) := by decide +kernel
theorem dL_law_449 : decode cL_law 449 = .ok (.aload_n 0, 1) := by decide +kernel
theorem dL_law_450 : decode cL_law 450 = .ok (.iload_n 3, 1) := by decide +kernel
theorem dL_law_451 : decode cL_law 451 = .ok (.iconst 1, 1) := by decide +kernel
theorem dL_law_452 : decode cL_law 452 = .ok (.iadd, 1) := by decide +kernel
theorem dL_law_453 : decode cL_law 453 = .ok (.iaload, 1) := by decide +kernel
theorem dL_law_454 : decode cL_law 454 = .ok (.aload_n 0, 1) := by decide +kernel
theorem dL_law_455 : decode cL_law 455 = .ok (.iload_n 3, 1) := by decide +kernel
theorem dL_law_456 : decode cL_law 456 = .ok (.iconst 2, 1) := by decide +kernel
theorem dL_law_457 : decode cL_law 457 = .ok (.iadd, 1) := by decide +kernel
theorem dL_law_458 : decode cL_law 458 = .ok (.iaload, 1) := by decide +kernel
theorem dL_law_459 : decode cL_law 459 = .ok (.invokevirtual 55, 3) := by decide +kernel
theorem dL_law_462 : decode cL_law 462 = .ok (.if_icmp .eq 421, 3) := by decide +kernel
theorem dL_law_465 : decode cL_law 465 = .ok (.iconst 0, 1) := by decide +kernel
theorem dL_law_466 : decode cL_law 466 = .ok (.ireturn, 1) := by decide +kernel
theorem dL_law_467 : decode cL_law 467 = .ok (.aload_n 1, 1) := by decide +kernel
theorem dL_law_468 : decode cL_law 468 = .ok (.aload_n 0, 1) := by decide +kernel
theorem dL_law_469 : decode cL_law 469 = .ok (.iload_n 3, 1) := by decide +kernel
theorem dL_law_470 : decode cL_law 470 = .ok (.iconst 1, 1) := by decide +kernel
theorem dL_law_471 : decode cL_law 471 = .ok (.iadd, 1) := by decide +kernel
theorem dL_law_472 : decode cL_law 472 = .ok (.iaload, 1) := by decide +kernel
theorem dL_law_473 : decode cL_law 473 = .ok (.aload_n 0, 1) := by decide +kernel
theorem dL_law_474 : decode cL_law 474 = .ok (.iload_n 3, 1) := by decide +kernel
theorem dL_law_475 : decode cL_law 475 = .ok (.iconst 2, 1) := by decide +kernel
theorem dL_law_476 : decode cL_law 476 = .ok (.iadd, 1) := by decide +kernel
theorem dL_law_477 : decode cL_law 477 = .ok (.iaload, 1) := by decide +kernel
theorem dL_law_478 : decode cL_law 478 = .ok (.invokevirtual 56, 3) := by decide +kernel
theorem dL_law_481 : decode cL_law 481 = .ok (.aload_n 2, 1) := by decide +kernel
theorem dL_law_482 : decode cL_law 482 = .ok (.aload_n 0, 1) := by decide +kernel
theorem dL_law_483 : decode cL_law 483 = .ok (.iload_n 3, 1) := by decide +kernel
theorem dL_law_484 : decode cL_law 484 = .ok (.iconst 1, 1) := by decide +kernel
theorem dL_law_485 : decode cL_law 485 = .ok (.iadd, 1) := by decide +kernel
theorem dL_law_486 : decode cL_law 486 = .ok (.iaload, 1) := by decide +kernel
theorem dL_law_487 : decode cL_law 487 = .ok (.aload_n 0, 1) := by decide +kernel
theorem dL_law_488 : decode cL_law 488 = .ok (.iload_n 3, 1) := by decide +kernel
theorem dL_law_489 : decode cL_law 489 = .ok (.iconst 2, 1) := by decide +kernel
theorem dL_law_490 : decode cL_law 490 = .ok (.iadd, 1) := by decide +kernel
theorem dL_law_491 : decode cL_law 491 = .ok (.iaload, 1) := by decide +kernel
theorem dL_law_492 : decode cL_law 492 = .ok (.invokevirtual 59, 3) := by decide +kernel
theorem dL_law_495 : decode cL_law 495 = .ok (.if_icmp .eq 388, 3) := by decide +kernel
theorem dL_law_498 : decode cL_law 498 = .ok (.iconst 0, 1) := by decide +kernel
theorem dL_law_499 : decode cL_law 499 = .ok (.ireturn, 1) := by decide +kernel
theorem dL_law_500 : decode cL_law 500 = .ok (.aload_n 1, 1) := by decide +kernel
theorem dL_law_501 : decode cL_law 501 = .ok (.aload_n 0, 1) := by decide +kernel
theorem dL_law_502 : decode cL_law 502 = .ok (.iload_n 3, 1) := by decide +kernel
theorem dL_law_503 : decode cL_law 503 = .ok (.iconst 1, 1) := by decide +kernel
theorem dL_law_504 : decode cL_law 504 = .ok (.iadd, 1) := by decide +kernel
theorem dL_law_505 : decode cL_law 505 = .ok (.iaload, 1) := by decide +kernel
theorem dL_law_506 : decode cL_law 506 = .ok (.invokevirtual 60, 3) := by decide +kernel
theorem dL_law_509 : decode cL_law 509 = .ok (.aload_n 2, 1) := by decide +kernel
theorem dL_law_510 : decode cL_law 510 = .ok (.aload_n 0, 1) := by decide +kernel
theorem dL_law_511 : decode cL_law 511 = .ok (.iload_n 3, 1) := by decide +kernel
theorem dL_law_512 : decode cL_law 512 = .ok (.iconst 1, 1) := by decide +kernel
theorem dL_law_513 : decode cL_law 513 = .ok (.iadd, 1) := by decide +kernel
theorem dL_law_514 : decode cL_law 514 = .ok (.iaload, 1) := by decide +kernel
theorem dL_law_515 : decode cL_law 515 = .ok (.invokevirtual 63, 3) := by decide +kernel
theorem dL_law_518 : decode cL_law 518 = .ok (.if_icmp .eq 365, 3) := by decide +kernel
theorem dL_law_521 : decode cL_law 521 = .ok (.iconst 0, 1) := by decide +kernel
theorem dL_law_522 : decode cL_law 522 = .ok (.ireturn, 1) := by decide +kernel
theorem dL_law_523 : decode cL_law 523 = .ok (.aload_n 1, 1) := by decide +kernel
theorem dL_law_524 : decode cL_law 524 = .ok (.aload_n 0, 1) := by decide +kernel
theorem dL_law_525 : decode cL_law 525 = .ok (.iload_n 3, 1) := by decide +kernel
theorem dL_law_526 : decode cL_law 526 = .ok (.iconst 1, 1) := by decide +kernel
theorem dL_law_527 : decode cL_law 527 = .ok (.iadd, 1) := by decide +kernel
theorem dL_law_528 : decode cL_law 528 = .ok (.iaload, 1) := by decide +kernel
theorem dL_law_529 : decode cL_law 529 = .ok (.aload_n 0, 1) := by decide +kernel
theorem dL_law_530 : decode cL_law 530 = .ok (.iload_n 3, 1) := by decide +kernel
theorem dL_law_531 : decode cL_law 531 = .ok (.iconst 2, 1) := by decide +kernel
theorem dL_law_532 : decode cL_law 532 = .ok (.iadd, 1) := by decide +kernel
theorem dL_law_533 : decode cL_law 533 = .ok (.iaload, 1) := by decide +kernel
theorem dL_law_534 : decode cL_law 534 = .ok (.invokevirtual 64, 3) := by decide +kernel
theorem dL_law_537 : decode cL_law 537 = .ok (.aload_n 2, 1) := by decide +kernel
theorem dL_law_538 : decode cL_law 538 = .ok (.aload_n 0, 1) := by decide +kernel
theorem dL_law_539 : decode cL_law 539 = .ok (.iload_n 3, 1) := by decide +kernel
theorem dL_law_540 : decode cL_law 540 = .ok (.iconst 1, 1) := by decide +kernel
theorem dL_law_541 : decode cL_law 541 = .ok (.iadd, 1) := by decide +kernel
theorem dL_law_542 : decode cL_law 542 = .ok (.iaload, 1) := by decide +kernel
theorem dL_law_543 : decode cL_law 543 = .ok (.aload_n 0, 1) := by decide +kernel
theorem dL_law_544 : decode cL_law 544 = .ok (.iload_n 3, 1) := by decide +kernel
theorem dL_law_545 : decode cL_law 545 = .ok (.iconst 2, 1) := by decide +kernel
theorem dL_law_546 : decode cL_law 546 = .ok (.iadd, 1) := by decide +kernel
theorem dL_law_547 : decode cL_law 547 = .ok (.iaload, 1) := by decide +kernel
theorem dL_law_548 : decode cL_law 548 = .ok (.invokevirtual 67, 3) := by decide +kernel
theorem dL_law_551 : decode cL_law 551 = .ok (.if_icmp .eq 332, 3) := by decide +kernel
theorem dL_law_554 : decode cL_law 554 = .ok (.iconst 0, 1) := by decide +kernel
theorem dL_law_555 : decode cL_law 555 = .ok (.ireturn, 1) := by decide +kernel
theorem dL_law_556 : decode cL_law 556 = .ok (.aload_n 1, 1) := by decide +kernel
theorem dL_law_557 : decode cL_law 557 = .ok (.aload_n 0, 1) := by decide +kernel
theorem dL_law_558 : decode cL_law 558 = .ok (.iload_n 3, 1) := by decide +kernel
theorem dL_law_559 : decode cL_law 559 = .ok (.iconst 1, 1) := by decide +kernel
theorem dL_law_560 : decode cL_law 560 = .ok (.iadd, 1) := by decide +kernel
theorem dL_law_561 : decode cL_law 561 = .ok (.iaload, 1) := by decide +kernel
theorem dL_law_562 : decode cL_law 562 = .ok (.aload_n 0, 1) := by decide +kernel
theorem dL_law_563 : decode cL_law 563 = .ok (.iload_n 3, 1) := by decide +kernel
theorem dL_law_564 : decode cL_law 564 = .ok (.iconst 2, 1) := by decide +kernel
theorem dL_law_565 : decode cL_law 565 = .ok (.iadd, 1) := by decide +kernel
theorem dL_law_566 : decode cL_law 566 = .ok (.iaload, 1) := by decide +kernel
theorem dL_law_567 : decode cL_law 567 = .ok (.invokevirtual 68, 3) := by decide +kernel
theorem dL_law_570 : decode cL_law 570 = .ok (.aload_n 2, 1) := by decide +kernel
theorem dL_law_571 : decode cL_law 571 = .ok (.aload_n 0, 1) := by decide +kernel
theorem dL_law_572 : decode cL_law 572 = .ok (.iload_n 3, 1) := by decide +kernel
theorem dL_law_573 : decode cL_law 573 = .ok (.iconst 1, 1) := by decide +kernel
theorem dL_law_574 : decode cL_law 574 = .ok (.iadd, 1) := by decide +kernel
theorem dL_law_575 : decode cL_law 575 = .ok (.iaload, 1) := by decide +kernel
theorem dL_law_576 : decode cL_law 576 = .ok (.aload_n 0, 1) := by decide +kernel
theorem dL_law_577 : decode cL_law 577 = .ok (.iload_n 3, 1) := by decide +kernel
theorem dL_law_578 : decode cL_law 578 = .ok (.iconst 2, 1) := by decide +kernel
theorem dL_law_579 : decode cL_law 579 = .ok (.iadd, 1) := by decide +kernel
theorem dL_law_580 : decode cL_law 580 = .ok (.iaload, 1) := by decide +kernel
theorem dL_law_581 : decode cL_law 581 = .ok (.invokevirtual 72, 3) := by decide +kernel
theorem dL_law_584 : decode cL_law 584 = .ok (.if_icmp .eq 299, 3) := by decide +kernel
theorem dL_law_587 : decode cL_law 587 = .ok (.iconst 0, 1) := by decide +kernel
theorem dL_law_588 : decode cL_law 588 = .ok (.ireturn, 1) := by decide +kernel
theorem dL_law_589 : decode cL_law 589 = .ok (.aload_n 1, 1) := by decide +kernel
theorem dL_law_590 : decode cL_law 590 = .ok (.aload_n 0, 1) := by decide +kernel
theorem dL_law_591 : decode cL_law 591 = .ok (.iload_n 3, 1) := by decide +kernel
theorem dL_law_592 : decode cL_law 592 = .ok (.iconst 1, 1) := by decide +kernel
theorem dL_law_593 : decode cL_law 593 = .ok (.iadd, 1) := by decide +kernel
theorem dL_law_594 : decode cL_law 594 = .ok (.iaload, 1) := by decide +kernel
theorem dL_law_595 : decode cL_law 595 = .ok (.aload_n 0, 1) := by decide +kernel
theorem dL_law_596 : decode cL_law 596 = .ok (.iload_n 3, 1) := by decide +kernel
theorem dL_law_597 : decode cL_law 597 = .ok (.iconst 2, 1) := by decide +kernel
theorem dL_law_598 : decode cL_law 598 = .ok (.iadd, 1) := by decide +kernel
theorem dL_law_599 : decode cL_law 599 = .ok (.iaload, 1) := by decide +kernel
theorem dL_law_600 : decode cL_law 600 = .ok (.invokevirtual 73, 3) := by decide +kernel
theorem dL_law_603 : decode cL_law 603 = .ok (.aload_n 2, 1) := by decide +kernel
theorem dL_law_604 : decode cL_law 604 = .ok (.aload_n 0, 1) := by decide +kernel
theorem dL_law_605 : decode cL_law 605 = .ok (.iload_n 3, 1) := by decide +kernel
theorem dL_law_606 : decode cL_law 606 = .ok (.iconst 1, 1) := by decide +kernel
theorem dL_law_607 : decode cL_law 607 = .ok (.iadd, 1) := by decide +kernel
theorem dL_law_608 : decode cL_law 608 = .ok (.iaload, 1) := by decide +kernel
theorem dL_law_609 : decode cL_law 609 = .ok (.aload_n 0, 1) := by decide +kernel
theorem dL_law_610 : decode cL_law 610 = .ok (.iload_n 3, 1) := by decide +kernel
theorem dL_law_611 : decode cL_law 611 = .ok (.iconst 2, 1) := by decide +kernel
theorem dL_law_612 : decode cL_law 612 = .ok (.iadd, 1) := by decide +kernel
theorem dL_law_613 : decode cL_law 613 = .ok (.iaload, 1) := by decide +kernel
theorem dL_law_614 : decode cL_law 614 = .ok (.invokevirtual 76, 3) := by decide +kernel
theorem dL_law_617 : decode cL_law 617 = .ok (.if_icmp .eq 266, 3) := by decide +kernel
theorem dL_law_620 : decode cL_law 620 = .ok (.iconst 0, 1) := by decide +kernel
theorem dL_law_621 : decode cL_law 621 = .ok (.ireturn, 1) := by decide +kernel
theorem dL_law_622 : decode cL_law 622 = .ok (.aload_n 1, 1) := by decide +kernel
theorem dL_law_623 : decode cL_law 623 = .ok (.invokevirtual 77, 3) := by decide +kernel
theorem dL_law_626 : decode cL_law 626 = .ok (.aload_n 2, 1) := by decide +kernel
theorem dL_law_627 : decode cL_law 627 = .ok (.invokevirtual 81, 3) := by decide +kernel
theorem dL_law_630 : decode cL_law 630 = .ok (.if_icmp .eq 253, 3) := by decide +kernel
theorem dL_law_633 : decode cL_law 633 = .ok (.iconst 0, 1) := by decide +kernel
theorem dL_law_634 : decode cL_law 634 = .ok (.ireturn, 1) := by decide +kernel
theorem dL_law_635 : decode cL_law 635 = .ok (.aload_n 1, 1) := by decide +kernel
theorem dL_law_636 : decode cL_law 636 = .ok (.aload_n 0, 1) := by decide +kernel
theorem dL_law_637 : decode cL_law 637 = .ok (.iload_n 3, 1) := by decide +kernel
theorem dL_law_638 : decode cL_law 638 = .ok (.iconst 1, 1) := by decide +kernel
theorem dL_law_639 : decode cL_law 639 = .ok (.iadd, 1) := by decide +kernel
theorem dL_law_640 : decode cL_law 640 = .ok (.iaload, 1) := by decide +kernel
theorem dL_law_641 : decode cL_law 641 = .ok (.invokevirtual 82, 3) := by decide +kernel
theorem dL_law_644 : decode cL_law 644 = .ok (.aload_n 2, 1) := by decide +kernel
theorem dL_law_645 : decode cL_law 645 = .ok (.aload_n 0, 1) := by decide +kernel
theorem dL_law_646 : decode cL_law 646 = .ok (.iload_n 3, 1) := by decide +kernel
theorem dL_law_647 : decode cL_law 647 = .ok (.iconst 1, 1) := by decide +kernel
theorem dL_law_648 : decode cL_law 648 = .ok (.iadd, 1) := by decide +kernel
theorem dL_law_649 : decode cL_law 649 = .ok (.iaload, 1) := by decide +kernel
theorem dL_law_650 : decode cL_law 650 = .ok (.invokevirtual 86, 3) := by decide +kernel
theorem dL_law_653 : decode cL_law 653 = .ok (.lcmp, 1) := by decide +kernel
theorem dL_law_654 : decode cL_law 654 = .ok (.ifCond .eq 229, 3) := by decide +kernel
theorem dL_law_657 : decode cL_law 657 = .ok (.iconst 0, 1) := by decide +kernel
theorem dL_law_658 : decode cL_law 658 = .ok (.ireturn, 1) := by decide +kernel
theorem dL_law_659 : decode cL_law 659 = .ok (.aload_n 1, 1) := by decide +kernel
theorem dL_law_660 : decode cL_law 660 = .ok (.aload_n 0, 1) := by decide +kernel
theorem dL_law_661 : decode cL_law 661 = .ok (.iload_n 3, 1) := by decide +kernel
theorem dL_law_662 : decode cL_law 662 = .ok (.iconst 1, 1) := by decide +kernel
theorem dL_law_663 : decode cL_law 663 = .ok (.iadd, 1) := by decide +kernel
theorem dL_law_664 : decode cL_law 664 = .ok (.iaload, 1) := by decide +kernel
theorem dL_law_665 : decode cL_law 665 = .ok (.aload_n 0, 1) := by decide +kernel
theorem dL_law_666 : decode cL_law 666 = .ok (.iload_n 3, 1) := by decide +kernel
theorem dL_law_667 : decode cL_law 667 = .ok (.iconst 2, 1) := by decide +kernel
theorem dL_law_668 : decode cL_law 668 = .ok (.iadd, 1) := by decide +kernel
theorem dL_law_669 : decode cL_law 669 = .ok (.iaload, 1) := by decide +kernel
theorem dL_law_670 : decode cL_law 670 = .ok (.invokevirtual 87, 3) := by decide +kernel
theorem dL_law_673 : decode cL_law 673 = .ok (.aload_n 2, 1) := by decide +kernel
theorem dL_law_674 : decode cL_law 674 = .ok (.aload_n 0, 1) := by decide +kernel
theorem dL_law_675 : decode cL_law 675 = .ok (.iload_n 3, 1) := by decide +kernel
theorem dL_law_676 : decode cL_law 676 = .ok (.iconst 1, 1) := by decide +kernel
theorem dL_law_677 : decode cL_law 677 = .ok (.iadd, 1) := by decide +kernel
theorem dL_law_678 : decode cL_law 678 = .ok (.iaload, 1) := by decide +kernel
theorem dL_law_679 : decode cL_law 679 = .ok (.aload_n 0, 1) := by decide +kernel
theorem dL_law_680 : decode cL_law 680 = .ok (.iload_n 3, 1) := by decide +kernel
theorem dL_law_681 : decode cL_law 681 = .ok (.iconst 2, 1) := by decide +kernel
theorem dL_law_682 : decode cL_law 682 = .ok (.iadd, 1) := by decide +kernel
theorem dL_law_683 : decode cL_law 683 = .ok (.iaload, 1) := by decide +kernel
theorem dL_law_684 : decode cL_law 684 = .ok (.invokevirtual 91, 3) := by decide +kernel
theorem dL_law_687 : decode cL_law 687 = .ok (.lcmp, 1) := by decide +kernel
theorem dL_law_688 : decode cL_law 688 = .ok (.ifCond .eq 195, 3) := by decide +kernel
theorem dL_law_691 : decode cL_law 691 = .ok (.iconst 0, 1) := by decide +kernel
theorem dL_law_692 : decode cL_law 692 = .ok (.ireturn, 1) := by decide +kernel
theorem dL_law_693 : decode cL_law 693 = .ok (.aload_n 1, 1) := by decide +kernel
theorem dL_law_694 : decode cL_law 694 = .ok (.aload_n 0, 1) := by decide +kernel
theorem dL_law_695 : decode cL_law 695 = .ok (.iload_n 3, 1) := by decide +kernel
theorem dL_law_696 : decode cL_law 696 = .ok (.iconst 1, 1) := by decide +kernel
theorem dL_law_697 : decode cL_law 697 = .ok (.iadd, 1) := by decide +kernel
theorem dL_law_698 : decode cL_law 698 = .ok (.iaload, 1) := by decide +kernel
theorem dL_law_699 : decode cL_law 699 = .ok (.invokevirtual 92, 3) := by decide +kernel
theorem dL_law_702 : decode cL_law 702 = .ok (.aload_n 2, 1) := by decide +kernel
theorem dL_law_703 : decode cL_law 703 = .ok (.aload_n 0, 1) := by decide +kernel
theorem dL_law_704 : decode cL_law 704 = .ok (.iload_n 3, 1) := by decide +kernel
theorem dL_law_705 : decode cL_law 705 = .ok (.iconst 1, 1) := by decide +kernel
theorem dL_law_706 : decode cL_law 706 = .ok (.iadd, 1) := by decide +kernel
theorem dL_law_707 : decode cL_law 707 = .ok (.iaload, 1) := by decide +kernel
theorem dL_law_708 : decode cL_law 708 = .ok (.invokevirtual 95, 3) := by decide +kernel
theorem dL_law_711 : decode cL_law 711 = .ok (.if_icmp .eq 172, 3) := by decide +kernel
theorem dL_law_714 : decode cL_law 714 = .ok (.iconst 0, 1) := by decide +kernel
theorem dL_law_715 : decode cL_law 715 = .ok (.ireturn, 1) := by decide +kernel
theorem dL_law_716 : decode cL_law 716 = .ok (.aload_n 1, 1) := by decide +kernel
theorem dL_law_717 : decode cL_law 717 = .ok (.aload_n 0, 1) := by decide +kernel
theorem dL_law_718 : decode cL_law 718 = .ok (.iload_n 3, 1) := by decide +kernel
theorem dL_law_719 : decode cL_law 719 = .ok (.iconst 1, 1) := by decide +kernel
theorem dL_law_720 : decode cL_law 720 = .ok (.iadd, 1) := by decide +kernel
theorem dL_law_721 : decode cL_law 721 = .ok (.iaload, 1) := by decide +kernel
theorem dL_law_722 : decode cL_law 722 = .ok (.ifCond .eq 7, 3) := by decide +kernel
theorem dL_law_725 : decode cL_law 725 = .ok (.iconst 1, 1) := by decide +kernel
theorem dL_law_726 : decode cL_law 726 = .ok (.goto 4, 3) := by decide +kernel
theorem dL_law_729 : decode cL_law 729 = .ok (.iconst 0, 1) := by decide +kernel
theorem dL_law_730 : decode cL_law 730 = .ok (.aload_n 0, 1) := by decide +kernel
theorem dL_law_731 : decode cL_law 731 = .ok (.iload_n 3, 1) := by decide +kernel
theorem dL_law_732 : decode cL_law 732 = .ok (.iconst 2, 1) := by decide +kernel
theorem dL_law_733 : decode cL_law 733 = .ok (.iadd, 1) := by decide +kernel
theorem dL_law_734 : decode cL_law 734 = .ok (.iaload, 1) := by decide +kernel
theorem dL_law_735 : decode cL_law 735 = .ok (.ifCond .eq 7, 3) := by decide +kernel
theorem dL_law_738 : decode cL_law 738 = .ok (.iconst 1, 1) := by decide +kernel
theorem dL_law_739 : decode cL_law 739 = .ok (.goto 4, 3) := by decide +kernel
theorem dL_law_742 : decode cL_law 742 = .ok (.iconst 0, 1) := by decide +kernel
theorem dL_law_743 : decode cL_law 743 = .ok (.invokevirtual 96, 3) := by decide +kernel
theorem dL_law_746 : decode cL_law 746 = .ok (.aload_n 2, 1) := by decide +kernel
theorem dL_law_747 : decode cL_law 747 = .ok (.aload_n 0, 1) := by decide +kernel
theorem dL_law_748 : decode cL_law 748 = .ok (.iload_n 3, 1) := by decide +kernel
theorem dL_law_749 : decode cL_law 749 = .ok (.iconst 1, 1) := by decide +kernel
theorem dL_law_750 : decode cL_law 750 = .ok (.iadd, 1) := by decide +kernel
theorem dL_law_751 : decode cL_law 751 = .ok (.iaload, 1) := by decide +kernel
theorem dL_law_752 : decode cL_law 752 = .ok (.ifCond .eq 7, 3) := by decide +kernel
theorem dL_law_755 : decode cL_law 755 = .ok (.iconst 1, 1) := by decide +kernel
theorem dL_law_756 : decode cL_law 756 = .ok (.goto 4, 3) := by decide +kernel
theorem dL_law_759 : decode cL_law 759 = .ok (.iconst 0, 1) := by decide +kernel
theorem dL_law_760 : decode cL_law 760 = .ok (.aload_n 0, 1) := by decide +kernel
theorem dL_law_761 : decode cL_law 761 = .ok (.iload_n 3, 1) := by decide +kernel
theorem dL_law_762 : decode cL_law 762 = .ok (.iconst 2, 1) := by decide +kernel
theorem dL_law_763 : decode cL_law 763 = .ok (.iadd, 1) := by decide +kernel
theorem dL_law_764 : decode cL_law 764 = .ok (.iaload, 1) := by decide +kernel
theorem dL_law_765 : decode cL_law 765 = .ok (.ifCond .eq 7, 3) := by decide +kernel
theorem dL_law_768 : decode cL_law 768 = .ok (.iconst 1, 1) := by decide +kernel
theorem dL_law_769 : decode cL_law 769 = .ok (.goto 4, 3) := by decide +kernel
theorem dL_law_772 : decode cL_law 772 = .ok (.iconst 0, 1) := by decide +kernel
theorem dL_law_773 : decode cL_law 773 = .ok (.invokevirtual 100, 3) := by decide +kernel
theorem dL_law_776 : decode cL_law 776 = .ok (.if_icmp .eq 107, 3) := by decide +kernel
theorem dL_law_779 : decode cL_law 779 = .ok (.iconst 0, 1) := by decide +kernel
theorem dL_law_780 : decode cL_law 780 = .ok (.ireturn, 1) := by decide +kernel
theorem dL_law_781 : decode cL_law 781 = .ok (.aload_n 1, 1) := by decide +kernel
theorem dL_law_782 : decode cL_law 782 = .ok (.aload_n 0, 1) := by decide +kernel
theorem dL_law_783 : decode cL_law 783 = .ok (.iload_n 3, 1) := by decide +kernel
theorem dL_law_784 : decode cL_law 784 = .ok (.iconst 1, 1) := by decide +kernel
theorem dL_law_785 : decode cL_law 785 = .ok (.iadd, 1) := by decide +kernel
theorem dL_law_786 : decode cL_law 786 = .ok (.iaload, 1) := by decide +kernel
theorem dL_law_787 : decode cL_law 787 = .ok (.invokevirtual 101, 3) := by decide +kernel
theorem dL_law_790 : decode cL_law 790 = .ok (.aload_n 2, 1) := by decide +kernel
theorem dL_law_791 : decode cL_law 791 = .ok (.aload_n 0, 1) := by decide +kernel
theorem dL_law_792 : decode cL_law 792 = .ok (.iload_n 3, 1) := by decide +kernel
theorem dL_law_793 : decode cL_law 793 = .ok (.iconst 1, 1) := by decide +kernel
theorem dL_law_794 : decode cL_law 794 = .ok (.iadd, 1) := by decide +kernel
theorem dL_law_795 : decode cL_law 795 = .ok (.iaload, 1) := by decide +kernel
theorem dL_law_796 : decode cL_law 796 = .ok (.invokevirtual 104, 3) := by decide +kernel
theorem dL_law_799 : decode cL_law 799 = .ok (.if_icmp .eq 84, 3) := by decide +kernel
theorem dL_law_802 : decode cL_law 802 = .ok (.iconst 0, 1) := by decide +kernel
theorem dL_law_803 : decode cL_law 803 = .ok (.ireturn, 1) := by decide +kernel
theorem dL_law_804 : decode cL_law 804 = .ok (.aload_n 1, 1) := by decide +kernel
theorem dL_law_805 : decode cL_law 805 = .ok (.aload_n 0, 1) := by decide +kernel
theorem dL_law_806 : decode cL_law 806 = .ok (.iload_n 3, 1) := by decide +kernel
theorem dL_law_807 : decode cL_law 807 = .ok (.iconst 1, 1) := by decide +kernel
theorem dL_law_808 : decode cL_law 808 = .ok (.iadd, 1) := by decide +kernel
theorem dL_law_809 : decode cL_law 809 = .ok (.iaload, 1) := by decide +kernel
theorem dL_law_810 : decode cL_law 810 = .ok (.aload_n 0, 1) := by decide +kernel
theorem dL_law_811 : decode cL_law 811 = .ok (.iload_n 3, 1) := by decide +kernel
theorem dL_law_812 : decode cL_law 812 = .ok (.iconst 2, 1) := by decide +kernel
theorem dL_law_813 : decode cL_law 813 = .ok (.iadd, 1) := by decide +kernel
theorem dL_law_814 : decode cL_law 814 = .ok (.iaload, 1) := by decide +kernel
theorem dL_law_815 : decode cL_law 815 = .ok (.invokevirtual 105, 3) := by decide +kernel
theorem dL_law_818 : decode cL_law 818 = .ok (.aload_n 2, 1) := by decide +kernel
theorem dL_law_819 : decode cL_law 819 = .ok (.aload_n 0, 1) := by decide +kernel
theorem dL_law_820 : decode cL_law 820 = .ok (.iload_n 3, 1) := by decide +kernel
theorem dL_law_821 : decode cL_law 821 = .ok (.iconst 1, 1) := by decide +kernel
theorem dL_law_822 : decode cL_law 822 = .ok (.iadd, 1) := by decide +kernel
theorem dL_law_823 : decode cL_law 823 = .ok (.iaload, 1) := by decide +kernel
end
section
theorem dL_law_824 : decode cL_law 824 = .ok (.aload_n 0, 1) := by decide +kernel
theorem dL_law_825 : decode cL_law 825 = .ok (.iload_n 3, 1) := by decide +kernel
theorem dL_law_826 : decode cL_law 826 = .ok (.iconst 2, 1) := by decide +kernel
theorem dL_law_827 : decode cL_law 827 = .ok (.iadd, 1) := by decide +kernel
theorem dL_law_828 : decode cL_law 828 = .ok (.iaload, 1) := by decide +kernel
theorem dL_law_829 : decode cL_law 829 = .ok (.invokevirtual 108, 3) := by decide +kernel
theorem dL_law_832 : decode cL_law 832 = .ok (.if_icmp .eq 51, 3) := by decide +kernel
theorem dL_law_835 : decode cL_law 835 = .ok (.iconst 0, 1) := by decide +kernel
theorem dL_law_836 : decode cL_law 836 = .ok (.ireturn, 1) := by decide +kernel
theorem dL_law_837 : decode cL_law 837 = .ok (.aload_n 1, 1) := by decide +kernel
theorem dL_law_838 : decode cL_law 838 = .ok (.aload_n 0, 1) := by decide +kernel
theorem dL_law_839 : decode cL_law 839 = .ok (.iload_n 3, 1) := by decide +kernel
theorem dL_law_840 : decode cL_law 840 = .ok (.iconst 1, 1) := by decide +kernel
theorem dL_law_841 : decode cL_law 841 = .ok (.iadd, 1) := by decide +kernel
theorem dL_law_842 : decode cL_law 842 = .ok (.iaload, 1) := by decide +kernel
theorem dL_law_843 : decode cL_law 843 = .ok (.invokevirtual 109, 3) := by decide +kernel
theorem dL_law_846 : decode cL_law 846 = .ok (.aload_n 2, 1) := by decide +kernel
theorem dL_law_847 : decode cL_law 847 = .ok (.aload_n 0, 1) := by decide +kernel
theorem dL_law_848 : decode cL_law 848 = .ok (.iload_n 3, 1) := by decide +kernel
theorem dL_law_849 : decode cL_law 849 = .ok (.iconst 1, 1) := by decide +kernel
theorem dL_law_850 : decode cL_law 850 = .ok (.iadd, 1) := by decide +kernel
theorem dL_law_851 : decode cL_law 851 = .ok (.iaload, 1) := by decide +kernel
theorem dL_law_852 : decode cL_law 852 = .ok (.invokevirtual 112, 3) := by decide +kernel
theorem dL_law_855 : decode cL_law 855 = .ok (.if_icmp .eq 28, 3) := by decide +kernel
theorem dL_law_858 : decode cL_law 858 = .ok (.iconst 0, 1) := by decide +kernel
theorem dL_law_859 : decode cL_law 859 = .ok (.ireturn, 1) := by decide +kernel
theorem dL_law_860 : decode cL_law 860 = .ok (.aload_n 1, 1) := by decide +kernel
theorem dL_law_861 : decode cL_law 861 = .ok (.aload_n 0, 1) := by decide +kernel
theorem dL_law_862 : decode cL_law 862 = .ok (.iload_n 3, 1) := by decide +kernel
theorem dL_law_863 : decode cL_law 863 = .ok (.iconst 1, 1) := by decide +kernel
theorem dL_law_864 : decode cL_law 864 = .ok (.iadd, 1) := by decide +kernel
theorem dL_law_865 : decode cL_law 865 = .ok (.iaload, 1) := by decide +kernel
theorem dL_law_866 : decode cL_law 866 = .ok (.invokevirtual 113, 3) := by decide +kernel
theorem dL_law_869 : decode cL_law 869 = .ok (.aload_n 2, 1) := by decide +kernel
theorem dL_law_870 : decode cL_law 870 = .ok (.aload_n 0, 1) := by decide +kernel
theorem dL_law_871 : decode cL_law 871 = .ok (.iload_n 3, 1) := by decide +kernel
theorem dL_law_872 : decode cL_law 872 = .ok (.iconst 1, 1) := by decide +kernel
theorem dL_law_873 : decode cL_law 873 = .ok (.iadd, 1) := by decide +kernel
theorem dL_law_874 : decode cL_law 874 = .ok (.iaload, 1) := by decide +kernel
theorem dL_law_875 : decode cL_law 875 = .ok (.invokevirtual 116, 3) := by decide +kernel
theorem dL_law_878 : decode cL_law 878 = .ok (.if_icmp .eq 5, 3) := by decide +kernel
theorem dL_law_881 : decode cL_law 881 = .ok (.iconst 0, 1) := by decide +kernel
theorem dL_law_882 : decode cL_law 882 = .ok (.ireturn, 1) := by decide +kernel
theorem dL_law_883 : decode cL_law 883 = .ok (.iinc 3 6, 3) := by decide +kernel
theorem dL_law_886 : decode cL_law 886 = .ok (.goto (-868), 3) := by decide +kernel
theorem dL_law_889 : decode cL_law 889 = .ok (.iconst 1, 1) := by decide +kernel
theorem dL_law_890 : decode cL_law 890 = .ok (.ireturn, 1) := by decide +kernel
abbrev vwCl : List vw_C := [(RX0, TX0, 3), (RX1, TX1, 7), (RX2, TX2, 2), (RX3, TX3, 5), (RX4, TX4, 6), (RX5, TX5, 2), (RX6, TX6, 6), (RX7, TX7, 17)]
end
section
set_option maxRecDepth 20000 in
theorem wsL_law_r1_in : ∀ w ∈ wsL_law_r1, w ∈ lw_tbl := fun w h => (goodIn_p wsL_law_r1 [56, 59] (by decide +kernel) (by decide +kernel) w h).1
set_option maxRecDepth 20000 in
theorem wsL_law_r2_in : ∀ w ∈ wsL_law_r2, w ∈ lw_tbl := fun w h => (goodIn_p wsL_law_r2 [64] (by decide +kernel) (by decide +kernel) w h).1
set_option maxRecDepth 20000 in
theorem wsL_law_r3_in : ∀ w ∈ wsL_law_r3, w ∈ lw_tbl := fun w h => (goodIn_p wsL_law_r3 [69, 73, 115, 120, 144] (by decide +kernel) (by decide +kernel) w h).1
set_option maxRecDepth 20000 in
theorem wsL_law_r4_in : ∀ w ∈ wsL_law_r4, w ∈ lw_tbl := fun w h => (goodIn_p wsL_law_r4 [159, 187, 203] (by decide +kernel) (by decide +kernel) w h).1
set_option maxRecDepth 20000 in
theorem wsL_law_r5_in : ∀ w ∈ wsL_law_r5, w ∈ lw_tbl := fun w h => (goodIn_p wsL_law_r5 [593, 236] (by decide +kernel) (by decide +kernel) w h).1
set_option maxRecDepth 20000 in
theorem wsL_law_r6_in : ∀ w ∈ wsL_law_r6, w ∈ lw_tbl := fun w h => (goodIn_p wsL_law_r6 [242, 246, 651, 655] (by decide +kernel) (by decide +kernel) w h).1
set_option maxRecDepth 20000 in
theorem wsL_law_r7_in : ∀ w ∈ wsL_law_r7, w ∈ lw_tbl := fun w h => (goodIn_p wsL_law_r7 [250, 254, 659, 663, 259, 263] (by decide +kernel) (by decide +kernel) w h).1
set_option maxRecDepth 20000 in
theorem wsL_law_r8_in : ∀ w ∈ wsL_law_r8, w ∈ lw_tbl := fun w h => (goodIn_p wsL_law_r8 [267, 271, 275, 668, 672, 676] (by decide +kernel) (by decide +kernel) w h).1
set_option maxRecDepth 20000 in
theorem wsL_law_r9_in : ∀ w ∈ wsL_law_r9, w ∈ lw_tbl := fun w h => (goodIn_p wsL_law_r9 [279, 283, 287, 680, 684, 291] (by decide +kernel) (by decide +kernel) w h).1
set_option maxRecDepth 20000 in
theorem wsL_law_r10_in : ∀ w ∈ wsL_law_r10, w ∈ lw_tbl := fun w h => (goodIn_p wsL_law_r10 [295, 688, 299, 303, 307, 311] (by decide +kernel) (by decide +kernel) w h).1
set_option maxRecDepth 20000 in
theorem wsL_law_r11_in : ∀ w ∈ wsL_law_r11, w ∈ lw_tbl := fun w h => (goodIn_p wsL_law_r11 [315, 692, 319, 323, 327] (by decide +kernel) (by decide +kernel) w h).1
set_option maxRecDepth 20000 in
theorem wsL_law_r12_in : ∀ w ∈ wsL_law_r12, w ∈ lw_tbl := fun w h => (goodIn_p wsL_law_r12 [698, 331, 702, 335, 706, 340] (by decide +kernel) (by decide +kernel) w h).1
set_option maxRecDepth 20000 in
theorem wsL_law_r13_in : ∀ w ∈ wsL_law_r13, w ∈ lw_tbl := fun w h => (goodIn_p wsL_law_r13 [344, 710, 348, 352, 357, 361] (by decide +kernel) (by decide +kernel) w h).1
set_option maxRecDepth 20000 in
theorem wsL_law_r14_in : ∀ w ∈ wsL_law_r14, w ∈ lw_tbl := fun w h => (goodIn_p wsL_law_r14 [365, 369, 714, 718, 722, 726] (by decide +kernel) (by decide +kernel) w h).1
set_option maxRecDepth 20000 in
theorem wsL_law_r15_in : ∀ w ∈ wsL_law_r15, w ∈ lw_tbl := fun w h => (goodIn_p wsL_law_r15 [373, 377, 730, 381, 385, 734] (by decide +kernel) (by decide +kernel) w h).1
set_option maxRecDepth 20000 in
theorem wsL_law_r16_in : ∀ w ∈ wsL_law_r16, w ∈ lw_tbl := fun w h => (goodIn_p wsL_law_r16 [389, 393, 739, 397, 401, 405] (by decide +kernel) (by decide +kernel) w h).1
end
section
set_option maxRecDepth 20000 in
theorem wsL_law_r17_in : ∀ w ∈ wsL_law_r17, w ∈ lw_tbl := fun w h => (goodIn_p wsL_law_r17 [743, 747, 751, 755, 759, 409] (by decide +kernel) (by decide +kernel) w h).1
set_option maxRecDepth 20000 in
theorem wsL_law_r18_in : ∀ w ∈ wsL_law_r18, w ∈ lw_tbl := fun w h => (goodIn_p wsL_law_r18 [413, 418, 422, 427, 432] (by decide +kernel) (by decide +kernel) w h).1
set_option maxRecDepth 20000 in
theorem wsL_law_r19_in : ∀ w ∈ wsL_law_r19, w ∈ lw_tbl := fun w h => (goodIn_p wsL_law_r19 [436, 443, 447, 451, 458] (by decide +kernel) (by decide +kernel) w h).1
set_option maxRecDepth 20000 in
theorem wsL_law_r20_in : ∀ w ∈ wsL_law_r20, w ∈ lw_tbl := fun w h => (goodIn_p wsL_law_r20 [462, 466, 471, 475, 479] (by decide +kernel) (by decide +kernel) w h).1
set_option maxRecDepth 20000 in
theorem wsL_law_r21_in : ∀ w ∈ wsL_law_r21, w ∈ lw_tbl := fun w h => (goodIn_p wsL_law_r21 [483, 486, 490, 494, 498, 503] (by decide +kernel) (by decide +kernel) w h).1
set_option maxRecDepth 20000 in
theorem wsL_law_r22_in : ∀ w ∈ wsL_law_r22, w ∈ lw_tbl := fun w h => (goodIn_p wsL_law_r22 [511, 508, 515, 519, 524, 528] (by decide +kernel) (by decide +kernel) w h).1
set_option maxRecDepth 20000 in
theorem wsL_law_r23_in : ∀ w ∈ wsL_law_r23, w ∈ lw_tbl := fun w h => (goodIn_p wsL_law_r23 [763, 767, 775, 779, 783] (by decide +kernel) (by decide +kernel) w h).1
set_option maxRecDepth 20000 in
theorem wsL_law_r24_in : ∀ w ∈ wsL_law_r24, w ∈ lw_tbl := fun w h => (goodIn_p wsL_law_r24 [787, 791, 795, 799, 803, 532] (by decide +kernel) (by decide +kernel) w h).1
set_option maxRecDepth 20000 in
theorem wsL_law_r25_in : ∀ w ∈ wsL_law_r25, w ∈ lw_tbl := fun w h => (goodIn_p wsL_law_r25 [536, 540, 807, 544, 548, 552] (by decide +kernel) (by decide +kernel) w h).1
set_option maxRecDepth 20000 in
theorem wsL_law_r26_in : ∀ w ∈ wsL_law_r26, w ∈ lw_tbl := fun w h => (goodIn_p wsL_law_r26 [811, 815, 556, 560, 563, 819] (by decide +kernel) (by decide +kernel) w h).1
set_option maxRecDepth 20000 in
theorem wsL_law_r27_in : ∀ w ∈ wsL_law_r27, w ∈ lw_tbl := fun w h => (goodIn_p wsL_law_r27 [823, 827, 567, 831, 571, 576] (by decide +kernel) (by decide +kernel) w h).1
set_option maxRecDepth 20000 in
theorem wsL_law_r28_in : ∀ w ∈ wsL_law_r28, w ∈ lw_tbl := fun w h => (goodIn_p wsL_law_r28 [580, 835, 584, 839, 588, 843] (by decide +kernel) (by decide +kernel) w h).1
theorem wsX60_in : ∀ w ∈ wsX60, w ∈ lw_tbl := by decide +kernel
theorem wsX70_in : ∀ w ∈ wsX70, w ∈ lw_tbl := by decide +kernel
theorem wsX40_in : ∀ w ∈ wsX40, w ∈ lw_tbl := by decide +kernel
theorem wsX30_in : ∀ w ∈ wsX30, w ∈ lw_tbl := by decide +kernel
theorem wsX20_in : ∀ w ∈ wsX20, w ∈ lw_tbl := by decide +kernel
theorem wsX10_in : ∀ w ∈ wsX10, w ∈ lw_tbl := by decide +kernel
theorem wsX00_in : ∀ w ∈ wsX00, w ∈ lw_tbl := by decide +kernel
theorem wsX50_in : ∀ w ∈ wsX50, w ∈ lw_tbl := by decide +kernel
theorem mem_app2 {a b big : List Cond} (ha : ∀ w ∈ a, w ∈ big) (hb : ∀ w ∈ b, w ∈ big) : ∀ w ∈ a ++ b, w ∈ big := fun w h => (List.mem_append.mp h).elim (ha w) (hb w)
theorem wsL_law_in : ∀ w ∈ wsL_law, w ∈ lw_tbl := mem_app2 (mem_app2 (mem_app2 (mem_app2 (mem_app2 (mem_app2 (mem_app2 (mem_app2 (mem_app2 (mem_app2 (wsL_law_r1_in) (mem_app2 (wsL_law_r2_in) (mem_app2 (wsL_law_r3_in) (mem_app2 (wsL_law_r4_in) (mem_app2 (wsL_law_r5_in) (mem_app2 (wsL_law_r6_in) (mem_app2 (wsL_law_r7_in) (mem_app2 (wsL_law_r8_in) (mem_app2 (wsL_law_r9_in) (mem_app2 (wsL_law_r10_in) (mem_app2 (wsL_law_r11_in) (mem_app2 (wsL_law_r12_in) (mem_app2 (wsL_law_r13_in) (mem_app2 (wsL_law_r14_in) (mem_app2 (wsL_law_r15_in) (mem_app2 (wsL_law_r16_in) (mem_app2 (wsL_law_r17_in) (mem_app2 (wsL_law_r18_in) (mem_app2 (wsL_law_r19_in) (mem_app2 (wsL_law_r20_in) (mem_app2 (wsL_law_r21_in) (mem_app2 (wsL_law_r22_in) (mem_app2 (wsL_law_r23_in) (mem_app2 (wsL_law_r24_in) (mem_app2 (wsL_law_r25_in) (mem_app2 (wsL_law_r26_in) (mem_app2 (wsL_law_r27_in) (wsL_law_r28_in)))))))))))))))))))))))))))) (wsX60_in)) (wsX70_in)) (wsX40_in)) (wsX30_in)) (wsX20_in)) (wsX10_in)) (wsX00_in)) (wsX50_in)) ([] : List Cond_in)
theorem inlX0 : ∀ w ∈ wsX00, w ∈ wsL_law := fun _ h => List.mem_append_left _ (List.mem_append_left _ (List.mem_append_right _ h))
theorem inX0 : ∀ w ∈ wsX00, w ∈ lw_tbl := fun w h => wsL_law_in w (inlX0 w h)
theorem inlX1 : ∀ w ∈ wsX10, w ∈ wsL_law := fun _ h => List.mem_append_left _ (List.mem_append_left _ (List.mem_append_left _ (List.mem_append_right _ h)))
theorem inX1 : ∀ w ∈ wsX10, w ∈ lw_tbl := fun w h => wsL_law_in w (inlX1 w h)
theorem inlX2 : ∀ w ∈ wsX20, w ∈ wsL_law := fun _ h => List.mem_append_left _ (List.mem_append_left _ (List.mem_append_left _ (List.mem_append_left _ (List.mem_append_right _ h))))
theorem inX2 : ∀ w ∈ wsX20, w ∈ lw_tbl := fun w h => wsL_law_in w (inlX2 w h)
theorem inlX3 : ∀ w ∈ wsX30, w ∈ wsL_law := fun _ h => List.mem_append_left _ (List.mem_append_left _ (List.mem_append_left _ (List.mem_append_left _ (List.mem_append_left _ (List.mem_append_right _ h)))))
theorem inX3 : ∀ w ∈ wsX30, w ∈ lw_tbl := fun w h => wsL_law_in w (inlX3 w h)
theorem inlX4 : ∀ w ∈ wsX40, w ∈ wsL_law := fun _ h => List.mem_append_left _ (List.mem_append_left _ (List.mem_append_left _ (List.mem_append_left _ (List.mem_append_left _ (List.mem_append_left _ (List.mem_append_right _ h))))))
theorem inX4 : ∀ w ∈ wsX40, w ∈ lw_tbl := fun w h => wsL_law_in w (inlX4 w h)
theorem inlX5 : ∀ w ∈ wsX50, w ∈ wsL_law := fun _ h => List.mem_append_left _ (List.mem_append_right _ h)
theorem inX5 : ∀ w ∈ wsX50, w ∈ lw_tbl := fun w h => wsL_law_in w (inlX5 w h)
theorem inlX6 : ∀ w ∈ wsX60, w ∈ wsL_law := fun _ h => List.mem_append_left _ (List.mem_append_left _ (List.mem_append_left _ (List.mem_append_left _ (List.mem_append_left _ (List.mem_append_left _ (List.mem_append_left _ (List.mem_append_left _ (List.mem_append_right _ h))))))))
theorem inX6 : ∀ w ∈ wsX60, w ∈ lw_tbl := fun w h => wsL_law_in w (inlX6 w h)
theorem inlX7 : ∀ w ∈ wsX70, w ∈ wsL_law := fun _ h => List.mem_append_left _ (List.mem_append_left _ (List.mem_append_left _ (List.mem_append_left _ (List.mem_append_left _ (List.mem_append_left _ (List.mem_append_left _ (List.mem_append_right _ h)))))))
theorem inX7 : ∀ w ∈ wsX70, w ∈ lw_tbl := fun w h => wsL_law_in w (inlX7 w h)
theorem inJ9 : ∀ w ∈ wsJ90, w ∈ lw_tbl := by decide +kernel
end

section
-- ===== PART A: goes FIRST, ahead of the names: the tables' words, and 'selects' of the private methods out of them =====
/-- a private method of a class that the tables say can be made, by its rows of tables_1 -/
def lw_okq (q : MethodName × Nat) : Prop := (q.1.cls ≠ "java/lang/invoke/MethodHandle" ∧ q.1.cls ≠ "java/lang/invoke/VarHandle") ∧ Cond.instantiable q.1.cls q.2 ∈ tables_1 ∧ Cond.privateMethod q.1 ∈ tables_1 ∧ Cond.instanceMethod q.1 ∈ tables_1
theorem lw_p0 : lw_okq (⟨"BeatSlugs$Board", "makeSlug", "(II)I"⟩, 9) := ⟨⟨by decide +kernel, by decide +kernel⟩, List.mem_of_getElem? (i := 19) (by decide +kernel), List.mem_of_getElem? (i := 188) (by decide +kernel), List.mem_of_getElem? (i := 189) (by decide +kernel)⟩
theorem lw_p1 : lw_okq (⟨"BeatSlugs$Board", "lowestFree", "()I"⟩, 9) := ⟨⟨by decide +kernel, by decide +kernel⟩, List.mem_of_getElem? (i := 19) (by decide +kernel), List.mem_of_getElem? (i := 192) (by decide +kernel), List.mem_of_getElem? (i := 193) (by decide +kernel)⟩
theorem lw_p2 : lw_okq (⟨"BeatSlugs$Board", "putIn", "(II)V"⟩, 9) := ⟨⟨by decide +kernel, by decide +kernel⟩, List.mem_of_getElem? (i := 19) (by decide +kernel), List.mem_of_getElem? (i := 205) (by decide +kernel), List.mem_of_getElem? (i := 206) (by decide +kernel)⟩
theorem lw_p3 : lw_okq (⟨"BeatSlugs$Board", "takeOut", "(I)V"⟩, 9) := ⟨⟨by decide +kernel, by decide +kernel⟩, List.mem_of_getElem? (i := 19) (by decide +kernel), List.mem_of_getElem? (i := 225) (by decide +kernel), List.mem_of_getElem? (i := 226) (by decide +kernel)⟩
theorem lw_p4 : lw_okq (⟨"BeatSlugs$Board", "mayStandIn", "(II)Z"⟩, 9) := ⟨⟨by decide +kernel, by decide +kernel⟩, List.mem_of_getElem? (i := 19) (by decide +kernel), List.mem_of_getElem? (i := 298) (by decide +kernel), List.mem_of_getElem? (i := 299) (by decide +kernel)⟩
theorem lw_p5 : lw_okq (⟨"BeatSlugs$Board", "handOverNeeds", "(II)V"⟩, 9) := ⟨⟨by decide +kernel, by decide +kernel⟩, List.mem_of_getElem? (i := 19) (by decide +kernel), List.mem_of_getElem? (i := 329) (by decide +kernel), List.mem_of_getElem? (i := 330) (by decide +kernel)⟩
theorem lw_p6 : lw_okq (⟨"BeatSlugs$Board", "handOverTurn", "(II)V"⟩, 9) := ⟨⟨by decide +kernel, by decide +kernel⟩, List.mem_of_getElem? (i := 19) (by decide +kernel), List.mem_of_getElem? (i := 333) (by decide +kernel), List.mem_of_getElem? (i := 334) (by decide +kernel)⟩
theorem lw_p7 : lw_okq (⟨"BeatSlugs$SwapSearch", "tryAllBehind", "(LBeatSlugs$Board;I)V"⟩, 4) := ⟨⟨by decide +kernel, by decide +kernel⟩, List.mem_of_getElem? (i := 101) (by decide +kernel), List.mem_of_getElem? (i := 501) (by decide +kernel), List.mem_of_getElem? (i := 502) (by decide +kernel)⟩
theorem lw_p8 : lw_okq (⟨"BeatSlugs$SwapSearch", "tryOne", "(LBeatSlugs$Board;II)V"⟩, 4) := ⟨⟨by decide +kernel, by decide +kernel⟩, List.mem_of_getElem? (i := 101) (by decide +kernel), List.mem_of_getElem? (i := 507) (by decide +kernel), List.mem_of_getElem? (i := 508) (by decide +kernel)⟩
theorem lw_p9 : lw_okq (⟨"BeatSlugs$SwapSearch", "exchange", "(II)V"⟩, 4) := ⟨⟨by decide +kernel, by decide +kernel⟩, List.mem_of_getElem? (i := 101) (by decide +kernel), List.mem_of_getElem? (i := 511) (by decide +kernel), List.mem_of_getElem? (i := 512) (by decide +kernel)⟩
theorem lw_p10 : lw_okq (⟨"BeatSlugs$Pad", "addSign", "(C)V"⟩, 7) := ⟨⟨by decide +kernel, by decide +kernel⟩, List.mem_of_getElem? (i := 72) (by decide +kernel), List.mem_of_getElem? (i := 572) (by decide +kernel), List.mem_of_getElem? (i := 573) (by decide +kernel)⟩
theorem lw_p11 : lw_okq (⟨"BeatSlugs$Pad", "signAt", "(I)C"⟩, 7) := ⟨⟨by decide +kernel, by decide +kernel⟩, List.mem_of_getElem? (i := 72) (by decide +kernel), List.mem_of_getElem? (i := 600) (by decide +kernel), List.mem_of_getElem? (i := 601) (by decide +kernel)⟩
theorem lw_p12 : lw_okq (⟨"BeatSlugs$Pad", "readSlug", "()Z"⟩, 7) := ⟨⟨by decide +kernel, by decide +kernel⟩, List.mem_of_getElem? (i := 72) (by decide +kernel), List.mem_of_getElem? (i := 604) (by decide +kernel), List.mem_of_getElem? (i := 605) (by decide +kernel)⟩
theorem lw_p13 : lw_okq (⟨"BeatSlugs$Pad", "readNumber", "()I"⟩, 7) := ⟨⟨by decide +kernel, by decide +kernel⟩, List.mem_of_getElem? (i := 72) (by decide +kernel), List.mem_of_getElem? (i := 608) (by decide +kernel), List.mem_of_getElem? (i := 609) (by decide +kernel)⟩
theorem lw_p14 : lw_okq (⟨"BeatSlugs$Pad", "readDigit", "()I"⟩, 7) := ⟨⟨by decide +kernel, by decide +kernel⟩, List.mem_of_getElem? (i := 72) (by decide +kernel), List.mem_of_getElem? (i := 612) (by decide +kernel), List.mem_of_getElem? (i := 613) (by decide +kernel)⟩
theorem lw_p15 : lw_okq (⟨"BeatSlugs$Pad", "skip", "(C)Z"⟩, 7) := ⟨⟨by decide +kernel, by decide +kernel⟩, List.mem_of_getElem? (i := 72) (by decide +kernel), List.mem_of_getElem? (i := 616) (by decide +kernel), List.mem_of_getElem? (i := 617) (by decide +kernel)⟩
def lw_privs_1 : List (MethodName × Nat) := [(⟨"BeatSlugs$Board", "makeSlug", "(II)I"⟩, 9), (⟨"BeatSlugs$Board", "lowestFree", "()I"⟩, 9), (⟨"BeatSlugs$Board", "putIn", "(II)V"⟩, 9), (⟨"BeatSlugs$Board", "takeOut", "(I)V"⟩, 9), (⟨"BeatSlugs$Board", "mayStandIn", "(II)Z"⟩, 9), (⟨"BeatSlugs$Board", "handOverNeeds", "(II)V"⟩, 9), (⟨"BeatSlugs$Board", "handOverTurn", "(II)V"⟩, 9), (⟨"BeatSlugs$SwapSearch", "tryAllBehind", "(LBeatSlugs$Board;I)V"⟩, 4), (⟨"BeatSlugs$SwapSearch", "tryOne", "(LBeatSlugs$Board;II)V"⟩, 4), (⟨"BeatSlugs$SwapSearch", "exchange", "(II)V"⟩, 4), (⟨"BeatSlugs$Pad", "addSign", "(C)V"⟩, 7), (⟨"BeatSlugs$Pad", "signAt", "(I)C"⟩, 7), (⟨"BeatSlugs$Pad", "readSlug", "()Z"⟩, 7), (⟨"BeatSlugs$Pad", "readNumber", "()I"⟩, 7), (⟨"BeatSlugs$Pad", "readDigit", "()I"⟩, 7), (⟨"BeatSlugs$Pad", "skip", "(C)Z"⟩, 7)]
theorem lw_r1 : ∀ q ∈ lw_privs_1, lw_okq q := List.forall_mem_cons.mpr ⟨lw_p0, List.forall_mem_cons.mpr ⟨lw_p1, List.forall_mem_cons.mpr ⟨lw_p2, List.forall_mem_cons.mpr ⟨lw_p3, List.forall_mem_cons.mpr ⟨lw_p4, List.forall_mem_cons.mpr ⟨lw_p5, List.forall_mem_cons.mpr ⟨lw_p6, List.forall_mem_cons.mpr ⟨lw_p7, List.forall_mem_cons.mpr ⟨lw_p8, List.forall_mem_cons.mpr ⟨lw_p9, List.forall_mem_cons.mpr ⟨lw_p10, List.forall_mem_cons.mpr ⟨lw_p11, List.forall_mem_cons.mpr ⟨lw_p12, List.forall_mem_cons.mpr ⟨lw_p13, List.forall_mem_cons.mpr ⟨lw_p14, List.forall_mem_cons.mpr ⟨lw_p15, fun _ h => absurd h List.not_mem_nil⟩⟩⟩⟩⟩⟩⟩⟩⟩⟩⟩⟩⟩⟩⟩⟩
theorem lw_p16 : lw_okq (⟨"BeatSlugs$Pad", "readPair", "(C)Z"⟩, 7) := ⟨⟨by decide +kernel, by decide +kernel⟩, List.mem_of_getElem? (i := 72) (by decide +kernel), List.mem_of_getElem? (i := 620) (by decide +kernel), List.mem_of_getElem? (i := 621) (by decide +kernel)⟩
theorem lw_p17 : lw_okq (⟨"BeatSlugs$Pad", "readAct", "()Z"⟩, 7) := ⟨⟨by decide +kernel, by decide +kernel⟩, List.mem_of_getElem? (i := 72) (by decide +kernel), List.mem_of_getElem? (i := 624) (by decide +kernel), List.mem_of_getElem? (i := 625) (by decide +kernel)⟩
theorem lw_p18 : lw_okq (⟨"BeatSlugs", "carryOrder", "()I"⟩, 5) := ⟨⟨by decide +kernel, by decide +kernel⟩, List.mem_of_getElem? (i := 11) (by decide +kernel), List.mem_of_getElem? (i := 634) (by decide +kernel), List.mem_of_getElem? (i := 635) (by decide +kernel)⟩
theorem lw_p19 : lw_okq (⟨"BeatSlugsModel", "record", "([I)V"⟩, 14) := ⟨⟨by decide +kernel, by decide +kernel⟩, List.mem_of_getElem? (i := 669) (by decide +kernel), List.mem_of_getElem? (i := 729) (by decide +kernel), List.mem_of_getElem? (i := 730) (by decide +kernel)⟩
theorem lw_p20 : lw_okq (⟨"BeatSlugsModel", "begins", "()V"⟩, 14) := ⟨⟨by decide +kernel, by decide +kernel⟩, List.mem_of_getElem? (i := 669) (by decide +kernel), List.mem_of_getElem? (i := 744) (by decide +kernel), List.mem_of_getElem? (i := 745) (by decide +kernel)⟩
theorem lw_p21 : lw_okq (⟨"BeatSlugsModel", "doSlug", "(III)I"⟩, 14) := ⟨⟨by decide +kernel, by decide +kernel⟩, List.mem_of_getElem? (i := 669) (by decide +kernel), List.mem_of_getElem? (i := 748) (by decide +kernel), List.mem_of_getElem? (i := 749) (by decide +kernel)⟩
theorem lw_p22 : lw_okq (⟨"BeatSlugsModel", "freeNumber", "()I"⟩, 14) := ⟨⟨by decide +kernel, by decide +kernel⟩, List.mem_of_getElem? (i := 669) (by decide +kernel), List.mem_of_getElem? (i := 752) (by decide +kernel), List.mem_of_getElem? (i := 753) (by decide +kernel)⟩
theorem lw_p23 : lw_okq (⟨"BeatSlugsModel", "get", "(II)I"⟩, 14) := ⟨⟨by decide +kernel, by decide +kernel⟩, List.mem_of_getElem? (i := 669) (by decide +kernel), List.mem_of_getElem? (i := 756) (by decide +kernel), List.mem_of_getElem? (i := 757) (by decide +kernel)⟩
theorem lw_p24 : lw_okq (⟨"BeatSlugsModel", "lay", "(III)V"⟩, 14) := ⟨⟨by decide +kernel, by decide +kernel⟩, List.mem_of_getElem? (i := 669) (by decide +kernel), List.mem_of_getElem? (i := 760) (by decide +kernel), List.mem_of_getElem? (i := 761) (by decide +kernel)⟩
theorem lw_p25 : lw_okq (⟨"BeatSlugsModel", "putIn", "(II)V"⟩, 14) := ⟨⟨by decide +kernel, by decide +kernel⟩, List.mem_of_getElem? (i := 669) (by decide +kernel), List.mem_of_getElem? (i := 764) (by decide +kernel), List.mem_of_getElem? (i := 765) (by decide +kernel)⟩
theorem lw_p26 : lw_okq (⟨"BeatSlugsModel", "ends", "(I)I"⟩, 14) := ⟨⟨by decide +kernel, by decide +kernel⟩, List.mem_of_getElem? (i := 669) (by decide +kernel), List.mem_of_getElem? (i := 768) (by decide +kernel), List.mem_of_getElem? (i := 769) (by decide +kernel)⟩
theorem lw_p27 : lw_okq (⟨"BeatSlugsModel", "isSlug", "(I)Z"⟩, 14) := ⟨⟨by decide +kernel, by decide +kernel⟩, List.mem_of_getElem? (i := 669) (by decide +kernel), List.mem_of_getElem? (i := 776) (by decide +kernel), List.mem_of_getElem? (i := 777) (by decide +kernel)⟩
theorem lw_p28 : lw_okq (⟨"BeatSlugsModel", "placeOf", "(I)I"⟩, 14) := ⟨⟨by decide +kernel, by decide +kernel⟩, List.mem_of_getElem? (i := 669) (by decide +kernel), List.mem_of_getElem? (i := 780) (by decide +kernel), List.mem_of_getElem? (i := 781) (by decide +kernel)⟩
theorem lw_p29 : lw_okq (⟨"BeatSlugsModel", "takeOut", "(I)V"⟩, 14) := ⟨⟨by decide +kernel, by decide +kernel⟩, List.mem_of_getElem? (i := 669) (by decide +kernel), List.mem_of_getElem? (i := 784) (by decide +kernel), List.mem_of_getElem? (i := 785) (by decide +kernel)⟩
theorem lw_p30 : lw_okq (⟨"BeatSlugsModel", "doNeed", "(II)I"⟩, 14) := ⟨⟨by decide +kernel, by decide +kernel⟩, List.mem_of_getElem? (i := 669) (by decide +kernel), List.mem_of_getElem? (i := 796) (by decide +kernel), List.mem_of_getElem? (i := 797) (by decide +kernel)⟩
theorem lw_p31 : lw_okq (⟨"BeatSlugsModel", "doTrim", "(II)I"⟩, 14) := ⟨⟨by decide +kernel, by decide +kernel⟩, List.mem_of_getElem? (i := 669) (by decide +kernel), List.mem_of_getElem? (i := 810) (by decide +kernel), List.mem_of_getElem? (i := 811) (by decide +kernel)⟩
def lw_privs_2 : List (MethodName × Nat) := [(⟨"BeatSlugs$Pad", "readPair", "(C)Z"⟩, 7), (⟨"BeatSlugs$Pad", "readAct", "()Z"⟩, 7), (⟨"BeatSlugs", "carryOrder", "()I"⟩, 5), (⟨"BeatSlugsModel", "record", "([I)V"⟩, 14), (⟨"BeatSlugsModel", "begins", "()V"⟩, 14), (⟨"BeatSlugsModel", "doSlug", "(III)I"⟩, 14), (⟨"BeatSlugsModel", "freeNumber", "()I"⟩, 14), (⟨"BeatSlugsModel", "get", "(II)I"⟩, 14), (⟨"BeatSlugsModel", "lay", "(III)V"⟩, 14), (⟨"BeatSlugsModel", "putIn", "(II)V"⟩, 14), (⟨"BeatSlugsModel", "ends", "(I)I"⟩, 14), (⟨"BeatSlugsModel", "isSlug", "(I)Z"⟩, 14), (⟨"BeatSlugsModel", "placeOf", "(I)I"⟩, 14), (⟨"BeatSlugsModel", "takeOut", "(I)V"⟩, 14), (⟨"BeatSlugsModel", "doNeed", "(II)I"⟩, 14), (⟨"BeatSlugsModel", "doTrim", "(II)I"⟩, 14)]
theorem lw_r2 : ∀ q ∈ lw_privs_2, lw_okq q := List.forall_mem_cons.mpr ⟨lw_p16, List.forall_mem_cons.mpr ⟨lw_p17, List.forall_mem_cons.mpr ⟨lw_p18, List.forall_mem_cons.mpr ⟨lw_p19, List.forall_mem_cons.mpr ⟨lw_p20, List.forall_mem_cons.mpr ⟨lw_p21, List.forall_mem_cons.mpr ⟨lw_p22, List.forall_mem_cons.mpr ⟨lw_p23, List.forall_mem_cons.mpr ⟨lw_p24, List.forall_mem_cons.mpr ⟨lw_p25, List.forall_mem_cons.mpr ⟨lw_p26, List.forall_mem_cons.mpr ⟨lw_p27, List.forall_mem_cons.mpr ⟨lw_p28, List.forall_mem_cons.mpr ⟨lw_p29, List.forall_mem_cons.mpr ⟨lw_p30, List.forall_mem_cons.mpr ⟨lw_p31, fun _ h => absurd h List.not_mem_nil⟩⟩⟩⟩⟩⟩⟩⟩⟩⟩⟩⟩⟩⟩⟩⟩
theorem lw_p32 : lw_okq (⟨"BeatSlugsModel", "canTrim", "(I)I"⟩, 14) := ⟨⟨by decide +kernel, by decide +kernel⟩, List.mem_of_getElem? (i := 669) (by decide +kernel), List.mem_of_getElem? (i := 814) (by decide +kernel), List.mem_of_getElem? (i := 815) (by decide +kernel)⟩
theorem lw_p33 : lw_okq (⟨"BeatSlugsModel", "leastBeats", "(I)I"⟩, 14) := ⟨⟨by decide +kernel, by decide +kernel⟩, List.mem_of_getElem? (i := 669) (by decide +kernel), List.mem_of_getElem? (i := 818) (by decide +kernel), List.mem_of_getElem? (i := 819) (by decide +kernel)⟩
theorem lw_p34 : lw_okq (⟨"BeatSlugsModel", "doMove", "(II)I"⟩, 14) := ⟨⟨by decide +kernel, by decide +kernel⟩, List.mem_of_getElem? (i := 669) (by decide +kernel), List.mem_of_getElem? (i := 830) (by decide +kernel), List.mem_of_getElem? (i := 831) (by decide +kernel)⟩
theorem lw_p35 : lw_okq (⟨"BeatSlugsModel", "isOrdered", "()Z"⟩, 14) := ⟨⟨by decide +kernel, by decide +kernel⟩, List.mem_of_getElem? (i := 669) (by decide +kernel), List.mem_of_getElem? (i := 834) (by decide +kernel), List.mem_of_getElem? (i := 835) (by decide +kernel)⟩
theorem lw_p36 : lw_okq (⟨"BeatSlugsModel", "doSwap", "(II)I"⟩, 14) := ⟨⟨by decide +kernel, by decide +kernel⟩, List.mem_of_getElem? (i := 669) (by decide +kernel), List.mem_of_getElem? (i := 842) (by decide +kernel), List.mem_of_getElem? (i := 843) (by decide +kernel)⟩
theorem lw_p37 : lw_okq (⟨"BeatSlugsModel", "doSplit", "(II)I"⟩, 14) := ⟨⟨by decide +kernel, by decide +kernel⟩, List.mem_of_getElem? (i := 669) (by decide +kernel), List.mem_of_getElem? (i := 853) (by decide +kernel), List.mem_of_getElem? (i := 854) (by decide +kernel)⟩
theorem lw_p38 : lw_okq (⟨"BeatSlugsModel", "doFit", "(I)I"⟩, 14) := ⟨⟨by decide +kernel, by decide +kernel⟩, List.mem_of_getElem? (i := 669) (by decide +kernel), List.mem_of_getElem? (i := 861) (by decide +kernel), List.mem_of_getElem? (i := 862) (by decide +kernel)⟩
theorem lw_p39 : lw_okq (⟨"BeatSlugsModel", "acts", "()I"⟩, 14) := ⟨⟨by decide +kernel, by decide +kernel⟩, List.mem_of_getElem? (i := 669) (by decide +kernel), List.mem_of_getElem? (i := 865) (by decide +kernel), List.mem_of_getElem? (i := 866) (by decide +kernel)⟩
theorem lw_p40 : lw_okq (⟨"BeatSlugsModel", "actAt", "(I)I"⟩, 14) := ⟨⟨by decide +kernel, by decide +kernel⟩, List.mem_of_getElem? (i := 669) (by decide +kernel), List.mem_of_getElem? (i := 869) (by decide +kernel), List.mem_of_getElem? (i := 870) (by decide +kernel)⟩
theorem lw_p41 : lw_okq (⟨"BeatSlugsModel", "off", "(I)I"⟩, 14) := ⟨⟨by decide +kernel, by decide +kernel⟩, List.mem_of_getElem? (i := 669) (by decide +kernel), List.mem_of_getElem? (i := 873) (by decide +kernel), List.mem_of_getElem? (i := 874) (by decide +kernel)⟩
theorem lw_p42 : lw_okq (⟨"BeatSlugsModel", "sumOf", "(II)I"⟩, 14) := ⟨⟨by decide +kernel, by decide +kernel⟩, List.mem_of_getElem? (i := 669) (by decide +kernel), List.mem_of_getElem? (i := 877) (by decide +kernel), List.mem_of_getElem? (i := 878) (by decide +kernel)⟩
theorem lw_p43 : lw_okq (⟨"BeatSlugsModel", "targetOf", "(I)I"⟩, 14) := ⟨⟨by decide +kernel, by decide +kernel⟩, List.mem_of_getElem? (i := 669) (by decide +kernel), List.mem_of_getElem? (i := 881) (by decide +kernel), List.mem_of_getElem? (i := 882) (by decide +kernel)⟩
theorem lw_p44 : lw_okq (⟨"BeatSlugsModel", "neededBy", "(I)I"⟩, 14) := ⟨⟨by decide +kernel, by decide +kernel⟩, List.mem_of_getElem? (i := 669) (by decide +kernel), List.mem_of_getElem? (i := 889) (by decide +kernel), List.mem_of_getElem? (i := 890) (by decide +kernel)⟩
theorem lw_p45 : lw_okq (⟨"BeatSlugsModel", "begin", "(I)I"⟩, 14) := ⟨⟨by decide +kernel, by decide +kernel⟩, List.mem_of_getElem? (i := 669) (by decide +kernel), List.mem_of_getElem? (i := 893) (by decide +kernel), List.mem_of_getElem? (i := 894) (by decide +kernel)⟩
theorem lw_p46 : lw_okq (⟨"BeatSlugsModel", "fits", "(I)Z"⟩, 14) := ⟨⟨by decide +kernel, by decide +kernel⟩, List.mem_of_getElem? (i := 669) (by decide +kernel), List.mem_of_getElem? (i := 909) (by decide +kernel), List.mem_of_getElem? (i := 910) (by decide +kernel)⟩
theorem lw_p47 : lw_okq (⟨"BeatSlugsModel", "isOpen", "(I)Z"⟩, 14) := ⟨⟨by decide +kernel, by decide +kernel⟩, List.mem_of_getElem? (i := 669) (by decide +kernel), List.mem_of_getElem? (i := 913) (by decide +kernel), List.mem_of_getElem? (i := 914) (by decide +kernel)⟩
def lw_privs_3 : List (MethodName × Nat) := [(⟨"BeatSlugsModel", "canTrim", "(I)I"⟩, 14), (⟨"BeatSlugsModel", "leastBeats", "(I)I"⟩, 14), (⟨"BeatSlugsModel", "doMove", "(II)I"⟩, 14), (⟨"BeatSlugsModel", "isOrdered", "()Z"⟩, 14), (⟨"BeatSlugsModel", "doSwap", "(II)I"⟩, 14), (⟨"BeatSlugsModel", "doSplit", "(II)I"⟩, 14), (⟨"BeatSlugsModel", "doFit", "(I)I"⟩, 14), (⟨"BeatSlugsModel", "acts", "()I"⟩, 14), (⟨"BeatSlugsModel", "actAt", "(I)I"⟩, 14), (⟨"BeatSlugsModel", "off", "(I)I"⟩, 14), (⟨"BeatSlugsModel", "sumOf", "(II)I"⟩, 14), (⟨"BeatSlugsModel", "targetOf", "(I)I"⟩, 14), (⟨"BeatSlugsModel", "neededBy", "(I)I"⟩, 14), (⟨"BeatSlugsModel", "begin", "(I)I"⟩, 14), (⟨"BeatSlugsModel", "fits", "(I)Z"⟩, 14), (⟨"BeatSlugsModel", "isOpen", "(I)Z"⟩, 14)]
theorem lw_r3 : ∀ q ∈ lw_privs_3, lw_okq q := List.forall_mem_cons.mpr ⟨lw_p32, List.forall_mem_cons.mpr ⟨lw_p33, List.forall_mem_cons.mpr ⟨lw_p34, List.forall_mem_cons.mpr ⟨lw_p35, List.forall_mem_cons.mpr ⟨lw_p36, List.forall_mem_cons.mpr ⟨lw_p37, List.forall_mem_cons.mpr ⟨lw_p38, List.forall_mem_cons.mpr ⟨lw_p39, List.forall_mem_cons.mpr ⟨lw_p40, List.forall_mem_cons.mpr ⟨lw_p41, List.forall_mem_cons.mpr ⟨lw_p42, List.forall_mem_cons.mpr ⟨lw_p43, List.forall_mem_cons.mpr ⟨lw_p44, List.forall_mem_cons.mpr ⟨lw_p45, List.forall_mem_cons.mpr ⟨lw_p46, List.forall_mem_cons.mpr ⟨lw_p47, fun _ h => absurd h List.not_mem_nil⟩⟩⟩⟩⟩⟩⟩⟩⟩⟩⟩⟩⟩⟩⟩⟩
theorem lw_p48 : lw_okq (⟨"BeatSlugsModel", "beginOfAct", "(I)I"⟩, 14) := ⟨⟨by decide +kernel, by decide +kernel⟩, List.mem_of_getElem? (i := 669) (by decide +kernel), List.mem_of_getElem? (i := 917) (by decide +kernel), List.mem_of_getElem? (i := 918) (by decide +kernel)⟩
theorem lw_p49 : lw_okq (⟨"BeatSlugsModel", "slugs", "()I"⟩, 14) := ⟨⟨by decide +kernel, by decide +kernel⟩, List.mem_of_getElem? (i := 669) (by decide +kernel), List.mem_of_getElem? (i := 925) (by decide +kernel), List.mem_of_getElem? (i := 926) (by decide +kernel)⟩
theorem lw_p50 : lw_okq (⟨"BeatSlugsModel", "allOff", "()I"⟩, 14) := ⟨⟨by decide +kernel, by decide +kernel⟩, List.mem_of_getElem? (i := 669) (by decide +kernel), List.mem_of_getElem? (i := 929) (by decide +kernel), List.mem_of_getElem? (i := 930) (by decide +kernel)⟩
theorem lw_p51 : lw_okq (⟨"BeatSlugsModel", "fitting", "()I"⟩, 14) := ⟨⟨by decide +kernel, by decide +kernel⟩, List.mem_of_getElem? (i := 669) (by decide +kernel), List.mem_of_getElem? (i := 933) (by decide +kernel), List.mem_of_getElem? (i := 934) (by decide +kernel)⟩
theorem lw_p52 : lw_okq (⟨"BeatSlugsModel", "longest", "()I"⟩, 14) := ⟨⟨by decide +kernel, by decide +kernel⟩, List.mem_of_getElem? (i := 669) (by decide +kernel), List.mem_of_getElem? (i := 937) (by decide +kernel), List.mem_of_getElem? (i := 938) (by decide +kernel)⟩
theorem lw_p53 : lw_okq (⟨"BeatSlugsModel", "readPad", "(Z)Z"⟩, 14) := ⟨⟨by decide +kernel, by decide +kernel⟩, List.mem_of_getElem? (i := 669) (by decide +kernel), List.mem_of_getElem? (i := 974) (by decide +kernel), List.mem_of_getElem? (i := 975) (by decide +kernel)⟩
theorem lw_p54 : lw_okq (⟨"BeatSlugsModel", "readOrder", "()Z"⟩, 14) := ⟨⟨by decide +kernel, by decide +kernel⟩, List.mem_of_getElem? (i := 669) (by decide +kernel), List.mem_of_getElem? (i := 978) (by decide +kernel), List.mem_of_getElem? (i := 979) (by decide +kernel)⟩
theorem lw_p55 : lw_okq (⟨"BeatSlugsModel", "isNext", "(II)Z"⟩, 14) := ⟨⟨by decide +kernel, by decide +kernel⟩, List.mem_of_getElem? (i := 669) (by decide +kernel), List.mem_of_getElem? (i := 982) (by decide +kernel), List.mem_of_getElem? (i := 983) (by decide +kernel)⟩
theorem lw_p56 : lw_okq (⟨"BeatSlugsModel", "readNumber", "()I"⟩, 14) := ⟨⟨by decide +kernel, by decide +kernel⟩, List.mem_of_getElem? (i := 669) (by decide +kernel), List.mem_of_getElem? (i := 986) (by decide +kernel), List.mem_of_getElem? (i := 987) (by decide +kernel)⟩
theorem lw_p57 : lw_okq (⟨"BeatSlugsModel", "takes", "(I)Z"⟩, 14) := ⟨⟨by decide +kernel, by decide +kernel⟩, List.mem_of_getElem? (i := 669) (by decide +kernel), List.mem_of_getElem? (i := 990) (by decide +kernel), List.mem_of_getElem? (i := 991) (by decide +kernel)⟩
theorem lw_p58 : lw_okq (⟨"BeatSlugsModel", "does", "()I"⟩, 14) := ⟨⟨by decide +kernel, by decide +kernel⟩, List.mem_of_getElem? (i := 669) (by decide +kernel), List.mem_of_getElem? (i := 997) (by decide +kernel), List.mem_of_getElem? (i := 998) (by decide +kernel)⟩
def lw_privs_4 : List (MethodName × Nat) := [(⟨"BeatSlugsModel", "beginOfAct", "(I)I"⟩, 14), (⟨"BeatSlugsModel", "slugs", "()I"⟩, 14), (⟨"BeatSlugsModel", "allOff", "()I"⟩, 14), (⟨"BeatSlugsModel", "fitting", "()I"⟩, 14), (⟨"BeatSlugsModel", "longest", "()I"⟩, 14), (⟨"BeatSlugsModel", "readPad", "(Z)Z"⟩, 14), (⟨"BeatSlugsModel", "readOrder", "()Z"⟩, 14), (⟨"BeatSlugsModel", "isNext", "(II)Z"⟩, 14), (⟨"BeatSlugsModel", "readNumber", "()I"⟩, 14), (⟨"BeatSlugsModel", "takes", "(I)Z"⟩, 14), (⟨"BeatSlugsModel", "does", "()I"⟩, 14)]
theorem lw_r4 : ∀ q ∈ lw_privs_4, lw_okq q := List.forall_mem_cons.mpr ⟨lw_p48, List.forall_mem_cons.mpr ⟨lw_p49, List.forall_mem_cons.mpr ⟨lw_p50, List.forall_mem_cons.mpr ⟨lw_p51, List.forall_mem_cons.mpr ⟨lw_p52, List.forall_mem_cons.mpr ⟨lw_p53, List.forall_mem_cons.mpr ⟨lw_p54, List.forall_mem_cons.mpr ⟨lw_p55, List.forall_mem_cons.mpr ⟨lw_p56, List.forall_mem_cons.mpr ⟨lw_p57, List.forall_mem_cons.mpr ⟨lw_p58, fun _ h => absurd h List.not_mem_nil⟩⟩⟩⟩⟩⟩⟩⟩⟩⟩⟩
def lw_privs : List (MethodName × Nat) := lw_privs_1 ++ (lw_privs_2 ++ (lw_privs_3 ++ (lw_privs_4)))
def lw_tbl : List Cond := k2_sels lw_privs ++ tables_1
theorem lw_privs_ok : ∀ q ∈ lw_privs, lw_okq q := by
  show ∀ q ∈ lw_privs_1 ++ (lw_privs_2 ++ (lw_privs_3 ++ (lw_privs_4))), lw_okq q
  exact List.forall_mem_append.mpr ⟨lw_r1, List.forall_mem_append.mpr ⟨lw_r2, List.forall_mem_append.mpr ⟨lw_r3, lw_r4⟩⟩⟩
end
section
/-! THE ABSTRACT MACHINE. A heap is a list of cells (the place in the list is the reference); arrays are functions; the three arrays that are never written (the script, LEAST_SETTING, MOST_SETTING) stand outside it, as .retAddr 0, 1, 2.
Its one theorem (part 05) says that what it computes the Java machine computes, with the kit's contracts; all that is said of the program then is said of this machine. -/
abbrev axE : Type := Nat × Nat × Value × Nat × Nat × List (Int32 × Nat) × Nat
abbrev axC : Type := (Nat × Nat × (Nat → Int32)) ⊕ ((Nat × (Nat → Option Nat)) ⊕ (Nat × List Value))
abbrev axH : Type := List axC
abbrev axL : Type := List (Option Value)
abbrev axRo : Type := Nat → Nat × (Nat → Int32)
abbrev axCall : Type := Nat → List Value → axH → Option Value → axH → Prop
def axF : List axE → Nat → Option axE
  | [], _ => none
  | e :: l, pc => bif Nat.beq e.1 pc then some e else axF l pc
def axG : axL → Nat → Option Value
  | [], _ => none
  | v :: _, 0 => v
  | _ :: l, n + 1 => axG l n
def axP : axL → Nat → Value → Option axL
  | [], _, _ => none
  | _ :: l, 0, v => some (some v :: l)
  | w :: l, n + 1, v => match n, w with
    | 0, some (.long _) => none
    | 0, some (.double _) => none
    | _, _ => match axP l n v with
      | some l' => some (w :: l')
      | none => none
def axStp (op : Nat) (a : Value) (b : Nat) (L : axL) (S : List Value) : Option (axL × List Value) :=
  match op with
  | 0 => some (L, a :: S)
  | 1 => match axG L b with
    | some (.int x) => some (L, .int x :: S)
    | _ => none
  | 2 => match axG L b with
    | some (.ref x) => some (L, .ref x :: S)
    | some .null => some (L, .null :: S)
    | some (.retAddr x) => some (L, .retAddr x :: S)
    | _ => none
  | 3 => match axG L b with
    | some (.long x) => some (L, .long x :: S)
    | _ => none
  | 4 => match S with
    | .int x :: S' => match axP L b (.int x) with
      | some L' => some (L', S')
      | none => none
    | _ => none
  | 5 => match S with
    | .ref x :: S' => match axP L b (.ref x) with
      | some L' => some (L', S')
      | none => none
    | _ => none
  | 6 => match a with
    | .int k => match axG L b with
      | some (.int x) => match axP L b (.int (x + k)) with
        | some L' => some (L', S)
        | none => none
      | _ => none
    | _ => none
  | 7 => match S with
    | .int x :: S' => some (L, .int x :: .int x :: S')
    | .ref x :: S' => some (L, .ref x :: .ref x :: S')
    | _ => none
  | 8 => match S with
    | .int _ :: S' => some (L, S')
    | .ref _ :: S' => some (L, S')
    | _ => none
  | 9 => some (L, S)
  | 10 => match S with
    | .int y :: .ref x :: S' => some (L, .int y :: .ref x :: .int y :: .ref x :: S')
    | _ => none
  | 11 => match S with
    | .int y :: .int x :: S' => some (L, .int (x + y) :: S')
    | _ => none
  | 12 => match S with
    | .int y :: .int x :: S' => some (L, .int (x - y) :: S')
    | _ => none
  | 13 => match S with
    | .int y :: .int x :: S' => some (L, .int (x * y) :: S')
    | _ => none
  | 14 => match S with
    | .int y :: .int x :: S' => some (L, .int (x &&& y) :: S')
    | _ => none
  | 15 => match S with
    | .int y :: .int x :: S' => some (L, .int (x ||| y) :: S')
    | _ => none
  | 16 => match S with
    | .int y :: .int x :: S' => some (L, .int (x ^^^ y) :: S')
    | _ => none
  | 17 => match S with
    | .int y :: .int x :: S' => some (L, .int (x <<< (y &&& 31)) :: S')
    | _ => none
  | 18 => match S with
    | .int y :: .int x :: S' => some (L, .int (x >>> (y &&& 31)) :: S')
    | _ => none
  | 19 => match S with
    | .int y :: .int x :: S' => some (L, .int (x.toUInt32 >>> (y.toUInt32 &&& Int32.toUInt32 31)).toInt32 :: S')
    | _ => none
  | 20 => match S with
    | .int x :: S' => some (L, .int (-x) :: S')
    | _ => none
  | 21 => match S with
    | .int x :: S' => some (L, .int (x.toUInt32 % 65536).toInt32 :: S')
    | _ => none
  | 22 => match S with
    | .int x :: S' => some (L, .long x.toInt64 :: S')
    | _ => none
  | 23 => match S with
    | .long x :: S' => some (L, .int x.toInt32 :: S')
    | _ => none
  | 24 => match S with
    | .long y :: .long x :: S' => some (L, .long (x &&& y) :: S')
    | _ => none
  | 25 => match S with
    | .long y :: .long x :: S' => some (L, .long (x ||| y) :: S')
    | _ => none
  | 26 => match S with
    | .int y :: .long x :: S' => some (L, .long (x <<< (y.toInt64 &&& 63)) :: S')
    | _ => none
  | 27 => match S with
    | .int y :: .long x :: S' => some (L, .long (x >>> (y.toInt64 &&& 63)) :: S')
    | _ => none
  | 28 => match S with
    | .int y :: .long x :: S' => some (L, .long (x.toUInt64 >>> (y.toInt64.toUInt64 &&& Int64.toUInt64 63)).toInt64 :: S')
    | _ => none
  | 29 => match S with
    | .long y :: .long x :: S' => some (L, .int (lg_cmp x y) :: S')
    | _ => none
  | _ => none
/-- the six comparisons -/
def axCnd (k : Nat) (x y : Int32) : Prop := match k with
  | 0 => x = y
  | 1 => ¬ x = y
  | 2 => x < y
  | 3 => y ≤ x
  | 4 => y < x
  | _ => x ≤ y
def axSw : List (Int32 × Nat) → Nat → Int32 → Nat
  | [], d, _ => d
  | q :: r, d, x => if x = q.1 then q.2 else axSw r d x
def axSum (S : List Value) : Nat := (S.map fun v => v.category).sum
/-- an array's elements: 0 int, 1 char, 2 boolean -/
def axEt : Nat → FieldType := fun k => match k with
  | 0 => .int
  | 1 => .char
  | _ => .boolean
/-- classes and their fields' types -/
def axTy : Nat → Nat → FieldType := fun c k => match c with
  | 0 => if k < 6 then .array .int else .int
  | 1 => if k = 0 then .array (.object "BeatSlugs$Board") else .int
  | 2 => if k = 0 then .array .char else if k = 3 then .boolean else if k = 4 then .char else .int
  | 3 => if k = 0 then .array .int else .int
  | 4 => if k = 0 then .object "BeatSlugs$Board" else if k = 1 then .object "BeatSlugs$History" else if k = 2 then .array (.object "BeatSlugs$Board") else if k = 3 then .object "BeatSlugs$Pad" else .object "BeatSlugs$SwapSearch"
  | _ => if k = 0 then .array .int else if k = 1 then .array .int else if k = 2 then .int else if k = 3 then .array .int else if k = 4 then .array .boolean else if k = 5 then .array .int else if k = 6 then .array .int else if k = 12 then .boolean else .int
/-- a new object's fields -/
def axDf : Nat → List Value := fun c => match c with
  | 0 => [.null, .null, .null, .null, .null, .null, .int 0, .int 0, .int 0]
  | 1 => [.null, .int 0, .int 0]
  | 2 => [.null, .int 0, .int 0, .int 0, .int 0, .int 0, .int 0]
  | 3 => [.null, .int 0, .int 0, .int 0]
  | 4 => [.null, .null, .null, .null, .null]
  | _ => [.null, .null, .int 0, .null, .null, .null, .null, .int 0, .int 0, .int 0, .int 0, .int 0, .int 0, .int 0]
def axFit (c k : Nat) (v : Value) : Prop := narrow (axTy c k) v = v ∧ fits (axTy c k) v = true ∧ ∀ j, v ≠ .retAddr j
def axOne (ro : axRo) (E : axCall) (e : axE) (L : axL) (S : List Value) (h : axH) (K : Nat → axL → List Value → axH → Prop) (Q : Option Value → axH → Prop) : Prop :=
  match e with
  | (_, op, a, b, c, tb, nx) =>
  match op with
  | 32 => ∃ x y S', S = .int y :: .int x :: S' ∧ (axCnd b x y → K c L S' h) ∧ (¬ axCnd b x y → K nx L S' h)
  | 33 => ∃ x S', S = .int x :: S' ∧ (axCnd b x 0 → K c L S' h) ∧ (¬ axCnd b x 0 → K nx L S' h)
  | 34 => (∃ k S', S = .ref k :: S' ∧ K c L S' h) ∨ (∃ S', S = .null :: S' ∧ K nx L S' h)
  | 35 => ∃ x S', S = .int x :: S' ∧ K (axSw tb c x) L S' h
  | 36 => ∃ k S' fs v, S = .ref k :: S' ∧ h[k]? = some (.inr (.inr (b, fs))) ∧ fs[c]? = some v ∧ K nx L (v :: S') h
  | 37 => ∃ v k S' fs, S = v :: .ref k :: S' ∧ h[k]? = some (.inr (.inr (b, fs))) ∧ c < fs.length ∧ axFit b c v ∧ K nx L S' (h.set k (.inr (.inr (b, fs.set c v))))
  | 38 => K nx L (.retAddr b :: S) h
  | 39 => (∃ k S' ki n f, S = .ref k :: S' ∧ h[k]? = some (.inl (ki, n, f)) ∧ ki < 3 ∧ K nx L (.int (Int32.ofNat n) :: S') h) ∨ (∃ k S' n f, S = .ref k :: S' ∧ h[k]? = some (.inr (.inl (n, f))) ∧ K nx L (.int (Int32.ofNat n) :: S') h) ∨ (∃ i S', S = .retAddr i :: S' ∧ i < 3 ∧ K nx L (.int (Int32.ofNat (ro i).1) :: S') h)
  | 40 => (∃ k i S' n f, S = .int i :: .ref k :: S' ∧ h[k]? = some (.inl (b, n, f)) ∧ vp_in i n ∧ K nx L (.int (f i.toNatClampNeg) :: S') h) ∨ (b = 0 ∧ ∃ j i S', S = .int i :: .retAddr j :: S' ∧ j < 3 ∧ vp_in i (ro j).1 ∧ K nx L (.int ((ro j).2 i.toNatClampNeg) :: S') h)
  | 41 => ∃ k i S' n f, S = .int i :: .ref k :: S' ∧ h[k]? = some (.inr (.inl (n, f))) ∧ vp_in i n ∧ K nx L (va_rf (f i.toNatClampNeg) :: S') h
  | 42 => ∃ x i k S' n f, S = .int x :: .int i :: .ref k :: S' ∧ h[k]? = some (.inl (b, n, f)) ∧ vp_in i n ∧ vp_nar (axEt b) x = x ∧ K nx L S' (h.set k (.inl (b, n, upd f i.toNatClampNeg x)))
  | 43 => ∃ v i k S' n f fs, S = .ref v :: .int i :: .ref k :: S' ∧ h[k]? = some (.inr (.inl (n, f))) ∧ h[v]? = some (.inr (.inr (0, fs))) ∧ vp_in i n ∧ K nx L S' (h.set k (.inr (.inl (n, va_up f i.toNatClampNeg (some v)))))
  | 44 => ∃ x S', S = .int x :: S' ∧ ¬ x < 0 ∧ x.toNatClampNeg ≤ 65536 ∧ K nx L (.ref h.length :: S') (h ++ [.inl (b, x.toNatClampNeg, fun _ => 0)])
  | 45 => ∃ x S', S = .int x :: S' ∧ ¬ x < 0 ∧ x.toNatClampNeg ≤ 65536 ∧ K nx L (.ref h.length :: S') (h ++ [.inr (.inl (x.toNatClampNeg, fun _ => none))])
  | 46 => K nx L (.ref h.length :: S) (h ++ [.inr (.inr (b, axDf b))])
  | 47 => ∃ x y S', S = .int y :: .int x :: S' ∧ ¬ y = 0 ∧ K nx L (.int (x / y) :: S') h
  | 48 => ∃ x y S', S = .int y :: .int x :: S' ∧ ¬ y = 0 ∧ K nx L (.int (x - x / y * y) :: S') h
  | 49 => ∃ x, S = [.int x] ∧ narrow (axEt b) (.int x) = .int x ∧ Q (some (.int x)) h
  | 50 => S = [] ∧ Q none h
  | 51 => ∃ k, S = [.ref k] ∧ Q (some (.ref k)) h
  | 52 => ∃ ci As k rest fs r h1, a = .ref ci ∧ S = As.reverse ++ .ref k :: rest ∧ As.length = c ∧ axSum rest ≤ 8 ∧ h[k]? = some (.inr (.inr (ci, fs))) ∧ E b (.ref k :: As) h r h1 ∧ K nx L (r.toList ++ rest) h1
  | 53 => ∃ As rest r h1, S = As.reverse ++ rest ∧ As.length = c ∧ axSum rest ≤ 8 ∧ E b As h r h1 ∧ K nx L (r.toList ++ rest) h1
  | 54 => ∃ As k rest r h1, S = As.reverse ++ .ref k :: rest ∧ As.length = c ∧ axSum rest ≤ 8 ∧ E b (.ref k :: As) h r h1 ∧ K nx L (r.toList ++ rest) h1
  | 55 => ∃ k rest, S = .ref k :: rest ∧ axSum rest ≤ 8 ∧ K nx L rest h
  | 56 => ∃ n dp k1 sp k0 rest n0 n1 f g, S = .int n :: .int dp :: .ref k1 :: .int sp :: .ref k0 :: rest ∧ h[k0]? = some (.inl (0, n0, f)) ∧ h[k1]? = some (.inl (0, n1, g)) ∧ ¬ sp < 0 ∧ ¬ dp < 0 ∧ ¬ n < 0 ∧ sp.toNatClampNeg + n.toNatClampNeg ≤ n0 ∧ dp.toNatClampNeg + n.toNatClampNeg ≤ n1 ∧ axSum rest ≤ 8 ∧ K nx L rest (h.set k1 (.inl (0, n1, va_cpy f g sp.toNatClampNeg dp.toNatClampNeg n.toNatClampNeg)))
  | 57 => ∃ x y S', S = .int y :: .int x :: S' ∧ axSum S' ≤ 8 ∧ K nx L (.int (if x < y then y else x) :: S') h
  | 58 => ∃ x y S', S = .int y :: .int x :: S' ∧ axSum S' ≤ 8 ∧ K nx L (.int (if y < x then y else x) :: S') h
  | 59 => ∃ x S', S = .int x :: S' ∧ axSum S' ≤ 8 ∧ K nx L (.int (if 0 ≤ x then x else 0 - x) :: S') h
  | 60 => ∃ v k S' fs, S = v :: .ref k :: S' ∧ h[k]? = some (.inr (.inr (b, fs))) ∧ c < fs.length ∧ axFit b c v ∧ K nx L S' (h.set k (.inr (.inr (b, fs.set c v))))
  | op => ∃ q, axStp op a b L S = some q ∧ K nx q.1 q.2 h
def axWn (ro : axRo) (E : axCall) (cd : List axE) : Nat → Nat → axL → List Value → axH → (Option Value → axH → Prop) → Prop
  | 0, _, _, _, _, _ => False
  | n + 1, pc, L, S, h, Q => ∃ e, axF cd pc = some e ∧ axOne ro E e L S h (fun pc' L' S' h' => axWn ro E cd n pc' L' S' h' Q) Q
def axW (ro : axRo) (E : axCall) (cd : List axE) (pc : Nat) (L : axL) (S : List Value) (h : axH) (Q : Option Value → axH → Prop) : Prop := ∃ n, axWn ro E cd n pc L S h Q
def axSz : List Value → Nat
  | [] => 0
  | v :: l => v.category + axSz l
def axIn : List Value → Nat → axL
  | [], n => List.replicate n none
  | v :: l, n => match v with
    | .long x => some (.long x) :: none :: axIn l (n - 2)
    | v => some v :: axIn l (n - 1)
abbrev axM : Type := MethodName × ByteArray × Nat × Option FieldType × Nat × Bool × List axE
/-- the instruction as the tables have it: o is the number of the class whose constant pool is meant -/
def axCc : ClassFile.Cond → Nat := fun k => match k with
  | .eq => 0
  | .ne => 1
  | .lt => 2
  | .ge => 3
  | .gt => 4
  | .le => 5
def axI (k len : Nat) (e : axE) : Option axE := if len = k then some e else none
def axTg (pc len : Nat) (off : Int) (k : Nat → axE) : Option axE := if 0 ≤ (pc : Int) + off ∧ len = 3 then some (k ((pc : Int) + off).toNat) else none
def axSwT (pc : Nat) (lo : Int) : List Int → List (Int32 × Nat)
  | [] => []
  | o :: r => (Int32.ofInt lo, ((pc : Int) + o).toNat) :: axSwT pc (lo + 1) r
def axSwL (pc : Nat) : List (Int × Int) → List (Int32 × Nat)
  | [] => []
  | q :: r => (Int32.ofInt q.1, ((pc : Int) + q.2).toNat) :: axSwL pc r
def axFnd {α : Type} (o i : Nat) : List (Nat × Nat × α) → Option α
  | [] => none
  | q :: r => bif Nat.beq q.1 o && Nat.beq q.2.1 i then some q.2.2 else axFnd o i r
end
section
/-! The tables: links of the constant pools, fields, methods. Written by wip/whole/gen2.py. -/
def axCn : Nat → String := fun k => match k with
  | 0 => "BeatSlugs$Board"
  | 1 => "BeatSlugs$History"
  | 2 => "BeatSlugs$Pad"
  | 3 => "BeatSlugs$SwapSearch"
  | 4 => "BeatSlugs"
  | 5 => "BeatSlugsModel"
  | 6 => "BeatSlugsLaw"
  | _ => "java/lang/Integer"
def axT0 : u_T := fun k => match k with
  | 0 => ("BeatSlugs$Board", "settings", "[I", true)
  | 1 => ("BeatSlugs$Board", "targets", "[I", true)
  | 2 => ("BeatSlugs$Board", "row", "[I", true)
  | 3 => ("BeatSlugs$Board", "written", "[I", true)
  | 4 => ("BeatSlugs$Board", "beats", "[I", true)
  | 5 => ("BeatSlugs$Board", "needs", "[I", true)
  | 6 => ("BeatSlugs$Board", "slugs", "I", false)
  | 7 => ("BeatSlugs$Board", "turns", "I", false)
  | _ => ("BeatSlugs$Board", "size", "I", false)
def axT1 : u_T := fun k => match k with
  | 0 => ("BeatSlugs$History", "states", "[LBeatSlugs$Board;", true)
  | 1 => ("BeatSlugs$History", "next", "I", false)
  | _ => ("BeatSlugs$History", "kept", "I", false)
def axT2 : u_T := fun k => match k with
  | 0 => ("BeatSlugs$Pad", "signs", "[C", true)
  | 1 => ("BeatSlugs$Pad", "length", "I", false)
  | 2 => ("BeatSlugs$Pad", "cursor", "I", false)
  | 3 => ("BeatSlugs$Pad", "last", "Z", false)
  | 4 => ("BeatSlugs$Pad", "kind", "C", false)
  | 5 => ("BeatSlugs$Pad", "first", "I", false)
  | _ => ("BeatSlugs$Pad", "second", "I", false)
def axT3 : u_T := fun k => match k with
  | 0 => ("BeatSlugs$SwapSearch", "trial", "[I", true)
  | 1 => ("BeatSlugs$SwapSearch", "lower", "I", false)
  | 2 => ("BeatSlugs$SwapSearch", "higher", "I", false)
  | _ => ("BeatSlugs$SwapSearch", "least", "I", false)
def axT4 : u_T := fun k => match k with
  | 0 => ("BeatSlugs", "board", "LBeatSlugs$Board;", true)
  | 1 => ("BeatSlugs", "history", "LBeatSlugs$History;", true)
  | 2 => ("BeatSlugs", "slots", "[LBeatSlugs$Board;", true)
  | 3 => ("BeatSlugs", "pad", "LBeatSlugs$Pad;", true)
  | _ => ("BeatSlugs", "search", "LBeatSlugs$SwapSearch;", true)
def axT5 : u_T := fun k => match k with
  | 0 => ("BeatSlugsModel", "s", "[I", true)
  | 1 => ("BeatSlugsModel", "history", "[I", true)
  | 2 => ("BeatSlugsModel", "kept", "I", false)
  | 3 => ("BeatSlugsModel", "slots", "[I", true)
  | 4 => ("BeatSlugsModel", "isSaved", "[Z", true)
  | 5 => ("BeatSlugsModel", "before", "[I", true)
  | 6 => ("BeatSlugsModel", "pad", "[I", true)
  | 7 => ("BeatSlugsModel", "length", "I", false)
  | 8 => ("BeatSlugsModel", "place", "I", false)
  | 9 => ("BeatSlugsModel", "letter", "I", false)
  | 10 => ("BeatSlugsModel", "one", "I", false)
  | 11 => ("BeatSlugsModel", "other", "I", false)
  | 12 => ("BeatSlugsModel", "isTurn", "Z", false)
  | _ => ("BeatSlugsModel", "done", "I", false)
def axT : Nat → u_T := fun c => match c with
  | 0 => axT0
  | 1 => axT1
  | 2 => axT2
  | 3 => axT3
  | 4 => axT4
  | _ => axT5
def axNf : Nat → Nat := fun c => match c with
  | 0 => 9
  | 1 => 3
  | 2 => 7
  | 3 => 4
  | 4 => 5
  | _ => 14
abbrev axCl : List vw_C := [("BeatSlugs$Board", axT0, 9), ("BeatSlugs$History", axT1, 3), ("BeatSlugs$Pad", axT2, 7), ("BeatSlugs$SwapSearch", axT3, 4), ("BeatSlugs", axT4, 5), ("BeatSlugsModel", axT5, 14)]
/-- a field by the place in the constant pool: class, place, class of the field, its number, the word of the tables -/
def axFlT : List (Nat × Nat × Nat × Nat × Nat) := [(0, 9, 0, 0, 83), (0, 15, 0, 1, 84), (0, 18, 0, 2, 85), (0, 21, 0, 3, 86), (0, 24, 0, 4, 87), (0, 27, 0, 5, 88), (0, 36, 0, 6, 89), (0, 40, 0, 7, 90), (0, 43, 0, 8, 91), (1, 11, 1, 0, 120), (1, 21, 1, 1, 121), (1, 17, 1, 2, 122), (2, 9, 2, 0, 136), (2, 15, 2, 1, 137), (2, 38, 2, 2, 138), (2, 41, 2, 3, 139), (2, 45, 2, 4, 140), (2, 49, 2, 5, 141), (2, 52, 2, 6, 142), (3, 9, 3, 0, 165), (3, 15, 3, 1, 166), (3, 19, 3, 2, 167), (3, 22, 3, 3, 168), (4, 10, 4, 0, 178), (4, 19, 4, 1, 179), (4, 23, 4, 2, 180), (4, 30, 4, 3, 181), (4, 37, 4, 4, 182), (5, 7, 5, 0, 733), (5, 13, 5, 1, 734), (5, 37, 5, 2, 735), (5, 16, 5, 3, 736), (5, 19, 5, 4, 737), (5, 23, 5, 5, 738), (5, 26, 5, 6, 739), (5, 166, 5, 7, 740), (5, 171, 5, 8, 741), (5, 177, 5, 9, 742), (5, 180, 5, 10, 743), (5, 196, 5, 11, 744), (5, 189, 5, 12, 745), (5, 199, 5, 13, 746)]
def axStT : List (Nat × Nat × Nat × Nat) := [(0, 46, 1, 216), (0, 53, 2, 221)]
def axClsT : List (Nat × Nat × Nat × Nat) := [(6, 7, 4, 69), (4, 7, 0, 77), (4, 16, 1, 112), (1, 9, 0, 118), (4, 27, 2, 130), (4, 34, 3, 159), (6, 10, 5, 727)]
def axCsT : List (Nat × Nat × Int32 × Nat) := [(7, 265, 1431655765, 314), (7, 266, 858993459, 315), (7, 267, 252645135, 316)]
def axLcT : List (Nat × Nat × Int64 × Nat) := [(5, 169, 255, 1023), (6, 104, 4294967295, 1075)]
/-- a method by the place in the constant pool: class, place, kind (0 virtual, 1 static, 2 static of a nest mate, 3 static of another class, 4 arraycopy, 5 max, 6 min, 7 abs, 8 constructor, 9 Object), number, parameters, class, the word -/
def axMlT0 : List (Nat × Nat × Nat × Nat × Nat × Nat × Nat) := [
  (6, 9, 8, 0, 0, 4, 71), (4, 1, 9, 0, 0, 0, 74), (4, 9, 8, 1, 0, 0, 79), (0, 3, 9, 0, 0, 0, 82), (4, 18, 8, 2, 0, 1, 114), (1, 3, 9, 0, 0, 0, 117), (4, 29, 8, 3, 0, 2, 132), (2, 3, 9, 0, 0, 0, 135),
  (4, 36, 8, 4, 0, 3, 161), (3, 3, 9, 0, 0, 0, 164), (6, 13, 0, 5, 2, 4, 194), (4, 41, 0, 6, 1, 1, 198), (4, 236, 0, 8, 1, 0, 205), (0, 30, 4, 0, 5, 0, 209), (4, 45, 0, 9, 2, 0, 212), (4, 49, 0, 11, 1, 1, 223),
  (1, 28, 6, 0, 2, 0, 227), (6, 18, 0, 12, 2, 4, 230), (4, 53, 0, 13, 2, 0, 234), (6, 22, 0, 14, 3, 4, 238), (4, 56, 0, 15, 3, 0, 242), (0, 56, 0, 16, 2, 0, 246), (0, 130, 0, 17, 0, 0, 250), (0, 106, 0, 21, 2, 0, 263),
  (6, 27, 0, 22, 1, 4, 267), (4, 60, 0, 23, 1, 0, 271), (0, 64, 0, 24, 1, 0, 275), (0, 68, 0, 25, 1, 0, 279), (0, 71, 0, 26, 1, 0, 283), (6, 32, 0, 27, 1, 4, 287), (4, 63, 0, 28, 1, 0, 291), (0, 75, 0, 29, 1, 0, 295)]
def axMlT1 : List (Nat × Nat × Nat × Nat × Nat × Nat × Nat) := [
  (6, 36, 0, 30, 2, 4, 299), (4, 66, 0, 31, 2, 0, 303), (0, 78, 0, 32, 1, 0, 307), (0, 89, 3, 33, 1, 7, 311), (6, 40, 0, 34, 2, 4, 317), (4, 69, 0, 35, 2, 0, 321), (0, 94, 0, 36, 1, 0, 325), (0, 137, 5, 0, 2, 0, 329),
  (0, 97, 0, 37, 1, 0, 332), (6, 44, 0, 38, 1, 4, 336), (4, 72, 0, 39, 1, 0, 340), (0, 100, 0, 40, 1, 0, 344), (6, 48, 0, 41, 2, 4, 348), (4, 75, 0, 42, 2, 0, 352), (0, 103, 0, 43, 2, 0, 356), (0, 140, 0, 44, 1, 0, 360),
  (0, 143, 0, 45, 1, 0, 364), (6, 52, 0, 46, 2, 4, 368), (4, 78, 0, 47, 2, 0, 372), (0, 110, 7, 0, 1, 0, 376), (6, 56, 0, 48, 2, 4, 379), (4, 81, 0, 49, 2, 0, 383), (0, 115, 0, 50, 2, 0, 387), (0, 118, 0, 51, 2, 0, 391),
  (6, 60, 0, 52, 1, 4, 395), (4, 84, 0, 53, 1, 0, 399), (0, 121, 0, 54, 1, 0, 403), (0, 164, 0, 55, 1, 0, 407), (0, 149, 0, 56, 0, 0, 411), (0, 158, 0, 57, 1, 0, 415), (0, 124, 0, 58, 1, 0, 419), (0, 146, 0, 59, 2, 0, 423)]
def axMlT2 : List (Nat × Nat × Nat × Nat × Nat × Nat × Nat) := [
  (0, 152, 0, 60, 1, 0, 427), (0, 127, 6, 0, 2, 0, 431), (0, 167, 0, 61, 2, 0, 432), (0, 134, 0, 62, 1, 0, 436), (6, 64, 0, 63, 2, 4, 440), (4, 87, 0, 24, 1, 0, 444), (4, 91, 0, 25, 1, 0, 445), (4, 94, 0, 40, 1, 0, 446),
  (4, 97, 0, 37, 1, 0, 447), (4, 100, 0, 29, 1, 0, 448), (4, 103, 0, 32, 1, 0, 449), (4, 106, 0, 64, 1, 0, 450), (4, 109, 0, 59, 2, 0, 454), (4, 112, 0, 65, 0, 0, 455), (4, 116, 0, 66, 1, 0, 459), (4, 119, 0, 36, 1, 0, 463),
  (6, 68, 0, 67, 1, 4, 464), (4, 122, 0, 68, 1, 0, 468), (6, 72, 0, 69, 1, 4, 472), (4, 125, 0, 70, 1, 0, 476), (6, 76, 0, 71, 2, 4, 480), (4, 128, 0, 55, 1, 0, 484), (4, 131, 0, 58, 1, 0, 485), (4, 134, 0, 60, 1, 0, 486),
  (4, 137, 0, 57, 1, 0, 487), (4, 140, 0, 72, 1, 0, 488), (0, 155, 0, 73, 1, 0, 492), (4, 143, 0, 73, 1, 0, 496), (4, 146, 0, 61, 2, 0, 497), (6, 80, 0, 74, 1, 4, 498), (4, 149, 0, 75, 0, 0, 502), (4, 152, 0, 56, 0, 0, 506)]
def axMlT3 : List (Nat × Nat × Nat × Nat × Nat × Nat × Nat) := [
  (4, 155, 0, 76, 0, 0, 507), (4, 158, 0, 77, 0, 0, 511), (0, 170, 0, 78, 2, 0, 515), (4, 161, 0, 79, 0, 0, 519), (0, 161, 0, 72, 1, 0, 523), (4, 164, 0, 80, 0, 0, 524), (4, 167, 0, 62, 1, 0, 528), (4, 170, 0, 81, 0, 2, 529),
  (4, 173, 0, 82, 0, 1, 533), (6, 84, 0, 83, 1, 4, 537), (4, 174, 0, 45, 1, 0, 541), (4, 177, 0, 44, 1, 0, 542), (4, 180, 1, 19, 1, 4, 543), (6, 88, 0, 84, 1, 4, 544), (4, 183, 0, 85, 1, 3, 548), (3, 25, 0, 77, 0, 0, 552),
  (3, 31, 0, 86, 0, 0, 553), (3, 34, 0, 68, 1, 0, 557), (3, 42, 0, 87, 2, 3, 559), (3, 46, 0, 45, 1, 0, 563), (3, 49, 0, 44, 1, 0, 564), (3, 52, 0, 88, 3, 3, 565), (3, 56, 0, 89, 2, 3, 569), (3, 60, 0, 90, 0, 0, 574),
  (3, 63, 0, 78, 2, 0, 578), (4, 186, 0, 91, 0, 3, 579), (4, 190, 0, 92, 0, 3, 583), (4, 193, 0, 93, 0, 3, 587), (4, 196, 0, 94, 0, 3, 591), (6, 92, 0, 95, 1, 4, 595), (4, 199, 0, 54, 1, 0, 599), (6, 96, 0, 96, 1, 4, 600)]
def axMlT4 : List (Nat × Nat × Nat × Nat × Nat × Nat × Nat) := [
  (4, 202, 0, 97, 1, 0, 604), (6, 100, 0, 98, 1, 4, 608), (4, 205, 0, 99, 1, 0, 612), (6, 106, 0, 100, 1, 4, 616), (4, 208, 0, 101, 1, 2, 620), (2, 19, 1, 102, 1, 2, 624), (2, 23, 1, 103, 2, 2, 627), (2, 27, 0, 104, 1, 2, 630),
  (6, 111, 0, 105, 0, 4, 634), (4, 212, 0, 106, 0, 2, 638), (6, 116, 0, 107, 0, 4, 642), (4, 215, 0, 108, 0, 2, 646), (2, 31, 0, 109, 0, 2, 650), (2, 34, 0, 110, 0, 2, 654), (2, 55, 0, 111, 1, 2, 658), (2, 59, 0, 112, 0, 2, 662),
  (2, 72, 0, 113, 0, 2, 666), (2, 76, 0, 114, 0, 2, 670), (2, 69, 0, 115, 1, 2, 674), (2, 62, 0, 116, 1, 2, 678), (2, 66, 0, 117, 0, 2, 682), (6, 120, 0, 118, 0, 4, 686), (4, 218, 0, 109, 0, 2, 690), (4, 221, 0, 110, 0, 2, 691),
  (4, 224, 0, 119, 0, 4, 692), (4, 239, 0, 120, 0, 2, 696), (4, 242, 0, 121, 0, 2, 700), (4, 245, 0, 122, 0, 2, 704), (4, 235, 0, 86, 0, 0, 708), (6, 124, 0, 123, 0, 4, 709), (4, 227, 0, 124, 1, 1, 713), (1, 34, 0, 8, 1, 0, 717)]
def axMlT5 : List (Nat × Nat × Nat × Nat × Nat × Nat × Nat) := [
  (6, 128, 0, 125, 1, 4, 718), (4, 231, 1, 7, 2, 4, 722), (6, 132, 0, 126, 1, 4, 723), (6, 12, 8, 127, 0, 5, 729), (5, 1, 9, 0, 0, 0, 732), (6, 17, 0, 128, 2, 5, 777), (5, 29, 1, 129, 3, 5, 781), (5, 121, 1, 130, 2, 5, 784),
  (5, 117, 0, 131, 1, 5, 787), (5, 41, 1, 132, 4, 5, 791), (6, 21, 0, 133, 2, 5, 794), (6, 26, 0, 134, 3, 5, 798), (5, 124, 0, 135, 0, 5, 802), (5, 113, 0, 136, 3, 5, 806), (5, 81, 0, 137, 0, 5, 810), (5, 33, 0, 138, 2, 5, 814),
  (5, 84, 0, 139, 3, 5, 818), (5, 88, 0, 140, 2, 5, 822), (5, 127, 0, 141, 1, 5, 826), (6, 31, 0, 142, 1, 5, 830), (5, 92, 0, 143, 1, 5, 834), (5, 99, 0, 144, 1, 5, 838), (5, 105, 0, 145, 1, 5, 842), (6, 35, 0, 146, 1, 5, 846),
  (6, 39, 0, 147, 2, 5, 850), (5, 130, 0, 148, 2, 5, 854), (5, 95, 1, 149, 2, 5, 858), (5, 102, 1, 150, 1, 5, 861), (6, 43, 0, 151, 2, 5, 864), (5, 133, 0, 152, 2, 5, 868), (5, 52, 0, 153, 1, 5, 872), (5, 45, 0, 154, 1, 5, 876)]
def axMlT6 : List (Nat × Nat × Nat × Nat × Nat × Nat × Nat) := [
  (6, 47, 0, 155, 1, 5, 880), (6, 51, 0, 156, 2, 5, 884), (5, 136, 0, 157, 2, 5, 888), (5, 109, 0, 158, 0, 5, 892), (6, 55, 0, 159, 2, 5, 896), (5, 139, 0, 160, 2, 5, 900), (5, 67, 1, 161, 1, 5, 904), (6, 59, 0, 162, 2, 5, 907),
  (5, 142, 0, 163, 2, 5, 911), (6, 63, 0, 164, 1, 5, 915), (5, 145, 0, 165, 1, 5, 919), (5, 74, 0, 166, 0, 5, 923), (5, 49, 0, 167, 1, 5, 927), (5, 64, 0, 168, 1, 5, 931), (5, 58, 0, 169, 2, 5, 935), (5, 61, 0, 170, 1, 5, 939),
  (6, 67, 0, 171, 2, 5, 943), (5, 148, 0, 172, 1, 5, 947), (5, 55, 0, 173, 1, 5, 951), (6, 71, 0, 174, 1, 5, 955), (6, 75, 0, 175, 1, 5, 959), (6, 79, 0, 176, 2, 5, 963), (5, 78, 0, 177, 1, 5, 967), (5, 70, 0, 178, 1, 5, 971),
  (5, 151, 0, 179, 1, 5, 975), (6, 83, 0, 180, 1, 5, 979), (5, 154, 0, 181, 0, 5, 983), (5, 157, 0, 182, 0, 5, 987), (5, 160, 0, 183, 0, 5, 991), (5, 163, 0, 184, 0, 5, 995), (6, 87, 0, 185, 1, 5, 999), (6, 91, 0, 186, 1, 5, 1003)]
def axMlT7 : List (Nat × Nat × Nat × Nat × Nat × Nat × Nat) := [
  (6, 95, 0, 187, 1, 5, 1007), (6, 99, 0, 188, 1, 5, 1011), (6, 103, 0, 189, 1, 5, 1015), (6, 110, 0, 190, 1, 5, 1019), (6, 115, 0, 191, 0, 5, 1024), (6, 119, 0, 192, 0, 5, 1028), (5, 208, 0, 193, 1, 5, 1032), (5, 202, 0, 194, 0, 5, 1036),
  (5, 174, 0, 195, 2, 5, 1040), (5, 183, 0, 196, 0, 5, 1044), (5, 186, 0, 197, 1, 5, 1048), (5, 193, 1, 198, 1, 5, 1052), (5, 205, 0, 199, 0, 5, 1055), (6, 123, 0, 200, 0, 5, 1059), (6, 127, 0, 201, 0, 5, 1063), (6, 131, 0, 202, 1, 5, 1067),
  (6, 135, 0, 203, 1, 5, 1071), (1, 24, 2, 7, 2, 4, 202), (0, 49, 2, 10, 2, 4, 218), (0, 81, 2, 18, 2, 4, 254), (0, 60, 2, 19, 1, 4, 257), (0, 85, 2, 20, 3, 4, 260), (3, 38, 2, 20, 3, 4, 558), (3, 67, 2, 10, 2, 4, 573)]
def axMlT : List (Nat × Nat × Nat × Nat × Nat × Nat × Nat) := axMlT0 ++ (axMlT1 ++ (axMlT2 ++ (axMlT3 ++ (axMlT4 ++ (axMlT5 ++ (axMlT6 ++ (axMlT7)))))))
def axFin (c k : Nat) : Bool := (axT c k).2.2.2
def axTr (o : Nat) (ini : Bool) (rt : Nat) (pc : Nat) (ins : Instr) (len : Nat) : Option axE := match ins with
  | .iconst n => axI 1 len (pc, 0, .int (Int32.ofInt n), 0, 0, [], pc + 1)
  | .bipush n => axI 2 len (pc, 0, .int (Int8.ofInt n).toInt32, 0, 0, [], pc + 2)
  | .sipush n => axI 3 len (pc, 0, .int (Int16.ofInt n).toInt32, 0, 0, [], pc + 3)
  | .ldc_w i => match axFnd o i axCsT with
    | some q => axI 3 len (pc, 0, .int q.1, 0, 0, [], pc + 3)
    | none => none
  | .ldc2_w i => match axFnd o i axLcT with
    | some q => axI 3 len (pc, 0, .long q.1, 0, 0, [], pc + 3)
    | none => none
  | .lconst n => axI 1 len (pc, 0, .long (Int64.ofNat (n : Nat)), 0, 0, [], pc + 1)
  | .iload_n k => axI 1 len (pc, 1, .null, (k : Nat), 0, [], pc + 1)
  | .iload k => axI 2 len (pc, 1, .null, k, 0, [], pc + 2)
  | .aload_n k => axI 1 len (pc, 2, .null, (k : Nat), 0, [], pc + 1)
  | .aload k => axI 2 len (pc, 2, .null, k, 0, [], pc + 2)
  | .lload_n k => axI 1 len (pc, 3, .null, (k : Nat), 0, [], pc + 1)
  | .lload k => axI 2 len (pc, 3, .null, k, 0, [], pc + 2)
  | .istore_n k => axI 1 len (pc, 4, .null, (k : Nat), 0, [], pc + 1)
  | .istore k => axI 2 len (pc, 4, .null, k, 0, [], pc + 2)
  | .astore_n k => axI 1 len (pc, 5, .null, (k : Nat), 0, [], pc + 1)
  | .astore k => axI 2 len (pc, 5, .null, k, 0, [], pc + 2)
  | .iinc i n => axI 3 len (pc, 6, .int (Int32.ofInt n), i, 0, [], pc + 3)
  | .dup => axI 1 len (pc, 7, .null, 0, 0, [], pc + 1)
  | .pop => axI 1 len (pc, 8, .null, 0, 0, [], pc + 1)
  | .goto off => axTg pc len off fun t => (pc, 9, .null, 0, 0, [], t)
  | .dup2 => axI 1 len (pc, 10, .null, 0, 0, [], pc + 1)
  | .iadd => axI 1 len (pc, 11, .null, 0, 0, [], pc + 1)
  | .isub => axI 1 len (pc, 12, .null, 0, 0, [], pc + 1)
  | .imul => axI 1 len (pc, 13, .null, 0, 0, [], pc + 1)
  | .iand => axI 1 len (pc, 14, .null, 0, 0, [], pc + 1)
  | .ior => axI 1 len (pc, 15, .null, 0, 0, [], pc + 1)
  | .ixor => axI 1 len (pc, 16, .null, 0, 0, [], pc + 1)
  | .ishl => axI 1 len (pc, 17, .null, 0, 0, [], pc + 1)
  | .ishr => axI 1 len (pc, 18, .null, 0, 0, [], pc + 1)
  | .iushr => axI 1 len (pc, 19, .null, 0, 0, [], pc + 1)
  | .ineg => axI 1 len (pc, 20, .null, 0, 0, [], pc + 1)
  | .i2c => axI 1 len (pc, 21, .null, 0, 0, [], pc + 1)
  | .i2l => axI 1 len (pc, 22, .null, 0, 0, [], pc + 1)
  | .l2i => axI 1 len (pc, 23, .null, 0, 0, [], pc + 1)
  | .land => axI 1 len (pc, 24, .null, 0, 0, [], pc + 1)
  | .lor => axI 1 len (pc, 25, .null, 0, 0, [], pc + 1)
  | .lshl => axI 1 len (pc, 26, .null, 0, 0, [], pc + 1)
  | .lshr => axI 1 len (pc, 27, .null, 0, 0, [], pc + 1)
  | .lushr => axI 1 len (pc, 28, .null, 0, 0, [], pc + 1)
  | .lcmp => axI 1 len (pc, 29, .null, 0, 0, [], pc + 1)
  | .if_icmp cd off => axTg pc len off fun t => (pc, 32, .null, axCc cd, t, [], pc + 3)
  | .ifCond cd off => axTg pc len off fun t => (pc, 33, .null, axCc cd, t, [], pc + 3)
  | .ifnonnull off => axTg pc len off fun t => (pc, 34, .null, 0, t, [], pc + 3)
  | .tableswitch d lo hi offs => if 0 ≤ lo ∧ hi < 1000 ∧ (offs.size : Int) = hi - lo + 1 ∧ 0 ≤ (pc : Int) + d ∧ (offs.toList.all fun o => decide (0 ≤ (pc : Int) + o)) = true then some (pc, 35, .null, 0, ((pc : Int) + d).toNat, axSwT pc lo offs.toList, pc) else none
  | .lookupswitch d ps => if (ps.toList.zip (ps.toList.drop 1)).all (fun (a, next) => a.1 < next.1) = true ∧ 0 ≤ (pc : Int) + d ∧ (ps.toList.all fun o => decide (0 ≤ (pc : Int) + o.2 ∧ -1000 < o.1 ∧ o.1 < 1000)) = true then some (pc, 35, .null, 0, ((pc : Int) + d).toNat, axSwL pc ps.toList, pc) else none
  | .getfield i => match axFnd o i axFlT with
    | some (c, k, _) => axI 3 len (pc, 36, .null, c, k, [], pc + 3)
    | none => none
  | .putfield i => match axFnd o i axFlT with
    | some (c, k, _) => bif axFin c k then bif ini && Nat.beq c o then axI 3 len (pc, 60, .null, c, k, [], pc + 3) else none else axI 3 len (pc, 37, .null, c, k, [], pc + 3)
    | none => none
  | .getstatic i => match axFnd o i axStT with
    | some (j, _) => axI 3 len (pc, 38, .null, j, 0, [], pc + 3)
    | none => none
  | .arraylength => axI 1 len (pc, 39, .null, 0, 0, [], pc + 1)
  | .iaload => axI 1 len (pc, 40, .null, 0, 0, [], pc + 1)
  | .caload => axI 1 len (pc, 40, .null, 1, 0, [], pc + 1)
  | .baload => axI 1 len (pc, 40, .null, 2, 0, [], pc + 1)
  | .aaload => axI 1 len (pc, 41, .null, 0, 0, [], pc + 1)
  | .iastore => axI 1 len (pc, 42, .null, 0, 0, [], pc + 1)
  | .castore => axI 1 len (pc, 42, .null, 1, 0, [], pc + 1)
  | .bastore => axI 1 len (pc, 42, .null, 2, 0, [], pc + 1)
  | .aastore => axI 1 len (pc, 43, .null, 0, 0, [], pc + 1)
  | .newarray t => match t with
    | .int => axI 2 len (pc, 44, .null, 0, 0, [], pc + 2)
    | .char => axI 2 len (pc, 44, .null, 1, 0, [], pc + 2)
    | .boolean => axI 2 len (pc, 44, .null, 2, 0, [], pc + 2)
    | _ => none
  | .anewarray i => match axFnd o i axClsT with
    | some (0, _) => axI 3 len (pc, 45, .null, 0, 0, [], pc + 3)
    | _ => none
  | .new i => match axFnd o i axClsT with
    | some (c, _) => bif Nat.blt c 6 then axI 3 len (pc, 46, .null, c, 0, [], pc + 3) else none
    | none => none
  | .idiv => axI 1 len (pc, 47, .null, 0, 0, [], pc + 1)
  | .irem => axI 1 len (pc, 48, .null, 0, 0, [], pc + 1)
  | .ireturn => axI 1 len (pc, 49, .null, rt, 0, [], pc)
  | .return_ => axI 1 len (pc, 50, .null, 0, 0, [], pc)
  | .areturn => axI 1 len (pc, 51, .null, 0, 0, [], pc)
  | .invokevirtual i => match axFnd o i axMlT with
    | some (0, z, n, ci, _) => axI 3 len (pc, 52, .ref ci, z, n, [], pc + 3)
    | _ => none
  | .invokestatic i => match axFnd o i axMlT with
    | some (1, z, n, _, _) => axI 3 len (pc, 53, .null, z, n, [], pc + 3)
    | some (2, z, n, _, _) => axI 3 len (pc, 53, .null, z, n, [], pc + 3)
    | some (3, z, n, _, _) => axI 3 len (pc, 53, .null, z, n, [], pc + 3)
    | some (4, _, _, _, _) => axI 3 len (pc, 56, .null, 0, 0, [], pc + 3)
    | some (5, _, _, _, _) => axI 3 len (pc, 57, .null, 0, 0, [], pc + 3)
    | some (6, _, _, _, _) => axI 3 len (pc, 58, .null, 0, 0, [], pc + 3)
    | some (7, _, _, _, _) => axI 3 len (pc, 59, .null, 0, 0, [], pc + 3)
    | _ => none
  | .invokespecial i => match axFnd o i axMlT with
    | some (8, z, n, _, _) => axI 3 len (pc, 54, .null, z, n, [], pc + 3)
    | some (9, _, _, _, _) => axI 3 len (pc, 55, .null, 0, 0, [], pc + 3)
    | _ => none
  | _ => none
def axRk : Option FieldType → Nat := fun r => match r with
  | some .char => 1
  | some .boolean => 2
  | _ => 0
def axEqL : List (Int32 × Nat) → List (Int32 × Nat) → Bool
  | [], [] => true
  | q :: l, r :: m => decide (q.1 = r.1) && decide (q.2 = r.2) && axEqL l m
  | _, _ => false
theorem axEqL_ok : ∀ (l m : List (Int32 × Nat)), axEqL l m = true → l = m
  | [], [], _ => rfl
  | q :: l, r :: m, h => by
    simp only [axEqL, Bool.and_eq_true, decide_eq_true_eq] at h
    rw [axEqL_ok l m h.2, Prod.ext h.1.1 h.1.2]
  | [], _ :: _, h => by simp [axEqL] at h
  | _ :: _, [], h => by simp [axEqL] at h
def axEqO : Option axE → axE → Bool
  | some (p1, p2, p3, p4, p5, p6, p7), (q1, q2, q3, q4, q5, q6, q7) => decide (p1 = q1) && decide (p2 = q2) && decide (p3 = q3) && decide (p4 = q4) && decide (p5 = q5) && axEqL p6 q6 && decide (p7 = q7)
  | none, _ => false
theorem axEqO_ok {o : Option axE} {e : axE} (h : axEqO o e = true) : o = some e := by
  obtain ⟨q1, q2, q3, q4, q5, q6, q7⟩ := e
  match o, h with
  | some (p1, p2, p3, p4, p5, p6, p7), h =>
    simp only [axEqO, Bool.and_eq_true, decide_eq_true_eq] at h
    obtain ⟨⟨⟨⟨⟨⟨h1, h2⟩, h3⟩, h4⟩, h5⟩, h6⟩, h7⟩ := h
    rw [h1, h2, h3, h4, h5, axEqL_ok _ _ h6, h7]
  | none, h => simp [axEqO] at h
def axCk (o : Nat) (ini : Bool) (rt : Nat) (b : ByteArray) (l : List axE) : Bool := l.all fun e => match decode b e.1 with
  | .ok (ins, len) => axEqO (axTr o ini rt e.1 ins len) e
  | _ => false
end
section
/-! The code of the methods as rows of the abstract machine. Written by wip/whole/gen2.py. -/
def cdX4_init : List axE := [
  (0, 2, .null, 0, 0, [], 1), (1, 55, .null, 0, 0, [], 4), (4, 2, .null, 0, 0, [], 5), (5, 46, .null, 0, 0, [], 8), (8, 7, .null, 0, 0, [], 9), (9, 54, .null, 1, 0, [], 12), (12, 60, .null, 4, 0, [], 15), (15, 2, .null, 0, 0, [], 16),
  (16, 46, .null, 1, 0, [], 19), (19, 7, .null, 0, 0, [], 20), (20, 54, .null, 2, 0, [], 23), (23, 60, .null, 4, 1, [], 26), (26, 2, .null, 0, 0, [], 27), (27, 0, .int 2, 0, 0, [], 28), (28, 45, .null, 0, 0, [], 31), (31, 60, .null, 4, 2, [], 34),
  (34, 2, .null, 0, 0, [], 35), (35, 46, .null, 2, 0, [], 38), (38, 7, .null, 0, 0, [], 39), (39, 54, .null, 3, 0, [], 42), (42, 60, .null, 4, 3, [], 45), (45, 2, .null, 0, 0, [], 46), (46, 46, .null, 3, 0, [], 49), (49, 7, .null, 0, 0, [], 50),
  (50, 54, .null, 4, 0, [], 53), (53, 60, .null, 4, 4, [], 56), (56, 50, .null, 0, 0, [], 56)]
def mtX4_init : axM := (⟨"BeatSlugs", "<init>", "()V"⟩, prog_1_method_1_code, 1, none, 4, true, cdX4_init)
abbrev kX4_init : Nat := 0
set_option maxRecDepth 100000 in
theorem ckX4_init : axCk 4 true 0 prog_1_method_1_code cdX4_init = true := by decide +kernel
def cdX0_init : List axE := [
  (0, 2, .null, 0, 0, [], 1), (1, 55, .null, 0, 0, [], 4), (4, 2, .null, 0, 0, [], 5), (5, 0, .int 3, 0, 0, [], 6), (6, 44, .null, 0, 0, [], 8), (8, 7, .null, 0, 0, [], 9), (9, 0, .int 0, 0, 0, [], 10), (10, 0, .int 16, 0, 0, [], 12),
  (12, 42, .null, 0, 0, [], 13), (13, 7, .null, 0, 0, [], 14), (14, 0, .int 1, 0, 0, [], 15), (15, 0, .int 2, 0, 0, [], 16), (16, 42, .null, 0, 0, [], 17), (17, 7, .null, 0, 0, [], 18), (18, 0, .int 2, 0, 0, [], 19), (19, 0, .int 50, 0, 0, [], 21),
  (21, 42, .null, 0, 0, [], 22), (22, 60, .null, 0, 0, [], 25), (25, 2, .null, 0, 0, [], 26), (26, 0, .int 6, 0, 0, [], 28), (28, 44, .null, 0, 0, [], 30), (30, 7, .null, 0, 0, [], 31), (31, 0, .int 0, 0, 0, [], 32), (32, 0, .int 60, 0, 0, [], 34),
  (34, 42, .null, 0, 0, [], 35), (35, 7, .null, 0, 0, [], 36), (36, 0, .int 1, 0, 0, [], 37), (37, 0, .int 60, 0, 0, [], 39), (39, 42, .null, 0, 0, [], 40), (40, 7, .null, 0, 0, [], 41), (41, 0, .int 2, 0, 0, [], 42), (42, 0, .int 60, 0, 0, [], 44),
  (44, 42, .null, 0, 0, [], 45), (45, 7, .null, 0, 0, [], 46), (46, 0, .int 3, 0, 0, [], 47), (47, 0, .int 60, 0, 0, [], 49), (49, 42, .null, 0, 0, [], 50), (50, 7, .null, 0, 0, [], 51), (51, 0, .int 4, 0, 0, [], 52), (52, 0, .int 60, 0, 0, [], 54),
  (54, 42, .null, 0, 0, [], 55), (55, 7, .null, 0, 0, [], 56), (56, 0, .int 5, 0, 0, [], 57), (57, 0, .int 60, 0, 0, [], 59), (59, 42, .null, 0, 0, [], 60), (60, 60, .null, 0, 1, [], 63), (63, 2, .null, 0, 0, [], 64), (64, 0, .int 24, 0, 0, [], 66),
  (66, 44, .null, 0, 0, [], 68), (68, 60, .null, 0, 2, [], 71), (71, 2, .null, 0, 0, [], 72), (72, 0, .int 24, 0, 0, [], 74), (74, 44, .null, 0, 0, [], 76), (76, 60, .null, 0, 3, [], 79), (79, 2, .null, 0, 0, [], 80), (80, 0, .int 24, 0, 0, [], 82),
  (82, 44, .null, 0, 0, [], 84), (84, 60, .null, 0, 4, [], 87), (87, 2, .null, 0, 0, [], 88), (88, 0, .int 24, 0, 0, [], 90), (90, 44, .null, 0, 0, [], 92), (92, 60, .null, 0, 5, [], 95), (95, 50, .null, 0, 0, [], 95)]
def mtX0_init : axM := (⟨"BeatSlugs$Board", "<init>", "()V"⟩, prog_2_method_1_code, 1, none, 0, true, cdX0_init)
abbrev kX0_init : Nat := 1
set_option maxRecDepth 100000 in
theorem ckX0_init : axCk 0 true 0 prog_2_method_1_code cdX0_init = true := by decide +kernel
def cdX1_init : List axE := [
  (0, 2, .null, 0, 0, [], 1), (1, 55, .null, 0, 0, [], 4), (4, 2, .null, 0, 0, [], 5), (5, 0, .int 7, 0, 0, [], 7), (7, 45, .null, 0, 0, [], 10), (10, 60, .null, 1, 0, [], 13), (13, 50, .null, 0, 0, [], 13)]
def mtX1_init : axM := (⟨"BeatSlugs$History", "<init>", "()V"⟩, prog_3_method_1_code, 1, none, 1, true, cdX1_init)
abbrev kX1_init : Nat := 2
set_option maxRecDepth 100000 in
theorem ckX1_init : axCk 1 true 0 prog_3_method_1_code cdX1_init = true := by decide +kernel
def cdX2_init : List axE := [
  (0, 2, .null, 0, 0, [], 1), (1, 55, .null, 0, 0, [], 4), (4, 2, .null, 0, 0, [], 5), (5, 0, .int 80, 0, 0, [], 7), (7, 44, .null, 1, 0, [], 9), (9, 60, .null, 2, 0, [], 12), (12, 50, .null, 0, 0, [], 12)]
def mtX2_init : axM := (⟨"BeatSlugs$Pad", "<init>", "()V"⟩, prog_4_method_1_code, 1, none, 2, true, cdX2_init)
abbrev kX2_init : Nat := 3
set_option maxRecDepth 100000 in
theorem ckX2_init : axCk 2 true 0 prog_4_method_1_code cdX2_init = true := by decide +kernel
def cdX3_init : List axE := [
  (0, 2, .null, 0, 0, [], 1), (1, 55, .null, 0, 0, [], 4), (4, 2, .null, 0, 0, [], 5), (5, 0, .int 24, 0, 0, [], 7), (7, 44, .null, 0, 0, [], 9), (9, 60, .null, 3, 0, [], 12), (12, 50, .null, 0, 0, [], 12)]
def mtX3_init : axM := (⟨"BeatSlugs$SwapSearch", "<init>", "()V"⟩, prog_5_method_1_code, 1, none, 3, true, cdX3_init)
abbrev kX3_init : Nat := 4
set_option maxRecDepth 100000 in
theorem ckX3_init : axCk 3 true 0 prog_5_method_1_code cdX3_init = true := by decide +kernel
def cdX4_set : List axE := [
  (0, 2, .null, 0, 0, [], 1), (1, 36, .null, 4, 1, [], 4), (4, 2, .null, 0, 0, [], 5), (5, 36, .null, 4, 0, [], 8), (8, 52, .ref 1, 6, 1, [], 11), (11, 2, .null, 0, 0, [], 12), (12, 36, .null, 4, 1, [], 15), (15, 2, .null, 0, 0, [], 16),
  (16, 36, .null, 4, 0, [], 19), (19, 1, .null, 1, 0, [], 20), (20, 1, .null, 2, 0, [], 21), (21, 52, .ref 0, 9, 2, [], 24), (24, 52, .ref 1, 11, 1, [], 27), (27, 49, .null, 0, 0, [], 27)]
def mtX4_set : axM := (⟨"BeatSlugs", "set", "(II)I"⟩, prog_1_method_2_code, 3, (some .int), 4, false, cdX4_set)
abbrev kX4_set : Nat := 5
set_option maxRecDepth 100000 in
theorem ckX4_set : axCk 4 false 0 prog_1_method_2_code cdX4_set = true := by decide +kernel
def cdX1_prepare : List axE := [
  (0, 2, .null, 0, 0, [], 1), (1, 36, .null, 1, 1, [], 4), (4, 33, .null, 2, 41, [], 7), (7, 2, .null, 0, 0, [], 8), (8, 36, .null, 1, 1, [], 11), (11, 2, .null, 0, 0, [], 12), (12, 36, .null, 1, 0, [], 15), (15, 39, .null, 0, 0, [], 16),
  (16, 32, .null, 3, 41, [], 19), (19, 2, .null, 0, 0, [], 20), (20, 36, .null, 1, 0, [], 23), (23, 2, .null, 0, 0, [], 24), (24, 36, .null, 1, 1, [], 27), (27, 2, .null, 0, 0, [], 28), (28, 36, .null, 1, 0, [], 31), (31, 2, .null, 0, 0, [], 32),
  (32, 36, .null, 1, 1, [], 35), (35, 41, .null, 0, 0, [], 36), (36, 2, .null, 1, 0, [], 37), (37, 53, .null, 7, 2, [], 40), (40, 43, .null, 0, 0, [], 41), (41, 50, .null, 0, 0, [], 41)]
def mtX1_prepare : axM := (⟨"BeatSlugs$History", "prepare", "(LBeatSlugs$Board;)V"⟩, prog_3_method_3_code, 2, none, 1, false, cdX1_prepare)
abbrev kX1_prepare : Nat := 6
set_option maxRecDepth 100000 in
theorem ckX1_prepare : axCk 1 false 0 prog_3_method_3_code cdX1_prepare = true := by decide +kernel
def cdX4_copyInto : List axE := [
  (0, 2, .null, 0, 0, [], 1), (1, 34, .null, 0, 14, [], 4), (4, 46, .null, 0, 0, [], 7), (7, 7, .null, 0, 0, [], 8), (8, 54, .null, 1, 0, [], 11), (11, 9, .null, 0, 0, [], 15), (14, 2, .null, 0, 0, [], 15), (15, 5, .null, 2, 0, [], 16),
  (16, 2, .null, 2, 0, [], 17), (17, 2, .null, 1, 0, [], 18), (18, 52, .ref 0, 8, 1, [], 21), (21, 2, .null, 2, 0, [], 22), (22, 51, .null, 0, 0, [], 22)]
def mtX4_copyInto : axM := (⟨"BeatSlugs", "copyInto", "(LBeatSlugs$Board;LBeatSlugs$Board;)LBeatSlugs$Board;"⟩, prog_1_method_32_code, 3, (some (.object "BeatSlugs$Board")), 4, false, cdX4_copyInto)
abbrev kX4_copyInto : Nat := 7
set_option maxRecDepth 100000 in
theorem ckX4_copyInto : axCk 4 false 0 prog_1_method_32_code cdX4_copyInto = true := by decide +kernel
def cdX0_takeOver : List axE := [
  (0, 2, .null, 1, 0, [], 1), (1, 36, .null, 0, 0, [], 4), (4, 0, .int 0, 0, 0, [], 5), (5, 2, .null, 0, 0, [], 6), (6, 36, .null, 0, 0, [], 9), (9, 0, .int 0, 0, 0, [], 10), (10, 2, .null, 0, 0, [], 11), (11, 36, .null, 0, 0, [], 14),
  (14, 39, .null, 0, 0, [], 15), (15, 56, .null, 0, 0, [], 18), (18, 2, .null, 1, 0, [], 19), (19, 36, .null, 0, 1, [], 22), (22, 0, .int 0, 0, 0, [], 23), (23, 2, .null, 0, 0, [], 24), (24, 36, .null, 0, 1, [], 27), (27, 0, .int 0, 0, 0, [], 28),
  (28, 2, .null, 0, 0, [], 29), (29, 36, .null, 0, 1, [], 32), (32, 39, .null, 0, 0, [], 33), (33, 56, .null, 0, 0, [], 36), (36, 2, .null, 1, 0, [], 37), (37, 36, .null, 0, 2, [], 40), (40, 0, .int 0, 0, 0, [], 41), (41, 2, .null, 0, 0, [], 42),
  (42, 36, .null, 0, 2, [], 45), (45, 0, .int 0, 0, 0, [], 46), (46, 2, .null, 0, 0, [], 47), (47, 36, .null, 0, 2, [], 50), (50, 39, .null, 0, 0, [], 51), (51, 56, .null, 0, 0, [], 54), (54, 2, .null, 1, 0, [], 55), (55, 36, .null, 0, 3, [], 58),
  (58, 0, .int 0, 0, 0, [], 59), (59, 2, .null, 0, 0, [], 60), (60, 36, .null, 0, 3, [], 63), (63, 0, .int 0, 0, 0, [], 64), (64, 2, .null, 0, 0, [], 65), (65, 36, .null, 0, 3, [], 68), (68, 39, .null, 0, 0, [], 69), (69, 56, .null, 0, 0, [], 72),
  (72, 2, .null, 1, 0, [], 73), (73, 36, .null, 0, 4, [], 76), (76, 0, .int 0, 0, 0, [], 77), (77, 2, .null, 0, 0, [], 78), (78, 36, .null, 0, 4, [], 81), (81, 0, .int 0, 0, 0, [], 82), (82, 2, .null, 0, 0, [], 83), (83, 36, .null, 0, 4, [], 86),
  (86, 39, .null, 0, 0, [], 87), (87, 56, .null, 0, 0, [], 90), (90, 2, .null, 1, 0, [], 91), (91, 36, .null, 0, 5, [], 94), (94, 0, .int 0, 0, 0, [], 95), (95, 2, .null, 0, 0, [], 96), (96, 36, .null, 0, 5, [], 99), (99, 0, .int 0, 0, 0, [], 100),
  (100, 2, .null, 0, 0, [], 101), (101, 36, .null, 0, 5, [], 104), (104, 39, .null, 0, 0, [], 105), (105, 56, .null, 0, 0, [], 108), (108, 2, .null, 0, 0, [], 109), (109, 2, .null, 1, 0, [], 110), (110, 36, .null, 0, 6, [], 113), (113, 37, .null, 0, 6, [], 116),
  (116, 2, .null, 0, 0, [], 117), (117, 2, .null, 1, 0, [], 118), (118, 36, .null, 0, 7, [], 121), (121, 37, .null, 0, 7, [], 124), (124, 2, .null, 0, 0, [], 125), (125, 2, .null, 1, 0, [], 126), (126, 36, .null, 0, 8, [], 129), (129, 37, .null, 0, 8, [], 132),
  (132, 50, .null, 0, 0, [], 132)]
def mtX0_takeOver : axM := (⟨"BeatSlugs$Board", "takeOver", "(LBeatSlugs$Board;)V"⟩, prog_2_method_2_code, 2, none, 0, false, cdX0_takeOver)
abbrev kX0_takeOver : Nat := 8
set_option maxRecDepth 100000 in
theorem ckX0_takeOver : axCk 0 false 0 prog_2_method_2_code cdX0_takeOver = true := by decide +kernel
def cdX0_changeSetting : List axE := [
  (0, 1, .null, 1, 0, [], 1), (1, 33, .null, 2, 13, [], 4), (4, 1, .null, 1, 0, [], 5), (5, 2, .null, 0, 0, [], 6), (6, 36, .null, 0, 0, [], 9), (9, 39, .null, 0, 0, [], 10), (10, 32, .null, 2, 16, [], 13), (13, 0, .int (-2), 0, 0, [], 15),
  (15, 49, .null, 0, 0, [], 15), (16, 1, .null, 2, 0, [], 17), (17, 38, .null, 1, 0, [], 20), (20, 1, .null, 1, 0, [], 21), (21, 53, .null, 10, 2, [], 24), (24, 32, .null, 2, 38, [], 27), (27, 1, .null, 2, 0, [], 28), (28, 38, .null, 2, 0, [], 31),
  (31, 1, .null, 1, 0, [], 32), (32, 53, .null, 10, 2, [], 35), (35, 32, .null, 5, 41, [], 38), (38, 0, .int (-2), 0, 0, [], 40), (40, 49, .null, 0, 0, [], 40), (41, 2, .null, 0, 0, [], 42), (42, 36, .null, 0, 0, [], 45), (45, 1, .null, 1, 0, [], 46),
  (46, 40, .null, 0, 0, [], 47), (47, 4, .null, 3, 0, [], 48), (48, 2, .null, 0, 0, [], 49), (49, 36, .null, 0, 0, [], 52), (52, 1, .null, 1, 0, [], 53), (53, 1, .null, 2, 0, [], 54), (54, 42, .null, 0, 0, [], 55), (55, 1, .null, 3, 0, [], 56),
  (56, 49, .null, 0, 0, [], 56)]
def mtX0_changeSetting : axM := (⟨"BeatSlugs$Board", "changeSetting", "(II)I"⟩, prog_2_method_3_code, 4, (some .int), 0, false, cdX0_changeSetting)
abbrev kX0_changeSetting : Nat := 9
set_option maxRecDepth 100000 in
theorem ckX0_changeSetting : axCk 0 false 0 prog_2_method_3_code cdX0_changeSetting = true := by decide +kernel
def cdX4_cell : List axE := [
  (0, 1, .null, 1, 0, [], 1), (1, 33, .null, 2, 16, [], 4), (4, 1, .null, 1, 0, [], 5), (5, 2, .null, 0, 0, [], 6), (6, 39, .null, 0, 0, [], 7), (7, 32, .null, 3, 16, [], 10), (10, 2, .null, 0, 0, [], 11), (11, 1, .null, 1, 0, [], 12),
  (12, 40, .null, 0, 0, [], 13), (13, 9, .null, 0, 0, [], 17), (16, 0, .int 0, 0, 0, [], 17), (17, 49, .null, 0, 0, [], 17)]
def mtX4_cell : axM := (⟨"BeatSlugs", "cell", "([II)I"⟩, prog_1_method_33_code, 2, (some .int), 4, false, cdX4_cell)
abbrev kX4_cell : Nat := 10
set_option maxRecDepth 100000 in
theorem ckX4_cell : axCk 4 false 0 prog_1_method_33_code cdX4_cell = true := by decide +kernel
def cdX1_settle : List axE := [
  (0, 1, .null, 1, 0, [], 1), (1, 33, .null, 2, 47, [], 4), (4, 2, .null, 0, 0, [], 5), (5, 2, .null, 0, 0, [], 6), (6, 36, .null, 1, 1, [], 9), (9, 0, .int 1, 0, 0, [], 10), (10, 11, .null, 0, 0, [], 11), (11, 2, .null, 0, 0, [], 12),
  (12, 36, .null, 1, 0, [], 15), (15, 39, .null, 0, 0, [], 16), (16, 32, .null, 3, 28, [], 19), (19, 2, .null, 0, 0, [], 20), (20, 36, .null, 1, 1, [], 23), (23, 0, .int 1, 0, 0, [], 24), (24, 11, .null, 0, 0, [], 25), (25, 9, .null, 0, 0, [], 29),
  (28, 0, .int 0, 0, 0, [], 29), (29, 37, .null, 1, 1, [], 32), (32, 2, .null, 0, 0, [], 33), (33, 2, .null, 0, 0, [], 34), (34, 36, .null, 1, 2, [], 37), (37, 0, .int 1, 0, 0, [], 38), (38, 11, .null, 0, 0, [], 39), (39, 0, .int 6, 0, 0, [], 41),
  (41, 58, .null, 0, 0, [], 44), (44, 37, .null, 1, 2, [], 47), (47, 1, .null, 1, 0, [], 48), (48, 49, .null, 0, 0, [], 48)]
def mtX1_settle : axM := (⟨"BeatSlugs$History", "settle", "(I)I"⟩, prog_3_method_4_code, 2, (some .int), 1, false, cdX1_settle)
abbrev kX1_settle : Nat := 11
set_option maxRecDepth 100000 in
theorem ckX1_settle : axCk 1 false 0 prog_3_method_4_code cdX1_settle = true := by decide +kernel
def cdX4_target : List axE := [
  (0, 2, .null, 0, 0, [], 1), (1, 36, .null, 4, 1, [], 4), (4, 2, .null, 0, 0, [], 5), (5, 36, .null, 4, 0, [], 8), (8, 52, .ref 1, 6, 1, [], 11), (11, 2, .null, 0, 0, [], 12), (12, 36, .null, 4, 1, [], 15), (15, 2, .null, 0, 0, [], 16),
  (16, 36, .null, 4, 0, [], 19), (19, 1, .null, 1, 0, [], 20), (20, 1, .null, 2, 0, [], 21), (21, 52, .ref 0, 13, 2, [], 24), (24, 52, .ref 1, 11, 1, [], 27), (27, 49, .null, 0, 0, [], 27)]
def mtX4_target : axM := (⟨"BeatSlugs", "target", "(II)I"⟩, prog_1_method_3_code, 3, (some .int), 4, false, cdX4_target)
abbrev kX4_target : Nat := 12
set_option maxRecDepth 100000 in
theorem ckX4_target : axCk 4 false 0 prog_1_method_3_code cdX4_target = true := by decide +kernel
def cdX0_changeTarget : List axE := [
  (0, 1, .null, 1, 0, [], 1), (1, 33, .null, 2, 13, [], 4), (4, 1, .null, 1, 0, [], 5), (5, 2, .null, 0, 0, [], 6), (6, 36, .null, 0, 1, [], 9), (9, 39, .null, 0, 0, [], 10), (10, 32, .null, 2, 15, [], 13), (13, 0, .int (-1), 0, 0, [], 14),
  (14, 49, .null, 0, 0, [], 14), (15, 1, .null, 2, 0, [], 16), (16, 0, .int 1, 0, 0, [], 17), (17, 32, .null, 2, 27, [], 20), (20, 1, .null, 2, 0, [], 21), (21, 0, .int 999, 0, 0, [], 24), (24, 32, .null, 5, 30, [], 27), (27, 0, .int (-2), 0, 0, [], 29),
  (29, 49, .null, 0, 0, [], 29), (30, 2, .null, 0, 0, [], 31), (31, 36, .null, 0, 1, [], 34), (34, 1, .null, 1, 0, [], 35), (35, 40, .null, 0, 0, [], 36), (36, 4, .null, 3, 0, [], 37), (37, 2, .null, 0, 0, [], 38), (38, 36, .null, 0, 1, [], 41),
  (41, 1, .null, 1, 0, [], 42), (42, 1, .null, 2, 0, [], 43), (43, 42, .null, 0, 0, [], 44), (44, 1, .null, 3, 0, [], 45), (45, 49, .null, 0, 0, [], 45)]
def mtX0_changeTarget : axM := (⟨"BeatSlugs$Board", "changeTarget", "(II)I"⟩, prog_2_method_4_code, 4, (some .int), 0, false, cdX0_changeTarget)
abbrev kX0_changeTarget : Nat := 13
set_option maxRecDepth 100000 in
theorem ckX0_changeTarget : axCk 0 false 0 prog_2_method_4_code cdX0_changeTarget = true := by decide +kernel
def cdX4_slug : List axE := [
  (0, 2, .null, 0, 0, [], 1), (1, 36, .null, 4, 1, [], 4), (4, 2, .null, 0, 0, [], 5), (5, 36, .null, 4, 0, [], 8), (8, 52, .ref 1, 6, 1, [], 11), (11, 2, .null, 0, 0, [], 12), (12, 36, .null, 4, 1, [], 15), (15, 2, .null, 0, 0, [], 16),
  (16, 36, .null, 4, 0, [], 19), (19, 1, .null, 1, 0, [], 20), (20, 1, .null, 2, 0, [], 21), (21, 1, .null, 3, 0, [], 22), (22, 52, .ref 0, 15, 3, [], 25), (25, 52, .ref 1, 11, 1, [], 28), (28, 49, .null, 0, 0, [], 28)]
def mtX4_slug : axM := (⟨"BeatSlugs", "slug", "(III)I"⟩, prog_1_method_4_code, 4, (some .int), 4, false, cdX4_slug)
abbrev kX4_slug : Nat := 14
set_option maxRecDepth 100000 in
theorem ckX4_slug : axCk 4 false 0 prog_1_method_4_code cdX4_slug = true := by decide +kernel
def cdX0_addSlug : List axE := [
  (0, 1, .null, 1, 0, [], 1), (1, 33, .null, 2, 12, [], 4), (4, 1, .null, 1, 0, [], 5), (5, 2, .null, 0, 0, [], 6), (6, 36, .null, 0, 8, [], 9), (9, 32, .null, 5, 14, [], 12), (12, 0, .int (-1), 0, 0, [], 13), (13, 49, .null, 0, 0, [], 13),
  (14, 1, .null, 2, 0, [], 15), (15, 0, .int 1, 0, 0, [], 16), (16, 32, .null, 2, 34, [], 19), (19, 1, .null, 2, 0, [], 20), (20, 0, .int 99, 0, 0, [], 22), (22, 32, .null, 4, 34, [], 25), (25, 1, .null, 3, 0, [], 26), (26, 33, .null, 2, 34, [], 29),
  (29, 1, .null, 3, 0, [], 30), (30, 0, .int 1, 0, 0, [], 31), (31, 32, .null, 5, 37, [], 34), (34, 0, .int (-2), 0, 0, [], 36), (36, 49, .null, 0, 0, [], 36), (37, 2, .null, 0, 0, [], 38), (38, 36, .null, 0, 8, [], 41), (41, 0, .int 24, 0, 0, [], 43),
  (43, 32, .null, 2, 49, [], 46), (46, 0, .int (-4), 0, 0, [], 48), (48, 49, .null, 0, 0, [], 48), (49, 2, .null, 0, 0, [], 50), (50, 1, .null, 1, 0, [], 51), (51, 1, .null, 2, 0, [], 52), (52, 52, .ref 0, 16, 2, [], 55), (55, 4, .null, 4, 0, [], 57),
  (57, 1, .null, 3, 0, [], 58), (58, 0, .int 1, 0, 0, [], 59), (59, 32, .null, 1, 76, [], 62), (62, 2, .null, 0, 0, [], 63), (63, 7, .null, 0, 0, [], 64), (64, 36, .null, 0, 7, [], 67), (67, 1, .null, 4, 0, [], 69), (69, 53, .null, 19, 1, [], 72),
  (72, 15, .null, 0, 0, [], 73), (73, 37, .null, 0, 7, [], 76), (76, 1, .null, 4, 0, [], 78), (78, 49, .null, 0, 0, [], 78)]
def mtX0_addSlug : axM := (⟨"BeatSlugs$Board", "addSlug", "(III)I"⟩, prog_2_method_5_code, 5, (some .int), 0, false, cdX0_addSlug)
abbrev kX0_addSlug : Nat := 15
set_option maxRecDepth 100000 in
theorem ckX0_addSlug : axCk 0 false 0 prog_2_method_5_code cdX0_addSlug = true := by decide +kernel
def cdX0_makeSlug : List axE := [
  (0, 2, .null, 0, 0, [], 1), (1, 52, .ref 0, 17, 0, [], 4), (4, 4, .null, 3, 0, [], 5), (5, 2, .null, 0, 0, [], 6), (6, 7, .null, 0, 0, [], 7), (7, 36, .null, 0, 6, [], 10), (10, 1, .null, 3, 0, [], 11), (11, 53, .null, 19, 1, [], 14),
  (14, 15, .null, 0, 0, [], 15), (15, 37, .null, 0, 6, [], 18), (18, 2, .null, 0, 0, [], 19), (19, 36, .null, 0, 3, [], 22), (22, 1, .null, 3, 0, [], 23), (23, 1, .null, 2, 0, [], 24), (24, 53, .null, 20, 3, [], 27), (27, 2, .null, 0, 0, [], 28),
  (28, 36, .null, 0, 4, [], 31), (31, 1, .null, 3, 0, [], 32), (32, 1, .null, 2, 0, [], 33), (33, 53, .null, 20, 3, [], 36), (36, 2, .null, 0, 0, [], 37), (37, 36, .null, 0, 5, [], 40), (40, 1, .null, 3, 0, [], 41), (41, 0, .int 0, 0, 0, [], 42),
  (42, 53, .null, 20, 3, [], 45), (45, 2, .null, 0, 0, [], 46), (46, 1, .null, 1, 0, [], 47), (47, 1, .null, 3, 0, [], 48), (48, 52, .ref 0, 21, 2, [], 51), (51, 1, .null, 3, 0, [], 52), (52, 49, .null, 0, 0, [], 52)]
def mtX0_makeSlug : axM := (⟨"BeatSlugs$Board", "makeSlug", "(II)I"⟩, prog_2_method_15_code, 4, (some .int), 0, false, cdX0_makeSlug)
abbrev kX0_makeSlug : Nat := 16
set_option maxRecDepth 100000 in
theorem ckX0_makeSlug : axCk 0 false 0 prog_2_method_15_code cdX0_makeSlug = true := by decide +kernel
def cdX0_lowestFree : List axE := [
  (0, 0, .int 0, 0, 0, [], 1), (1, 4, .null, 1, 0, [], 2), (2, 1, .null, 1, 0, [], 3), (3, 0, .int 24, 0, 0, [], 5), (5, 32, .null, 3, 27, [], 8), (8, 2, .null, 0, 0, [], 9), (9, 36, .null, 0, 6, [], 12), (12, 1, .null, 1, 0, [], 13),
  (13, 53, .null, 18, 2, [], 16), (16, 33, .null, 1, 21, [], 19), (19, 1, .null, 1, 0, [], 20), (20, 49, .null, 0, 0, [], 20), (21, 6, .int 1, 1, 0, [], 24), (24, 9, .null, 0, 0, [], 2), (27, 0, .int (-1), 0, 0, [], 28), (28, 49, .null, 0, 0, [], 28)]
def mtX0_lowestFree : axM := (⟨"BeatSlugs$Board", "lowestFree", "()I"⟩, prog_2_method_16_code, 2, (some .int), 0, false, cdX0_lowestFree)
abbrev kX0_lowestFree : Nat := 17
set_option maxRecDepth 100000 in
theorem ckX0_lowestFree : axCk 0 false 0 prog_2_method_16_code cdX0_lowestFree = true := by decide +kernel
def cdX4_contains : List axE := [
  (0, 1, .null, 1, 0, [], 1), (1, 33, .null, 2, 22, [], 4), (4, 1, .null, 1, 0, [], 5), (5, 0, .int 24, 0, 0, [], 7), (7, 32, .null, 3, 22, [], 10), (10, 1, .null, 0, 0, [], 11), (11, 1, .null, 1, 0, [], 12), (12, 18, .null, 0, 0, [], 13),
  (13, 0, .int 1, 0, 0, [], 14), (14, 14, .null, 0, 0, [], 15), (15, 33, .null, 0, 22, [], 18), (18, 0, .int 1, 0, 0, [], 19), (19, 9, .null, 0, 0, [], 23), (22, 0, .int 0, 0, 0, [], 23), (23, 49, .null, 2, 0, [], 23)]
def mtX4_contains : axM := (⟨"BeatSlugs", "contains", "(II)Z"⟩, prog_1_method_36_code, 2, (some .boolean), 4, false, cdX4_contains)
abbrev kX4_contains : Nat := 18
set_option maxRecDepth 100000 in
theorem ckX4_contains : axCk 4 false 2 prog_1_method_36_code cdX4_contains = true := by decide +kernel
def cdX4_bit : List axE := [
  (0, 1, .null, 0, 0, [], 1), (1, 33, .null, 2, 16, [], 4), (4, 1, .null, 0, 0, [], 5), (5, 0, .int 24, 0, 0, [], 7), (7, 32, .null, 3, 16, [], 10), (10, 0, .int 1, 0, 0, [], 11), (11, 1, .null, 0, 0, [], 12), (12, 17, .null, 0, 0, [], 13),
  (13, 9, .null, 0, 0, [], 17), (16, 0, .int 0, 0, 0, [], 17), (17, 49, .null, 0, 0, [], 17)]
def mtX4_bit : axM := (⟨"BeatSlugs", "bit", "(I)I"⟩, prog_1_method_35_code, 1, (some .int), 4, false, cdX4_bit)
abbrev kX4_bit : Nat := 19
set_option maxRecDepth 100000 in
theorem ckX4_bit : axCk 4 false 0 prog_1_method_35_code cdX4_bit = true := by decide +kernel
def cdX4_store : List axE := [
  (0, 1, .null, 1, 0, [], 1), (1, 33, .null, 2, 14, [], 4), (4, 1, .null, 1, 0, [], 5), (5, 2, .null, 0, 0, [], 6), (6, 39, .null, 0, 0, [], 7), (7, 32, .null, 3, 14, [], 10), (10, 2, .null, 0, 0, [], 11), (11, 1, .null, 1, 0, [], 12),
  (12, 1, .null, 2, 0, [], 13), (13, 42, .null, 0, 0, [], 14), (14, 50, .null, 0, 0, [], 14)]
def mtX4_store : axM := (⟨"BeatSlugs", "store", "([III)V"⟩, prog_1_method_34_code, 3, none, 4, false, cdX4_store)
abbrev kX4_store : Nat := 20
set_option maxRecDepth 100000 in
theorem ckX4_store : axCk 4 false 0 prog_1_method_34_code cdX4_store = true := by decide +kernel
def cdX0_putIn : List axE := [
  (0, 2, .null, 0, 0, [], 1), (1, 36, .null, 0, 8, [], 4), (4, 4, .null, 3, 0, [], 5), (5, 1, .null, 3, 0, [], 6), (6, 1, .null, 1, 0, [], 7), (7, 32, .null, 5, 34, [], 10), (10, 2, .null, 0, 0, [], 11), (11, 36, .null, 0, 2, [], 14),
  (14, 1, .null, 3, 0, [], 15), (15, 2, .null, 0, 0, [], 16), (16, 36, .null, 0, 2, [], 19), (19, 1, .null, 3, 0, [], 20), (20, 0, .int 1, 0, 0, [], 21), (21, 12, .null, 0, 0, [], 22), (22, 53, .null, 10, 2, [], 25), (25, 53, .null, 20, 3, [], 28),
  (28, 6, .int (-1), 3, 0, [], 31), (31, 9, .null, 0, 0, [], 5), (34, 2, .null, 0, 0, [], 35), (35, 36, .null, 0, 2, [], 38), (38, 1, .null, 1, 0, [], 39), (39, 1, .null, 2, 0, [], 40), (40, 53, .null, 20, 3, [], 43), (43, 2, .null, 0, 0, [], 44),
  (44, 7, .null, 0, 0, [], 45), (45, 36, .null, 0, 8, [], 48), (48, 0, .int 1, 0, 0, [], 49), (49, 11, .null, 0, 0, [], 50), (50, 37, .null, 0, 8, [], 53), (53, 50, .null, 0, 0, [], 53)]
def mtX0_putIn : axM := (⟨"BeatSlugs$Board", "putIn", "(II)V"⟩, prog_2_method_17_code, 4, none, 0, false, cdX0_putIn)
abbrev kX0_putIn : Nat := 21
set_option maxRecDepth 100000 in
theorem ckX0_putIn : axCk 0 false 0 prog_2_method_17_code cdX0_putIn = true := by decide +kernel
def cdX4_drop : List axE := [
  (0, 2, .null, 0, 0, [], 1), (1, 36, .null, 4, 1, [], 4), (4, 2, .null, 0, 0, [], 5), (5, 36, .null, 4, 0, [], 8), (8, 52, .ref 1, 6, 1, [], 11), (11, 2, .null, 0, 0, [], 12), (12, 36, .null, 4, 1, [], 15), (15, 2, .null, 0, 0, [], 16),
  (16, 36, .null, 4, 0, [], 19), (19, 1, .null, 1, 0, [], 20), (20, 52, .ref 0, 23, 1, [], 23), (23, 52, .ref 1, 11, 1, [], 26), (26, 49, .null, 0, 0, [], 26)]
def mtX4_drop : axM := (⟨"BeatSlugs", "drop", "(I)I"⟩, prog_1_method_5_code, 2, (some .int), 4, false, cdX4_drop)
abbrev kX4_drop : Nat := 22
set_option maxRecDepth 100000 in
theorem ckX4_drop : axCk 4 false 0 prog_1_method_5_code cdX4_drop = true := by decide +kernel
def cdX0_dropSlug : List axE := [
  (0, 2, .null, 0, 0, [], 1), (1, 1, .null, 1, 0, [], 2), (2, 52, .ref 0, 24, 1, [], 5), (5, 33, .null, 1, 10, [], 8), (8, 0, .int (-1), 0, 0, [], 9), (9, 49, .null, 0, 0, [], 9), (10, 2, .null, 0, 0, [], 11), (11, 2, .null, 0, 0, [], 12),
  (12, 1, .null, 1, 0, [], 13), (13, 52, .ref 0, 25, 1, [], 16), (16, 52, .ref 0, 26, 1, [], 19), (19, 2, .null, 0, 0, [], 20), (20, 7, .null, 0, 0, [], 21), (21, 36, .null, 0, 6, [], 24), (24, 1, .null, 1, 0, [], 25), (25, 53, .null, 19, 1, [], 28),
  (28, 0, .int (-1), 0, 0, [], 29), (29, 16, .null, 0, 0, [], 30), (30, 14, .null, 0, 0, [], 31), (31, 37, .null, 0, 6, [], 34), (34, 2, .null, 0, 0, [], 35), (35, 7, .null, 0, 0, [], 36), (36, 36, .null, 0, 7, [], 39), (39, 1, .null, 1, 0, [], 40),
  (40, 53, .null, 19, 1, [], 43), (43, 0, .int (-1), 0, 0, [], 44), (44, 16, .null, 0, 0, [], 45), (45, 14, .null, 0, 0, [], 46), (46, 37, .null, 0, 7, [], 49), (49, 0, .int 0, 0, 0, [], 50), (50, 4, .null, 2, 0, [], 51), (51, 1, .null, 2, 0, [], 52),
  (52, 2, .null, 0, 0, [], 53), (53, 36, .null, 0, 5, [], 56), (56, 39, .null, 0, 0, [], 57), (57, 32, .null, 3, 81, [], 60), (60, 2, .null, 0, 0, [], 61), (61, 36, .null, 0, 5, [], 64), (64, 1, .null, 2, 0, [], 65), (65, 10, .null, 0, 0, [], 66),
  (66, 40, .null, 0, 0, [], 67), (67, 1, .null, 1, 0, [], 68), (68, 53, .null, 19, 1, [], 71), (71, 0, .int (-1), 0, 0, [], 72), (72, 16, .null, 0, 0, [], 73), (73, 14, .null, 0, 0, [], 74), (74, 42, .null, 0, 0, [], 75), (75, 6, .int 1, 2, 0, [], 78),
  (78, 9, .null, 0, 0, [], 51), (81, 2, .null, 0, 0, [], 82), (82, 36, .null, 0, 8, [], 85), (85, 49, .null, 0, 0, [], 85)]
def mtX0_dropSlug : axM := (⟨"BeatSlugs$Board", "dropSlug", "(I)I"⟩, prog_2_method_6_code, 3, (some .int), 0, false, cdX0_dropSlug)
abbrev kX0_dropSlug : Nat := 23
set_option maxRecDepth 100000 in
theorem ckX0_dropSlug : axCk 0 false 0 prog_2_method_6_code cdX0_dropSlug = true := by decide +kernel
def cdX0_has : List axE := [
  (0, 2, .null, 0, 0, [], 1), (1, 36, .null, 0, 6, [], 4), (4, 1, .null, 1, 0, [], 5), (5, 53, .null, 18, 2, [], 8), (8, 49, .null, 2, 0, [], 8)]
def mtX0_has : axM := (⟨"BeatSlugs$Board", "has", "(I)Z"⟩, prog_2_method_26_code, 2, (some .boolean), 0, false, cdX0_has)
abbrev kX0_has : Nat := 24
set_option maxRecDepth 100000 in
theorem ckX0_has : axCk 0 false 2 prog_2_method_26_code cdX0_has = true := by decide +kernel
def cdX0_placeOf : List axE := [
  (0, 0, .int 0, 0, 0, [], 1), (1, 4, .null, 2, 0, [], 2), (2, 1, .null, 2, 0, [], 3), (3, 2, .null, 0, 0, [], 4), (4, 36, .null, 0, 8, [], 7), (7, 32, .null, 3, 30, [], 10), (10, 2, .null, 0, 0, [], 11), (11, 36, .null, 0, 2, [], 14),
  (14, 1, .null, 2, 0, [], 15), (15, 53, .null, 10, 2, [], 18), (18, 1, .null, 1, 0, [], 19), (19, 32, .null, 1, 24, [], 22), (22, 1, .null, 2, 0, [], 23), (23, 49, .null, 0, 0, [], 23), (24, 6, .int 1, 2, 0, [], 27), (27, 9, .null, 0, 0, [], 2),
  (30, 0, .int (-1), 0, 0, [], 31), (31, 49, .null, 0, 0, [], 31)]
def mtX0_placeOf : axM := (⟨"BeatSlugs$Board", "placeOf", "(I)I"⟩, prog_2_method_28_code, 3, (some .int), 0, false, cdX0_placeOf)
abbrev kX0_placeOf : Nat := 25
set_option maxRecDepth 100000 in
theorem ckX0_placeOf : axCk 0 false 0 prog_2_method_28_code cdX0_placeOf = true := by decide +kernel
def cdX0_takeOut : List axE := [
  (0, 1, .null, 1, 0, [], 1), (1, 0, .int 1, 0, 0, [], 2), (2, 11, .null, 0, 0, [], 3), (3, 4, .null, 2, 0, [], 4), (4, 1, .null, 2, 0, [], 5), (5, 2, .null, 0, 0, [], 6), (6, 36, .null, 0, 8, [], 9), (9, 32, .null, 3, 36, [], 12),
  (12, 2, .null, 0, 0, [], 13), (13, 36, .null, 0, 2, [], 16), (16, 1, .null, 2, 0, [], 17), (17, 0, .int 1, 0, 0, [], 18), (18, 12, .null, 0, 0, [], 19), (19, 2, .null, 0, 0, [], 20), (20, 36, .null, 0, 2, [], 23), (23, 1, .null, 2, 0, [], 24),
  (24, 53, .null, 10, 2, [], 27), (27, 53, .null, 20, 3, [], 30), (30, 6, .int 1, 2, 0, [], 33), (33, 9, .null, 0, 0, [], 4), (36, 2, .null, 0, 0, [], 37), (37, 7, .null, 0, 0, [], 38), (38, 36, .null, 0, 8, [], 41), (41, 0, .int 1, 0, 0, [], 42),
  (42, 12, .null, 0, 0, [], 43), (43, 37, .null, 0, 8, [], 46), (46, 50, .null, 0, 0, [], 46)]
def mtX0_takeOut : axM := (⟨"BeatSlugs$Board", "takeOut", "(I)V"⟩, prog_2_method_18_code, 3, none, 0, false, cdX0_takeOut)
abbrev kX0_takeOut : Nat := 26
set_option maxRecDepth 100000 in
theorem ckX0_takeOut : axCk 0 false 0 prog_2_method_18_code cdX0_takeOut = true := by decide +kernel
def cdX4_turn : List axE := [
  (0, 2, .null, 0, 0, [], 1), (1, 36, .null, 4, 1, [], 4), (4, 2, .null, 0, 0, [], 5), (5, 36, .null, 4, 0, [], 8), (8, 52, .ref 1, 6, 1, [], 11), (11, 2, .null, 0, 0, [], 12), (12, 36, .null, 4, 1, [], 15), (15, 2, .null, 0, 0, [], 16),
  (16, 36, .null, 4, 0, [], 19), (19, 1, .null, 1, 0, [], 20), (20, 52, .ref 0, 28, 1, [], 23), (23, 52, .ref 1, 11, 1, [], 26), (26, 49, .null, 0, 0, [], 26)]
def mtX4_turn : axM := (⟨"BeatSlugs", "turn", "(I)I"⟩, prog_1_method_6_code, 2, (some .int), 4, false, cdX4_turn)
abbrev kX4_turn : Nat := 27
set_option maxRecDepth 100000 in
theorem ckX4_turn : axCk 4 false 0 prog_1_method_6_code cdX4_turn = true := by decide +kernel
def cdX0_flipTurn : List axE := [
  (0, 2, .null, 0, 0, [], 1), (1, 1, .null, 1, 0, [], 2), (2, 52, .ref 0, 24, 1, [], 5), (5, 33, .null, 1, 10, [], 8), (8, 0, .int (-1), 0, 0, [], 9), (9, 49, .null, 0, 0, [], 9), (10, 2, .null, 0, 0, [], 11), (11, 7, .null, 0, 0, [], 12),
  (12, 36, .null, 0, 7, [], 15), (15, 1, .null, 1, 0, [], 16), (16, 53, .null, 19, 1, [], 19), (19, 16, .null, 0, 0, [], 20), (20, 37, .null, 0, 7, [], 23), (23, 2, .null, 0, 0, [], 24), (24, 1, .null, 1, 0, [], 25), (25, 52, .ref 0, 29, 1, [], 28),
  (28, 33, .null, 0, 35, [], 31), (31, 0, .int 1, 0, 0, [], 32), (32, 9, .null, 0, 0, [], 36), (35, 0, .int 0, 0, 0, [], 36), (36, 49, .null, 0, 0, [], 36)]
def mtX0_flipTurn : axM := (⟨"BeatSlugs$Board", "flipTurn", "(I)I"⟩, prog_2_method_7_code, 2, (some .int), 0, false, cdX0_flipTurn)
abbrev kX0_flipTurn : Nat := 28
set_option maxRecDepth 100000 in
theorem ckX0_flipTurn : axCk 0 false 0 prog_2_method_7_code cdX0_flipTurn = true := by decide +kernel
def cdX0_isTurn : List axE := [
  (0, 2, .null, 0, 0, [], 1), (1, 36, .null, 0, 7, [], 4), (4, 1, .null, 1, 0, [], 5), (5, 53, .null, 18, 2, [], 8), (8, 49, .null, 2, 0, [], 8)]
def mtX0_isTurn : axM := (⟨"BeatSlugs$Board", "isTurn", "(I)Z"⟩, prog_2_method_31_code, 2, (some .boolean), 0, false, cdX0_isTurn)
abbrev kX0_isTurn : Nat := 29
set_option maxRecDepth 100000 in
theorem ckX0_isTurn : axCk 0 false 2 prog_2_method_31_code cdX0_isTurn = true := by decide +kernel
def cdX4_need : List axE := [
  (0, 2, .null, 0, 0, [], 1), (1, 36, .null, 4, 1, [], 4), (4, 2, .null, 0, 0, [], 5), (5, 36, .null, 4, 0, [], 8), (8, 52, .ref 1, 6, 1, [], 11), (11, 2, .null, 0, 0, [], 12), (12, 36, .null, 4, 1, [], 15), (15, 2, .null, 0, 0, [], 16),
  (16, 36, .null, 4, 0, [], 19), (19, 1, .null, 1, 0, [], 20), (20, 1, .null, 2, 0, [], 21), (21, 52, .ref 0, 31, 2, [], 24), (24, 52, .ref 1, 11, 1, [], 27), (27, 49, .null, 0, 0, [], 27)]
def mtX4_need : axM := (⟨"BeatSlugs", "need", "(II)I"⟩, prog_1_method_7_code, 3, (some .int), 4, false, cdX4_need)
abbrev kX4_need : Nat := 30
set_option maxRecDepth 100000 in
theorem ckX4_need : axCk 4 false 0 prog_1_method_7_code cdX4_need = true := by decide +kernel
def cdX0_flipNeed : List axE := [
  (0, 2, .null, 0, 0, [], 1), (1, 1, .null, 1, 0, [], 2), (2, 52, .ref 0, 24, 1, [], 5), (5, 33, .null, 0, 16, [], 8), (8, 2, .null, 0, 0, [], 9), (9, 1, .null, 2, 0, [], 10), (10, 52, .ref 0, 24, 1, [], 13), (13, 33, .null, 1, 18, [], 16),
  (16, 0, .int (-1), 0, 0, [], 17), (17, 49, .null, 0, 0, [], 17), (18, 1, .null, 1, 0, [], 19), (19, 1, .null, 2, 0, [], 20), (20, 32, .null, 1, 26, [], 23), (23, 0, .int (-2), 0, 0, [], 25), (25, 49, .null, 0, 0, [], 25), (26, 2, .null, 0, 0, [], 27),
  (27, 1, .null, 1, 0, [], 28), (28, 52, .ref 0, 32, 1, [], 31), (31, 1, .null, 2, 0, [], 32), (32, 53, .null, 18, 2, [], 35), (35, 33, .null, 1, 54, [], 38), (38, 2, .null, 0, 0, [], 39), (39, 1, .null, 2, 0, [], 40), (40, 52, .ref 0, 25, 1, [], 43),
  (43, 2, .null, 0, 0, [], 44), (44, 1, .null, 1, 0, [], 45), (45, 52, .ref 0, 25, 1, [], 48), (48, 32, .null, 5, 54, [], 51), (51, 0, .int (-5), 0, 0, [], 53), (53, 49, .null, 0, 0, [], 53), (54, 2, .null, 0, 0, [], 55), (55, 36, .null, 0, 5, [], 58),
  (58, 1, .null, 1, 0, [], 59), (59, 2, .null, 0, 0, [], 60), (60, 1, .null, 1, 0, [], 61), (61, 52, .ref 0, 32, 1, [], 64), (64, 1, .null, 2, 0, [], 65), (65, 53, .null, 19, 1, [], 68), (68, 16, .null, 0, 0, [], 69), (69, 53, .null, 20, 3, [], 72),
  (72, 2, .null, 0, 0, [], 73), (73, 1, .null, 1, 0, [], 74), (74, 52, .ref 0, 32, 1, [], 77), (77, 53, .null, 33, 1, [], 80), (80, 49, .null, 0, 0, [], 80)]
def mtX0_flipNeed : axM := (⟨"BeatSlugs$Board", "flipNeed", "(II)I"⟩, prog_2_method_8_code, 3, (some .int), 0, false, cdX0_flipNeed)
abbrev kX0_flipNeed : Nat := 31
set_option maxRecDepth 100000 in
theorem ckX0_flipNeed : axCk 0 false 0 prog_2_method_8_code cdX0_flipNeed = true := by decide +kernel
def cdX0_needsOf : List axE := [
  (0, 2, .null, 0, 0, [], 1), (1, 36, .null, 0, 5, [], 4), (4, 1, .null, 1, 0, [], 5), (5, 53, .null, 10, 2, [], 8), (8, 49, .null, 0, 0, [], 8)]
def mtX0_needsOf : axM := (⟨"BeatSlugs$Board", "needsOf", "(I)I"⟩, prog_2_method_34_code, 2, (some .int), 0, false, cdX0_needsOf)
abbrev kX0_needsOf : Nat := 32
set_option maxRecDepth 100000 in
theorem ckX0_needsOf : axCk 0 false 0 prog_2_method_34_code cdX0_needsOf = true := by decide +kernel
def cdJ_bitCount : List axE := [
  (0, 1, .null, 0, 0, [], 1), (1, 1, .null, 0, 0, [], 2), (2, 0, .int 1, 0, 0, [], 3), (3, 19, .null, 0, 0, [], 4), (4, 0, .int 1431655765, 0, 0, [], 7), (7, 14, .null, 0, 0, [], 8), (8, 12, .null, 0, 0, [], 9), (9, 4, .null, 0, 0, [], 10),
  (10, 1, .null, 0, 0, [], 11), (11, 0, .int 858993459, 0, 0, [], 14), (14, 14, .null, 0, 0, [], 15), (15, 1, .null, 0, 0, [], 16), (16, 0, .int 2, 0, 0, [], 17), (17, 19, .null, 0, 0, [], 18), (18, 0, .int 858993459, 0, 0, [], 21), (21, 14, .null, 0, 0, [], 22),
  (22, 11, .null, 0, 0, [], 23), (23, 4, .null, 0, 0, [], 24), (24, 1, .null, 0, 0, [], 25), (25, 1, .null, 0, 0, [], 26), (26, 0, .int 4, 0, 0, [], 27), (27, 19, .null, 0, 0, [], 28), (28, 11, .null, 0, 0, [], 29), (29, 0, .int 252645135, 0, 0, [], 32),
  (32, 14, .null, 0, 0, [], 33), (33, 4, .null, 0, 0, [], 34), (34, 1, .null, 0, 0, [], 35), (35, 1, .null, 0, 0, [], 36), (36, 0, .int 8, 0, 0, [], 38), (38, 19, .null, 0, 0, [], 39), (39, 11, .null, 0, 0, [], 40), (40, 4, .null, 0, 0, [], 41),
  (41, 1, .null, 0, 0, [], 42), (42, 1, .null, 0, 0, [], 43), (43, 0, .int 16, 0, 0, [], 45), (45, 19, .null, 0, 0, [], 46), (46, 11, .null, 0, 0, [], 47), (47, 4, .null, 0, 0, [], 48), (48, 1, .null, 0, 0, [], 49), (49, 0, .int 63, 0, 0, [], 51),
  (51, 14, .null, 0, 0, [], 52), (52, 49, .null, 0, 0, [], 52)]
def mtJ_bitCount : axM := (⟨"java/lang/Integer", "bitCount", "(I)I"⟩, prog_8_method_49_code, 1, (some .int), 7, false, cdJ_bitCount)
abbrev kJ_bitCount : Nat := 33
set_option maxRecDepth 100000 in
theorem ckJ_bitCount : axCk 7 false 0 prog_8_method_49_code cdJ_bitCount = true := by decide +kernel
def cdX4_trim : List axE := [
  (0, 2, .null, 0, 0, [], 1), (1, 36, .null, 4, 1, [], 4), (4, 2, .null, 0, 0, [], 5), (5, 36, .null, 4, 0, [], 8), (8, 52, .ref 1, 6, 1, [], 11), (11, 2, .null, 0, 0, [], 12), (12, 36, .null, 4, 1, [], 15), (15, 2, .null, 0, 0, [], 16),
  (16, 36, .null, 4, 0, [], 19), (19, 1, .null, 1, 0, [], 20), (20, 1, .null, 2, 0, [], 21), (21, 52, .ref 0, 35, 2, [], 24), (24, 52, .ref 1, 11, 1, [], 27), (27, 49, .null, 0, 0, [], 27)]
def mtX4_trim : axM := (⟨"BeatSlugs", "trim", "(II)I"⟩, prog_1_method_8_code, 3, (some .int), 4, false, cdX4_trim)
abbrev kX4_trim : Nat := 34
set_option maxRecDepth 100000 in
theorem ckX4_trim : axCk 4 false 0 prog_1_method_8_code cdX4_trim = true := by decide +kernel
def cdX0_trimSlug : List axE := [
  (0, 2, .null, 0, 0, [], 1), (1, 1, .null, 1, 0, [], 2), (2, 52, .ref 0, 24, 1, [], 5), (5, 33, .null, 1, 10, [], 8), (8, 0, .int (-1), 0, 0, [], 9), (9, 49, .null, 0, 0, [], 9), (10, 1, .null, 2, 0, [], 11), (11, 0, .int 1, 0, 0, [], 12),
  (12, 32, .null, 2, 21, [], 15), (15, 1, .null, 2, 0, [], 16), (16, 0, .int 98, 0, 0, [], 18), (18, 32, .null, 5, 24, [], 21), (21, 0, .int (-2), 0, 0, [], 23), (23, 49, .null, 0, 0, [], 23), (24, 1, .null, 2, 0, [], 25), (25, 2, .null, 0, 0, [], 26),
  (26, 1, .null, 1, 0, [], 27), (27, 52, .ref 0, 36, 1, [], 30), (30, 32, .null, 5, 36, [], 33), (33, 0, .int (-5), 0, 0, [], 35), (35, 49, .null, 0, 0, [], 35), (36, 2, .null, 0, 0, [], 37), (37, 36, .null, 0, 4, [], 40), (40, 1, .null, 1, 0, [], 41),
  (41, 2, .null, 0, 0, [], 42), (42, 1, .null, 1, 0, [], 43), (43, 52, .ref 0, 37, 1, [], 46), (46, 1, .null, 2, 0, [], 47), (47, 12, .null, 0, 0, [], 48), (48, 53, .null, 20, 3, [], 51), (51, 2, .null, 0, 0, [], 52), (52, 1, .null, 1, 0, [], 53),
  (53, 52, .ref 0, 37, 1, [], 56), (56, 49, .null, 0, 0, [], 56)]
def mtX0_trimSlug : axM := (⟨"BeatSlugs$Board", "trimSlug", "(II)I"⟩, prog_2_method_9_code, 3, (some .int), 0, false, cdX0_trimSlug)
abbrev kX0_trimSlug : Nat := 35
set_option maxRecDepth 100000 in
theorem ckX0_trimSlug : axCk 0 false 0 prog_2_method_9_code cdX0_trimSlug = true := by decide +kernel
def cdX0_roomOf : List axE := [
  (0, 2, .null, 0, 0, [], 1), (1, 36, .null, 0, 3, [], 4), (4, 1, .null, 1, 0, [], 5), (5, 53, .null, 10, 2, [], 8), (8, 4, .null, 2, 0, [], 9), (9, 0, .int 1, 0, 0, [], 10), (10, 1, .null, 2, 0, [], 11), (11, 1, .null, 2, 0, [], 12),
  (12, 2, .null, 0, 0, [], 13), (13, 36, .null, 0, 0, [], 16), (16, 0, .int 2, 0, 0, [], 17), (17, 53, .null, 10, 2, [], 20), (20, 13, .null, 0, 0, [], 21), (21, 0, .int 100, 0, 0, [], 23), (23, 47, .null, 0, 0, [], 24), (24, 12, .null, 0, 0, [], 25),
  (25, 57, .null, 0, 0, [], 28), (28, 4, .null, 3, 0, [], 29), (29, 0, .int 0, 0, 0, [], 30), (30, 2, .null, 0, 0, [], 31), (31, 36, .null, 0, 4, [], 34), (34, 1, .null, 1, 0, [], 35), (35, 53, .null, 10, 2, [], 38), (38, 1, .null, 3, 0, [], 39),
  (39, 12, .null, 0, 0, [], 40), (40, 57, .null, 0, 0, [], 43), (43, 49, .null, 0, 0, [], 43)]
def mtX0_roomOf : axM := (⟨"BeatSlugs$Board", "roomOf", "(I)I"⟩, prog_2_method_32_code, 4, (some .int), 0, false, cdX0_roomOf)
abbrev kX0_roomOf : Nat := 36
set_option maxRecDepth 100000 in
theorem ckX0_roomOf : axCk 0 false 0 prog_2_method_32_code cdX0_roomOf = true := by decide +kernel
def cdX0_beatsOf : List axE := [
  (0, 2, .null, 0, 0, [], 1), (1, 36, .null, 0, 4, [], 4), (4, 1, .null, 1, 0, [], 5), (5, 53, .null, 10, 2, [], 8), (8, 49, .null, 0, 0, [], 8)]
def mtX0_beatsOf : axM := (⟨"BeatSlugs$Board", "beatsOf", "(I)I"⟩, prog_2_method_30_code, 2, (some .int), 0, false, cdX0_beatsOf)
abbrev kX0_beatsOf : Nat := 37
set_option maxRecDepth 100000 in
theorem ckX0_beatsOf : axCk 0 false 0 prog_2_method_30_code cdX0_beatsOf = true := by decide +kernel
def cdX4_restoreTail : List axE := [
  (0, 2, .null, 0, 0, [], 1), (1, 36, .null, 4, 1, [], 4), (4, 2, .null, 0, 0, [], 5), (5, 36, .null, 4, 0, [], 8), (8, 52, .ref 1, 6, 1, [], 11), (11, 2, .null, 0, 0, [], 12), (12, 36, .null, 4, 1, [], 15), (15, 2, .null, 0, 0, [], 16),
  (16, 36, .null, 4, 0, [], 19), (19, 1, .null, 1, 0, [], 20), (20, 52, .ref 0, 39, 1, [], 23), (23, 52, .ref 1, 11, 1, [], 26), (26, 49, .null, 0, 0, [], 26)]
def mtX4_restoreTail : axM := (⟨"BeatSlugs", "restoreTail", "(I)I"⟩, prog_1_method_9_code, 2, (some .int), 4, false, cdX4_restoreTail)
abbrev kX4_restoreTail : Nat := 38
set_option maxRecDepth 100000 in
theorem ckX4_restoreTail : axCk 4 false 0 prog_1_method_9_code cdX4_restoreTail = true := by decide +kernel
def cdX0_giveBack : List axE := [
  (0, 2, .null, 0, 0, [], 1), (1, 1, .null, 1, 0, [], 2), (2, 52, .ref 0, 24, 1, [], 5), (5, 33, .null, 1, 10, [], 8), (8, 0, .int (-1), 0, 0, [], 9), (9, 49, .null, 0, 0, [], 9), (10, 2, .null, 0, 0, [], 11), (11, 1, .null, 1, 0, [], 12),
  (12, 52, .ref 0, 40, 1, [], 15), (15, 2, .null, 0, 0, [], 16), (16, 1, .null, 1, 0, [], 17), (17, 52, .ref 0, 37, 1, [], 20), (20, 12, .null, 0, 0, [], 21), (21, 4, .null, 2, 0, [], 22), (22, 2, .null, 0, 0, [], 23), (23, 36, .null, 0, 4, [], 26),
  (26, 1, .null, 1, 0, [], 27), (27, 2, .null, 0, 0, [], 28), (28, 1, .null, 1, 0, [], 29), (29, 52, .ref 0, 40, 1, [], 32), (32, 53, .null, 20, 3, [], 35), (35, 1, .null, 2, 0, [], 36), (36, 49, .null, 0, 0, [], 36)]
def mtX0_giveBack : axM := (⟨"BeatSlugs$Board", "giveBack", "(I)I"⟩, prog_2_method_10_code, 3, (some .int), 0, false, cdX0_giveBack)
abbrev kX0_giveBack : Nat := 39
set_option maxRecDepth 100000 in
theorem ckX0_giveBack : axCk 0 false 0 prog_2_method_10_code cdX0_giveBack = true := by decide +kernel
def cdX0_writtenOf : List axE := [
  (0, 2, .null, 0, 0, [], 1), (1, 36, .null, 0, 3, [], 4), (4, 1, .null, 1, 0, [], 5), (5, 53, .null, 10, 2, [], 8), (8, 49, .null, 0, 0, [], 8)]
def mtX0_writtenOf : axM := (⟨"BeatSlugs$Board", "writtenOf", "(I)I"⟩, prog_2_method_29_code, 2, (some .int), 0, false, cdX0_writtenOf)
abbrev kX0_writtenOf : Nat := 40
set_option maxRecDepth 100000 in
theorem ckX0_writtenOf : axCk 0 false 0 prog_2_method_29_code cdX0_writtenOf = true := by decide +kernel
def cdX4_move : List axE := [
  (0, 2, .null, 0, 0, [], 1), (1, 36, .null, 4, 1, [], 4), (4, 2, .null, 0, 0, [], 5), (5, 36, .null, 4, 0, [], 8), (8, 52, .ref 1, 6, 1, [], 11), (11, 2, .null, 0, 0, [], 12), (12, 36, .null, 4, 1, [], 15), (15, 2, .null, 0, 0, [], 16),
  (16, 36, .null, 4, 0, [], 19), (19, 1, .null, 1, 0, [], 20), (20, 1, .null, 2, 0, [], 21), (21, 52, .ref 0, 42, 2, [], 24), (24, 52, .ref 1, 11, 1, [], 27), (27, 49, .null, 0, 0, [], 27)]
def mtX4_move : axM := (⟨"BeatSlugs", "move", "(II)I"⟩, prog_1_method_10_code, 3, (some .int), 4, false, cdX4_move)
abbrev kX4_move : Nat := 41
set_option maxRecDepth 100000 in
theorem ckX4_move : axCk 4 false 0 prog_1_method_10_code cdX4_move = true := by decide +kernel
def cdX0_moveSlug : List axE := [
  (0, 2, .null, 0, 0, [], 1), (1, 1, .null, 1, 0, [], 2), (2, 52, .ref 0, 24, 1, [], 5), (5, 33, .null, 0, 20, [], 8), (8, 1, .null, 2, 0, [], 9), (9, 33, .null, 2, 20, [], 12), (12, 1, .null, 2, 0, [], 13), (13, 2, .null, 0, 0, [], 14),
  (14, 36, .null, 0, 8, [], 17), (17, 32, .null, 2, 22, [], 20), (20, 0, .int (-1), 0, 0, [], 21), (21, 49, .null, 0, 0, [], 21), (22, 2, .null, 0, 0, [], 23), (23, 1, .null, 1, 0, [], 24), (24, 1, .null, 2, 0, [], 25), (25, 52, .ref 0, 43, 2, [], 28),
  (28, 33, .null, 1, 34, [], 31), (31, 0, .int (-5), 0, 0, [], 33), (33, 49, .null, 0, 0, [], 33), (34, 2, .null, 0, 0, [], 35), (35, 1, .null, 1, 0, [], 36), (36, 52, .ref 0, 25, 1, [], 39), (39, 4, .null, 3, 0, [], 40), (40, 2, .null, 0, 0, [], 41),
  (41, 1, .null, 3, 0, [], 42), (42, 52, .ref 0, 26, 1, [], 45), (45, 2, .null, 0, 0, [], 46), (46, 1, .null, 2, 0, [], 47), (47, 1, .null, 1, 0, [], 48), (48, 52, .ref 0, 21, 2, [], 51), (51, 1, .null, 3, 0, [], 52), (52, 49, .null, 0, 0, [], 52)]
def mtX0_moveSlug : axM := (⟨"BeatSlugs$Board", "moveSlug", "(II)I"⟩, prog_2_method_11_code, 4, (some .int), 0, false, cdX0_moveSlug)
abbrev kX0_moveSlug : Nat := 42
set_option maxRecDepth 100000 in
theorem ckX0_moveSlug : axCk 0 false 0 prog_2_method_11_code cdX0_moveSlug = true := by decide +kernel
def cdX0_mayStandIn : List axE := [
  (0, 1, .null, 2, 0, [], 1), (1, 2, .null, 0, 0, [], 2), (2, 1, .null, 1, 0, [], 3), (3, 52, .ref 0, 44, 1, [], 6), (6, 32, .null, 2, 22, [], 9), (9, 1, .null, 2, 0, [], 10), (10, 2, .null, 0, 0, [], 11), (11, 1, .null, 1, 0, [], 12),
  (12, 52, .ref 0, 45, 1, [], 15), (15, 32, .null, 4, 22, [], 18), (18, 0, .int 1, 0, 0, [], 19), (19, 9, .null, 0, 0, [], 23), (22, 0, .int 0, 0, 0, [], 23), (23, 49, .null, 2, 0, [], 23)]
def mtX0_mayStandIn : axM := (⟨"BeatSlugs$Board", "mayStandIn", "(II)Z"⟩, prog_2_method_39_code, 3, (some .boolean), 0, false, cdX0_mayStandIn)
abbrev kX0_mayStandIn : Nat := 43
set_option maxRecDepth 100000 in
theorem ckX0_mayStandIn : axCk 0 false 2 prog_2_method_39_code cdX0_mayStandIn = true := by decide +kernel
def cdX0_lowestPlace : List axE := [
  (0, 2, .null, 0, 0, [], 1), (1, 1, .null, 1, 0, [], 2), (2, 52, .ref 0, 32, 1, [], 5), (5, 4, .null, 2, 0, [], 6), (6, 2, .null, 0, 0, [], 7), (7, 36, .null, 0, 8, [], 10), (10, 0, .int 1, 0, 0, [], 11), (11, 12, .null, 0, 0, [], 12),
  (12, 4, .null, 3, 0, [], 13), (13, 1, .null, 3, 0, [], 14), (14, 33, .null, 2, 42, [], 17), (17, 1, .null, 2, 0, [], 18), (18, 2, .null, 0, 0, [], 19), (19, 36, .null, 0, 2, [], 22), (22, 1, .null, 3, 0, [], 23), (23, 53, .null, 10, 2, [], 26),
  (26, 53, .null, 18, 2, [], 29), (29, 33, .null, 0, 36, [], 32), (32, 1, .null, 3, 0, [], 33), (33, 0, .int 1, 0, 0, [], 34), (34, 11, .null, 0, 0, [], 35), (35, 49, .null, 0, 0, [], 35), (36, 6, .int (-1), 3, 0, [], 39), (39, 9, .null, 0, 0, [], 13),
  (42, 0, .int 0, 0, 0, [], 43), (43, 49, .null, 0, 0, [], 43)]
def mtX0_lowestPlace : axM := (⟨"BeatSlugs$Board", "lowestPlace", "(I)I"⟩, prog_2_method_37_code, 4, (some .int), 0, false, cdX0_lowestPlace)
abbrev kX0_lowestPlace : Nat := 44
set_option maxRecDepth 100000 in
theorem ckX0_lowestPlace : axCk 0 false 0 prog_2_method_37_code cdX0_lowestPlace = true := by decide +kernel
def cdX0_highestPlace : List axE := [
  (0, 0, .int 0, 0, 0, [], 1), (1, 4, .null, 2, 0, [], 2), (2, 1, .null, 2, 0, [], 3), (3, 2, .null, 0, 0, [], 4), (4, 36, .null, 0, 8, [], 7), (7, 32, .null, 3, 42, [], 10), (10, 2, .null, 0, 0, [], 11), (11, 36, .null, 0, 5, [], 14),
  (14, 2, .null, 0, 0, [], 15), (15, 36, .null, 0, 2, [], 18), (18, 1, .null, 2, 0, [], 19), (19, 53, .null, 10, 2, [], 22), (22, 53, .null, 10, 2, [], 25), (25, 1, .null, 1, 0, [], 26), (26, 53, .null, 18, 2, [], 29), (29, 33, .null, 0, 36, [], 32),
  (32, 1, .null, 2, 0, [], 33), (33, 0, .int 1, 0, 0, [], 34), (34, 12, .null, 0, 0, [], 35), (35, 49, .null, 0, 0, [], 35), (36, 6, .int 1, 2, 0, [], 39), (39, 9, .null, 0, 0, [], 2), (42, 2, .null, 0, 0, [], 43), (43, 36, .null, 0, 8, [], 46),
  (46, 0, .int 1, 0, 0, [], 47), (47, 12, .null, 0, 0, [], 48), (48, 49, .null, 0, 0, [], 48)]
def mtX0_highestPlace : axM := (⟨"BeatSlugs$Board", "highestPlace", "(I)I"⟩, prog_2_method_38_code, 3, (some .int), 0, false, cdX0_highestPlace)
abbrev kX0_highestPlace : Nat := 45
set_option maxRecDepth 100000 in
theorem ckX0_highestPlace : axCk 0 false 0 prog_2_method_38_code cdX0_highestPlace = true := by decide +kernel
def cdX4_swap : List axE := [
  (0, 2, .null, 0, 0, [], 1), (1, 36, .null, 4, 1, [], 4), (4, 2, .null, 0, 0, [], 5), (5, 36, .null, 4, 0, [], 8), (8, 52, .ref 1, 6, 1, [], 11), (11, 2, .null, 0, 0, [], 12), (12, 36, .null, 4, 1, [], 15), (15, 2, .null, 0, 0, [], 16),
  (16, 36, .null, 4, 0, [], 19), (19, 1, .null, 1, 0, [], 20), (20, 1, .null, 2, 0, [], 21), (21, 52, .ref 0, 47, 2, [], 24), (24, 52, .ref 1, 11, 1, [], 27), (27, 49, .null, 0, 0, [], 27)]
def mtX4_swap : axM := (⟨"BeatSlugs", "swap", "(II)I"⟩, prog_1_method_11_code, 3, (some .int), 4, false, cdX4_swap)
abbrev kX4_swap : Nat := 46
set_option maxRecDepth 100000 in
theorem ckX4_swap : axCk 4 false 0 prog_1_method_11_code cdX4_swap = true := by decide +kernel
def cdX0_swapSlugs : List axE := [
  (0, 2, .null, 0, 0, [], 1), (1, 1, .null, 1, 0, [], 2), (2, 52, .ref 0, 24, 1, [], 5), (5, 33, .null, 0, 16, [], 8), (8, 2, .null, 0, 0, [], 9), (9, 1, .null, 2, 0, [], 10), (10, 52, .ref 0, 24, 1, [], 13), (13, 33, .null, 1, 18, [], 16),
  (16, 0, .int (-1), 0, 0, [], 17), (17, 49, .null, 0, 0, [], 17), (18, 1, .null, 1, 0, [], 19), (19, 1, .null, 2, 0, [], 20), (20, 32, .null, 1, 26, [], 23), (23, 0, .int (-2), 0, 0, [], 25), (25, 49, .null, 0, 0, [], 25), (26, 2, .null, 0, 0, [], 27),
  (27, 1, .null, 1, 0, [], 28), (28, 52, .ref 0, 25, 1, [], 31), (31, 4, .null, 3, 0, [], 32), (32, 2, .null, 0, 0, [], 33), (33, 1, .null, 2, 0, [], 34), (34, 52, .ref 0, 25, 1, [], 37), (37, 4, .null, 4, 0, [], 39), (39, 2, .null, 0, 0, [], 40),
  (40, 1, .null, 1, 0, [], 41), (41, 1, .null, 4, 0, [], 43), (43, 52, .ref 0, 43, 2, [], 46), (46, 33, .null, 0, 58, [], 49), (49, 2, .null, 0, 0, [], 50), (50, 1, .null, 2, 0, [], 51), (51, 1, .null, 3, 0, [], 52), (52, 52, .ref 0, 43, 2, [], 55),
  (55, 33, .null, 1, 61, [], 58), (58, 0, .int (-5), 0, 0, [], 60), (60, 49, .null, 0, 0, [], 60), (61, 2, .null, 0, 0, [], 62), (62, 36, .null, 0, 2, [], 65), (65, 1, .null, 3, 0, [], 66), (66, 1, .null, 2, 0, [], 67), (67, 53, .null, 20, 3, [], 70),
  (70, 2, .null, 0, 0, [], 71), (71, 36, .null, 0, 2, [], 74), (74, 1, .null, 4, 0, [], 76), (76, 1, .null, 1, 0, [], 77), (77, 53, .null, 20, 3, [], 80), (80, 1, .null, 3, 0, [], 81), (81, 1, .null, 4, 0, [], 83), (83, 12, .null, 0, 0, [], 84),
  (84, 59, .null, 0, 0, [], 87), (87, 0, .int 1, 0, 0, [], 88), (88, 12, .null, 0, 0, [], 89), (89, 49, .null, 0, 0, [], 89)]
def mtX0_swapSlugs : axM := (⟨"BeatSlugs$Board", "swapSlugs", "(II)I"⟩, prog_2_method_12_code, 5, (some .int), 0, false, cdX0_swapSlugs)
abbrev kX0_swapSlugs : Nat := 47
set_option maxRecDepth 100000 in
theorem ckX0_swapSlugs : axCk 0 false 0 prog_2_method_12_code cdX0_swapSlugs = true := by decide +kernel
def cdX4_split : List axE := [
  (0, 2, .null, 0, 0, [], 1), (1, 36, .null, 4, 1, [], 4), (4, 2, .null, 0, 0, [], 5), (5, 36, .null, 4, 0, [], 8), (8, 52, .ref 1, 6, 1, [], 11), (11, 2, .null, 0, 0, [], 12), (12, 36, .null, 4, 1, [], 15), (15, 2, .null, 0, 0, [], 16),
  (16, 36, .null, 4, 0, [], 19), (19, 1, .null, 1, 0, [], 20), (20, 1, .null, 2, 0, [], 21), (21, 52, .ref 0, 49, 2, [], 24), (24, 52, .ref 1, 11, 1, [], 27), (27, 49, .null, 0, 0, [], 27)]
def mtX4_split : axM := (⟨"BeatSlugs", "split", "(II)I"⟩, prog_1_method_12_code, 3, (some .int), 4, false, cdX4_split)
abbrev kX4_split : Nat := 48
set_option maxRecDepth 100000 in
theorem ckX4_split : axCk 4 false 0 prog_1_method_12_code cdX4_split = true := by decide +kernel
def cdX0_splitSlug : List axE := [
  (0, 2, .null, 0, 0, [], 1), (1, 1, .null, 1, 0, [], 2), (2, 52, .ref 0, 24, 1, [], 5), (5, 33, .null, 1, 10, [], 8), (8, 0, .int (-1), 0, 0, [], 9), (9, 49, .null, 0, 0, [], 9), (10, 1, .null, 2, 0, [], 11), (11, 0, .int 1, 0, 0, [], 12),
  (12, 32, .null, 2, 21, [], 15), (15, 1, .null, 2, 0, [], 16), (16, 0, .int 98, 0, 0, [], 18), (18, 32, .null, 5, 24, [], 21), (21, 0, .int (-2), 0, 0, [], 23), (23, 49, .null, 0, 0, [], 23), (24, 2, .null, 0, 0, [], 25), (25, 1, .null, 1, 0, [], 26),
  (26, 52, .ref 0, 37, 1, [], 29), (29, 1, .null, 2, 0, [], 30), (30, 32, .null, 4, 36, [], 33), (33, 0, .int (-5), 0, 0, [], 35), (35, 49, .null, 0, 0, [], 35), (36, 2, .null, 0, 0, [], 37), (37, 36, .null, 0, 8, [], 40), (40, 0, .int 24, 0, 0, [], 42),
  (42, 32, .null, 2, 48, [], 45), (45, 0, .int (-4), 0, 0, [], 47), (47, 49, .null, 0, 0, [], 47), (48, 2, .null, 0, 0, [], 49), (49, 2, .null, 0, 0, [], 50), (50, 1, .null, 1, 0, [], 51), (51, 52, .ref 0, 25, 1, [], 54), (54, 0, .int 1, 0, 0, [], 55),
  (55, 11, .null, 0, 0, [], 56), (56, 2, .null, 0, 0, [], 57), (57, 1, .null, 1, 0, [], 58), (58, 52, .ref 0, 40, 1, [], 61), (61, 1, .null, 2, 0, [], 62), (62, 12, .null, 0, 0, [], 63), (63, 52, .ref 0, 16, 2, [], 66), (66, 4, .null, 3, 0, [], 67),
  (67, 2, .null, 0, 0, [], 68), (68, 36, .null, 0, 4, [], 71), (71, 1, .null, 3, 0, [], 72), (72, 2, .null, 0, 0, [], 73), (73, 1, .null, 1, 0, [], 74), (74, 52, .ref 0, 37, 1, [], 77), (77, 1, .null, 2, 0, [], 78), (78, 12, .null, 0, 0, [], 79),
  (79, 53, .null, 20, 3, [], 82), (82, 2, .null, 0, 0, [], 83), (83, 36, .null, 0, 3, [], 86), (86, 1, .null, 1, 0, [], 87), (87, 1, .null, 2, 0, [], 88), (88, 53, .null, 20, 3, [], 91), (91, 2, .null, 0, 0, [], 92), (92, 36, .null, 0, 4, [], 95),
  (95, 1, .null, 1, 0, [], 96), (96, 1, .null, 2, 0, [], 97), (97, 53, .null, 20, 3, [], 100), (100, 2, .null, 0, 0, [], 101), (101, 1, .null, 1, 0, [], 102), (102, 1, .null, 3, 0, [], 103), (103, 52, .ref 0, 50, 2, [], 106), (106, 2, .null, 0, 0, [], 107),
  (107, 1, .null, 1, 0, [], 108), (108, 1, .null, 3, 0, [], 109), (109, 52, .ref 0, 51, 2, [], 112), (112, 1, .null, 3, 0, [], 113), (113, 49, .null, 0, 0, [], 113)]
def mtX0_splitSlug : axM := (⟨"BeatSlugs$Board", "splitSlug", "(II)I"⟩, prog_2_method_13_code, 4, (some .int), 0, false, cdX0_splitSlug)
abbrev kX0_splitSlug : Nat := 49
set_option maxRecDepth 100000 in
theorem ckX0_splitSlug : axCk 0 false 0 prog_2_method_13_code cdX0_splitSlug = true := by decide +kernel
def cdX0_handOverNeeds : List axE := [
  (0, 0, .int 0, 0, 0, [], 1), (1, 4, .null, 3, 0, [], 2), (2, 1, .null, 3, 0, [], 3), (3, 2, .null, 0, 0, [], 4), (4, 36, .null, 0, 5, [], 7), (7, 39, .null, 0, 0, [], 8), (8, 32, .null, 3, 43, [], 11), (11, 2, .null, 0, 0, [], 12),
  (12, 36, .null, 0, 5, [], 15), (15, 1, .null, 3, 0, [], 16), (16, 40, .null, 0, 0, [], 17), (17, 1, .null, 1, 0, [], 18), (18, 53, .null, 18, 2, [], 21), (21, 33, .null, 0, 37, [], 24), (24, 2, .null, 0, 0, [], 25), (25, 36, .null, 0, 5, [], 28),
  (28, 1, .null, 3, 0, [], 29), (29, 10, .null, 0, 0, [], 30), (30, 40, .null, 0, 0, [], 31), (31, 1, .null, 2, 0, [], 32), (32, 53, .null, 19, 1, [], 35), (35, 15, .null, 0, 0, [], 36), (36, 42, .null, 0, 0, [], 37), (37, 6, .int 1, 3, 0, [], 40),
  (40, 9, .null, 0, 0, [], 2), (43, 2, .null, 0, 0, [], 44), (44, 36, .null, 0, 5, [], 47), (47, 1, .null, 2, 0, [], 48), (48, 1, .null, 1, 0, [], 49), (49, 53, .null, 19, 1, [], 52), (52, 53, .null, 20, 3, [], 55), (55, 50, .null, 0, 0, [], 55)]
def mtX0_handOverNeeds : axM := (⟨"BeatSlugs$Board", "handOverNeeds", "(II)V"⟩, prog_2_method_19_code, 4, none, 0, false, cdX0_handOverNeeds)
abbrev kX0_handOverNeeds : Nat := 50
set_option maxRecDepth 100000 in
theorem ckX0_handOverNeeds : axCk 0 false 0 prog_2_method_19_code cdX0_handOverNeeds = true := by decide +kernel
def cdX0_handOverTurn : List axE := [
  (0, 2, .null, 0, 0, [], 1), (1, 1, .null, 1, 0, [], 2), (2, 52, .ref 0, 29, 1, [], 5), (5, 33, .null, 0, 36, [], 8), (8, 2, .null, 0, 0, [], 9), (9, 7, .null, 0, 0, [], 10), (10, 36, .null, 0, 7, [], 13), (13, 1, .null, 1, 0, [], 14),
  (14, 53, .null, 19, 1, [], 17), (17, 0, .int (-1), 0, 0, [], 18), (18, 16, .null, 0, 0, [], 19), (19, 14, .null, 0, 0, [], 20), (20, 37, .null, 0, 7, [], 23), (23, 2, .null, 0, 0, [], 24), (24, 7, .null, 0, 0, [], 25), (25, 36, .null, 0, 7, [], 28),
  (28, 1, .null, 2, 0, [], 29), (29, 53, .null, 19, 1, [], 32), (32, 15, .null, 0, 0, [], 33), (33, 37, .null, 0, 7, [], 36), (36, 50, .null, 0, 0, [], 36)]
def mtX0_handOverTurn : axM := (⟨"BeatSlugs$Board", "handOverTurn", "(II)V"⟩, prog_2_method_20_code, 3, none, 0, false, cdX0_handOverTurn)
abbrev kX0_handOverTurn : Nat := 51
set_option maxRecDepth 100000 in
theorem ckX0_handOverTurn : axCk 0 false 0 prog_2_method_20_code cdX0_handOverTurn = true := by decide +kernel
def cdX4_fit : List axE := [
  (0, 2, .null, 0, 0, [], 1), (1, 36, .null, 4, 1, [], 4), (4, 2, .null, 0, 0, [], 5), (5, 36, .null, 4, 0, [], 8), (8, 52, .ref 1, 6, 1, [], 11), (11, 2, .null, 0, 0, [], 12), (12, 36, .null, 4, 1, [], 15), (15, 2, .null, 0, 0, [], 16),
  (16, 36, .null, 4, 0, [], 19), (19, 1, .null, 1, 0, [], 20), (20, 52, .ref 0, 53, 1, [], 23), (23, 52, .ref 1, 11, 1, [], 26), (26, 49, .null, 0, 0, [], 26)]
def mtX4_fit : axM := (⟨"BeatSlugs", "fit", "(I)I"⟩, prog_1_method_13_code, 2, (some .int), 4, false, cdX4_fit)
abbrev kX4_fit : Nat := 52
set_option maxRecDepth 100000 in
theorem ckX4_fit : axCk 4 false 0 prog_1_method_13_code cdX4_fit = true := by decide +kernel
def cdX0_fitAct : List axE := [
  (0, 2, .null, 0, 0, [], 1), (1, 1, .null, 1, 0, [], 2), (2, 52, .ref 0, 54, 1, [], 5), (5, 4, .null, 2, 0, [], 6), (6, 1, .null, 2, 0, [], 7), (7, 33, .null, 3, 12, [], 10), (10, 1, .null, 2, 0, [], 11), (11, 49, .null, 0, 0, [], 11),
  (12, 2, .null, 0, 0, [], 13), (13, 1, .null, 1, 0, [], 14), (14, 52, .ref 0, 58, 1, [], 17), (17, 4, .null, 3, 0, [], 18), (18, 1, .null, 2, 0, [], 19), (19, 4, .null, 4, 0, [], 21), (21, 2, .null, 0, 0, [], 22), (22, 1, .null, 1, 0, [], 23),
  (23, 0, .int 1, 0, 0, [], 24), (24, 11, .null, 0, 0, [], 25), (25, 52, .ref 0, 58, 1, [], 28), (28, 0, .int 1, 0, 0, [], 29), (29, 12, .null, 0, 0, [], 30), (30, 4, .null, 5, 0, [], 32), (32, 1, .null, 5, 0, [], 34), (34, 1, .null, 3, 0, [], 35),
  (35, 32, .null, 2, 98, [], 38), (38, 1, .null, 4, 0, [], 40), (40, 33, .null, 5, 98, [], 43), (43, 2, .null, 0, 0, [], 44), (44, 36, .null, 0, 2, [], 47), (47, 1, .null, 5, 0, [], 49), (49, 53, .null, 10, 2, [], 52), (52, 4, .null, 6, 0, [], 54),
  (54, 1, .null, 4, 0, [], 56), (56, 2, .null, 0, 0, [], 57), (57, 1, .null, 6, 0, [], 59), (59, 52, .ref 0, 36, 1, [], 62), (62, 58, .null, 0, 0, [], 65), (65, 4, .null, 7, 0, [], 67), (67, 2, .null, 0, 0, [], 68), (68, 36, .null, 0, 4, [], 71),
  (71, 1, .null, 6, 0, [], 73), (73, 2, .null, 0, 0, [], 74), (74, 1, .null, 6, 0, [], 76), (76, 52, .ref 0, 37, 1, [], 79), (79, 1, .null, 7, 0, [], 81), (81, 12, .null, 0, 0, [], 82), (82, 53, .null, 20, 3, [], 85), (85, 1, .null, 4, 0, [], 87),
  (87, 1, .null, 7, 0, [], 89), (89, 12, .null, 0, 0, [], 90), (90, 4, .null, 4, 0, [], 92), (92, 6, .int (-1), 5, 0, [], 95), (95, 9, .null, 0, 0, [], 32), (98, 1, .null, 2, 0, [], 99), (99, 49, .null, 0, 0, [], 99)]
def mtX0_fitAct : axM := (⟨"BeatSlugs$Board", "fitAct", "(I)I"⟩, prog_2_method_14_code, 8, (some .int), 0, false, cdX0_fitAct)
abbrev kX0_fitAct : Nat := 53
set_option maxRecDepth 100000 in
theorem ckX0_fitAct : axCk 0 false 0 prog_2_method_14_code cdX0_fitAct = true := by decide +kernel
def cdX0_cutOf : List axE := [
  (0, 2, .null, 0, 0, [], 1), (1, 1, .null, 1, 0, [], 2), (2, 52, .ref 0, 55, 1, [], 5), (5, 33, .null, 1, 10, [], 8), (8, 0, .int (-1), 0, 0, [], 9), (9, 49, .null, 0, 0, [], 9), (10, 0, .int 0, 0, 0, [], 11), (11, 2, .null, 0, 0, [], 12),
  (12, 1, .null, 1, 0, [], 13), (13, 52, .ref 0, 57, 1, [], 16), (16, 57, .null, 0, 0, [], 19), (19, 4, .null, 2, 0, [], 20), (20, 1, .null, 2, 0, [], 21), (21, 2, .null, 0, 0, [], 22), (22, 2, .null, 0, 0, [], 23), (23, 1, .null, 1, 0, [], 24),
  (24, 52, .ref 0, 58, 1, [], 27), (27, 2, .null, 0, 0, [], 28), (28, 1, .null, 1, 0, [], 29), (29, 0, .int 1, 0, 0, [], 30), (30, 11, .null, 0, 0, [], 31), (31, 52, .ref 0, 58, 1, [], 34), (34, 52, .ref 0, 61, 2, [], 37), (37, 58, .null, 0, 0, [], 40),
  (40, 4, .null, 3, 0, [], 41), (41, 1, .null, 2, 0, [], 42), (42, 1, .null, 3, 0, [], 43), (43, 12, .null, 0, 0, [], 44), (44, 2, .null, 0, 0, [], 45), (45, 0, .int 1, 0, 0, [], 46), (46, 52, .ref 0, 62, 1, [], 49), (49, 32, .null, 5, 57, [], 52),
  (52, 0, .int (-5), 0, 0, [], 54), (54, 9, .null, 0, 0, [], 58), (57, 1, .null, 3, 0, [], 58), (58, 49, .null, 0, 0, [], 58)]
def mtX0_cutOf : axM := (⟨"BeatSlugs$Board", "cutOf", "(I)I"⟩, prog_2_method_53_code, 4, (some .int), 0, false, cdX0_cutOf)
abbrev kX0_cutOf : Nat := 54
set_option maxRecDepth 100000 in
theorem ckX0_cutOf : axCk 0 false 0 prog_2_method_53_code cdX0_cutOf = true := by decide +kernel
def cdX0_hasAct : List axE := [
  (0, 1, .null, 1, 0, [], 1), (1, 33, .null, 2, 16, [], 4), (4, 1, .null, 1, 0, [], 5), (5, 2, .null, 0, 0, [], 6), (6, 52, .ref 0, 56, 0, [], 9), (9, 32, .null, 3, 16, [], 12), (12, 0, .int 1, 0, 0, [], 13), (13, 9, .null, 0, 0, [], 17),
  (16, 0, .int 0, 0, 0, [], 17), (17, 49, .null, 2, 0, [], 17)]
def mtX0_hasAct : axM := (⟨"BeatSlugs$Board", "hasAct", "(I)Z"⟩, prog_2_method_46_code, 2, (some .boolean), 0, false, cdX0_hasAct)
abbrev kX0_hasAct : Nat := 55
set_option maxRecDepth 100000 in
theorem ckX0_hasAct : axCk 0 false 2 prog_2_method_46_code cdX0_hasAct = true := by decide +kernel
def cdX0_actCount : List axE := [
  (0, 2, .null, 0, 0, [], 1), (1, 36, .null, 0, 8, [], 4), (4, 33, .null, 5, 34, [], 7), (7, 2, .null, 0, 0, [], 8), (8, 36, .null, 0, 7, [], 11), (11, 2, .null, 0, 0, [], 12), (12, 36, .null, 0, 2, [], 15), (15, 2, .null, 0, 0, [], 16),
  (16, 36, .null, 0, 8, [], 19), (19, 0, .int 1, 0, 0, [], 20), (20, 12, .null, 0, 0, [], 21), (21, 53, .null, 10, 2, [], 24), (24, 53, .null, 18, 2, [], 27), (27, 33, .null, 1, 34, [], 30), (30, 0, .int 1, 0, 0, [], 31), (31, 9, .null, 0, 0, [], 35),
  (34, 0, .int 0, 0, 0, [], 35), (35, 4, .null, 1, 0, [], 36), (36, 2, .null, 0, 0, [], 37), (37, 36, .null, 0, 7, [], 40), (40, 53, .null, 33, 1, [], 43), (43, 1, .null, 1, 0, [], 44), (44, 33, .null, 0, 51, [], 47), (47, 0, .int 1, 0, 0, [], 48),
  (48, 9, .null, 0, 0, [], 52), (51, 0, .int 0, 0, 0, [], 52), (52, 11, .null, 0, 0, [], 53), (53, 49, .null, 0, 0, [], 53)]
def mtX0_actCount : axM := (⟨"BeatSlugs$Board", "actCount", "()I"⟩, prog_2_method_45_code, 2, (some .int), 0, false, cdX0_actCount)
abbrev kX0_actCount : Nat := 56
set_option maxRecDepth 100000 in
theorem ckX0_actCount : axCk 0 false 0 prog_2_method_45_code cdX0_actCount = true := by decide +kernel
def cdX0_offOf : List axE := [
  (0, 2, .null, 0, 0, [], 1), (1, 2, .null, 0, 0, [], 2), (2, 1, .null, 1, 0, [], 3), (3, 52, .ref 0, 58, 1, [], 6), (6, 2, .null, 0, 0, [], 7), (7, 1, .null, 1, 0, [], 8), (8, 0, .int 1, 0, 0, [], 9), (9, 11, .null, 0, 0, [], 10),
  (10, 52, .ref 0, 58, 1, [], 13), (13, 52, .ref 0, 59, 2, [], 16), (16, 2, .null, 0, 0, [], 17), (17, 1, .null, 1, 0, [], 18), (18, 52, .ref 0, 60, 1, [], 21), (21, 12, .null, 0, 0, [], 22), (22, 49, .null, 0, 0, [], 22)]
def mtX0_offOf : axM := (⟨"BeatSlugs$Board", "offOf", "(I)I"⟩, prog_2_method_49_code, 2, (some .int), 0, false, cdX0_offOf)
abbrev kX0_offOf : Nat := 57
set_option maxRecDepth 100000 in
theorem ckX0_offOf : axCk 0 false 0 prog_2_method_49_code cdX0_offOf = true := by decide +kernel
def cdX0_startOf : List axE := [
  (0, 0, .int 0, 0, 0, [], 1), (1, 4, .null, 2, 0, [], 2), (2, 1, .null, 1, 0, [], 3), (3, 4, .null, 3, 0, [], 4), (4, 1, .null, 2, 0, [], 5), (5, 2, .null, 0, 0, [], 6), (6, 36, .null, 0, 8, [], 9), (9, 32, .null, 3, 43, [], 12),
  (12, 1, .null, 3, 0, [], 13), (13, 33, .null, 5, 43, [], 16), (16, 2, .null, 0, 0, [], 17), (17, 36, .null, 0, 7, [], 20), (20, 2, .null, 0, 0, [], 21), (21, 36, .null, 0, 2, [], 24), (24, 1, .null, 2, 0, [], 25), (25, 53, .null, 10, 2, [], 28),
  (28, 53, .null, 18, 2, [], 31), (31, 33, .null, 0, 37, [], 34), (34, 6, .int (-1), 3, 0, [], 37), (37, 6, .int 1, 2, 0, [], 40), (40, 9, .null, 0, 0, [], 4), (43, 1, .null, 2, 0, [], 44), (44, 49, .null, 0, 0, [], 44)]
def mtX0_startOf : axM := (⟨"BeatSlugs$Board", "startOf", "(I)I"⟩, prog_2_method_47_code, 4, (some .int), 0, false, cdX0_startOf)
abbrev kX0_startOf : Nat := 58
set_option maxRecDepth 100000 in
theorem ckX0_startOf : axCk 0 false 0 prog_2_method_47_code cdX0_startOf = true := by decide +kernel
def cdX0_beatsIn : List axE := [
  (0, 0, .int 0, 0, 0, [], 1), (1, 4, .null, 3, 0, [], 2), (2, 1, .null, 1, 0, [], 3), (3, 4, .null, 4, 0, [], 5), (5, 1, .null, 4, 0, [], 7), (7, 1, .null, 2, 0, [], 8), (8, 32, .null, 3, 36, [], 11), (11, 1, .null, 3, 0, [], 12),
  (12, 2, .null, 0, 0, [], 13), (13, 36, .null, 0, 4, [], 16), (16, 2, .null, 0, 0, [], 17), (17, 36, .null, 0, 2, [], 20), (20, 1, .null, 4, 0, [], 22), (22, 53, .null, 10, 2, [], 25), (25, 53, .null, 10, 2, [], 28), (28, 11, .null, 0, 0, [], 29),
  (29, 4, .null, 3, 0, [], 30), (30, 6, .int 1, 4, 0, [], 33), (33, 9, .null, 0, 0, [], 5), (36, 1, .null, 3, 0, [], 37), (37, 49, .null, 0, 0, [], 37)]
def mtX0_beatsIn : axM := (⟨"BeatSlugs$Board", "beatsIn", "(II)I"⟩, prog_2_method_40_code, 5, (some .int), 0, false, cdX0_beatsIn)
abbrev kX0_beatsIn : Nat := 59
set_option maxRecDepth 100000 in
theorem ckX0_beatsIn : axCk 0 false 0 prog_2_method_40_code cdX0_beatsIn = true := by decide +kernel
def cdX0_targetOf : List axE := [
  (0, 2, .null, 0, 0, [], 1), (1, 36, .null, 0, 1, [], 4), (4, 1, .null, 1, 0, [], 5), (5, 2, .null, 0, 0, [], 6), (6, 36, .null, 0, 1, [], 9), (9, 39, .null, 0, 0, [], 10), (10, 0, .int 1, 0, 0, [], 11), (11, 12, .null, 0, 0, [], 12),
  (12, 58, .null, 0, 0, [], 15), (15, 53, .null, 10, 2, [], 18), (18, 49, .null, 0, 0, [], 18)]
def mtX0_targetOf : axM := (⟨"BeatSlugs$Board", "targetOf", "(I)I"⟩, prog_2_method_48_code, 2, (some .int), 0, false, cdX0_targetOf)
abbrev kX0_targetOf : Nat := 60
set_option maxRecDepth 100000 in
theorem ckX0_targetOf : axCk 0 false 0 prog_2_method_48_code cdX0_targetOf = true := by decide +kernel
def cdX0_roomIn : List axE := [
  (0, 0, .int 0, 0, 0, [], 1), (1, 4, .null, 3, 0, [], 2), (2, 1, .null, 1, 0, [], 3), (3, 4, .null, 4, 0, [], 5), (5, 1, .null, 4, 0, [], 7), (7, 1, .null, 2, 0, [], 8), (8, 32, .null, 3, 33, [], 11), (11, 1, .null, 3, 0, [], 12),
  (12, 2, .null, 0, 0, [], 13), (13, 2, .null, 0, 0, [], 14), (14, 36, .null, 0, 2, [], 17), (17, 1, .null, 4, 0, [], 19), (19, 53, .null, 10, 2, [], 22), (22, 52, .ref 0, 36, 1, [], 25), (25, 11, .null, 0, 0, [], 26), (26, 4, .null, 3, 0, [], 27),
  (27, 6, .int 1, 4, 0, [], 30), (30, 9, .null, 0, 0, [], 5), (33, 1, .null, 3, 0, [], 34), (34, 49, .null, 0, 0, [], 34)]
def mtX0_roomIn : axM := (⟨"BeatSlugs$Board", "roomIn", "(II)I"⟩, prog_2_method_42_code, 5, (some .int), 0, false, cdX0_roomIn)
abbrev kX0_roomIn : Nat := 61
set_option maxRecDepth 100000 in
theorem ckX0_roomIn : axCk 0 false 0 prog_2_method_42_code cdX0_roomIn = true := by decide +kernel
def cdX0_settingOf : List axE := [
  (0, 2, .null, 0, 0, [], 1), (1, 36, .null, 0, 0, [], 4), (4, 1, .null, 1, 0, [], 5), (5, 53, .null, 10, 2, [], 8), (8, 49, .null, 0, 0, [], 8)]
def mtX0_settingOf : axM := (⟨"BeatSlugs$Board", "settingOf", "(I)I"⟩, prog_2_method_21_code, 2, (some .int), 0, false, cdX0_settingOf)
abbrev kX0_settingOf : Nat := 62
set_option maxRecDepth 100000 in
theorem ckX0_settingOf : axCk 0 false 0 prog_2_method_21_code cdX0_settingOf = true := by decide +kernel
def cdX4_of : List axE := [
  (0, 2, .null, 0, 0, [], 1), (1, 36, .null, 4, 0, [], 4), (4, 1, .null, 1, 0, [], 5), (5, 52, .ref 0, 24, 1, [], 8), (8, 33, .null, 1, 13, [], 11), (11, 0, .int (-1), 0, 0, [], 12), (12, 49, .null, 0, 0, [], 12), (13, 2, .null, 0, 0, [], 14),
  (14, 36, .null, 4, 0, [], 17), (17, 1, .null, 1, 0, [], 18), (18, 52, .ref 0, 25, 1, [], 21), (21, 4, .null, 3, 0, [], 22), (22, 1, .null, 2, 0, [], 23), (23, 35, .null, 0, 177, [(0, 76), (1, 78), (2, 87), (3, 96), (4, 113), (5, 122), (6, 131), (7, 141), (8, 159), (9, 168)], 23), (76, 1, .null, 3, 0, [], 77), (77, 49, .null, 0, 0, [], 77),
  (78, 2, .null, 0, 0, [], 79), (79, 36, .null, 4, 0, [], 82), (82, 1, .null, 1, 0, [], 83), (83, 52, .ref 0, 40, 1, [], 86), (86, 49, .null, 0, 0, [], 86), (87, 2, .null, 0, 0, [], 88), (88, 36, .null, 4, 0, [], 91), (91, 1, .null, 1, 0, [], 92),
  (92, 52, .ref 0, 37, 1, [], 95), (95, 49, .null, 0, 0, [], 95), (96, 2, .null, 0, 0, [], 97), (97, 36, .null, 4, 0, [], 100), (100, 1, .null, 1, 0, [], 101), (101, 52, .ref 0, 29, 1, [], 104), (104, 33, .null, 0, 111, [], 107), (107, 0, .int 1, 0, 0, [], 108),
  (108, 9, .null, 0, 0, [], 112), (111, 0, .int 0, 0, 0, [], 112), (112, 49, .null, 0, 0, [], 112), (113, 2, .null, 0, 0, [], 114), (114, 36, .null, 4, 0, [], 117), (117, 1, .null, 1, 0, [], 118), (118, 52, .ref 0, 32, 1, [], 121), (121, 49, .null, 0, 0, [], 121),
  (122, 2, .null, 0, 0, [], 123), (123, 36, .null, 4, 0, [], 126), (126, 1, .null, 1, 0, [], 127), (127, 52, .ref 0, 64, 1, [], 130), (130, 49, .null, 0, 0, [], 130), (131, 2, .null, 0, 0, [], 132), (132, 36, .null, 4, 0, [], 135), (135, 0, .int 0, 0, 0, [], 136),
  (136, 1, .null, 3, 0, [], 137), (137, 52, .ref 0, 59, 2, [], 140), (140, 49, .null, 0, 0, [], 140), (141, 2, .null, 0, 0, [], 142), (142, 36, .null, 4, 0, [], 145), (145, 0, .int 0, 0, 0, [], 146), (146, 1, .null, 3, 0, [], 147), (147, 52, .ref 0, 59, 2, [], 150),
  (150, 2, .null, 0, 0, [], 151), (151, 36, .null, 4, 0, [], 154), (154, 52, .ref 0, 65, 0, [], 157), (157, 47, .null, 0, 0, [], 158), (158, 49, .null, 0, 0, [], 158), (159, 2, .null, 0, 0, [], 160), (160, 36, .null, 4, 0, [], 163), (163, 1, .null, 3, 0, [], 164),
  (164, 52, .ref 0, 66, 1, [], 167), (167, 49, .null, 0, 0, [], 167), (168, 2, .null, 0, 0, [], 169), (169, 36, .null, 4, 0, [], 172), (172, 1, .null, 1, 0, [], 173), (173, 52, .ref 0, 36, 1, [], 176), (176, 49, .null, 0, 0, [], 176), (177, 0, .int (-2), 0, 0, [], 179),
  (179, 49, .null, 0, 0, [], 179)]
def mtX4_of : axM := (⟨"BeatSlugs", "of", "(II)I"⟩, prog_1_method_14_code, 4, (some .int), 4, false, cdX4_of)
abbrev kX4_of : Nat := 63
set_option maxRecDepth 100000 in
theorem ckX4_of : axCk 4 false 0 prog_1_method_14_code cdX4_of = true := by decide +kernel
def cdX0_needersOf : List axE := [
  (0, 0, .int 0, 0, 0, [], 1), (1, 4, .null, 2, 0, [], 2), (2, 0, .int 0, 0, 0, [], 3), (3, 4, .null, 3, 0, [], 4), (4, 1, .null, 3, 0, [], 5), (5, 2, .null, 0, 0, [], 6), (6, 36, .null, 0, 8, [], 9), (9, 32, .null, 3, 49, [], 12),
  (12, 2, .null, 0, 0, [], 13), (13, 36, .null, 0, 2, [], 16), (16, 1, .null, 3, 0, [], 17), (17, 53, .null, 10, 2, [], 20), (20, 4, .null, 4, 0, [], 22), (22, 2, .null, 0, 0, [], 23), (23, 1, .null, 4, 0, [], 25), (25, 52, .ref 0, 32, 1, [], 28),
  (28, 1, .null, 1, 0, [], 29), (29, 53, .null, 18, 2, [], 32), (32, 33, .null, 0, 43, [], 35), (35, 1, .null, 2, 0, [], 36), (36, 1, .null, 4, 0, [], 38), (38, 53, .null, 19, 1, [], 41), (41, 15, .null, 0, 0, [], 42), (42, 4, .null, 2, 0, [], 43),
  (43, 6, .int 1, 3, 0, [], 46), (46, 9, .null, 0, 0, [], 4), (49, 1, .null, 2, 0, [], 50), (50, 49, .null, 0, 0, [], 50)]
def mtX0_needersOf : axM := (⟨"BeatSlugs$Board", "needersOf", "(I)I"⟩, prog_2_method_35_code, 5, (some .int), 0, false, cdX0_needersOf)
abbrev kX0_needersOf : Nat := 64
set_option maxRecDepth 100000 in
theorem ckX0_needersOf : axCk 0 false 0 prog_2_method_35_code cdX0_needersOf = true := by decide +kernel
def cdX0_pageBeats : List axE := [
  (0, 0, .int 1, 0, 0, [], 1), (1, 2, .null, 0, 0, [], 2), (2, 0, .int 0, 0, 0, [], 3), (3, 52, .ref 0, 62, 1, [], 6), (6, 57, .null, 0, 0, [], 9), (9, 49, .null, 0, 0, [], 9)]
def mtX0_pageBeats : axM := (⟨"BeatSlugs$Board", "pageBeats", "()I"⟩, prog_2_method_22_code, 1, (some .int), 0, false, cdX0_pageBeats)
abbrev kX0_pageBeats : Nat := 65
set_option maxRecDepth 100000 in
theorem ckX0_pageBeats : axCk 0 false 0 prog_2_method_22_code cdX0_pageBeats = true := by decide +kernel
def cdX0_turnsAhead : List axE := [
  (0, 0, .int 0, 0, 0, [], 1), (1, 4, .null, 2, 0, [], 2), (2, 0, .int 0, 0, 0, [], 3), (3, 4, .null, 3, 0, [], 4), (4, 1, .null, 3, 0, [], 5), (5, 1, .null, 1, 0, [], 6), (6, 32, .null, 3, 36, [], 9), (9, 2, .null, 0, 0, [], 10),
  (10, 36, .null, 0, 7, [], 13), (13, 2, .null, 0, 0, [], 14), (14, 36, .null, 0, 2, [], 17), (17, 1, .null, 3, 0, [], 18), (18, 53, .null, 10, 2, [], 21), (21, 53, .null, 18, 2, [], 24), (24, 33, .null, 0, 30, [], 27), (27, 6, .int 1, 2, 0, [], 30),
  (30, 6, .int 1, 3, 0, [], 33), (33, 9, .null, 0, 0, [], 4), (36, 1, .null, 2, 0, [], 37), (37, 49, .null, 0, 0, [], 37)]
def mtX0_turnsAhead : axM := (⟨"BeatSlugs$Board", "turnsAhead", "(I)I"⟩, prog_2_method_44_code, 4, (some .int), 0, false, cdX0_turnsAhead)
abbrev kX0_turnsAhead : Nat := 66
set_option maxRecDepth 100000 in
theorem ckX0_turnsAhead : axCk 0 false 0 prog_2_method_44_code cdX0_turnsAhead = true := by decide +kernel
def cdX4_at : List axE := [
  (0, 2, .null, 0, 0, [], 1), (1, 36, .null, 4, 0, [], 4), (4, 1, .null, 1, 0, [], 5), (5, 52, .ref 0, 68, 1, [], 8), (8, 49, .null, 0, 0, [], 8)]
def mtX4_at : axM := (⟨"BeatSlugs", "at", "(I)I"⟩, prog_1_method_15_code, 2, (some .int), 4, false, cdX4_at)
abbrev kX4_at : Nat := 67
set_option maxRecDepth 100000 in
theorem ckX4_at : axCk 4 false 0 prog_1_method_15_code cdX4_at = true := by decide +kernel
def cdX0_slugIn : List axE := [
  (0, 1, .null, 1, 0, [], 1), (1, 33, .null, 2, 23, [], 4), (4, 1, .null, 1, 0, [], 5), (5, 2, .null, 0, 0, [], 6), (6, 36, .null, 0, 8, [], 9), (9, 32, .null, 3, 23, [], 12), (12, 2, .null, 0, 0, [], 13), (13, 36, .null, 0, 2, [], 16),
  (16, 1, .null, 1, 0, [], 17), (17, 53, .null, 10, 2, [], 20), (20, 9, .null, 0, 0, [], 24), (23, 0, .int (-1), 0, 0, [], 24), (24, 49, .null, 0, 0, [], 24)]
def mtX0_slugIn : axM := (⟨"BeatSlugs$Board", "slugIn", "(I)I"⟩, prog_2_method_27_code, 2, (some .int), 0, false, cdX0_slugIn)
abbrev kX0_slugIn : Nat := 68
set_option maxRecDepth 100000 in
theorem ckX0_slugIn : axCk 0 false 0 prog_2_method_27_code cdX0_slugIn = true := by decide +kernel
def cdX4_atBeat : List axE := [
  (0, 1, .null, 1, 0, [], 1), (1, 33, .null, 3, 9, [], 4), (4, 0, .int (-2), 0, 0, [], 6), (6, 9, .null, 0, 0, [], 17), (9, 2, .null, 0, 0, [], 10), (10, 36, .null, 4, 0, [], 13), (13, 1, .null, 1, 0, [], 14), (14, 52, .ref 0, 70, 1, [], 17),
  (17, 49, .null, 0, 0, [], 17)]
def mtX4_atBeat : axM := (⟨"BeatSlugs", "atBeat", "(I)I"⟩, prog_1_method_16_code, 2, (some .int), 4, false, cdX4_atBeat)
abbrev kX4_atBeat : Nat := 69
set_option maxRecDepth 100000 in
theorem ckX4_atBeat : axCk 4 false 0 prog_1_method_16_code cdX4_atBeat = true := by decide +kernel
end
section
/-! The code of the methods as rows of the abstract machine. Written by wip/whole/gen2.py. -/
def cdX0_slugAtBeat : List axE := [
  (0, 0, .int 0, 0, 0, [], 1), (1, 4, .null, 2, 0, [], 2), (2, 0, .int 0, 0, 0, [], 3), (3, 4, .null, 3, 0, [], 4), (4, 1, .null, 3, 0, [], 5), (5, 2, .null, 0, 0, [], 6), (6, 36, .null, 0, 8, [], 9), (9, 32, .null, 3, 45, [], 12),
  (12, 2, .null, 0, 0, [], 13), (13, 36, .null, 0, 2, [], 16), (16, 1, .null, 3, 0, [], 17), (17, 53, .null, 10, 2, [], 20), (20, 4, .null, 4, 0, [], 22), (22, 1, .null, 2, 0, [], 23), (23, 2, .null, 0, 0, [], 24), (24, 1, .null, 4, 0, [], 26),
  (26, 52, .ref 0, 37, 1, [], 29), (29, 11, .null, 0, 0, [], 30), (30, 4, .null, 2, 0, [], 31), (31, 1, .null, 1, 0, [], 32), (32, 1, .null, 2, 0, [], 33), (33, 32, .null, 3, 39, [], 36), (36, 1, .null, 4, 0, [], 38), (38, 49, .null, 0, 0, [], 38),
  (39, 6, .int 1, 3, 0, [], 42), (42, 9, .null, 0, 0, [], 4), (45, 0, .int (-6), 0, 0, [], 47), (47, 49, .null, 0, 0, [], 47)]
def mtX0_slugAtBeat : axM := (⟨"BeatSlugs$Board", "slugAtBeat", "(I)I"⟩, prog_2_method_43_code, 5, (some .int), 0, false, cdX0_slugAtBeat)
abbrev kX0_slugAtBeat : Nat := 70
set_option maxRecDepth 100000 in
theorem ckX0_slugAtBeat : axCk 0 false 0 prog_2_method_43_code cdX0_slugAtBeat = true := by decide +kernel
def cdX4_ofAct : List axE := [
  (0, 2, .null, 0, 0, [], 1), (1, 36, .null, 4, 0, [], 4), (4, 1, .null, 1, 0, [], 5), (5, 52, .ref 0, 55, 1, [], 8), (8, 33, .null, 1, 13, [], 11), (11, 0, .int (-1), 0, 0, [], 12), (12, 49, .null, 0, 0, [], 12), (13, 2, .null, 0, 0, [], 14),
  (14, 36, .null, 4, 0, [], 17), (17, 1, .null, 1, 0, [], 18), (18, 52, .ref 0, 58, 1, [], 21), (21, 4, .null, 3, 0, [], 22), (22, 2, .null, 0, 0, [], 23), (23, 36, .null, 4, 0, [], 26), (26, 1, .null, 1, 0, [], 27), (27, 0, .int 1, 0, 0, [], 28),
  (28, 11, .null, 0, 0, [], 29), (29, 52, .ref 0, 58, 1, [], 32), (32, 4, .null, 4, 0, [], 34), (34, 1, .null, 2, 0, [], 35), (35, 35, .null, 0, 173, [(0, 80), (1, 91), (2, 100), (3, 113), (4, 130), (5, 147), (6, 152), (7, 162)], 35), (80, 2, .null, 0, 0, [], 81), (81, 36, .null, 4, 0, [], 84), (84, 1, .null, 3, 0, [], 85),
  (85, 1, .null, 4, 0, [], 87), (87, 52, .ref 0, 59, 2, [], 90), (90, 49, .null, 0, 0, [], 90), (91, 2, .null, 0, 0, [], 92), (92, 36, .null, 4, 0, [], 95), (95, 1, .null, 1, 0, [], 96), (96, 52, .ref 0, 60, 1, [], 99), (99, 49, .null, 0, 0, [], 99),
  (100, 2, .null, 0, 0, [], 101), (101, 36, .null, 4, 0, [], 104), (104, 1, .null, 1, 0, [], 105), (105, 52, .ref 0, 57, 1, [], 108), (108, 0, .int 5000, 0, 0, [], 111), (111, 11, .null, 0, 0, [], 112), (112, 49, .null, 0, 0, [], 112), (113, 2, .null, 0, 0, [], 114),
  (114, 36, .null, 4, 0, [], 117), (117, 1, .null, 1, 0, [], 118), (118, 52, .ref 0, 72, 1, [], 121), (121, 33, .null, 0, 128, [], 124), (124, 0, .int 1, 0, 0, [], 125), (125, 9, .null, 0, 0, [], 129), (128, 0, .int 0, 0, 0, [], 129), (129, 49, .null, 0, 0, [], 129),
  (130, 2, .null, 0, 0, [], 131), (131, 36, .null, 4, 0, [], 134), (134, 1, .null, 1, 0, [], 135), (135, 52, .ref 0, 73, 1, [], 138), (138, 33, .null, 0, 145, [], 141), (141, 0, .int 1, 0, 0, [], 142), (142, 9, .null, 0, 0, [], 146), (145, 0, .int 0, 0, 0, [], 146),
  (146, 49, .null, 0, 0, [], 146), (147, 1, .null, 4, 0, [], 149), (149, 1, .null, 3, 0, [], 150), (150, 12, .null, 0, 0, [], 151), (151, 49, .null, 0, 0, [], 151), (152, 2, .null, 0, 0, [], 153), (153, 36, .null, 4, 0, [], 156), (156, 0, .int 0, 0, 0, [], 157),
  (157, 1, .null, 3, 0, [], 158), (158, 52, .ref 0, 59, 2, [], 161), (161, 49, .null, 0, 0, [], 161), (162, 2, .null, 0, 0, [], 163), (163, 36, .null, 4, 0, [], 166), (166, 1, .null, 3, 0, [], 167), (167, 1, .null, 4, 0, [], 169), (169, 52, .ref 0, 61, 2, [], 172),
  (172, 49, .null, 0, 0, [], 172), (173, 0, .int (-2), 0, 0, [], 175), (175, 49, .null, 0, 0, [], 175)]
def mtX4_ofAct : axM := (⟨"BeatSlugs", "ofAct", "(II)I"⟩, prog_1_method_17_code, 5, (some .int), 4, false, cdX4_ofAct)
abbrev kX4_ofAct : Nat := 71
set_option maxRecDepth 100000 in
theorem ckX4_ofAct : axCk 4 false 0 prog_1_method_17_code cdX4_ofAct = true := by decide +kernel
def cdX0_isFitting : List axE := [
  (0, 2, .null, 0, 0, [], 1), (1, 1, .null, 1, 0, [], 2), (2, 52, .ref 0, 73, 1, [], 5), (5, 33, .null, 1, 28, [], 8), (8, 2, .null, 0, 0, [], 9), (9, 1, .null, 1, 0, [], 10), (10, 52, .ref 0, 57, 1, [], 13), (13, 59, .null, 0, 0, [], 16),
  (16, 2, .null, 0, 0, [], 17), (17, 0, .int 1, 0, 0, [], 18), (18, 52, .ref 0, 62, 1, [], 21), (21, 32, .null, 4, 28, [], 24), (24, 0, .int 1, 0, 0, [], 25), (25, 9, .null, 0, 0, [], 29), (28, 0, .int 0, 0, 0, [], 29), (29, 49, .null, 2, 0, [], 29)]
def mtX0_isFitting : axM := (⟨"BeatSlugs$Board", "isFitting", "(I)Z"⟩, prog_2_method_51_code, 2, (some .boolean), 0, false, cdX0_isFitting)
abbrev kX0_isFitting : Nat := 72
set_option maxRecDepth 100000 in
theorem ckX0_isFitting : axCk 0 false 2 prog_2_method_51_code cdX0_isFitting = true := by decide +kernel
def cdX0_isOpen : List axE := [
  (0, 1, .null, 1, 0, [], 1), (1, 2, .null, 0, 0, [], 2), (2, 36, .null, 0, 7, [], 5), (5, 53, .null, 33, 1, [], 8), (8, 32, .null, 2, 15, [], 11), (11, 0, .int 1, 0, 0, [], 12), (12, 9, .null, 0, 0, [], 16), (15, 0, .int 0, 0, 0, [], 16),
  (16, 49, .null, 2, 0, [], 16)]
def mtX0_isOpen : axM := (⟨"BeatSlugs$Board", "isOpen", "(I)Z"⟩, prog_2_method_50_code, 2, (some .boolean), 0, false, cdX0_isOpen)
abbrev kX0_isOpen : Nat := 73
set_option maxRecDepth 100000 in
theorem ckX0_isOpen : axCk 0 false 2 prog_2_method_50_code cdX0_isOpen = true := by decide +kernel
def cdX4_count : List axE := [
  (0, 1, .null, 1, 0, [], 1), (1, 35, .null, 0, 181, [(0, 64), (1, 72), (2, 80), (3, 88), (4, 114), (5, 122), (6, 130), (7, 138), (8, 147), (9, 156), (10, 165), (11, 173)], 1), (64, 2, .null, 0, 0, [], 65), (65, 36, .null, 4, 0, [], 68), (68, 52, .ref 0, 75, 0, [], 71), (71, 49, .null, 0, 0, [], 71), (72, 2, .null, 0, 0, [], 73), (73, 36, .null, 4, 0, [], 76),
  (76, 52, .ref 0, 56, 0, [], 79), (79, 49, .null, 0, 0, [], 79), (80, 2, .null, 0, 0, [], 81), (81, 36, .null, 4, 0, [], 84), (84, 52, .ref 0, 76, 0, [], 87), (87, 49, .null, 0, 0, [], 87), (88, 2, .null, 0, 0, [], 89), (89, 36, .null, 4, 0, [], 92),
  (92, 52, .ref 0, 76, 0, [], 95), (95, 2, .null, 0, 0, [], 96), (96, 36, .null, 4, 0, [], 99), (99, 52, .ref 0, 65, 0, [], 102), (102, 11, .null, 0, 0, [], 103), (103, 0, .int 1, 0, 0, [], 104), (104, 12, .null, 0, 0, [], 105), (105, 2, .null, 0, 0, [], 106),
  (106, 36, .null, 4, 0, [], 109), (109, 52, .ref 0, 65, 0, [], 112), (112, 47, .null, 0, 0, [], 113), (113, 49, .null, 0, 0, [], 113), (114, 2, .null, 0, 0, [], 115), (115, 36, .null, 4, 0, [], 118), (118, 52, .ref 0, 77, 0, [], 121), (121, 49, .null, 0, 0, [], 121),
  (122, 2, .null, 0, 0, [], 123), (123, 36, .null, 4, 0, [], 126), (126, 52, .ref 0, 79, 0, [], 129), (129, 49, .null, 0, 0, [], 129), (130, 2, .null, 0, 0, [], 131), (131, 36, .null, 4, 0, [], 134), (134, 52, .ref 0, 80, 0, [], 137), (137, 49, .null, 0, 0, [], 137),
  (138, 2, .null, 0, 0, [], 139), (139, 36, .null, 4, 0, [], 142), (142, 0, .int 0, 0, 0, [], 143), (143, 52, .ref 0, 62, 1, [], 146), (146, 49, .null, 0, 0, [], 146), (147, 2, .null, 0, 0, [], 148), (148, 36, .null, 4, 0, [], 151), (151, 0, .int 1, 0, 0, [], 152),
  (152, 52, .ref 0, 62, 1, [], 155), (155, 49, .null, 0, 0, [], 155), (156, 2, .null, 0, 0, [], 157), (157, 36, .null, 4, 0, [], 160), (160, 0, .int 2, 0, 0, [], 161), (161, 52, .ref 0, 62, 1, [], 164), (164, 49, .null, 0, 0, [], 164), (165, 2, .null, 0, 0, [], 166),
  (166, 36, .null, 4, 3, [], 169), (169, 52, .ref 2, 81, 0, [], 172), (172, 49, .null, 0, 0, [], 172), (173, 2, .null, 0, 0, [], 174), (174, 36, .null, 4, 1, [], 177), (177, 52, .ref 1, 82, 0, [], 180), (180, 49, .null, 0, 0, [], 180), (181, 0, .int (-2), 0, 0, [], 183),
  (183, 49, .null, 0, 0, [], 183)]
def mtX4_count : axM := (⟨"BeatSlugs", "count", "(I)I"⟩, prog_1_method_18_code, 2, (some .int), 4, false, cdX4_count)
abbrev kX4_count : Nat := 74
set_option maxRecDepth 100000 in
theorem ckX4_count : axCk 4 false 0 prog_1_method_18_code cdX4_count = true := by decide +kernel
def cdX0_allSlugs : List axE := [
  (0, 2, .null, 0, 0, [], 1), (1, 36, .null, 0, 6, [], 4), (4, 49, .null, 0, 0, [], 4)]
def mtX0_allSlugs : axM := (⟨"BeatSlugs$Board", "allSlugs", "()I"⟩, prog_2_method_24_code, 1, (some .int), 0, false, cdX0_allSlugs)
abbrev kX0_allSlugs : Nat := 75
set_option maxRecDepth 100000 in
theorem ckX0_allSlugs : axCk 0 false 0 prog_2_method_24_code cdX0_allSlugs = true := by decide +kernel
def cdX0_allBeats : List axE := [
  (0, 2, .null, 0, 0, [], 1), (1, 0, .int 0, 0, 0, [], 2), (2, 2, .null, 0, 0, [], 3), (3, 36, .null, 0, 8, [], 6), (6, 52, .ref 0, 59, 2, [], 9), (9, 49, .null, 0, 0, [], 9)]
def mtX0_allBeats : axM := (⟨"BeatSlugs$Board", "allBeats", "()I"⟩, prog_2_method_41_code, 1, (some .int), 0, false, cdX0_allBeats)
abbrev kX0_allBeats : Nat := 76
set_option maxRecDepth 100000 in
theorem ckX0_allBeats : axCk 0 false 0 prog_2_method_41_code cdX0_allBeats = true := by decide +kernel
def cdX0_offTogether : List axE := [
  (0, 2, .null, 0, 0, [], 1), (1, 2, .null, 0, 0, [], 2), (2, 36, .null, 0, 2, [], 5), (5, 2, .null, 0, 0, [], 6), (6, 36, .null, 0, 7, [], 9), (9, 52, .ref 0, 78, 2, [], 12), (12, 49, .null, 0, 0, [], 12)]
def mtX0_offTogether : axM := (⟨"BeatSlugs$Board", "offTogether", "()I"⟩, prog_2_method_54_code, 1, (some .int), 0, false, cdX0_offTogether)
abbrev kX0_offTogether : Nat := 77
set_option maxRecDepth 100000 in
theorem ckX0_offTogether : axCk 0 false 0 prog_2_method_54_code cdX0_offTogether = true := by decide +kernel
def cdX0_offOfRow : List axE := [
  (0, 0, .int 0, 0, 0, [], 1), (1, 4, .null, 3, 0, [], 2), (2, 0, .int 0, 0, 0, [], 3), (3, 4, .null, 4, 0, [], 5), (5, 0, .int 0, 0, 0, [], 6), (6, 4, .null, 5, 0, [], 8), (8, 0, .int 0, 0, 0, [], 9), (9, 4, .null, 6, 0, [], 11),
  (11, 0, .int 0, 0, 0, [], 12), (12, 4, .null, 7, 0, [], 14), (14, 1, .null, 7, 0, [], 16), (16, 2, .null, 0, 0, [], 17), (17, 36, .null, 0, 8, [], 20), (20, 32, .null, 3, 93, [], 23), (23, 2, .null, 1, 0, [], 24), (24, 1, .null, 7, 0, [], 26),
  (26, 53, .null, 10, 2, [], 29), (29, 4, .null, 8, 0, [], 31), (31, 1, .null, 5, 0, [], 33), (33, 2, .null, 0, 0, [], 34), (34, 36, .null, 0, 4, [], 37), (37, 1, .null, 8, 0, [], 39), (39, 53, .null, 10, 2, [], 42), (42, 11, .null, 0, 0, [], 43),
  (43, 4, .null, 5, 0, [], 45), (45, 1, .null, 2, 0, [], 46), (46, 1, .null, 8, 0, [], 48), (48, 53, .null, 18, 2, [], 51), (51, 33, .null, 1, 58, [], 54), (54, 0, .int 1, 0, 0, [], 55), (55, 9, .null, 0, 0, [], 59), (58, 0, .int 0, 0, 0, [], 59),
  (59, 4, .null, 6, 0, [], 61), (61, 1, .null, 6, 0, [], 63), (63, 33, .null, 1, 87, [], 66), (66, 1, .null, 3, 0, [], 67), (67, 1, .null, 5, 0, [], 69), (69, 2, .null, 0, 0, [], 70), (70, 1, .null, 4, 0, [], 72), (72, 52, .ref 0, 60, 1, [], 75),
  (75, 12, .null, 0, 0, [], 76), (76, 59, .null, 0, 0, [], 79), (79, 11, .null, 0, 0, [], 80), (80, 4, .null, 3, 0, [], 81), (81, 6, .int 1, 4, 0, [], 84), (84, 0, .int 0, 0, 0, [], 85), (85, 4, .null, 5, 0, [], 87), (87, 6, .int 1, 7, 0, [], 90),
  (90, 9, .null, 0, 0, [], 14), (93, 1, .null, 6, 0, [], 95), (95, 33, .null, 0, 115, [], 98), (98, 1, .null, 3, 0, [], 99), (99, 1, .null, 5, 0, [], 101), (101, 2, .null, 0, 0, [], 102), (102, 1, .null, 4, 0, [], 104), (104, 52, .ref 0, 60, 1, [], 107),
  (107, 12, .null, 0, 0, [], 108), (108, 59, .null, 0, 0, [], 111), (111, 11, .null, 0, 0, [], 112), (112, 9, .null, 0, 0, [], 116), (115, 1, .null, 3, 0, [], 116), (116, 49, .null, 0, 0, [], 116)]
def mtX0_offOfRow : axM := (⟨"BeatSlugs$Board", "offOfRow", "([II)I"⟩, prog_2_method_56_code, 9, (some .int), 0, false, cdX0_offOfRow)
abbrev kX0_offOfRow : Nat := 78
set_option maxRecDepth 100000 in
theorem ckX0_offOfRow : axCk 0 false 0 prog_2_method_56_code cdX0_offOfRow = true := by decide +kernel
def cdX0_fittingActs : List axE := [
  (0, 0, .int 0, 0, 0, [], 1), (1, 4, .null, 1, 0, [], 2), (2, 2, .null, 0, 0, [], 3), (3, 52, .ref 0, 56, 0, [], 6), (6, 4, .null, 2, 0, [], 7), (7, 0, .int 0, 0, 0, [], 8), (8, 4, .null, 3, 0, [], 9), (9, 1, .null, 3, 0, [], 10),
  (10, 1, .null, 2, 0, [], 11), (11, 32, .null, 3, 31, [], 14), (14, 2, .null, 0, 0, [], 15), (15, 1, .null, 3, 0, [], 16), (16, 52, .ref 0, 72, 1, [], 19), (19, 33, .null, 0, 25, [], 22), (22, 6, .int 1, 1, 0, [], 25), (25, 6, .int 1, 3, 0, [], 28),
  (28, 9, .null, 0, 0, [], 9), (31, 1, .null, 1, 0, [], 32), (32, 49, .null, 0, 0, [], 32)]
def mtX0_fittingActs : axM := (⟨"BeatSlugs$Board", "fittingActs", "()I"⟩, prog_2_method_52_code, 4, (some .int), 0, false, cdX0_fittingActs)
abbrev kX0_fittingActs : Nat := 79
set_option maxRecDepth 100000 in
theorem ckX0_fittingActs : axCk 0 false 0 prog_2_method_52_code cdX0_fittingActs = true := by decide +kernel
def cdX0_longestSlug : List axE := [
  (0, 0, .int (-6), 0, 0, [], 2), (2, 4, .null, 1, 0, [], 3), (3, 0, .int 0, 0, 0, [], 4), (4, 4, .null, 2, 0, [], 5), (5, 0, .int 0, 0, 0, [], 6), (6, 4, .null, 3, 0, [], 7), (7, 1, .null, 3, 0, [], 8), (8, 2, .null, 0, 0, [], 9),
  (9, 36, .null, 0, 8, [], 12), (12, 32, .null, 3, 51, [], 15), (15, 2, .null, 0, 0, [], 16), (16, 36, .null, 0, 2, [], 19), (19, 1, .null, 3, 0, [], 20), (20, 53, .null, 10, 2, [], 23), (23, 4, .null, 4, 0, [], 25), (25, 2, .null, 0, 0, [], 26),
  (26, 1, .null, 4, 0, [], 28), (28, 52, .ref 0, 37, 1, [], 31), (31, 1, .null, 2, 0, [], 32), (32, 32, .null, 5, 45, [], 35), (35, 1, .null, 4, 0, [], 37), (37, 4, .null, 1, 0, [], 38), (38, 2, .null, 0, 0, [], 39), (39, 1, .null, 4, 0, [], 41),
  (41, 52, .ref 0, 37, 1, [], 44), (44, 4, .null, 2, 0, [], 45), (45, 6, .int 1, 3, 0, [], 48), (48, 9, .null, 0, 0, [], 7), (51, 1, .null, 1, 0, [], 52), (52, 49, .null, 0, 0, [], 52)]
def mtX0_longestSlug : axM := (⟨"BeatSlugs$Board", "longestSlug", "()I"⟩, prog_2_method_33_code, 5, (some .int), 0, false, cdX0_longestSlug)
abbrev kX0_longestSlug : Nat := 80
set_option maxRecDepth 100000 in
theorem ckX0_longestSlug : axCk 0 false 0 prog_2_method_33_code cdX0_longestSlug = true := by decide +kernel
def cdX2_size : List axE := [
  (0, 2, .null, 0, 0, [], 1), (1, 36, .null, 2, 1, [], 4), (4, 49, .null, 0, 0, [], 4)]
def mtX2_size : axM := (⟨"BeatSlugs$Pad", "size", "()I"⟩, prog_4_method_2_code, 1, (some .int), 2, false, cdX2_size)
abbrev kX2_size : Nat := 81
set_option maxRecDepth 100000 in
theorem ckX2_size : axCk 2 false 0 prog_4_method_2_code cdX2_size = true := by decide +kernel
def cdX1_size : List axE := [
  (0, 2, .null, 0, 0, [], 1), (1, 36, .null, 1, 2, [], 4), (4, 49, .null, 0, 0, [], 4)]
def mtX1_size : axM := (⟨"BeatSlugs$History", "size", "()I"⟩, prog_3_method_2_code, 1, (some .int), 1, false, cdX1_size)
abbrev kX1_size : Nat := 82
set_option maxRecDepth 100000 in
theorem ckX1_size : axCk 1 false 0 prog_3_method_2_code cdX1_size = true := by decide +kernel
def cdX4_places : List axE := [
  (0, 2, .null, 0, 0, [], 1), (1, 36, .null, 4, 0, [], 4), (4, 1, .null, 1, 0, [], 5), (5, 52, .ref 0, 24, 1, [], 8), (8, 33, .null, 1, 13, [], 11), (11, 0, .int (-1), 0, 0, [], 12), (12, 49, .null, 0, 0, [], 12), (13, 0, .int 0, 0, 0, [], 14),
  (14, 4, .null, 2, 0, [], 15), (15, 2, .null, 0, 0, [], 16), (16, 36, .null, 4, 0, [], 19), (19, 1, .null, 1, 0, [], 20), (20, 52, .ref 0, 45, 1, [], 23), (23, 4, .null, 3, 0, [], 24), (24, 2, .null, 0, 0, [], 25), (25, 36, .null, 4, 0, [], 28),
  (28, 1, .null, 1, 0, [], 29), (29, 52, .ref 0, 44, 1, [], 32), (32, 4, .null, 4, 0, [], 34), (34, 1, .null, 4, 0, [], 36), (36, 1, .null, 3, 0, [], 37), (37, 32, .null, 4, 54, [], 40), (40, 1, .null, 2, 0, [], 41), (41, 1, .null, 4, 0, [], 43),
  (43, 53, .null, 19, 1, [], 46), (46, 15, .null, 0, 0, [], 47), (47, 4, .null, 2, 0, [], 48), (48, 6, .int 1, 4, 0, [], 51), (51, 9, .null, 0, 0, [], 34), (54, 1, .null, 2, 0, [], 55), (55, 49, .null, 0, 0, [], 55)]
def mtX4_places : axM := (⟨"BeatSlugs", "places", "(I)I"⟩, prog_1_method_19_code, 5, (some .int), 4, false, cdX4_places)
abbrev kX4_places : Nat := 83
set_option maxRecDepth 100000 in
theorem ckX4_places : axCk 4 false 0 prog_1_method_19_code cdX4_places = true := by decide +kernel
def cdX4_bestSwap : List axE := [
  (0, 1, .null, 1, 0, [], 1), (1, 33, .null, 2, 9, [], 4), (4, 1, .null, 1, 0, [], 5), (5, 0, .int 2, 0, 0, [], 6), (6, 32, .null, 5, 12, [], 9), (9, 0, .int (-2), 0, 0, [], 11), (11, 49, .null, 0, 0, [], 11), (12, 2, .null, 0, 0, [], 13),
  (13, 36, .null, 4, 4, [], 16), (16, 2, .null, 0, 0, [], 17), (17, 36, .null, 4, 0, [], 20), (20, 52, .ref 3, 85, 1, [], 23), (23, 2, .null, 0, 0, [], 24), (24, 36, .null, 4, 4, [], 27), (27, 52, .ref 3, 91, 0, [], 30), (30, 33, .null, 1, 36, [], 33),
  (33, 0, .int (-6), 0, 0, [], 35), (35, 49, .null, 0, 0, [], 35), (36, 1, .null, 1, 0, [], 37), (37, 35, .null, 0, 94, [(0, 64), (1, 79)], 37), (64, 2, .null, 0, 0, [], 65), (65, 36, .null, 4, 0, [], 68), (68, 2, .null, 0, 0, [], 69), (69, 36, .null, 4, 4, [], 72),
  (72, 52, .ref 3, 92, 0, [], 75), (75, 52, .ref 0, 68, 1, [], 78), (78, 49, .null, 0, 0, [], 78), (79, 2, .null, 0, 0, [], 80), (80, 36, .null, 4, 0, [], 83), (83, 2, .null, 0, 0, [], 84), (84, 36, .null, 4, 4, [], 87), (87, 52, .ref 3, 93, 0, [], 90),
  (90, 52, .ref 0, 68, 1, [], 93), (93, 49, .null, 0, 0, [], 93), (94, 2, .null, 0, 0, [], 95), (95, 36, .null, 4, 4, [], 98), (98, 52, .ref 3, 94, 0, [], 101), (101, 49, .null, 0, 0, [], 101)]
def mtX4_bestSwap : axM := (⟨"BeatSlugs", "bestSwap", "(I)I"⟩, prog_1_method_20_code, 2, (some .int), 4, false, cdX4_bestSwap)
abbrev kX4_bestSwap : Nat := 84
set_option maxRecDepth 100000 in
theorem ckX4_bestSwap : axCk 4 false 0 prog_1_method_20_code cdX4_bestSwap = true := by decide +kernel
def cdX3_run : List axE := [
  (0, 2, .null, 0, 0, [], 1), (1, 0, .int 0, 0, 0, [], 2), (2, 37, .null, 3, 1, [], 5), (5, 2, .null, 0, 0, [], 6), (6, 0, .int 0, 0, 0, [], 7), (7, 37, .null, 3, 2, [], 10), (10, 2, .null, 0, 0, [], 11), (11, 2, .null, 1, 0, [], 12),
  (12, 52, .ref 0, 77, 0, [], 15), (15, 37, .null, 3, 3, [], 18), (18, 2, .null, 1, 0, [], 19), (19, 52, .ref 0, 86, 0, [], 22), (22, 4, .null, 2, 0, [], 23), (23, 0, .int 0, 0, 0, [], 24), (24, 4, .null, 3, 0, [], 25), (25, 1, .null, 3, 0, [], 26),
  (26, 1, .null, 2, 0, [], 27), (27, 32, .null, 3, 49, [], 30), (30, 2, .null, 0, 0, [], 31), (31, 36, .null, 3, 0, [], 34), (34, 1, .null, 3, 0, [], 35), (35, 2, .null, 1, 0, [], 36), (36, 1, .null, 3, 0, [], 37), (37, 52, .ref 0, 68, 1, [], 40),
  (40, 53, .null, 20, 3, [], 43), (43, 6, .int 1, 3, 0, [], 46), (46, 9, .null, 0, 0, [], 25), (49, 0, .int 0, 0, 0, [], 50), (50, 4, .null, 3, 0, [], 51), (51, 1, .null, 3, 0, [], 52), (52, 1, .null, 2, 0, [], 53), (53, 32, .null, 3, 68, [], 56),
  (56, 2, .null, 0, 0, [], 57), (57, 2, .null, 1, 0, [], 58), (58, 1, .null, 3, 0, [], 59), (59, 52, .ref 3, 87, 2, [], 62), (62, 6, .int 1, 3, 0, [], 65), (65, 9, .null, 0, 0, [], 51), (68, 50, .null, 0, 0, [], 68)]
def mtX3_run : axM := (⟨"BeatSlugs$SwapSearch", "run", "(LBeatSlugs$Board;)V"⟩, prog_5_method_6_code, 4, none, 3, false, cdX3_run)
abbrev kX3_run : Nat := 85
set_option maxRecDepth 100000 in
theorem ckX3_run : axCk 3 false 0 prog_5_method_6_code cdX3_run = true := by decide +kernel
def cdX0_size : List axE := [
  (0, 2, .null, 0, 0, [], 1), (1, 36, .null, 0, 8, [], 4), (4, 49, .null, 0, 0, [], 4)]
def mtX0_size : axM := (⟨"BeatSlugs$Board", "size", "()I"⟩, prog_2_method_23_code, 1, (some .int), 0, false, cdX0_size)
abbrev kX0_size : Nat := 86
set_option maxRecDepth 100000 in
theorem ckX0_size : axCk 0 false 0 prog_2_method_23_code cdX0_size = true := by decide +kernel
def cdX3_tryAllBehind : List axE := [
  (0, 2, .null, 1, 0, [], 1), (1, 2, .null, 1, 0, [], 2), (2, 1, .null, 2, 0, [], 3), (3, 52, .ref 0, 68, 1, [], 6), (6, 52, .ref 0, 45, 1, [], 9), (9, 4, .null, 3, 0, [], 10), (10, 1, .null, 2, 0, [], 11), (11, 0, .int 1, 0, 0, [], 12),
  (12, 11, .null, 0, 0, [], 13), (13, 4, .null, 4, 0, [], 15), (15, 1, .null, 4, 0, [], 17), (17, 1, .null, 3, 0, [], 18), (18, 32, .null, 4, 49, [], 21), (21, 2, .null, 1, 0, [], 22), (22, 2, .null, 1, 0, [], 23), (23, 1, .null, 4, 0, [], 25),
  (25, 52, .ref 0, 68, 1, [], 28), (28, 52, .ref 0, 44, 1, [], 31), (31, 1, .null, 2, 0, [], 32), (32, 32, .null, 4, 43, [], 35), (35, 2, .null, 0, 0, [], 36), (36, 2, .null, 1, 0, [], 37), (37, 1, .null, 2, 0, [], 38), (38, 1, .null, 4, 0, [], 40),
  (40, 52, .ref 3, 88, 3, [], 43), (43, 6, .int 1, 4, 0, [], 46), (46, 9, .null, 0, 0, [], 15), (49, 50, .null, 0, 0, [], 49)]
def mtX3_tryAllBehind : axM := (⟨"BeatSlugs$SwapSearch", "tryAllBehind", "(LBeatSlugs$Board;I)V"⟩, prog_5_method_7_code, 5, none, 3, false, cdX3_tryAllBehind)
abbrev kX3_tryAllBehind : Nat := 87
set_option maxRecDepth 100000 in
theorem ckX3_tryAllBehind : axCk 3 false 0 prog_5_method_7_code cdX3_tryAllBehind = true := by decide +kernel
def cdX3_tryOne : List axE := [
  (0, 2, .null, 0, 0, [], 1), (1, 1, .null, 2, 0, [], 2), (2, 1, .null, 3, 0, [], 3), (3, 52, .ref 3, 89, 2, [], 6), (6, 2, .null, 1, 0, [], 7), (7, 2, .null, 0, 0, [], 8), (8, 36, .null, 3, 0, [], 11), (11, 2, .null, 1, 0, [], 12),
  (12, 52, .ref 0, 90, 0, [], 15), (15, 52, .ref 0, 78, 2, [], 18), (18, 4, .null, 4, 0, [], 20), (20, 2, .null, 0, 0, [], 21), (21, 1, .null, 2, 0, [], 22), (22, 1, .null, 3, 0, [], 23), (23, 52, .ref 3, 89, 2, [], 26), (26, 1, .null, 4, 0, [], 28),
  (28, 2, .null, 0, 0, [], 29), (29, 36, .null, 3, 3, [], 32), (32, 32, .null, 3, 51, [], 35), (35, 2, .null, 0, 0, [], 36), (36, 1, .null, 4, 0, [], 38), (38, 37, .null, 3, 3, [], 41), (41, 2, .null, 0, 0, [], 42), (42, 1, .null, 2, 0, [], 43),
  (43, 37, .null, 3, 1, [], 46), (46, 2, .null, 0, 0, [], 47), (47, 1, .null, 3, 0, [], 48), (48, 37, .null, 3, 2, [], 51), (51, 50, .null, 0, 0, [], 51)]
def mtX3_tryOne : axM := (⟨"BeatSlugs$SwapSearch", "tryOne", "(LBeatSlugs$Board;II)V"⟩, prog_5_method_8_code, 5, none, 3, false, cdX3_tryOne)
abbrev kX3_tryOne : Nat := 88
set_option maxRecDepth 100000 in
theorem ckX3_tryOne : axCk 3 false 0 prog_5_method_8_code cdX3_tryOne = true := by decide +kernel
def cdX3_exchange : List axE := [
  (0, 2, .null, 0, 0, [], 1), (1, 36, .null, 3, 0, [], 4), (4, 1, .null, 1, 0, [], 5), (5, 53, .null, 10, 2, [], 8), (8, 4, .null, 3, 0, [], 9), (9, 2, .null, 0, 0, [], 10), (10, 36, .null, 3, 0, [], 13), (13, 1, .null, 1, 0, [], 14),
  (14, 2, .null, 0, 0, [], 15), (15, 36, .null, 3, 0, [], 18), (18, 1, .null, 2, 0, [], 19), (19, 53, .null, 10, 2, [], 22), (22, 53, .null, 20, 3, [], 25), (25, 2, .null, 0, 0, [], 26), (26, 36, .null, 3, 0, [], 29), (29, 1, .null, 2, 0, [], 30),
  (30, 1, .null, 3, 0, [], 31), (31, 53, .null, 20, 3, [], 34), (34, 50, .null, 0, 0, [], 34)]
def mtX3_exchange : axM := (⟨"BeatSlugs$SwapSearch", "exchange", "(II)V"⟩, prog_5_method_9_code, 4, none, 3, false, cdX3_exchange)
abbrev kX3_exchange : Nat := 89
set_option maxRecDepth 100000 in
theorem ckX3_exchange : axCk 3 false 0 prog_5_method_9_code cdX3_exchange = true := by decide +kernel
def cdX0_allTurns : List axE := [
  (0, 2, .null, 0, 0, [], 1), (1, 36, .null, 0, 7, [], 4), (4, 49, .null, 0, 0, [], 4)]
def mtX0_allTurns : axM := (⟨"BeatSlugs$Board", "allTurns", "()I"⟩, prog_2_method_25_code, 1, (some .int), 0, false, cdX0_allTurns)
abbrev kX0_allTurns : Nat := 90
set_option maxRecDepth 100000 in
theorem ckX0_allTurns : axCk 0 false 0 prog_2_method_25_code cdX0_allTurns = true := by decide +kernel
def cdX3_isFound : List axE := [
  (0, 2, .null, 0, 0, [], 1), (1, 36, .null, 3, 1, [], 4), (4, 2, .null, 0, 0, [], 5), (5, 36, .null, 3, 2, [], 8), (8, 32, .null, 3, 15, [], 11), (11, 0, .int 1, 0, 0, [], 12), (12, 9, .null, 0, 0, [], 16), (15, 0, .int 0, 0, 0, [], 16),
  (16, 49, .null, 2, 0, [], 16)]
def mtX3_isFound : axM := (⟨"BeatSlugs$SwapSearch", "isFound", "()Z"⟩, prog_5_method_2_code, 1, (some .boolean), 3, false, cdX3_isFound)
abbrev kX3_isFound : Nat := 91
set_option maxRecDepth 100000 in
theorem ckX3_isFound : axCk 3 false 2 prog_5_method_2_code cdX3_isFound = true := by decide +kernel
def cdX3_lowerPlace : List axE := [
  (0, 2, .null, 0, 0, [], 1), (1, 36, .null, 3, 1, [], 4), (4, 49, .null, 0, 0, [], 4)]
def mtX3_lowerPlace : axM := (⟨"BeatSlugs$SwapSearch", "lowerPlace", "()I"⟩, prog_5_method_3_code, 1, (some .int), 3, false, cdX3_lowerPlace)
abbrev kX3_lowerPlace : Nat := 92
set_option maxRecDepth 100000 in
theorem ckX3_lowerPlace : axCk 3 false 0 prog_5_method_3_code cdX3_lowerPlace = true := by decide +kernel
def cdX3_higherPlace : List axE := [
  (0, 2, .null, 0, 0, [], 1), (1, 36, .null, 3, 2, [], 4), (4, 49, .null, 0, 0, [], 4)]
def mtX3_higherPlace : axM := (⟨"BeatSlugs$SwapSearch", "higherPlace", "()I"⟩, prog_5_method_4_code, 1, (some .int), 3, false, cdX3_higherPlace)
abbrev kX3_higherPlace : Nat := 93
set_option maxRecDepth 100000 in
theorem ckX3_higherPlace : axCk 3 false 0 prog_5_method_4_code cdX3_higherPlace = true := by decide +kernel
def cdX3_leastOff : List axE := [
  (0, 2, .null, 0, 0, [], 1), (1, 36, .null, 3, 3, [], 4), (4, 49, .null, 0, 0, [], 4)]
def mtX3_leastOff : axM := (⟨"BeatSlugs$SwapSearch", "leastOff", "()I"⟩, prog_5_method_5_code, 1, (some .int), 3, false, cdX3_leastOff)
abbrev kX3_leastOff : Nat := 94
set_option maxRecDepth 100000 in
theorem ckX3_leastOff : axCk 3 false 0 prog_5_method_5_code cdX3_leastOff = true := by decide +kernel
def cdX4_ifFitted : List axE := [
  (0, 2, .null, 0, 0, [], 1), (1, 36, .null, 4, 0, [], 4), (4, 1, .null, 1, 0, [], 5), (5, 52, .ref 0, 54, 1, [], 8), (8, 49, .null, 0, 0, [], 8)]
def mtX4_ifFitted : axM := (⟨"BeatSlugs", "ifFitted", "(I)I"⟩, prog_1_method_21_code, 2, (some .int), 4, false, cdX4_ifFitted)
abbrev kX4_ifFitted : Nat := 95
set_option maxRecDepth 100000 in
theorem ckX4_ifFitted : axCk 4 false 0 prog_1_method_21_code cdX4_ifFitted = true := by decide +kernel
def cdX4_ifTurned : List axE := [
  (0, 2, .null, 0, 0, [], 1), (1, 36, .null, 4, 0, [], 4), (4, 1, .null, 1, 0, [], 5), (5, 52, .ref 0, 24, 1, [], 8), (8, 33, .null, 0, 22, [], 11), (11, 2, .null, 0, 0, [], 12), (12, 36, .null, 4, 0, [], 15), (15, 1, .null, 1, 0, [], 16),
  (16, 52, .ref 0, 97, 1, [], 19), (19, 9, .null, 0, 0, [], 23), (22, 0, .int (-1), 0, 0, [], 23), (23, 49, .null, 0, 0, [], 23)]
def mtX4_ifTurned : axM := (⟨"BeatSlugs", "ifTurned", "(I)I"⟩, prog_1_method_22_code, 2, (some .int), 4, false, cdX4_ifTurned)
abbrev kX4_ifTurned : Nat := 96
set_option maxRecDepth 100000 in
theorem ckX4_ifTurned : axCk 4 false 0 prog_1_method_22_code cdX4_ifTurned = true := by decide +kernel
def cdX0_offIfTurned : List axE := [
  (0, 2, .null, 0, 0, [], 1), (1, 2, .null, 0, 0, [], 2), (2, 36, .null, 0, 2, [], 5), (5, 2, .null, 0, 0, [], 6), (6, 36, .null, 0, 7, [], 9), (9, 1, .null, 1, 0, [], 10), (10, 53, .null, 19, 1, [], 13), (13, 16, .null, 0, 0, [], 14),
  (14, 52, .ref 0, 78, 2, [], 17), (17, 49, .null, 0, 0, [], 17)]
def mtX0_offIfTurned : axM := (⟨"BeatSlugs$Board", "offIfTurned", "(I)I"⟩, prog_2_method_55_code, 2, (some .int), 0, false, cdX0_offIfTurned)
abbrev kX0_offIfTurned : Nat := 97
set_option maxRecDepth 100000 in
theorem ckX0_offIfTurned : axCk 0 false 0 prog_2_method_55_code cdX0_offIfTurned = true := by decide +kernel
def cdX4_needs : List axE := [
  (0, 2, .null, 0, 0, [], 1), (1, 36, .null, 4, 0, [], 4), (4, 1, .null, 1, 0, [], 5), (5, 52, .ref 0, 24, 1, [], 8), (8, 33, .null, 0, 22, [], 11), (11, 2, .null, 0, 0, [], 12), (12, 36, .null, 4, 0, [], 15), (15, 1, .null, 1, 0, [], 16),
  (16, 52, .ref 0, 99, 1, [], 19), (19, 9, .null, 0, 0, [], 23), (22, 0, .int (-1), 0, 0, [], 23), (23, 49, .null, 0, 0, [], 23)]
def mtX4_needs : axM := (⟨"BeatSlugs", "needs", "(I)I"⟩, prog_1_method_23_code, 2, (some .int), 4, false, cdX4_needs)
abbrev kX4_needs : Nat := 98
set_option maxRecDepth 100000 in
theorem ckX4_needs : axCk 4 false 0 prog_1_method_23_code cdX4_needs = true := by decide +kernel
def cdX0_allNeedsOf : List axE := [
  (0, 2, .null, 0, 0, [], 1), (1, 1, .null, 1, 0, [], 2), (2, 52, .ref 0, 32, 1, [], 5), (5, 4, .null, 2, 0, [], 6), (6, 2, .null, 0, 0, [], 7), (7, 36, .null, 0, 8, [], 10), (10, 0, .int 1, 0, 0, [], 11), (11, 12, .null, 0, 0, [], 12),
  (12, 4, .null, 3, 0, [], 13), (13, 1, .null, 3, 0, [], 14), (14, 33, .null, 2, 51, [], 17), (17, 2, .null, 0, 0, [], 18), (18, 36, .null, 0, 2, [], 21), (21, 1, .null, 3, 0, [], 22), (22, 53, .null, 10, 2, [], 25), (25, 4, .null, 4, 0, [], 27),
  (27, 1, .null, 2, 0, [], 28), (28, 1, .null, 4, 0, [], 30), (30, 53, .null, 18, 2, [], 33), (33, 33, .null, 0, 45, [], 36), (36, 1, .null, 2, 0, [], 37), (37, 2, .null, 0, 0, [], 38), (38, 1, .null, 4, 0, [], 40), (40, 52, .ref 0, 32, 1, [], 43),
  (43, 15, .null, 0, 0, [], 44), (44, 4, .null, 2, 0, [], 45), (45, 6, .int (-1), 3, 0, [], 48), (48, 9, .null, 0, 0, [], 13), (51, 1, .null, 2, 0, [], 52), (52, 49, .null, 0, 0, [], 52)]
def mtX0_allNeedsOf : axM := (⟨"BeatSlugs$Board", "allNeedsOf", "(I)I"⟩, prog_2_method_36_code, 5, (some .int), 0, false, cdX0_allNeedsOf)
abbrev kX0_allNeedsOf : Nat := 99
set_option maxRecDepth 100000 in
theorem ckX0_allNeedsOf : axCk 0 false 0 prog_2_method_36_code cdX0_allNeedsOf = true := by decide +kernel
def cdX4_put : List axE := [
  (0, 2, .null, 0, 0, [], 1), (1, 36, .null, 4, 3, [], 4), (4, 3, .null, 1, 0, [], 5), (5, 52, .ref 2, 101, 1, [], 8), (8, 49, .null, 0, 0, [], 8)]
def mtX4_put : axM := (⟨"BeatSlugs", "put", "(J)I"⟩, prog_1_method_24_code, 3, (some .int), 4, false, cdX4_put)
abbrev kX4_put : Nat := 100
set_option maxRecDepth 100000 in
theorem ckX4_put : axCk 4 false 0 prog_1_method_24_code cdX4_put = true := by decide +kernel
def cdX2_append : List axE := [
  (0, 3, .null, 1, 0, [], 1), (1, 53, .null, 102, 1, [], 4), (4, 4, .null, 3, 0, [], 5), (5, 1, .null, 3, 0, [], 6), (6, 0, .int 1, 0, 0, [], 7), (7, 32, .null, 3, 13, [], 10), (10, 0, .int (-2), 0, 0, [], 12), (12, 49, .null, 0, 0, [], 12),
  (13, 2, .null, 0, 0, [], 14), (14, 36, .null, 2, 1, [], 17), (17, 1, .null, 3, 0, [], 18), (18, 11, .null, 0, 0, [], 19), (19, 0, .int 80, 0, 0, [], 21), (21, 32, .null, 5, 27, [], 24), (24, 0, .int (-4), 0, 0, [], 26), (26, 49, .null, 0, 0, [], 26),
  (27, 1, .null, 3, 0, [], 28), (28, 0, .int 1, 0, 0, [], 29), (29, 12, .null, 0, 0, [], 30), (30, 4, .null, 4, 0, [], 32), (32, 1, .null, 4, 0, [], 34), (34, 33, .null, 2, 54, [], 37), (37, 2, .null, 0, 0, [], 38), (38, 3, .null, 1, 0, [], 39),
  (39, 1, .null, 4, 0, [], 41), (41, 53, .null, 103, 2, [], 44), (44, 21, .null, 0, 0, [], 45), (45, 52, .ref 2, 104, 1, [], 48), (48, 6, .int (-1), 4, 0, [], 51), (51, 9, .null, 0, 0, [], 32), (54, 2, .null, 0, 0, [], 55), (55, 36, .null, 2, 1, [], 58),
  (58, 49, .null, 0, 0, [], 58)]
def mtX2_append : axM := (⟨"BeatSlugs$Pad", "append", "(J)I"⟩, prog_4_method_4_code, 5, (some .int), 2, false, cdX2_append)
abbrev kX2_append : Nat := 101
set_option maxRecDepth 100000 in
theorem ckX2_append : axCk 2 false 0 prog_4_method_4_code cdX2_append = true := by decide +kernel
def cdX2_signsOf : List axE := [
  (0, 0, .int 0, 0, 0, [], 1), (1, 4, .null, 2, 0, [], 2), (2, 1, .null, 2, 0, [], 3), (3, 0, .int 8, 0, 0, [], 5), (5, 32, .null, 3, 43, [], 8), (8, 3, .null, 0, 0, [], 9), (9, 1, .null, 2, 0, [], 10), (10, 53, .null, 103, 2, [], 13),
  (13, 33, .null, 0, 43, [], 16), (16, 3, .null, 0, 0, [], 17), (17, 1, .null, 2, 0, [], 18), (18, 53, .null, 103, 2, [], 21), (21, 4, .null, 3, 0, [], 22), (22, 1, .null, 3, 0, [], 23), (23, 0, .int 33, 0, 0, [], 25), (25, 32, .null, 2, 34, [], 28),
  (28, 1, .null, 3, 0, [], 29), (29, 0, .int 126, 0, 0, [], 31), (31, 32, .null, 5, 37, [], 34), (34, 0, .int (-2), 0, 0, [], 36), (36, 49, .null, 0, 0, [], 36), (37, 6, .int 1, 2, 0, [], 40), (40, 9, .null, 0, 0, [], 2), (43, 1, .null, 2, 0, [], 44),
  (44, 0, .int 8, 0, 0, [], 46), (46, 32, .null, 3, 63, [], 49), (49, 3, .null, 0, 0, [], 50), (50, 0, .int 8, 0, 0, [], 52), (52, 1, .null, 2, 0, [], 53), (53, 13, .null, 0, 0, [], 54), (54, 28, .null, 0, 0, [], 55), (55, 0, .long 0, 0, 0, [], 56),
  (56, 29, .null, 0, 0, [], 57), (57, 33, .null, 0, 63, [], 60), (60, 0, .int (-2), 0, 0, [], 62), (62, 49, .null, 0, 0, [], 62), (63, 1, .null, 2, 0, [], 64), (64, 49, .null, 0, 0, [], 64)]
def mtX2_signsOf : axM := (⟨"BeatSlugs$Pad", "signsOf", "(J)I"⟩, prog_4_method_5_code, 4, (some .int), 2, false, cdX2_signsOf)
abbrev kX2_signsOf : Nat := 102
set_option maxRecDepth 100000 in
theorem ckX2_signsOf : axCk 2 false 0 prog_4_method_5_code cdX2_signsOf = true := by decide +kernel
def cdX2_codeOf : List axE := [
  (0, 3, .null, 0, 0, [], 1), (1, 0, .int 8, 0, 0, [], 3), (3, 1, .null, 2, 0, [], 4), (4, 13, .null, 0, 0, [], 5), (5, 28, .null, 0, 0, [], 6), (6, 23, .null, 0, 0, [], 7), (7, 0, .int 255, 0, 0, [], 10), (10, 14, .null, 0, 0, [], 11),
  (11, 49, .null, 0, 0, [], 11)]
def mtX2_codeOf : axM := (⟨"BeatSlugs$Pad", "codeOf", "(JI)I"⟩, prog_4_method_6_code, 3, (some .int), 2, false, cdX2_codeOf)
abbrev kX2_codeOf : Nat := 103
set_option maxRecDepth 100000 in
theorem ckX2_codeOf : axCk 2 false 0 prog_4_method_6_code cdX2_codeOf = true := by decide +kernel
def cdX2_addSign : List axE := [
  (0, 2, .null, 0, 0, [], 1), (1, 36, .null, 2, 1, [], 4), (4, 33, .null, 2, 39, [], 7), (7, 2, .null, 0, 0, [], 8), (8, 36, .null, 2, 1, [], 11), (11, 2, .null, 0, 0, [], 12), (12, 36, .null, 2, 0, [], 15), (15, 39, .null, 0, 0, [], 16),
  (16, 32, .null, 3, 39, [], 19), (19, 2, .null, 0, 0, [], 20), (20, 36, .null, 2, 0, [], 23), (23, 2, .null, 0, 0, [], 24), (24, 36, .null, 2, 1, [], 27), (27, 1, .null, 1, 0, [], 28), (28, 42, .null, 1, 0, [], 29), (29, 2, .null, 0, 0, [], 30),
  (30, 7, .null, 0, 0, [], 31), (31, 36, .null, 2, 1, [], 34), (34, 0, .int 1, 0, 0, [], 35), (35, 11, .null, 0, 0, [], 36), (36, 37, .null, 2, 1, [], 39), (39, 50, .null, 0, 0, [], 39)]
def mtX2_addSign : axM := (⟨"BeatSlugs$Pad", "addSign", "(C)V"⟩, prog_4_method_7_code, 2, none, 2, false, cdX2_addSign)
abbrev kX2_addSign : Nat := 104
set_option maxRecDepth 100000 in
theorem ckX2_addSign : axCk 2 false 0 prog_4_method_7_code cdX2_addSign = true := by decide +kernel
def cdX4_wipe : List axE := [
  (0, 2, .null, 0, 0, [], 1), (1, 36, .null, 4, 3, [], 4), (4, 52, .ref 2, 106, 0, [], 7), (7, 49, .null, 0, 0, [], 7)]
def mtX4_wipe : axM := (⟨"BeatSlugs", "wipe", "()I"⟩, prog_1_method_25_code, 1, (some .int), 4, false, cdX4_wipe)
abbrev kX4_wipe : Nat := 105
set_option maxRecDepth 100000 in
theorem ckX4_wipe : axCk 4 false 0 prog_1_method_25_code cdX4_wipe = true := by decide +kernel
def cdX2_clear : List axE := [
  (0, 2, .null, 0, 0, [], 1), (1, 36, .null, 2, 1, [], 4), (4, 4, .null, 1, 0, [], 5), (5, 2, .null, 0, 0, [], 6), (6, 0, .int 0, 0, 0, [], 7), (7, 37, .null, 2, 1, [], 10), (10, 1, .null, 1, 0, [], 11), (11, 49, .null, 0, 0, [], 11)]
def mtX2_clear : axM := (⟨"BeatSlugs$Pad", "clear", "()I"⟩, prog_4_method_3_code, 2, (some .int), 2, false, cdX2_clear)
abbrev kX2_clear : Nat := 106
set_option maxRecDepth 100000 in
theorem ckX2_clear : axCk 2 false 0 prog_4_method_3_code cdX2_clear = true := by decide +kernel
def cdX4_fault : List axE := [
  (0, 2, .null, 0, 0, [], 1), (1, 36, .null, 4, 3, [], 4), (4, 52, .ref 2, 108, 0, [], 7), (7, 49, .null, 0, 0, [], 7)]
def mtX4_fault : axM := (⟨"BeatSlugs", "fault", "()I"⟩, prog_1_method_26_code, 1, (some .int), 4, false, cdX4_fault)
abbrev kX4_fault : Nat := 107
set_option maxRecDepth 100000 in
theorem ckX4_fault : axCk 4 false 0 prog_1_method_26_code cdX4_fault = true := by decide +kernel
def cdX2_firstFault : List axE := [
  (0, 2, .null, 0, 0, [], 1), (1, 52, .ref 2, 109, 0, [], 4), (4, 0, .int 0, 0, 0, [], 5), (5, 4, .null, 1, 0, [], 6), (6, 1, .null, 1, 0, [], 7), (7, 0, .int 80, 0, 0, [], 9), (9, 32, .null, 3, 40, [], 12), (12, 2, .null, 0, 0, [], 13),
  (13, 52, .ref 2, 110, 0, [], 16), (16, 33, .null, 1, 24, [], 19), (19, 2, .null, 0, 0, [], 20), (20, 36, .null, 2, 2, [], 23), (23, 49, .null, 0, 0, [], 23), (24, 2, .null, 0, 0, [], 25), (25, 36, .null, 2, 3, [], 28), (28, 33, .null, 0, 34, [], 31),
  (31, 0, .int (-6), 0, 0, [], 33), (33, 49, .null, 0, 0, [], 33), (34, 6, .int 1, 1, 0, [], 37), (37, 9, .null, 0, 0, [], 6), (40, 0, .int (-6), 0, 0, [], 42), (42, 49, .null, 0, 0, [], 42)]
def mtX2_firstFault : axM := (⟨"BeatSlugs$Pad", "firstFault", "()I"⟩, prog_4_method_8_code, 2, (some .int), 2, false, cdX2_firstFault)
abbrev kX2_firstFault : Nat := 108
set_option maxRecDepth 100000 in
theorem ckX2_firstFault : axCk 2 false 0 prog_4_method_8_code cdX2_firstFault = true := by decide +kernel
def cdX2_rewind : List axE := [
  (0, 2, .null, 0, 0, [], 1), (1, 0, .int 0, 0, 0, [], 2), (2, 37, .null, 2, 2, [], 5), (5, 50, .null, 0, 0, [], 5)]
def mtX2_rewind : axM := (⟨"BeatSlugs$Pad", "rewind", "()V"⟩, prog_4_method_9_code, 1, none, 2, false, cdX2_rewind)
abbrev kX2_rewind : Nat := 109
set_option maxRecDepth 100000 in
theorem ckX2_rewind : axCk 2 false 0 prog_4_method_9_code cdX2_rewind = true := by decide +kernel
def cdX2_readOrder : List axE := [
  (0, 2, .null, 0, 0, [], 1), (1, 2, .null, 0, 0, [], 2), (2, 2, .null, 0, 0, [], 3), (3, 36, .null, 2, 2, [], 6), (6, 52, .ref 2, 111, 1, [], 9), (9, 37, .null, 2, 4, [], 12), (12, 0, .int 0, 0, 0, [], 13), (13, 4, .null, 1, 0, [], 14),
  (14, 2, .null, 0, 0, [], 15), (15, 36, .null, 2, 4, [], 18), (18, 35, .null, 0, 164, [(102, 156), (103, 164), (104, 164), (105, 164), (106, 164), (107, 164), (108, 164), (109, 126), (110, 116), (111, 164), (112, 164), (113, 164), (114, 164), (115, 108), (116, 146), (117, 164), (118, 164), (119, 164), (120, 136)], 18), (108, 2, .null, 0, 0, [], 109), (109, 52, .ref 2, 112, 0, [], 112), (112, 4, .null, 1, 0, [], 113), (113, 9, .null, 0, 0, [], 164), (116, 2, .null, 0, 0, [], 117),
  (117, 0, .int 62, 0, 0, [], 119), (119, 52, .ref 2, 116, 1, [], 122), (122, 4, .null, 1, 0, [], 123), (123, 9, .null, 0, 0, [], 164), (126, 2, .null, 0, 0, [], 127), (127, 0, .int 64, 0, 0, [], 129), (129, 52, .ref 2, 116, 1, [], 132), (132, 4, .null, 1, 0, [], 133),
  (133, 9, .null, 0, 0, [], 164), (136, 2, .null, 0, 0, [], 137), (137, 0, .int 126, 0, 0, [], 139), (139, 52, .ref 2, 116, 1, [], 142), (142, 4, .null, 1, 0, [], 143), (143, 9, .null, 0, 0, [], 164), (146, 2, .null, 0, 0, [], 147), (147, 0, .int 45, 0, 0, [], 149),
  (149, 52, .ref 2, 116, 1, [], 152), (152, 4, .null, 1, 0, [], 153), (153, 9, .null, 0, 0, [], 164), (156, 2, .null, 0, 0, [], 157), (157, 52, .ref 2, 117, 0, [], 160), (160, 4, .null, 1, 0, [], 161), (161, 9, .null, 0, 0, [], 164), (164, 2, .null, 0, 0, [], 165),
  (165, 1, .null, 1, 0, [], 166), (166, 33, .null, 0, 184, [], 169), (169, 2, .null, 0, 0, [], 170), (170, 36, .null, 2, 2, [], 173), (173, 2, .null, 0, 0, [], 174), (174, 36, .null, 2, 1, [], 177), (177, 32, .null, 2, 184, [], 180), (180, 0, .int 1, 0, 0, [], 181),
  (181, 9, .null, 0, 0, [], 185), (184, 0, .int 0, 0, 0, [], 185), (185, 37, .null, 2, 3, [], 188), (188, 2, .null, 0, 0, [], 189), (189, 36, .null, 2, 3, [], 192), (192, 33, .null, 1, 208, [], 195), (195, 1, .null, 1, 0, [], 196), (196, 33, .null, 0, 212, [], 199),
  (199, 2, .null, 0, 0, [], 200), (200, 0, .int 59, 0, 0, [], 202), (202, 52, .ref 2, 115, 1, [], 205), (205, 33, .null, 0, 212, [], 208), (208, 0, .int 1, 0, 0, [], 209), (209, 9, .null, 0, 0, [], 213), (212, 0, .int 0, 0, 0, [], 213), (213, 49, .null, 2, 0, [], 213)]
def mtX2_readOrder : axM := (⟨"BeatSlugs$Pad", "readOrder", "()Z"⟩, prog_4_method_13_code, 2, (some .boolean), 2, false, cdX2_readOrder)
abbrev kX2_readOrder : Nat := 110
set_option maxRecDepth 100000 in
theorem ckX2_readOrder : axCk 2 false 2 prog_4_method_13_code cdX2_readOrder = true := by decide +kernel
def cdX2_signAt : List axE := [
  (0, 1, .null, 1, 0, [], 1), (1, 33, .null, 2, 30, [], 4), (4, 1, .null, 1, 0, [], 5), (5, 2, .null, 0, 0, [], 6), (6, 36, .null, 2, 1, [], 9), (9, 32, .null, 3, 30, [], 12), (12, 1, .null, 1, 0, [], 13), (13, 2, .null, 0, 0, [], 14),
  (14, 36, .null, 2, 0, [], 17), (17, 39, .null, 0, 0, [], 18), (18, 32, .null, 3, 30, [], 21), (21, 2, .null, 0, 0, [], 22), (22, 36, .null, 2, 0, [], 25), (25, 1, .null, 1, 0, [], 26), (26, 40, .null, 1, 0, [], 27), (27, 9, .null, 0, 0, [], 31),
  (30, 0, .int 0, 0, 0, [], 31), (31, 49, .null, 1, 0, [], 31)]
def mtX2_signAt : axM := (⟨"BeatSlugs$Pad", "signAt", "(I)C"⟩, prog_4_method_20_code, 2, (some .char), 2, false, cdX2_signAt)
abbrev kX2_signAt : Nat := 111
set_option maxRecDepth 100000 in
theorem ckX2_signAt : axCk 2 false 1 prog_4_method_20_code cdX2_signAt = true := by decide +kernel
def cdX2_readSlug : List axE := [
  (0, 2, .null, 0, 0, [], 1), (1, 7, .null, 0, 0, [], 2), (2, 36, .null, 2, 2, [], 5), (5, 0, .int 1, 0, 0, [], 6), (6, 11, .null, 0, 0, [], 7), (7, 37, .null, 2, 2, [], 10), (10, 2, .null, 0, 0, [], 11), (11, 2, .null, 0, 0, [], 12),
  (12, 52, .ref 2, 113, 0, [], 15), (15, 37, .null, 2, 5, [], 18), (18, 2, .null, 0, 0, [], 19), (19, 36, .null, 2, 5, [], 22), (22, 33, .null, 3, 27, [], 25), (25, 0, .int 0, 0, 0, [], 26), (26, 49, .null, 2, 0, [], 26), (27, 2, .null, 0, 0, [], 28),
  (28, 2, .null, 0, 0, [], 29), (29, 0, .int 33, 0, 0, [], 31), (31, 52, .ref 2, 115, 1, [], 34), (34, 33, .null, 0, 41, [], 37), (37, 0, .int 1, 0, 0, [], 38), (38, 9, .null, 0, 0, [], 42), (41, 0, .int 0, 0, 0, [], 42), (42, 37, .null, 2, 6, [], 45),
  (45, 0, .int 1, 0, 0, [], 46), (46, 49, .null, 2, 0, [], 46)]
def mtX2_readSlug : axM := (⟨"BeatSlugs$Pad", "readSlug", "()Z"⟩, prog_4_method_14_code, 1, (some .boolean), 2, false, cdX2_readSlug)
abbrev kX2_readSlug : Nat := 112
set_option maxRecDepth 100000 in
theorem ckX2_readSlug : axCk 2 false 2 prog_4_method_14_code cdX2_readSlug = true := by decide +kernel
def cdX2_readNumber : List axE := [
  (0, 2, .null, 0, 0, [], 1), (1, 52, .ref 2, 114, 0, [], 4), (4, 4, .null, 1, 0, [], 5), (5, 1, .null, 1, 0, [], 6), (6, 33, .null, 4, 11, [], 9), (9, 1, .null, 1, 0, [], 10), (10, 49, .null, 0, 0, [], 10), (11, 2, .null, 0, 0, [], 12),
  (12, 52, .ref 2, 114, 0, [], 15), (15, 4, .null, 2, 0, [], 16), (16, 1, .null, 2, 0, [], 17), (17, 33, .null, 3, 24, [], 20), (20, 1, .null, 1, 0, [], 21), (21, 9, .null, 0, 0, [], 30), (24, 0, .int 10, 0, 0, [], 26), (26, 1, .null, 1, 0, [], 27),
  (27, 13, .null, 0, 0, [], 28), (28, 1, .null, 2, 0, [], 29), (29, 11, .null, 0, 0, [], 30), (30, 49, .null, 0, 0, [], 30)]
def mtX2_readNumber : axM := (⟨"BeatSlugs$Pad", "readNumber", "()I"⟩, prog_4_method_17_code, 3, (some .int), 2, false, cdX2_readNumber)
abbrev kX2_readNumber : Nat := 113
set_option maxRecDepth 100000 in
theorem ckX2_readNumber : axCk 2 false 0 prog_4_method_17_code cdX2_readNumber = true := by decide +kernel
def cdX2_readDigit : List axE := [
  (0, 2, .null, 0, 0, [], 1), (1, 2, .null, 0, 0, [], 2), (2, 36, .null, 2, 2, [], 5), (5, 52, .ref 2, 111, 1, [], 8), (8, 4, .null, 1, 0, [], 9), (9, 1, .null, 1, 0, [], 10), (10, 0, .int 48, 0, 0, [], 12), (12, 32, .null, 2, 21, [], 15),
  (15, 1, .null, 1, 0, [], 16), (16, 0, .int 57, 0, 0, [], 18), (18, 32, .null, 5, 24, [], 21), (21, 0, .int (-6), 0, 0, [], 23), (23, 49, .null, 0, 0, [], 23), (24, 2, .null, 0, 0, [], 25), (25, 7, .null, 0, 0, [], 26), (26, 36, .null, 2, 2, [], 29),
  (29, 0, .int 1, 0, 0, [], 30), (30, 11, .null, 0, 0, [], 31), (31, 37, .null, 2, 2, [], 34), (34, 1, .null, 1, 0, [], 35), (35, 0, .int 48, 0, 0, [], 37), (37, 12, .null, 0, 0, [], 38), (38, 49, .null, 0, 0, [], 38)]
def mtX2_readDigit : axM := (⟨"BeatSlugs$Pad", "readDigit", "()I"⟩, prog_4_method_18_code, 2, (some .int), 2, false, cdX2_readDigit)
abbrev kX2_readDigit : Nat := 114
set_option maxRecDepth 100000 in
theorem ckX2_readDigit : axCk 2 false 0 prog_4_method_18_code cdX2_readDigit = true := by decide +kernel
def cdX2_skip : List axE := [
  (0, 2, .null, 0, 0, [], 1), (1, 2, .null, 0, 0, [], 2), (2, 36, .null, 2, 2, [], 5), (5, 52, .ref 2, 111, 1, [], 8), (8, 1, .null, 1, 0, [], 9), (9, 32, .null, 0, 14, [], 12), (12, 0, .int 0, 0, 0, [], 13), (13, 49, .null, 2, 0, [], 13),
  (14, 2, .null, 0, 0, [], 15), (15, 7, .null, 0, 0, [], 16), (16, 36, .null, 2, 2, [], 19), (19, 0, .int 1, 0, 0, [], 20), (20, 11, .null, 0, 0, [], 21), (21, 37, .null, 2, 2, [], 24), (24, 0, .int 1, 0, 0, [], 25), (25, 49, .null, 2, 0, [], 25)]
def mtX2_skip : axM := (⟨"BeatSlugs$Pad", "skip", "(C)Z"⟩, prog_4_method_19_code, 2, (some .boolean), 2, false, cdX2_skip)
abbrev kX2_skip : Nat := 115
set_option maxRecDepth 100000 in
theorem ckX2_skip : axCk 2 false 2 prog_4_method_19_code cdX2_skip = true := by decide +kernel
def cdX2_readPair : List axE := [
  (0, 2, .null, 0, 0, [], 1), (1, 7, .null, 0, 0, [], 2), (2, 36, .null, 2, 2, [], 5), (5, 0, .int 1, 0, 0, [], 6), (6, 11, .null, 0, 0, [], 7), (7, 37, .null, 2, 2, [], 10), (10, 2, .null, 0, 0, [], 11), (11, 2, .null, 0, 0, [], 12),
  (12, 52, .ref 2, 113, 0, [], 15), (15, 37, .null, 2, 5, [], 18), (18, 2, .null, 0, 0, [], 19), (19, 36, .null, 2, 5, [], 22), (22, 33, .null, 2, 33, [], 25), (25, 2, .null, 0, 0, [], 26), (26, 1, .null, 1, 0, [], 27), (27, 52, .ref 2, 115, 1, [], 30),
  (30, 33, .null, 1, 35, [], 33), (33, 0, .int 0, 0, 0, [], 34), (34, 49, .null, 2, 0, [], 34), (35, 2, .null, 0, 0, [], 36), (36, 2, .null, 0, 0, [], 37), (37, 52, .ref 2, 113, 0, [], 40), (40, 37, .null, 2, 6, [], 43), (43, 2, .null, 0, 0, [], 44),
  (44, 36, .null, 2, 6, [], 47), (47, 33, .null, 2, 54, [], 50), (50, 0, .int 1, 0, 0, [], 51), (51, 9, .null, 0, 0, [], 55), (54, 0, .int 0, 0, 0, [], 55), (55, 49, .null, 2, 0, [], 55)]
def mtX2_readPair : axM := (⟨"BeatSlugs$Pad", "readPair", "(C)Z"⟩, prog_4_method_15_code, 2, (some .boolean), 2, false, cdX2_readPair)
abbrev kX2_readPair : Nat := 116
set_option maxRecDepth 100000 in
theorem ckX2_readPair : axCk 2 false 2 prog_4_method_15_code cdX2_readPair = true := by decide +kernel
def cdX2_readAct : List axE := [
  (0, 2, .null, 0, 0, [], 1), (1, 7, .null, 0, 0, [], 2), (2, 36, .null, 2, 2, [], 5), (5, 0, .int 1, 0, 0, [], 6), (6, 11, .null, 0, 0, [], 7), (7, 37, .null, 2, 2, [], 10), (10, 2, .null, 0, 0, [], 11), (11, 2, .null, 0, 0, [], 12),
  (12, 52, .ref 2, 114, 0, [], 15), (15, 37, .null, 2, 5, [], 18), (18, 2, .null, 0, 0, [], 19), (19, 36, .null, 2, 5, [], 22), (22, 33, .null, 2, 29, [], 25), (25, 0, .int 1, 0, 0, [], 26), (26, 9, .null, 0, 0, [], 30), (29, 0, .int 0, 0, 0, [], 30),
  (30, 49, .null, 2, 0, [], 30)]
def mtX2_readAct : axM := (⟨"BeatSlugs$Pad", "readAct", "()Z"⟩, prog_4_method_16_code, 1, (some .boolean), 2, false, cdX2_readAct)
abbrev kX2_readAct : Nat := 117
set_option maxRecDepth 100000 in
theorem ckX2_readAct : axCk 2 false 2 prog_4_method_16_code cdX2_readAct = true := by decide +kernel
def cdX4_carryOut : List axE := [
  (0, 2, .null, 0, 0, [], 1), (1, 36, .null, 4, 3, [], 4), (4, 52, .ref 2, 108, 0, [], 7), (7, 0, .int (-6), 0, 0, [], 9), (9, 32, .null, 0, 15, [], 12), (12, 0, .int (-3), 0, 0, [], 14), (14, 49, .null, 0, 0, [], 14), (15, 2, .null, 0, 0, [], 16),
  (16, 36, .null, 4, 1, [], 19), (19, 2, .null, 0, 0, [], 20), (20, 36, .null, 4, 0, [], 23), (23, 52, .ref 1, 6, 1, [], 26), (26, 2, .null, 0, 0, [], 27), (27, 36, .null, 4, 3, [], 30), (30, 52, .ref 2, 109, 0, [], 33), (33, 0, .int 0, 0, 0, [], 34),
  (34, 4, .null, 1, 0, [], 35), (35, 1, .null, 1, 0, [], 36), (36, 0, .int 80, 0, 0, [], 38), (38, 32, .null, 3, 64, [], 41), (41, 2, .null, 0, 0, [], 42), (42, 36, .null, 4, 3, [], 45), (45, 52, .ref 2, 110, 0, [], 48), (48, 33, .null, 0, 64, [], 51),
  (51, 2, .null, 0, 0, [], 52), (52, 52, .ref 4, 119, 0, [], 55), (55, 33, .null, 2, 64, [], 58), (58, 6, .int 1, 1, 0, [], 61), (61, 9, .null, 0, 0, [], 35), (64, 2, .null, 0, 0, [], 65), (65, 36, .null, 4, 3, [], 68), (68, 52, .ref 2, 106, 0, [], 71),
  (71, 8, .null, 0, 0, [], 72), (72, 2, .null, 0, 0, [], 73), (73, 36, .null, 4, 1, [], 76), (76, 1, .null, 1, 0, [], 77), (77, 52, .ref 1, 11, 1, [], 80), (80, 49, .null, 0, 0, [], 80)]
def mtX4_carryOut : axM := (⟨"BeatSlugs", "carryOut", "()I"⟩, prog_1_method_27_code, 2, (some .int), 4, false, cdX4_carryOut)
abbrev kX4_carryOut : Nat := 118
set_option maxRecDepth 100000 in
theorem ckX4_carryOut : axCk 4 false 0 prog_1_method_27_code cdX4_carryOut = true := by decide +kernel
def cdX4_carryOrder : List axE := [
  (0, 2, .null, 0, 0, [], 1), (1, 36, .null, 4, 3, [], 4), (4, 52, .ref 2, 120, 0, [], 7), (7, 4, .null, 1, 0, [], 8), (8, 2, .null, 0, 0, [], 9), (9, 36, .null, 4, 3, [], 12), (12, 52, .ref 2, 121, 0, [], 15), (15, 4, .null, 2, 0, [], 16),
  (16, 2, .null, 0, 0, [], 17), (17, 36, .null, 4, 3, [], 20), (20, 52, .ref 2, 122, 0, [], 23), (23, 35, .null, 0, 178, [(102, 169), (103, 178), (104, 178), (105, 178), (106, 178), (107, 178), (108, 178), (109, 139), (110, 129), (111, 178), (112, 178), (113, 178), (114, 178), (115, 112), (116, 159), (117, 178), (118, 178), (119, 178), (120, 149)], 23), (112, 2, .null, 0, 0, [], 113), (113, 36, .null, 4, 0, [], 116), (116, 2, .null, 0, 0, [], 117), (117, 36, .null, 4, 0, [], 120),
  (120, 52, .ref 0, 86, 0, [], 123), (123, 1, .null, 1, 0, [], 124), (124, 1, .null, 2, 0, [], 125), (125, 52, .ref 0, 15, 3, [], 128), (128, 49, .null, 0, 0, [], 128), (129, 2, .null, 0, 0, [], 130), (130, 36, .null, 4, 0, [], 133), (133, 1, .null, 1, 0, [], 134),
  (134, 1, .null, 2, 0, [], 135), (135, 52, .ref 0, 31, 2, [], 138), (138, 49, .null, 0, 0, [], 138), (139, 2, .null, 0, 0, [], 140), (140, 36, .null, 4, 0, [], 143), (143, 1, .null, 1, 0, [], 144), (144, 1, .null, 2, 0, [], 145), (145, 52, .ref 0, 42, 2, [], 148),
  (148, 49, .null, 0, 0, [], 148), (149, 2, .null, 0, 0, [], 150), (150, 36, .null, 4, 0, [], 153), (153, 1, .null, 1, 0, [], 154), (154, 1, .null, 2, 0, [], 155), (155, 52, .ref 0, 47, 2, [], 158), (158, 49, .null, 0, 0, [], 158), (159, 2, .null, 0, 0, [], 160),
  (160, 36, .null, 4, 0, [], 163), (163, 1, .null, 1, 0, [], 164), (164, 1, .null, 2, 0, [], 165), (165, 52, .ref 0, 35, 2, [], 168), (168, 49, .null, 0, 0, [], 168), (169, 2, .null, 0, 0, [], 170), (170, 36, .null, 4, 0, [], 173), (173, 1, .null, 1, 0, [], 174),
  (174, 52, .ref 0, 53, 1, [], 177), (177, 49, .null, 0, 0, [], 177), (178, 0, .int (-3), 0, 0, [], 180), (180, 49, .null, 0, 0, [], 180)]
def mtX4_carryOrder : axM := (⟨"BeatSlugs", "carryOrder", "()I"⟩, prog_1_method_31_code, 3, (some .int), 4, false, cdX4_carryOrder)
abbrev kX4_carryOrder : Nat := 119
set_option maxRecDepth 100000 in
theorem ckX4_carryOrder : axCk 4 false 0 prog_1_method_31_code cdX4_carryOrder = true := by decide +kernel
def cdX2_firstNumber : List axE := [
  (0, 2, .null, 0, 0, [], 1), (1, 36, .null, 2, 5, [], 4), (4, 49, .null, 0, 0, [], 4)]
def mtX2_firstNumber : axM := (⟨"BeatSlugs$Pad", "firstNumber", "()I"⟩, prog_4_method_11_code, 1, (some .int), 2, false, cdX2_firstNumber)
abbrev kX2_firstNumber : Nat := 120
set_option maxRecDepth 100000 in
theorem ckX2_firstNumber : axCk 2 false 0 prog_4_method_11_code cdX2_firstNumber = true := by decide +kernel
def cdX2_secondNumber : List axE := [
  (0, 2, .null, 0, 0, [], 1), (1, 36, .null, 2, 6, [], 4), (4, 49, .null, 0, 0, [], 4)]
def mtX2_secondNumber : axM := (⟨"BeatSlugs$Pad", "secondNumber", "()I"⟩, prog_4_method_12_code, 1, (some .int), 2, false, cdX2_secondNumber)
abbrev kX2_secondNumber : Nat := 121
set_option maxRecDepth 100000 in
theorem ckX2_secondNumber : axCk 2 false 0 prog_4_method_12_code cdX2_secondNumber = true := by decide +kernel
def cdX2_kind : List axE := [
  (0, 2, .null, 0, 0, [], 1), (1, 36, .null, 2, 4, [], 4), (4, 49, .null, 1, 0, [], 4)]
def mtX2_kind : axM := (⟨"BeatSlugs$Pad", "kind", "()C"⟩, prog_4_method_10_code, 1, (some .char), 2, false, cdX2_kind)
abbrev kX2_kind : Nat := 122
set_option maxRecDepth 100000 in
theorem ckX2_kind : axCk 2 false 1 prog_4_method_10_code cdX2_kind = true := by decide +kernel
def cdX4_undo : List axE := [
  (0, 2, .null, 0, 0, [], 1), (1, 36, .null, 4, 1, [], 4), (4, 2, .null, 0, 0, [], 5), (5, 36, .null, 4, 0, [], 8), (8, 52, .ref 1, 124, 1, [], 11), (11, 49, .null, 0, 0, [], 11)]
def mtX4_undo : axM := (⟨"BeatSlugs", "undo", "()I"⟩, prog_1_method_28_code, 1, (some .int), 4, false, cdX4_undo)
abbrev kX4_undo : Nat := 123
set_option maxRecDepth 100000 in
theorem ckX4_undo : axCk 4 false 0 prog_1_method_28_code cdX4_undo = true := by decide +kernel
def cdX1_takeBack : List axE := [
  (0, 2, .null, 0, 0, [], 1), (1, 36, .null, 1, 1, [], 4), (4, 33, .null, 5, 16, [], 7), (7, 2, .null, 0, 0, [], 8), (8, 36, .null, 1, 1, [], 11), (11, 0, .int 1, 0, 0, [], 12), (12, 12, .null, 0, 0, [], 13), (13, 9, .null, 0, 0, [], 23),
  (16, 2, .null, 0, 0, [], 17), (17, 36, .null, 1, 0, [], 20), (20, 39, .null, 0, 0, [], 21), (21, 0, .int 1, 0, 0, [], 22), (22, 12, .null, 0, 0, [], 23), (23, 4, .null, 2, 0, [], 24), (24, 2, .null, 0, 0, [], 25), (25, 36, .null, 1, 2, [], 28),
  (28, 33, .null, 5, 40, [], 31), (31, 1, .null, 2, 0, [], 32), (32, 2, .null, 0, 0, [], 33), (33, 36, .null, 1, 0, [], 36), (36, 39, .null, 0, 0, [], 37), (37, 32, .null, 2, 43, [], 40), (40, 0, .int (-5), 0, 0, [], 42), (42, 49, .null, 0, 0, [], 42),
  (43, 2, .null, 0, 0, [], 44), (44, 36, .null, 1, 0, [], 47), (47, 1, .null, 2, 0, [], 48), (48, 41, .null, 0, 0, [], 49), (49, 5, .null, 3, 0, [], 50), (50, 2, .null, 3, 0, [], 51), (51, 34, .null, 0, 57, [], 54), (54, 0, .int (-5), 0, 0, [], 56),
  (56, 49, .null, 0, 0, [], 56), (57, 2, .null, 1, 0, [], 58), (58, 2, .null, 3, 0, [], 59), (59, 52, .ref 0, 8, 1, [], 62), (62, 2, .null, 0, 0, [], 63), (63, 1, .null, 2, 0, [], 64), (64, 37, .null, 1, 1, [], 67), (67, 2, .null, 0, 0, [], 68),
  (68, 7, .null, 0, 0, [], 69), (69, 36, .null, 1, 2, [], 72), (72, 0, .int 1, 0, 0, [], 73), (73, 12, .null, 0, 0, [], 74), (74, 37, .null, 1, 2, [], 77), (77, 2, .null, 0, 0, [], 78), (78, 36, .null, 1, 2, [], 81), (81, 49, .null, 0, 0, [], 81)]
def mtX1_takeBack : axM := (⟨"BeatSlugs$History", "takeBack", "(LBeatSlugs$Board;)I"⟩, prog_3_method_5_code, 4, (some .int), 1, false, cdX1_takeBack)
abbrev kX1_takeBack : Nat := 124
set_option maxRecDepth 100000 in
theorem ckX1_takeBack : axCk 1 false 0 prog_3_method_5_code cdX1_takeBack = true := by decide +kernel
def cdX4_save : List axE := [
  (0, 1, .null, 1, 0, [], 1), (1, 33, .null, 2, 13, [], 4), (4, 1, .null, 1, 0, [], 5), (5, 2, .null, 0, 0, [], 6), (6, 36, .null, 4, 2, [], 9), (9, 39, .null, 0, 0, [], 10), (10, 32, .null, 2, 16, [], 13), (13, 0, .int (-2), 0, 0, [], 15),
  (15, 49, .null, 0, 0, [], 15), (16, 2, .null, 0, 0, [], 17), (17, 36, .null, 4, 2, [], 20), (20, 1, .null, 1, 0, [], 21), (21, 2, .null, 0, 0, [], 22), (22, 36, .null, 4, 2, [], 25), (25, 1, .null, 1, 0, [], 26), (26, 41, .null, 0, 0, [], 27),
  (27, 2, .null, 0, 0, [], 28), (28, 36, .null, 4, 0, [], 31), (31, 53, .null, 7, 2, [], 34), (34, 43, .null, 0, 0, [], 35), (35, 2, .null, 0, 0, [], 36), (36, 36, .null, 4, 0, [], 39), (39, 52, .ref 0, 86, 0, [], 42), (42, 49, .null, 0, 0, [], 42)]
def mtX4_save : axM := (⟨"BeatSlugs", "save", "(I)I"⟩, prog_1_method_29_code, 2, (some .int), 4, false, cdX4_save)
abbrev kX4_save : Nat := 125
set_option maxRecDepth 100000 in
theorem ckX4_save : axCk 4 false 0 prog_1_method_29_code cdX4_save = true := by decide +kernel
def cdX4_restore : List axE := [
  (0, 1, .null, 1, 0, [], 1), (1, 33, .null, 2, 13, [], 4), (4, 1, .null, 1, 0, [], 5), (5, 2, .null, 0, 0, [], 6), (6, 36, .null, 4, 2, [], 9), (9, 39, .null, 0, 0, [], 10), (10, 32, .null, 2, 16, [], 13), (13, 0, .int (-2), 0, 0, [], 15),
  (15, 49, .null, 0, 0, [], 15), (16, 2, .null, 0, 0, [], 17), (17, 36, .null, 4, 2, [], 20), (20, 1, .null, 1, 0, [], 21), (21, 41, .null, 0, 0, [], 22), (22, 5, .null, 2, 0, [], 23), (23, 2, .null, 2, 0, [], 24), (24, 34, .null, 0, 30, [], 27),
  (27, 0, .int (-5), 0, 0, [], 29), (29, 49, .null, 0, 0, [], 29), (30, 2, .null, 0, 0, [], 31), (31, 36, .null, 4, 1, [], 34), (34, 2, .null, 0, 0, [], 35), (35, 36, .null, 4, 0, [], 38), (38, 52, .ref 1, 6, 1, [], 41), (41, 2, .null, 0, 0, [], 42),
  (42, 36, .null, 4, 0, [], 45), (45, 2, .null, 2, 0, [], 46), (46, 52, .ref 0, 8, 1, [], 49), (49, 2, .null, 0, 0, [], 50), (50, 36, .null, 4, 1, [], 53), (53, 2, .null, 0, 0, [], 54), (54, 36, .null, 4, 0, [], 57), (57, 52, .ref 0, 86, 0, [], 60),
  (60, 52, .ref 1, 11, 1, [], 63), (63, 49, .null, 0, 0, [], 63)]
def mtX4_restore : axM := (⟨"BeatSlugs", "restore", "(I)I"⟩, prog_1_method_30_code, 3, (some .int), 4, false, cdX4_restore)
abbrev kX4_restore : Nat := 126
set_option maxRecDepth 100000 in
theorem ckX4_restore : axCk 4 false 0 prog_1_method_30_code cdX4_restore = true := by decide +kernel
def cdX5_init : List axE := [
  (0, 2, .null, 0, 0, [], 1), (1, 55, .null, 0, 0, [], 4), (4, 2, .null, 0, 0, [], 5), (5, 0, .int 154, 0, 0, [], 8), (8, 44, .null, 0, 0, [], 10), (10, 60, .null, 5, 0, [], 13), (13, 2, .null, 0, 0, [], 14), (14, 0, .int 924, 0, 0, [], 17),
  (17, 44, .null, 0, 0, [], 19), (19, 60, .null, 5, 1, [], 22), (22, 2, .null, 0, 0, [], 23), (23, 0, .int 308, 0, 0, [], 26), (26, 44, .null, 0, 0, [], 28), (28, 60, .null, 5, 3, [], 31), (31, 2, .null, 0, 0, [], 32), (32, 0, .int 2, 0, 0, [], 33),
  (33, 44, .null, 2, 0, [], 35), (35, 60, .null, 5, 4, [], 38), (38, 2, .null, 0, 0, [], 39), (39, 0, .int 154, 0, 0, [], 42), (42, 44, .null, 0, 0, [], 44), (44, 60, .null, 5, 5, [], 47), (47, 2, .null, 0, 0, [], 48), (48, 0, .int 80, 0, 0, [], 50),
  (50, 44, .null, 0, 0, [], 52), (52, 60, .null, 5, 6, [], 55), (55, 2, .null, 0, 0, [], 56), (56, 36, .null, 5, 0, [], 59), (59, 0, .int 1, 0, 0, [], 60), (60, 0, .int 16, 0, 0, [], 62), (62, 42, .null, 0, 0, [], 63), (63, 2, .null, 0, 0, [], 64),
  (64, 36, .null, 5, 0, [], 67), (67, 0, .int 2, 0, 0, [], 68), (68, 0, .int 2, 0, 0, [], 69), (69, 42, .null, 0, 0, [], 70), (70, 2, .null, 0, 0, [], 71), (71, 36, .null, 5, 0, [], 74), (74, 0, .int 3, 0, 0, [], 75), (75, 0, .int 50, 0, 0, [], 77),
  (77, 42, .null, 0, 0, [], 78), (78, 0, .int 0, 0, 0, [], 79), (79, 4, .null, 1, 0, [], 80), (80, 1, .null, 1, 0, [], 81), (81, 0, .int 6, 0, 0, [], 83), (83, 32, .null, 3, 102, [], 86), (86, 2, .null, 0, 0, [], 87), (87, 36, .null, 5, 0, [], 90),
  (90, 0, .int 4, 0, 0, [], 91), (91, 1, .null, 1, 0, [], 92), (92, 11, .null, 0, 0, [], 93), (93, 0, .int 60, 0, 0, [], 95), (95, 42, .null, 0, 0, [], 96), (96, 6, .int 1, 1, 0, [], 99), (99, 9, .null, 0, 0, [], 80), (102, 50, .null, 0, 0, [], 102)]
def mtX5_init : axM := (⟨"BeatSlugsModel", "<init>", "()V"⟩, prog_7_method_1_code, 2, none, 5, true, cdX5_init)
abbrev kX5_init : Nat := 127
set_option maxRecDepth 100000 in
theorem ckX5_init : axCk 5 true 0 prog_7_method_1_code cdX5_init = true := by decide +kernel
def cdX5_set : List axE := [
  (0, 1, .null, 1, 0, [], 1), (1, 0, .int 0, 0, 0, [], 2), (2, 0, .int 2, 0, 0, [], 3), (3, 53, .null, 129, 3, [], 6), (6, 33, .null, 0, 17, [], 9), (9, 1, .null, 1, 0, [], 10), (10, 1, .null, 2, 0, [], 11), (11, 53, .null, 130, 2, [], 14),
  (14, 33, .null, 1, 20, [], 17), (17, 0, .int (-2), 0, 0, [], 19), (19, 49, .null, 0, 0, [], 19), (20, 2, .null, 0, 0, [], 21), (21, 2, .null, 0, 0, [], 22), (22, 36, .null, 5, 0, [], 25), (25, 52, .ref 5, 131, 1, [], 28), (28, 2, .null, 0, 0, [], 29),
  (29, 36, .null, 5, 0, [], 32), (32, 0, .int 1, 0, 0, [], 33), (33, 1, .null, 1, 0, [], 34), (34, 11, .null, 0, 0, [], 35), (35, 40, .null, 0, 0, [], 36), (36, 4, .null, 3, 0, [], 37), (37, 2, .null, 0, 0, [], 38), (38, 36, .null, 5, 0, [], 41),
  (41, 0, .int 1, 0, 0, [], 42), (42, 1, .null, 1, 0, [], 43), (43, 11, .null, 0, 0, [], 44), (44, 1, .null, 2, 0, [], 45), (45, 42, .null, 0, 0, [], 46), (46, 1, .null, 3, 0, [], 47), (47, 49, .null, 0, 0, [], 47)]
def mtX5_set : axM := (⟨"BeatSlugsModel", "set", "(II)I"⟩, prog_7_method_40_code, 4, (some .int), 5, false, cdX5_set)
abbrev kX5_set : Nat := 128
set_option maxRecDepth 100000 in
theorem ckX5_set : axCk 5 false 0 prog_7_method_40_code cdX5_set = true := by decide +kernel
def cdX5_in : List axE := [
  (0, 1, .null, 0, 0, [], 1), (1, 1, .null, 1, 0, [], 2), (2, 32, .null, 2, 14, [], 5), (5, 1, .null, 0, 0, [], 6), (6, 1, .null, 2, 0, [], 7), (7, 32, .null, 4, 14, [], 10), (10, 0, .int 1, 0, 0, [], 11), (11, 9, .null, 0, 0, [], 15),
  (14, 0, .int 0, 0, 0, [], 15), (15, 49, .null, 2, 0, [], 15)]
def mtX5_in : axM := (⟨"BeatSlugsModel", "in", "(III)Z"⟩, prog_7_method_3_code, 3, (some .boolean), 5, false, cdX5_in)
abbrev kX5_in : Nat := 129
set_option maxRecDepth 100000 in
theorem ckX5_in : axCk 5 false 2 prog_7_method_3_code cdX5_in = true := by decide +kernel
def cdX5_isValue : List axE := [
  (0, 1, .null, 0, 0, [], 1), (1, 33, .null, 1, 14, [], 4), (4, 1, .null, 1, 0, [], 5), (5, 0, .int 4, 0, 0, [], 6), (6, 0, .int 60, 0, 0, [], 8), (8, 53, .null, 129, 3, [], 11), (11, 9, .null, 0, 0, [], 36), (14, 1, .null, 0, 0, [], 15),
  (15, 0, .int 1, 0, 0, [], 16), (16, 32, .null, 1, 29, [], 19), (19, 1, .null, 1, 0, [], 20), (20, 0, .int 0, 0, 0, [], 21), (21, 0, .int 20, 0, 0, [], 23), (23, 53, .null, 129, 3, [], 26), (26, 9, .null, 0, 0, [], 36), (29, 1, .null, 1, 0, [], 30),
  (30, 0, .int 0, 0, 0, [], 31), (31, 0, .int 90, 0, 0, [], 33), (33, 53, .null, 129, 3, [], 36), (36, 49, .null, 2, 0, [], 36)]
def mtX5_isValue : axM := (⟨"BeatSlugsModel", "isValue", "(II)Z"⟩, prog_7_method_39_code, 2, (some .boolean), 5, false, cdX5_isValue)
abbrev kX5_isValue : Nat := 130
set_option maxRecDepth 100000 in
theorem ckX5_isValue : axCk 5 false 2 prog_7_method_39_code cdX5_isValue = true := by decide +kernel
def cdX5_record : List axE := [
  (0, 2, .null, 0, 0, [], 1), (1, 36, .null, 5, 2, [], 4), (4, 0, .int 6, 0, 0, [], 6), (6, 32, .null, 1, 50, [], 9), (9, 0, .int 0, 0, 0, [], 10), (10, 4, .null, 2, 0, [], 11), (11, 1, .null, 2, 0, [], 12), (12, 0, .int 770, 0, 0, [], 15),
  (15, 32, .null, 3, 40, [], 18), (18, 2, .null, 0, 0, [], 19), (19, 36, .null, 5, 1, [], 22), (22, 1, .null, 2, 0, [], 23), (23, 2, .null, 0, 0, [], 24), (24, 36, .null, 5, 1, [], 27), (27, 0, .int 154, 0, 0, [], 30), (30, 1, .null, 2, 0, [], 31),
  (31, 11, .null, 0, 0, [], 32), (32, 40, .null, 0, 0, [], 33), (33, 42, .null, 0, 0, [], 34), (34, 6, .int 1, 2, 0, [], 37), (37, 9, .null, 0, 0, [], 11), (40, 2, .null, 0, 0, [], 41), (41, 7, .null, 0, 0, [], 42), (42, 36, .null, 5, 2, [], 45),
  (45, 0, .int 1, 0, 0, [], 46), (46, 12, .null, 0, 0, [], 47), (47, 37, .null, 5, 2, [], 50), (50, 2, .null, 1, 0, [], 51), (51, 0, .int 0, 0, 0, [], 52), (52, 2, .null, 0, 0, [], 53), (53, 36, .null, 5, 1, [], 56), (56, 0, .int 154, 0, 0, [], 59),
  (59, 2, .null, 0, 0, [], 60), (60, 36, .null, 5, 2, [], 63), (63, 13, .null, 0, 0, [], 64), (64, 53, .null, 132, 4, [], 67), (67, 2, .null, 0, 0, [], 68), (68, 7, .null, 0, 0, [], 69), (69, 36, .null, 5, 2, [], 72), (72, 0, .int 1, 0, 0, [], 73),
  (73, 11, .null, 0, 0, [], 74), (74, 37, .null, 5, 2, [], 77), (77, 50, .null, 0, 0, [], 77)]
def mtX5_record : axM := (⟨"BeatSlugsModel", "record", "([I)V"⟩, prog_7_method_10_code, 3, none, 5, false, cdX5_record)
abbrev kX5_record : Nat := 131
set_option maxRecDepth 100000 in
theorem ckX5_record : axCk 5 false 0 prog_7_method_10_code cdX5_record = true := by decide +kernel
def cdX5_copy : List axE := [
  (0, 0, .int 0, 0, 0, [], 1), (1, 4, .null, 4, 0, [], 3), (3, 1, .null, 4, 0, [], 5), (5, 0, .int 154, 0, 0, [], 8), (8, 32, .null, 3, 29, [], 11), (11, 2, .null, 2, 0, [], 12), (12, 1, .null, 3, 0, [], 13), (13, 1, .null, 4, 0, [], 15),
  (15, 11, .null, 0, 0, [], 16), (16, 2, .null, 0, 0, [], 17), (17, 1, .null, 1, 0, [], 18), (18, 1, .null, 4, 0, [], 20), (20, 11, .null, 0, 0, [], 21), (21, 40, .null, 0, 0, [], 22), (22, 42, .null, 0, 0, [], 23), (23, 6, .int 1, 4, 0, [], 26),
  (26, 9, .null, 0, 0, [], 3), (29, 50, .null, 0, 0, [], 29)]
def mtX5_copy : axM := (⟨"BeatSlugsModel", "copy", "([II[II)V"⟩, prog_7_method_9_code, 5, none, 5, false, cdX5_copy)
abbrev kX5_copy : Nat := 132
set_option maxRecDepth 100000 in
theorem ckX5_copy : axCk 5 false 0 prog_7_method_9_code cdX5_copy = true := by decide +kernel
def cdX5_target : List axE := [
  (0, 1, .null, 1, 0, [], 1), (1, 0, .int 0, 0, 0, [], 2), (2, 0, .int 5, 0, 0, [], 3), (3, 53, .null, 129, 3, [], 6), (6, 33, .null, 1, 11, [], 9), (9, 0, .int (-1), 0, 0, [], 10), (10, 49, .null, 0, 0, [], 10), (11, 1, .null, 2, 0, [], 12),
  (12, 0, .int 1, 0, 0, [], 13), (13, 0, .int 999, 0, 0, [], 16), (16, 53, .null, 129, 3, [], 19), (19, 33, .null, 1, 25, [], 22), (22, 0, .int (-2), 0, 0, [], 24), (24, 49, .null, 0, 0, [], 24), (25, 2, .null, 0, 0, [], 26), (26, 2, .null, 0, 0, [], 27),
  (27, 36, .null, 5, 0, [], 30), (30, 52, .ref 5, 131, 1, [], 33), (33, 2, .null, 0, 0, [], 34), (34, 36, .null, 5, 0, [], 37), (37, 0, .int 4, 0, 0, [], 38), (38, 1, .null, 1, 0, [], 39), (39, 11, .null, 0, 0, [], 40), (40, 40, .null, 0, 0, [], 41),
  (41, 4, .null, 3, 0, [], 42), (42, 2, .null, 0, 0, [], 43), (43, 36, .null, 5, 0, [], 46), (46, 0, .int 4, 0, 0, [], 47), (47, 1, .null, 1, 0, [], 48), (48, 11, .null, 0, 0, [], 49), (49, 1, .null, 2, 0, [], 50), (50, 42, .null, 0, 0, [], 51),
  (51, 1, .null, 3, 0, [], 52), (52, 49, .null, 0, 0, [], 52)]
def mtX5_target : axM := (⟨"BeatSlugsModel", "target", "(II)I"⟩, prog_7_method_41_code, 4, (some .int), 5, false, cdX5_target)
abbrev kX5_target : Nat := 133
set_option maxRecDepth 100000 in
theorem ckX5_target : axCk 5 false 0 prog_7_method_41_code cdX5_target = true := by decide +kernel
def cdX5_slug : List axE := [
  (0, 2, .null, 0, 0, [], 1), (1, 52, .ref 5, 135, 0, [], 4), (4, 2, .null, 0, 0, [], 5), (5, 2, .null, 0, 0, [], 6), (6, 1, .null, 1, 0, [], 7), (7, 1, .null, 2, 0, [], 8), (8, 1, .null, 3, 0, [], 9), (9, 52, .ref 5, 136, 3, [], 12),
  (12, 52, .ref 5, 141, 1, [], 15), (15, 49, .null, 0, 0, [], 15)]
def mtX5_slug : axM := (⟨"BeatSlugsModel", "slug", "(III)I"⟩, prog_7_method_42_code, 4, (some .int), 5, false, cdX5_slug)
abbrev kX5_slug : Nat := 134
set_option maxRecDepth 100000 in
theorem ckX5_slug : axCk 5 false 0 prog_7_method_42_code cdX5_slug = true := by decide +kernel
def cdX5_begins : List axE := [
  (0, 2, .null, 0, 0, [], 1), (1, 36, .null, 5, 0, [], 4), (4, 0, .int 0, 0, 0, [], 5), (5, 2, .null, 0, 0, [], 6), (6, 36, .null, 5, 5, [], 9), (9, 0, .int 0, 0, 0, [], 10), (10, 53, .null, 132, 4, [], 13), (13, 50, .null, 0, 0, [], 13)]
def mtX5_begins : axM := (⟨"BeatSlugsModel", "begins", "()V"⟩, prog_7_method_37_code, 1, none, 5, false, cdX5_begins)
abbrev kX5_begins : Nat := 135
set_option maxRecDepth 100000 in
theorem ckX5_begins : axCk 5 false 0 prog_7_method_37_code cdX5_begins = true := by decide +kernel
def cdX5_doSlug : List axE := [
  (0, 1, .null, 1, 0, [], 1), (1, 0, .int 0, 0, 0, [], 2), (2, 2, .null, 0, 0, [], 3), (3, 36, .null, 5, 0, [], 6), (6, 0, .int 0, 0, 0, [], 7), (7, 40, .null, 0, 0, [], 8), (8, 53, .null, 129, 3, [], 11), (11, 33, .null, 1, 16, [], 14),
  (14, 0, .int (-1), 0, 0, [], 15), (15, 49, .null, 0, 0, [], 15), (16, 1, .null, 2, 0, [], 17), (17, 0, .int 1, 0, 0, [], 18), (18, 0, .int 99, 0, 0, [], 20), (20, 53, .null, 129, 3, [], 23), (23, 33, .null, 0, 35, [], 26), (26, 1, .null, 3, 0, [], 27),
  (27, 0, .int 0, 0, 0, [], 28), (28, 0, .int 1, 0, 0, [], 29), (29, 53, .null, 129, 3, [], 32), (32, 33, .null, 1, 38, [], 35), (35, 0, .int (-2), 0, 0, [], 37), (37, 49, .null, 0, 0, [], 37), (38, 2, .null, 0, 0, [], 39), (39, 36, .null, 5, 0, [], 42),
  (42, 0, .int 0, 0, 0, [], 43), (43, 40, .null, 0, 0, [], 44), (44, 0, .int 24, 0, 0, [], 46), (46, 32, .null, 1, 52, [], 49), (49, 0, .int (-4), 0, 0, [], 51), (51, 49, .null, 0, 0, [], 51), (52, 2, .null, 0, 0, [], 53), (53, 52, .ref 5, 137, 0, [], 56),
  (56, 4, .null, 4, 0, [], 58), (58, 2, .null, 0, 0, [], 59), (59, 1, .null, 4, 0, [], 61), (61, 0, .int 0, 0, 0, [], 62), (62, 0, .int 1, 0, 0, [], 63), (63, 52, .ref 5, 139, 3, [], 66), (66, 2, .null, 0, 0, [], 67), (67, 1, .null, 4, 0, [], 69),
  (69, 0, .int 1, 0, 0, [], 70), (70, 1, .null, 2, 0, [], 71), (71, 52, .ref 5, 139, 3, [], 74), (74, 2, .null, 0, 0, [], 75), (75, 1, .null, 4, 0, [], 77), (77, 0, .int 2, 0, 0, [], 78), (78, 1, .null, 2, 0, [], 79), (79, 52, .ref 5, 139, 3, [], 82),
  (82, 2, .null, 0, 0, [], 83), (83, 1, .null, 4, 0, [], 85), (85, 0, .int 3, 0, 0, [], 86), (86, 1, .null, 3, 0, [], 87), (87, 52, .ref 5, 139, 3, [], 90), (90, 2, .null, 0, 0, [], 91), (91, 1, .null, 4, 0, [], 93), (93, 0, .int 4, 0, 0, [], 94),
  (94, 0, .int 0, 0, 0, [], 95), (95, 52, .ref 5, 139, 3, [], 98), (98, 2, .null, 0, 0, [], 99), (99, 1, .null, 1, 0, [], 100), (100, 1, .null, 4, 0, [], 102), (102, 52, .ref 5, 140, 2, [], 105), (105, 1, .null, 4, 0, [], 107), (107, 49, .null, 0, 0, [], 107)]
def mtX5_doSlug : axM := (⟨"BeatSlugsModel", "doSlug", "(III)I"⟩, prog_7_method_30_code, 5, (some .int), 5, false, cdX5_doSlug)
abbrev kX5_doSlug : Nat := 136
set_option maxRecDepth 100000 in
theorem ckX5_doSlug : axCk 5 false 0 prog_7_method_30_code cdX5_doSlug = true := by decide +kernel
def cdX5_freeNumber : List axE := [
  (0, 0, .int 0, 0, 0, [], 1), (1, 4, .null, 1, 0, [], 2), (2, 2, .null, 0, 0, [], 3), (3, 1, .null, 1, 0, [], 4), (4, 0, .int 0, 0, 0, [], 5), (5, 52, .ref 5, 138, 2, [], 8), (8, 0, .int 1, 0, 0, [], 9), (9, 32, .null, 1, 18, [], 12),
  (12, 6, .int 1, 1, 0, [], 15), (15, 9, .null, 0, 0, [], 2), (18, 1, .null, 1, 0, [], 19), (19, 49, .null, 0, 0, [], 19)]
def mtX5_freeNumber : axM := (⟨"BeatSlugsModel", "freeNumber", "()I"⟩, prog_7_method_18_code, 2, (some .int), 5, false, cdX5_freeNumber)
abbrev kX5_freeNumber : Nat := 137
set_option maxRecDepth 100000 in
theorem ckX5_freeNumber : axCk 5 false 0 prog_7_method_18_code cdX5_freeNumber = true := by decide +kernel
def cdX5_get : List axE := [
  (0, 2, .null, 0, 0, [], 1), (1, 36, .null, 5, 0, [], 4), (4, 0, .int 34, 0, 0, [], 6), (6, 0, .int 5, 0, 0, [], 7), (7, 1, .null, 1, 0, [], 8), (8, 13, .null, 0, 0, [], 9), (9, 11, .null, 0, 0, [], 10), (10, 1, .null, 2, 0, [], 11),
  (11, 11, .null, 0, 0, [], 12), (12, 40, .null, 0, 0, [], 13), (13, 49, .null, 0, 0, [], 13)]
def mtX5_get : axM := (⟨"BeatSlugsModel", "get", "(II)I"⟩, prog_7_method_6_code, 3, (some .int), 5, false, cdX5_get)
abbrev kX5_get : Nat := 138
set_option maxRecDepth 100000 in
theorem ckX5_get : axCk 5 false 0 prog_7_method_6_code cdX5_get = true := by decide +kernel
def cdX5_lay : List axE := [
  (0, 2, .null, 0, 0, [], 1), (1, 36, .null, 5, 0, [], 4), (4, 0, .int 34, 0, 0, [], 6), (6, 0, .int 5, 0, 0, [], 7), (7, 1, .null, 1, 0, [], 8), (8, 13, .null, 0, 0, [], 9), (9, 11, .null, 0, 0, [], 10), (10, 1, .null, 2, 0, [], 11),
  (11, 11, .null, 0, 0, [], 12), (12, 1, .null, 3, 0, [], 13), (13, 42, .null, 0, 0, [], 14), (14, 50, .null, 0, 0, [], 14)]
def mtX5_lay : axM := (⟨"BeatSlugsModel", "lay", "(III)V"⟩, prog_7_method_7_code, 4, none, 5, false, cdX5_lay)
abbrev kX5_lay : Nat := 139
set_option maxRecDepth 100000 in
theorem ckX5_lay : axCk 5 false 0 prog_7_method_7_code cdX5_lay = true := by decide +kernel
end
section
/-! The code of the methods as rows of the abstract machine. Written by wip/whole/gen2.py. -/
def cdX5_putIn : List axE := [
  (0, 2, .null, 0, 0, [], 1), (1, 36, .null, 5, 0, [], 4), (4, 0, .int 0, 0, 0, [], 5), (5, 40, .null, 0, 0, [], 6), (6, 4, .null, 3, 0, [], 7), (7, 1, .null, 3, 0, [], 8), (8, 1, .null, 1, 0, [], 9), (9, 32, .null, 5, 38, [], 12),
  (12, 2, .null, 0, 0, [], 13), (13, 36, .null, 5, 0, [], 16), (16, 0, .int 10, 0, 0, [], 18), (18, 1, .null, 3, 0, [], 19), (19, 11, .null, 0, 0, [], 20), (20, 2, .null, 0, 0, [], 21), (21, 36, .null, 5, 0, [], 24), (24, 0, .int 10, 0, 0, [], 26),
  (26, 1, .null, 3, 0, [], 27), (27, 11, .null, 0, 0, [], 28), (28, 0, .int 1, 0, 0, [], 29), (29, 12, .null, 0, 0, [], 30), (30, 40, .null, 0, 0, [], 31), (31, 42, .null, 0, 0, [], 32), (32, 6, .int (-1), 3, 0, [], 35), (35, 9, .null, 0, 0, [], 7),
  (38, 2, .null, 0, 0, [], 39), (39, 36, .null, 5, 0, [], 42), (42, 0, .int 10, 0, 0, [], 44), (44, 1, .null, 1, 0, [], 45), (45, 11, .null, 0, 0, [], 46), (46, 1, .null, 2, 0, [], 47), (47, 42, .null, 0, 0, [], 48), (48, 2, .null, 0, 0, [], 49),
  (49, 36, .null, 5, 0, [], 52), (52, 0, .int 0, 0, 0, [], 53), (53, 10, .null, 0, 0, [], 54), (54, 40, .null, 0, 0, [], 55), (55, 0, .int 1, 0, 0, [], 56), (56, 11, .null, 0, 0, [], 57), (57, 42, .null, 0, 0, [], 58), (58, 50, .null, 0, 0, [], 58)]
def mtX5_putIn : axM := (⟨"BeatSlugsModel", "putIn", "(II)V"⟩, prog_7_method_13_code, 4, none, 5, false, cdX5_putIn)
abbrev kX5_putIn : Nat := 140
set_option maxRecDepth 100000 in
theorem ckX5_putIn : axCk 5 false 0 prog_7_method_13_code cdX5_putIn = true := by decide +kernel
def cdX5_ends : List axE := [
  (0, 1, .null, 1, 0, [], 1), (1, 33, .null, 3, 20, [], 4), (4, 2, .null, 0, 0, [], 5), (5, 36, .null, 5, 5, [], 8), (8, 0, .int 0, 0, 0, [], 9), (9, 2, .null, 0, 0, [], 10), (10, 36, .null, 5, 0, [], 13), (13, 0, .int 0, 0, 0, [], 14),
  (14, 53, .null, 132, 4, [], 17), (17, 9, .null, 0, 0, [], 28), (20, 2, .null, 0, 0, [], 21), (21, 2, .null, 0, 0, [], 22), (22, 36, .null, 5, 5, [], 25), (25, 52, .ref 5, 131, 1, [], 28), (28, 1, .null, 1, 0, [], 29), (29, 49, .null, 0, 0, [], 29)]
def mtX5_ends : axM := (⟨"BeatSlugsModel", "ends", "(I)I"⟩, prog_7_method_38_code, 2, (some .int), 5, false, cdX5_ends)
abbrev kX5_ends : Nat := 141
set_option maxRecDepth 100000 in
theorem ckX5_ends : axCk 5 false 0 prog_7_method_38_code cdX5_ends = true := by decide +kernel
def cdX5_drop : List axE := [
  (0, 2, .null, 0, 0, [], 1), (1, 1, .null, 1, 0, [], 2), (2, 52, .ref 5, 143, 1, [], 5), (5, 33, .null, 1, 10, [], 8), (8, 0, .int (-1), 0, 0, [], 9), (9, 49, .null, 0, 0, [], 9), (10, 2, .null, 0, 0, [], 11), (11, 2, .null, 0, 0, [], 12),
  (12, 36, .null, 5, 0, [], 15), (15, 52, .ref 5, 131, 1, [], 18), (18, 2, .null, 0, 0, [], 19), (19, 2, .null, 0, 0, [], 20), (20, 1, .null, 1, 0, [], 21), (21, 52, .ref 5, 144, 1, [], 24), (24, 52, .ref 5, 145, 1, [], 27), (27, 2, .null, 0, 0, [], 28),
  (28, 1, .null, 1, 0, [], 29), (29, 0, .int 0, 0, 0, [], 30), (30, 0, .int 0, 0, 0, [], 31), (31, 52, .ref 5, 139, 3, [], 34), (34, 2, .null, 0, 0, [], 35), (35, 1, .null, 1, 0, [], 36), (36, 0, .int 4, 0, 0, [], 37), (37, 0, .int 0, 0, 0, [], 38),
  (38, 52, .ref 5, 139, 3, [], 41), (41, 0, .int 0, 0, 0, [], 42), (42, 4, .null, 2, 0, [], 43), (43, 1, .null, 2, 0, [], 44), (44, 0, .int 24, 0, 0, [], 46), (46, 32, .null, 3, 73, [], 49), (49, 2, .null, 0, 0, [], 50), (50, 1, .null, 2, 0, [], 51),
  (51, 0, .int 4, 0, 0, [], 52), (52, 2, .null, 0, 0, [], 53), (53, 1, .null, 2, 0, [], 54), (54, 0, .int 4, 0, 0, [], 55), (55, 52, .ref 5, 138, 2, [], 58), (58, 0, .int 1, 0, 0, [], 59), (59, 1, .null, 1, 0, [], 60), (60, 17, .null, 0, 0, [], 61),
  (61, 0, .int (-1), 0, 0, [], 62), (62, 16, .null, 0, 0, [], 63), (63, 14, .null, 0, 0, [], 64), (64, 52, .ref 5, 139, 3, [], 67), (67, 6, .int 1, 2, 0, [], 70), (70, 9, .null, 0, 0, [], 43), (73, 2, .null, 0, 0, [], 74), (74, 36, .null, 5, 0, [], 77),
  (77, 0, .int 0, 0, 0, [], 78), (78, 40, .null, 0, 0, [], 79), (79, 49, .null, 0, 0, [], 79)]
def mtX5_drop : axM := (⟨"BeatSlugsModel", "drop", "(I)I"⟩, prog_7_method_43_code, 3, (some .int), 5, false, cdX5_drop)
abbrev kX5_drop : Nat := 142
set_option maxRecDepth 100000 in
theorem ckX5_drop : axCk 5 false 0 prog_7_method_43_code cdX5_drop = true := by decide +kernel
def cdX5_isSlug : List axE := [
  (0, 1, .null, 1, 0, [], 1), (1, 0, .int 0, 0, 0, [], 2), (2, 0, .int 23, 0, 0, [], 4), (4, 53, .null, 129, 3, [], 7), (7, 33, .null, 0, 24, [], 10), (10, 2, .null, 0, 0, [], 11), (11, 1, .null, 1, 0, [], 12), (12, 0, .int 0, 0, 0, [], 13),
  (13, 52, .ref 5, 138, 2, [], 16), (16, 0, .int 1, 0, 0, [], 17), (17, 32, .null, 1, 24, [], 20), (20, 0, .int 1, 0, 0, [], 21), (21, 9, .null, 0, 0, [], 25), (24, 0, .int 0, 0, 0, [], 25), (25, 49, .null, 2, 0, [], 25)]
def mtX5_isSlug : axM := (⟨"BeatSlugsModel", "isSlug", "(I)Z"⟩, prog_7_method_8_code, 2, (some .boolean), 5, false, cdX5_isSlug)
abbrev kX5_isSlug : Nat := 143
set_option maxRecDepth 100000 in
theorem ckX5_isSlug : axCk 5 false 2 prog_7_method_8_code cdX5_isSlug = true := by decide +kernel
def cdX5_placeOf : List axE := [
  (0, 0, .int 0, 0, 0, [], 1), (1, 4, .null, 2, 0, [], 2), (2, 2, .null, 0, 0, [], 3), (3, 36, .null, 5, 0, [], 6), (6, 0, .int 10, 0, 0, [], 8), (8, 1, .null, 2, 0, [], 9), (9, 11, .null, 0, 0, [], 10), (10, 40, .null, 0, 0, [], 11),
  (11, 1, .null, 1, 0, [], 12), (12, 32, .null, 0, 21, [], 15), (15, 6, .int 1, 2, 0, [], 18), (18, 9, .null, 0, 0, [], 2), (21, 1, .null, 2, 0, [], 22), (22, 49, .null, 0, 0, [], 22)]
def mtX5_placeOf : axM := (⟨"BeatSlugsModel", "placeOf", "(I)I"⟩, prog_7_method_11_code, 3, (some .int), 5, false, cdX5_placeOf)
abbrev kX5_placeOf : Nat := 144
set_option maxRecDepth 100000 in
theorem ckX5_placeOf : axCk 5 false 0 prog_7_method_11_code cdX5_placeOf = true := by decide +kernel
def cdX5_takeOut : List axE := [
  (0, 2, .null, 0, 0, [], 1), (1, 36, .null, 5, 0, [], 4), (4, 0, .int 0, 0, 0, [], 5), (5, 10, .null, 0, 0, [], 6), (6, 40, .null, 0, 0, [], 7), (7, 0, .int 1, 0, 0, [], 8), (8, 12, .null, 0, 0, [], 9), (9, 42, .null, 0, 0, [], 10),
  (10, 1, .null, 1, 0, [], 11), (11, 4, .null, 2, 0, [], 12), (12, 1, .null, 2, 0, [], 13), (13, 2, .null, 0, 0, [], 14), (14, 36, .null, 5, 0, [], 17), (17, 0, .int 0, 0, 0, [], 18), (18, 40, .null, 0, 0, [], 19), (19, 32, .null, 3, 48, [], 22),
  (22, 2, .null, 0, 0, [], 23), (23, 36, .null, 5, 0, [], 26), (26, 0, .int 10, 0, 0, [], 28), (28, 1, .null, 2, 0, [], 29), (29, 11, .null, 0, 0, [], 30), (30, 2, .null, 0, 0, [], 31), (31, 36, .null, 5, 0, [], 34), (34, 0, .int 10, 0, 0, [], 36),
  (36, 1, .null, 2, 0, [], 37), (37, 11, .null, 0, 0, [], 38), (38, 0, .int 1, 0, 0, [], 39), (39, 11, .null, 0, 0, [], 40), (40, 40, .null, 0, 0, [], 41), (41, 42, .null, 0, 0, [], 42), (42, 6, .int 1, 2, 0, [], 45), (45, 9, .null, 0, 0, [], 12),
  (48, 50, .null, 0, 0, [], 48)]
def mtX5_takeOut : axM := (⟨"BeatSlugsModel", "takeOut", "(I)V"⟩, prog_7_method_12_code, 3, none, 5, false, cdX5_takeOut)
abbrev kX5_takeOut : Nat := 145
set_option maxRecDepth 100000 in
theorem ckX5_takeOut : axCk 5 false 0 prog_7_method_12_code cdX5_takeOut = true := by decide +kernel
def cdX5_turn : List axE := [
  (0, 2, .null, 0, 0, [], 1), (1, 1, .null, 1, 0, [], 2), (2, 52, .ref 5, 143, 1, [], 5), (5, 33, .null, 1, 10, [], 8), (8, 0, .int (-1), 0, 0, [], 9), (9, 49, .null, 0, 0, [], 9), (10, 2, .null, 0, 0, [], 11), (11, 2, .null, 0, 0, [], 12),
  (12, 36, .null, 5, 0, [], 15), (15, 52, .ref 5, 131, 1, [], 18), (18, 2, .null, 0, 0, [], 19), (19, 1, .null, 1, 0, [], 20), (20, 0, .int 3, 0, 0, [], 21), (21, 0, .int 1, 0, 0, [], 22), (22, 2, .null, 0, 0, [], 23), (23, 1, .null, 1, 0, [], 24),
  (24, 0, .int 3, 0, 0, [], 25), (25, 52, .ref 5, 138, 2, [], 28), (28, 12, .null, 0, 0, [], 29), (29, 52, .ref 5, 139, 3, [], 32), (32, 2, .null, 0, 0, [], 33), (33, 1, .null, 1, 0, [], 34), (34, 0, .int 3, 0, 0, [], 35), (35, 52, .ref 5, 138, 2, [], 38),
  (38, 49, .null, 0, 0, [], 38)]
def mtX5_turn : axM := (⟨"BeatSlugsModel", "turn", "(I)I"⟩, prog_7_method_44_code, 2, (some .int), 5, false, cdX5_turn)
abbrev kX5_turn : Nat := 146
set_option maxRecDepth 100000 in
theorem ckX5_turn : axCk 5 false 0 prog_7_method_44_code cdX5_turn = true := by decide +kernel
def cdX5_need : List axE := [
  (0, 2, .null, 0, 0, [], 1), (1, 52, .ref 5, 135, 0, [], 4), (4, 2, .null, 0, 0, [], 5), (5, 2, .null, 0, 0, [], 6), (6, 1, .null, 1, 0, [], 7), (7, 1, .null, 2, 0, [], 8), (8, 52, .ref 5, 148, 2, [], 11), (11, 52, .ref 5, 141, 1, [], 14),
  (14, 49, .null, 0, 0, [], 14)]
def mtX5_need : axM := (⟨"BeatSlugsModel", "need", "(II)I"⟩, prog_7_method_45_code, 3, (some .int), 5, false, cdX5_need)
abbrev kX5_need : Nat := 147
set_option maxRecDepth 100000 in
theorem ckX5_need : axCk 5 false 0 prog_7_method_45_code cdX5_need = true := by decide +kernel
def cdX5_doNeed : List axE := [
  (0, 2, .null, 0, 0, [], 1), (1, 1, .null, 1, 0, [], 2), (2, 52, .ref 5, 143, 1, [], 5), (5, 33, .null, 0, 16, [], 8), (8, 2, .null, 0, 0, [], 9), (9, 1, .null, 2, 0, [], 10), (10, 52, .ref 5, 143, 1, [], 13), (13, 33, .null, 1, 18, [], 16),
  (16, 0, .int (-1), 0, 0, [], 17), (17, 49, .null, 0, 0, [], 17), (18, 1, .null, 1, 0, [], 19), (19, 1, .null, 2, 0, [], 20), (20, 32, .null, 1, 26, [], 23), (23, 0, .int (-2), 0, 0, [], 25), (25, 49, .null, 0, 0, [], 25), (26, 2, .null, 0, 0, [], 27),
  (27, 1, .null, 1, 0, [], 28), (28, 0, .int 4, 0, 0, [], 29), (29, 52, .ref 5, 138, 2, [], 32), (32, 1, .null, 2, 0, [], 33), (33, 53, .null, 149, 2, [], 36), (36, 33, .null, 1, 55, [], 39), (39, 2, .null, 0, 0, [], 40), (40, 1, .null, 2, 0, [], 41),
  (41, 52, .ref 5, 144, 1, [], 44), (44, 2, .null, 0, 0, [], 45), (45, 1, .null, 1, 0, [], 46), (46, 52, .ref 5, 144, 1, [], 49), (49, 32, .null, 5, 55, [], 52), (52, 0, .int (-5), 0, 0, [], 54), (54, 49, .null, 0, 0, [], 54), (55, 2, .null, 0, 0, [], 56),
  (56, 1, .null, 1, 0, [], 57), (57, 0, .int 4, 0, 0, [], 58), (58, 2, .null, 0, 0, [], 59), (59, 1, .null, 1, 0, [], 60), (60, 0, .int 4, 0, 0, [], 61), (61, 52, .ref 5, 138, 2, [], 64), (64, 0, .int 1, 0, 0, [], 65), (65, 1, .null, 2, 0, [], 66),
  (66, 17, .null, 0, 0, [], 67), (67, 16, .null, 0, 0, [], 68), (68, 52, .ref 5, 139, 3, [], 71), (71, 2, .null, 0, 0, [], 72), (72, 1, .null, 1, 0, [], 73), (73, 0, .int 4, 0, 0, [], 74), (74, 52, .ref 5, 138, 2, [], 77), (77, 53, .null, 150, 1, [], 80),
  (80, 49, .null, 0, 0, [], 80)]
def mtX5_doNeed : axM := (⟨"BeatSlugsModel", "doNeed", "(II)I"⟩, prog_7_method_31_code, 3, (some .int), 5, false, cdX5_doNeed)
abbrev kX5_doNeed : Nat := 148
set_option maxRecDepth 100000 in
theorem ckX5_doNeed : axCk 5 false 0 prog_7_method_31_code cdX5_doNeed = true := by decide +kernel
def cdX5_has : List axE := [
  (0, 1, .null, 0, 0, [], 1), (1, 1, .null, 1, 0, [], 2), (2, 18, .null, 0, 0, [], 3), (3, 0, .int 1, 0, 0, [], 4), (4, 14, .null, 0, 0, [], 5), (5, 0, .int 1, 0, 0, [], 6), (6, 32, .null, 1, 13, [], 9), (9, 0, .int 1, 0, 0, [], 10),
  (10, 9, .null, 0, 0, [], 14), (13, 0, .int 0, 0, 0, [], 14), (14, 49, .null, 2, 0, [], 14)]
def mtX5_has : axM := (⟨"BeatSlugsModel", "has", "(II)Z"⟩, prog_7_method_4_code, 2, (some .boolean), 5, false, cdX5_has)
abbrev kX5_has : Nat := 149
set_option maxRecDepth 100000 in
theorem ckX5_has : axCk 5 false 2 prog_7_method_4_code cdX5_has = true := by decide +kernel
def cdX5_bits : List axE := [
  (0, 0, .int 0, 0, 0, [], 1), (1, 4, .null, 1, 0, [], 2), (2, 1, .null, 0, 0, [], 3), (3, 4, .null, 2, 0, [], 4), (4, 1, .null, 2, 0, [], 5), (5, 33, .null, 0, 20, [], 8), (8, 6, .int 1, 1, 0, [], 11), (11, 1, .null, 2, 0, [], 12),
  (12, 1, .null, 2, 0, [], 13), (13, 0, .int 1, 0, 0, [], 14), (14, 12, .null, 0, 0, [], 15), (15, 14, .null, 0, 0, [], 16), (16, 4, .null, 2, 0, [], 17), (17, 9, .null, 0, 0, [], 4), (20, 1, .null, 1, 0, [], 21), (21, 49, .null, 0, 0, [], 21)]
def mtX5_bits : axM := (⟨"BeatSlugsModel", "bits", "(I)I"⟩, prog_7_method_5_code, 3, (some .int), 5, false, cdX5_bits)
abbrev kX5_bits : Nat := 150
set_option maxRecDepth 100000 in
theorem ckX5_bits : axCk 5 false 0 prog_7_method_5_code cdX5_bits = true := by decide +kernel
def cdX5_trim : List axE := [
  (0, 2, .null, 0, 0, [], 1), (1, 52, .ref 5, 135, 0, [], 4), (4, 2, .null, 0, 0, [], 5), (5, 2, .null, 0, 0, [], 6), (6, 1, .null, 1, 0, [], 7), (7, 1, .null, 2, 0, [], 8), (8, 52, .ref 5, 152, 2, [], 11), (11, 52, .ref 5, 141, 1, [], 14),
  (14, 49, .null, 0, 0, [], 14)]
def mtX5_trim : axM := (⟨"BeatSlugsModel", "trim", "(II)I"⟩, prog_7_method_46_code, 3, (some .int), 5, false, cdX5_trim)
abbrev kX5_trim : Nat := 151
set_option maxRecDepth 100000 in
theorem ckX5_trim : axCk 5 false 0 prog_7_method_46_code cdX5_trim = true := by decide +kernel
def cdX5_doTrim : List axE := [
  (0, 2, .null, 0, 0, [], 1), (1, 1, .null, 1, 0, [], 2), (2, 52, .ref 5, 143, 1, [], 5), (5, 33, .null, 1, 10, [], 8), (8, 0, .int (-1), 0, 0, [], 9), (9, 49, .null, 0, 0, [], 9), (10, 1, .null, 2, 0, [], 11), (11, 0, .int 1, 0, 0, [], 12),
  (12, 0, .int 98, 0, 0, [], 14), (14, 53, .null, 129, 3, [], 17), (17, 33, .null, 1, 23, [], 20), (20, 0, .int (-2), 0, 0, [], 22), (22, 49, .null, 0, 0, [], 22), (23, 1, .null, 2, 0, [], 24), (24, 2, .null, 0, 0, [], 25), (25, 1, .null, 1, 0, [], 26),
  (26, 52, .ref 5, 153, 1, [], 29), (29, 32, .null, 5, 35, [], 32), (32, 0, .int (-5), 0, 0, [], 34), (34, 49, .null, 0, 0, [], 34), (35, 2, .null, 0, 0, [], 36), (36, 1, .null, 1, 0, [], 37), (37, 0, .int 2, 0, 0, [], 38), (38, 2, .null, 0, 0, [], 39),
  (39, 1, .null, 1, 0, [], 40), (40, 0, .int 2, 0, 0, [], 41), (41, 52, .ref 5, 138, 2, [], 44), (44, 1, .null, 2, 0, [], 45), (45, 12, .null, 0, 0, [], 46), (46, 52, .ref 5, 139, 3, [], 49), (49, 2, .null, 0, 0, [], 50), (50, 1, .null, 1, 0, [], 51),
  (51, 0, .int 2, 0, 0, [], 52), (52, 52, .ref 5, 138, 2, [], 55), (55, 49, .null, 0, 0, [], 55)]
def mtX5_doTrim : axM := (⟨"BeatSlugsModel", "doTrim", "(II)I"⟩, prog_7_method_32_code, 3, (some .int), 5, false, cdX5_doTrim)
abbrev kX5_doTrim : Nat := 152
set_option maxRecDepth 100000 in
theorem ckX5_doTrim : axCk 5 false 0 prog_7_method_32_code cdX5_doTrim = true := by decide +kernel
def cdX5_canTrim : List axE := [
  (0, 2, .null, 0, 0, [], 1), (1, 1, .null, 1, 0, [], 2), (2, 0, .int 2, 0, 0, [], 3), (3, 52, .ref 5, 138, 2, [], 6), (6, 2, .null, 0, 0, [], 7), (7, 1, .null, 1, 0, [], 8), (8, 52, .ref 5, 154, 1, [], 11), (11, 12, .null, 0, 0, [], 12),
  (12, 4, .null, 2, 0, [], 13), (13, 1, .null, 2, 0, [], 14), (14, 33, .null, 3, 21, [], 17), (17, 0, .int 0, 0, 0, [], 18), (18, 9, .null, 0, 0, [], 22), (21, 1, .null, 2, 0, [], 22), (22, 49, .null, 0, 0, [], 22)]
def mtX5_canTrim : axM := (⟨"BeatSlugsModel", "canTrim", "(I)I"⟩, prog_7_method_17_code, 3, (some .int), 5, false, cdX5_canTrim)
abbrev kX5_canTrim : Nat := 153
set_option maxRecDepth 100000 in
theorem ckX5_canTrim : axCk 5 false 0 prog_7_method_17_code cdX5_canTrim = true := by decide +kernel
def cdX5_leastBeats : List axE := [
  (0, 2, .null, 0, 0, [], 1), (1, 1, .null, 1, 0, [], 2), (2, 0, .int 1, 0, 0, [], 3), (3, 52, .ref 5, 138, 2, [], 6), (6, 2, .null, 0, 0, [], 7), (7, 1, .null, 1, 0, [], 8), (8, 0, .int 1, 0, 0, [], 9), (9, 52, .ref 5, 138, 2, [], 12),
  (12, 2, .null, 0, 0, [], 13), (13, 36, .null, 5, 0, [], 16), (16, 0, .int 3, 0, 0, [], 17), (17, 40, .null, 0, 0, [], 18), (18, 13, .null, 0, 0, [], 19), (19, 0, .int 100, 0, 0, [], 21), (21, 47, .null, 0, 0, [], 22), (22, 12, .null, 0, 0, [], 23),
  (23, 4, .null, 2, 0, [], 24), (24, 1, .null, 2, 0, [], 25), (25, 0, .int 1, 0, 0, [], 26), (26, 32, .null, 3, 33, [], 29), (29, 0, .int 1, 0, 0, [], 30), (30, 9, .null, 0, 0, [], 34), (33, 1, .null, 2, 0, [], 34), (34, 49, .null, 0, 0, [], 34)]
def mtX5_leastBeats : axM := (⟨"BeatSlugsModel", "leastBeats", "(I)I"⟩, prog_7_method_16_code, 3, (some .int), 5, false, cdX5_leastBeats)
abbrev kX5_leastBeats : Nat := 154
set_option maxRecDepth 100000 in
theorem ckX5_leastBeats : axCk 5 false 0 prog_7_method_16_code cdX5_leastBeats = true := by decide +kernel
def cdX5_restoreTail : List axE := [
  (0, 2, .null, 0, 0, [], 1), (1, 1, .null, 1, 0, [], 2), (2, 52, .ref 5, 143, 1, [], 5), (5, 33, .null, 1, 10, [], 8), (8, 0, .int (-1), 0, 0, [], 9), (9, 49, .null, 0, 0, [], 9), (10, 2, .null, 0, 0, [], 11), (11, 2, .null, 0, 0, [], 12),
  (12, 36, .null, 5, 0, [], 15), (15, 52, .ref 5, 131, 1, [], 18), (18, 2, .null, 0, 0, [], 19), (19, 1, .null, 1, 0, [], 20), (20, 0, .int 1, 0, 0, [], 21), (21, 52, .ref 5, 138, 2, [], 24), (24, 2, .null, 0, 0, [], 25), (25, 1, .null, 1, 0, [], 26),
  (26, 0, .int 2, 0, 0, [], 27), (27, 52, .ref 5, 138, 2, [], 30), (30, 12, .null, 0, 0, [], 31), (31, 4, .null, 2, 0, [], 32), (32, 2, .null, 0, 0, [], 33), (33, 1, .null, 1, 0, [], 34), (34, 0, .int 2, 0, 0, [], 35), (35, 2, .null, 0, 0, [], 36),
  (36, 1, .null, 1, 0, [], 37), (37, 0, .int 1, 0, 0, [], 38), (38, 52, .ref 5, 138, 2, [], 41), (41, 52, .ref 5, 139, 3, [], 44), (44, 1, .null, 2, 0, [], 45), (45, 49, .null, 0, 0, [], 45)]
def mtX5_restoreTail : axM := (⟨"BeatSlugsModel", "restoreTail", "(I)I"⟩, prog_7_method_47_code, 3, (some .int), 5, false, cdX5_restoreTail)
abbrev kX5_restoreTail : Nat := 155
set_option maxRecDepth 100000 in
theorem ckX5_restoreTail : axCk 5 false 0 prog_7_method_47_code cdX5_restoreTail = true := by decide +kernel
def cdX5_move : List axE := [
  (0, 2, .null, 0, 0, [], 1), (1, 52, .ref 5, 135, 0, [], 4), (4, 2, .null, 0, 0, [], 5), (5, 2, .null, 0, 0, [], 6), (6, 1, .null, 1, 0, [], 7), (7, 1, .null, 2, 0, [], 8), (8, 52, .ref 5, 157, 2, [], 11), (11, 52, .ref 5, 141, 1, [], 14),
  (14, 49, .null, 0, 0, [], 14)]
def mtX5_move : axM := (⟨"BeatSlugsModel", "move", "(II)I"⟩, prog_7_method_48_code, 3, (some .int), 5, false, cdX5_move)
abbrev kX5_move : Nat := 156
set_option maxRecDepth 100000 in
theorem ckX5_move : axCk 5 false 0 prog_7_method_48_code cdX5_move = true := by decide +kernel
def cdX5_doMove : List axE := [
  (0, 2, .null, 0, 0, [], 1), (1, 1, .null, 1, 0, [], 2), (2, 52, .ref 5, 143, 1, [], 5), (5, 33, .null, 0, 24, [], 8), (8, 1, .null, 2, 0, [], 9), (9, 0, .int 0, 0, 0, [], 10), (10, 2, .null, 0, 0, [], 11), (11, 36, .null, 5, 0, [], 14),
  (14, 0, .int 0, 0, 0, [], 15), (15, 40, .null, 0, 0, [], 16), (16, 0, .int 1, 0, 0, [], 17), (17, 12, .null, 0, 0, [], 18), (18, 53, .null, 129, 3, [], 21), (21, 33, .null, 1, 26, [], 24), (24, 0, .int (-1), 0, 0, [], 25), (25, 49, .null, 0, 0, [], 25),
  (26, 2, .null, 0, 0, [], 27), (27, 1, .null, 1, 0, [], 28), (28, 52, .ref 5, 144, 1, [], 31), (31, 4, .null, 3, 0, [], 32), (32, 2, .null, 0, 0, [], 33), (33, 1, .null, 3, 0, [], 34), (34, 52, .ref 5, 145, 1, [], 37), (37, 2, .null, 0, 0, [], 38),
  (38, 1, .null, 2, 0, [], 39), (39, 1, .null, 1, 0, [], 40), (40, 52, .ref 5, 140, 2, [], 43), (43, 2, .null, 0, 0, [], 44), (44, 52, .ref 5, 158, 0, [], 47), (47, 33, .null, 0, 54, [], 50), (50, 1, .null, 3, 0, [], 51), (51, 9, .null, 0, 0, [], 56),
  (54, 0, .int (-5), 0, 0, [], 56), (56, 49, .null, 0, 0, [], 56)]
def mtX5_doMove : axM := (⟨"BeatSlugsModel", "doMove", "(II)I"⟩, prog_7_method_33_code, 4, (some .int), 5, false, cdX5_doMove)
abbrev kX5_doMove : Nat := 157
set_option maxRecDepth 100000 in
theorem ckX5_doMove : axCk 5 false 0 prog_7_method_33_code cdX5_doMove = true := by decide +kernel
def cdX5_isOrdered : List axE := [
  (0, 0, .int 0, 0, 0, [], 1), (1, 4, .null, 1, 0, [], 2), (2, 0, .int 1, 0, 0, [], 3), (3, 4, .null, 2, 0, [], 4), (4, 0, .int 0, 0, 0, [], 5), (5, 4, .null, 3, 0, [], 6), (6, 1, .null, 3, 0, [], 7), (7, 2, .null, 0, 0, [], 8),
  (8, 36, .null, 5, 0, [], 11), (11, 0, .int 0, 0, 0, [], 12), (12, 40, .null, 0, 0, [], 13), (13, 32, .null, 3, 67, [], 16), (16, 1, .null, 2, 0, [], 17), (17, 33, .null, 0, 45, [], 20), (20, 2, .null, 0, 0, [], 21), (21, 2, .null, 0, 0, [], 22),
  (22, 36, .null, 5, 0, [], 25), (25, 0, .int 10, 0, 0, [], 27), (27, 1, .null, 3, 0, [], 28), (28, 11, .null, 0, 0, [], 29), (29, 40, .null, 0, 0, [], 30), (30, 0, .int 4, 0, 0, [], 31), (31, 52, .ref 5, 138, 2, [], 34), (34, 1, .null, 1, 0, [], 35),
  (35, 0, .int (-1), 0, 0, [], 36), (36, 16, .null, 0, 0, [], 37), (37, 14, .null, 0, 0, [], 38), (38, 33, .null, 1, 45, [], 41), (41, 0, .int 1, 0, 0, [], 42), (42, 9, .null, 0, 0, [], 46), (45, 0, .int 0, 0, 0, [], 46), (46, 4, .null, 2, 0, [], 47),
  (47, 1, .null, 1, 0, [], 48), (48, 0, .int 1, 0, 0, [], 49), (49, 2, .null, 0, 0, [], 50), (50, 36, .null, 5, 0, [], 53), (53, 0, .int 10, 0, 0, [], 55), (55, 1, .null, 3, 0, [], 56), (56, 11, .null, 0, 0, [], 57), (57, 40, .null, 0, 0, [], 58),
  (58, 17, .null, 0, 0, [], 59), (59, 15, .null, 0, 0, [], 60), (60, 4, .null, 1, 0, [], 61), (61, 6, .int 1, 3, 0, [], 64), (64, 9, .null, 0, 0, [], 6), (67, 1, .null, 2, 0, [], 68), (68, 49, .null, 2, 0, [], 68)]
def mtX5_isOrdered : axM := (⟨"BeatSlugsModel", "isOrdered", "()Z"⟩, prog_7_method_14_code, 4, (some .boolean), 5, false, cdX5_isOrdered)
abbrev kX5_isOrdered : Nat := 158
set_option maxRecDepth 100000 in
theorem ckX5_isOrdered : axCk 5 false 2 prog_7_method_14_code cdX5_isOrdered = true := by decide +kernel
def cdX5_swap : List axE := [
  (0, 2, .null, 0, 0, [], 1), (1, 52, .ref 5, 135, 0, [], 4), (4, 2, .null, 0, 0, [], 5), (5, 2, .null, 0, 0, [], 6), (6, 1, .null, 1, 0, [], 7), (7, 1, .null, 2, 0, [], 8), (8, 52, .ref 5, 160, 2, [], 11), (11, 52, .ref 5, 141, 1, [], 14),
  (14, 49, .null, 0, 0, [], 14)]
def mtX5_swap : axM := (⟨"BeatSlugsModel", "swap", "(II)I"⟩, prog_7_method_49_code, 3, (some .int), 5, false, cdX5_swap)
abbrev kX5_swap : Nat := 159
set_option maxRecDepth 100000 in
theorem ckX5_swap : axCk 5 false 0 prog_7_method_49_code cdX5_swap = true := by decide +kernel
def cdX5_doSwap : List axE := [
  (0, 2, .null, 0, 0, [], 1), (1, 1, .null, 1, 0, [], 2), (2, 52, .ref 5, 143, 1, [], 5), (5, 33, .null, 0, 16, [], 8), (8, 2, .null, 0, 0, [], 9), (9, 1, .null, 2, 0, [], 10), (10, 52, .ref 5, 143, 1, [], 13), (13, 33, .null, 1, 18, [], 16),
  (16, 0, .int (-1), 0, 0, [], 17), (17, 49, .null, 0, 0, [], 17), (18, 1, .null, 1, 0, [], 19), (19, 1, .null, 2, 0, [], 20), (20, 32, .null, 1, 26, [], 23), (23, 0, .int (-2), 0, 0, [], 25), (25, 49, .null, 0, 0, [], 25), (26, 2, .null, 0, 0, [], 27),
  (27, 1, .null, 1, 0, [], 28), (28, 52, .ref 5, 144, 1, [], 31), (31, 4, .null, 3, 0, [], 32), (32, 2, .null, 0, 0, [], 33), (33, 1, .null, 2, 0, [], 34), (34, 52, .ref 5, 144, 1, [], 37), (37, 4, .null, 4, 0, [], 39), (39, 2, .null, 0, 0, [], 40),
  (40, 36, .null, 5, 0, [], 43), (43, 0, .int 10, 0, 0, [], 45), (45, 1, .null, 3, 0, [], 46), (46, 11, .null, 0, 0, [], 47), (47, 1, .null, 2, 0, [], 48), (48, 42, .null, 0, 0, [], 49), (49, 2, .null, 0, 0, [], 50), (50, 36, .null, 5, 0, [], 53),
  (53, 0, .int 10, 0, 0, [], 55), (55, 1, .null, 4, 0, [], 57), (57, 11, .null, 0, 0, [], 58), (58, 1, .null, 1, 0, [], 59), (59, 42, .null, 0, 0, [], 60), (60, 2, .null, 0, 0, [], 61), (61, 52, .ref 5, 158, 0, [], 64), (64, 33, .null, 0, 79, [], 67),
  (67, 1, .null, 3, 0, [], 68), (68, 1, .null, 4, 0, [], 70), (70, 12, .null, 0, 0, [], 71), (71, 53, .null, 161, 1, [], 74), (74, 0, .int 1, 0, 0, [], 75), (75, 12, .null, 0, 0, [], 76), (76, 9, .null, 0, 0, [], 81), (79, 0, .int (-5), 0, 0, [], 81),
  (81, 49, .null, 0, 0, [], 81)]
def mtX5_doSwap : axM := (⟨"BeatSlugsModel", "doSwap", "(II)I"⟩, prog_7_method_34_code, 5, (some .int), 5, false, cdX5_doSwap)
abbrev kX5_doSwap : Nat := 160
set_option maxRecDepth 100000 in
theorem ckX5_doSwap : axCk 5 false 0 prog_7_method_34_code cdX5_doSwap = true := by decide +kernel
def cdX5_size : List axE := [
  (0, 1, .null, 0, 0, [], 1), (1, 33, .null, 3, 9, [], 4), (4, 1, .null, 0, 0, [], 5), (5, 20, .null, 0, 0, [], 6), (6, 9, .null, 0, 0, [], 10), (9, 1, .null, 0, 0, [], 10), (10, 49, .null, 0, 0, [], 10)]
def mtX5_size : axM := (⟨"BeatSlugsModel", "size", "(I)I"⟩, prog_7_method_26_code, 1, (some .int), 5, false, cdX5_size)
abbrev kX5_size : Nat := 161
set_option maxRecDepth 100000 in
theorem ckX5_size : axCk 5 false 0 prog_7_method_26_code cdX5_size = true := by decide +kernel
def cdX5_split : List axE := [
  (0, 2, .null, 0, 0, [], 1), (1, 52, .ref 5, 135, 0, [], 4), (4, 2, .null, 0, 0, [], 5), (5, 2, .null, 0, 0, [], 6), (6, 1, .null, 1, 0, [], 7), (7, 1, .null, 2, 0, [], 8), (8, 52, .ref 5, 163, 2, [], 11), (11, 52, .ref 5, 141, 1, [], 14),
  (14, 49, .null, 0, 0, [], 14)]
def mtX5_split : axM := (⟨"BeatSlugsModel", "split", "(II)I"⟩, prog_7_method_50_code, 3, (some .int), 5, false, cdX5_split)
abbrev kX5_split : Nat := 162
set_option maxRecDepth 100000 in
theorem ckX5_split : axCk 5 false 0 prog_7_method_50_code cdX5_split = true := by decide +kernel
def cdX5_doSplit : List axE := [
  (0, 2, .null, 0, 0, [], 1), (1, 1, .null, 1, 0, [], 2), (2, 52, .ref 5, 143, 1, [], 5), (5, 33, .null, 1, 10, [], 8), (8, 0, .int (-1), 0, 0, [], 9), (9, 49, .null, 0, 0, [], 9), (10, 1, .null, 2, 0, [], 11), (11, 0, .int 1, 0, 0, [], 12),
  (12, 0, .int 98, 0, 0, [], 14), (14, 53, .null, 129, 3, [], 17), (17, 33, .null, 1, 23, [], 20), (20, 0, .int (-2), 0, 0, [], 22), (22, 49, .null, 0, 0, [], 22), (23, 2, .null, 0, 0, [], 24), (24, 1, .null, 1, 0, [], 25), (25, 0, .int 2, 0, 0, [], 26),
  (26, 52, .ref 5, 138, 2, [], 29), (29, 1, .null, 2, 0, [], 30), (30, 32, .null, 4, 36, [], 33), (33, 0, .int (-5), 0, 0, [], 35), (35, 49, .null, 0, 0, [], 35), (36, 2, .null, 0, 0, [], 37), (37, 36, .null, 5, 0, [], 40), (40, 0, .int 0, 0, 0, [], 41),
  (41, 40, .null, 0, 0, [], 42), (42, 0, .int 24, 0, 0, [], 44), (44, 32, .null, 1, 50, [], 47), (47, 0, .int (-4), 0, 0, [], 49), (49, 49, .null, 0, 0, [], 49), (50, 2, .null, 0, 0, [], 51), (51, 2, .null, 0, 0, [], 52), (52, 1, .null, 1, 0, [], 53),
  (53, 52, .ref 5, 144, 1, [], 56), (56, 0, .int 1, 0, 0, [], 57), (57, 11, .null, 0, 0, [], 58), (58, 2, .null, 0, 0, [], 59), (59, 1, .null, 1, 0, [], 60), (60, 0, .int 1, 0, 0, [], 61), (61, 52, .ref 5, 138, 2, [], 64), (64, 1, .null, 2, 0, [], 65),
  (65, 12, .null, 0, 0, [], 66), (66, 2, .null, 0, 0, [], 67), (67, 1, .null, 1, 0, [], 68), (68, 0, .int 3, 0, 0, [], 69), (69, 52, .ref 5, 138, 2, [], 72), (72, 52, .ref 5, 136, 3, [], 75), (75, 4, .null, 3, 0, [], 76), (76, 2, .null, 0, 0, [], 77),
  (77, 1, .null, 3, 0, [], 78), (78, 0, .int 2, 0, 0, [], 79), (79, 2, .null, 0, 0, [], 80), (80, 1, .null, 1, 0, [], 81), (81, 0, .int 2, 0, 0, [], 82), (82, 52, .ref 5, 138, 2, [], 85), (85, 1, .null, 2, 0, [], 86), (86, 12, .null, 0, 0, [], 87),
  (87, 52, .ref 5, 139, 3, [], 90), (90, 0, .int 0, 0, 0, [], 91), (91, 4, .null, 4, 0, [], 93), (93, 1, .null, 4, 0, [], 95), (95, 0, .int 24, 0, 0, [], 97), (97, 32, .null, 3, 142, [], 100), (100, 2, .null, 0, 0, [], 101), (101, 1, .null, 4, 0, [], 103),
  (103, 0, .int 4, 0, 0, [], 104), (104, 2, .null, 0, 0, [], 105), (105, 1, .null, 4, 0, [], 107), (107, 0, .int 4, 0, 0, [], 108), (108, 52, .ref 5, 138, 2, [], 111), (111, 2, .null, 0, 0, [], 112), (112, 1, .null, 4, 0, [], 114), (114, 0, .int 4, 0, 0, [], 115),
  (115, 52, .ref 5, 138, 2, [], 118), (118, 1, .null, 1, 0, [], 119), (119, 53, .null, 149, 2, [], 122), (122, 33, .null, 0, 131, [], 125), (125, 0, .int 1, 0, 0, [], 126), (126, 1, .null, 3, 0, [], 127), (127, 17, .null, 0, 0, [], 128), (128, 9, .null, 0, 0, [], 132),
  (131, 0, .int 0, 0, 0, [], 132), (132, 15, .null, 0, 0, [], 133), (133, 52, .ref 5, 139, 3, [], 136), (136, 6, .int 1, 4, 0, [], 139), (139, 9, .null, 0, 0, [], 93), (142, 2, .null, 0, 0, [], 143), (143, 1, .null, 3, 0, [], 144), (144, 0, .int 4, 0, 0, [], 145),
  (145, 0, .int 1, 0, 0, [], 146), (146, 1, .null, 1, 0, [], 147), (147, 17, .null, 0, 0, [], 148), (148, 52, .ref 5, 139, 3, [], 151), (151, 2, .null, 0, 0, [], 152), (152, 1, .null, 1, 0, [], 153), (153, 0, .int 1, 0, 0, [], 154), (154, 1, .null, 2, 0, [], 155),
  (155, 52, .ref 5, 139, 3, [], 158), (158, 2, .null, 0, 0, [], 159), (159, 1, .null, 1, 0, [], 160), (160, 0, .int 2, 0, 0, [], 161), (161, 1, .null, 2, 0, [], 162), (162, 52, .ref 5, 139, 3, [], 165), (165, 2, .null, 0, 0, [], 166), (166, 1, .null, 1, 0, [], 167),
  (167, 0, .int 3, 0, 0, [], 168), (168, 0, .int 0, 0, 0, [], 169), (169, 52, .ref 5, 139, 3, [], 172), (172, 1, .null, 3, 0, [], 173), (173, 49, .null, 0, 0, [], 173)]
def mtX5_doSplit : axM := (⟨"BeatSlugsModel", "doSplit", "(II)I"⟩, prog_7_method_36_code, 5, (some .int), 5, false, cdX5_doSplit)
abbrev kX5_doSplit : Nat := 163
set_option maxRecDepth 100000 in
theorem ckX5_doSplit : axCk 5 false 0 prog_7_method_36_code cdX5_doSplit = true := by decide +kernel
def cdX5_fit : List axE := [
  (0, 2, .null, 0, 0, [], 1), (1, 52, .ref 5, 135, 0, [], 4), (4, 2, .null, 0, 0, [], 5), (5, 2, .null, 0, 0, [], 6), (6, 1, .null, 1, 0, [], 7), (7, 52, .ref 5, 165, 1, [], 10), (10, 52, .ref 5, 141, 1, [], 13), (13, 49, .null, 0, 0, [], 13)]
def mtX5_fit : axM := (⟨"BeatSlugsModel", "fit", "(I)I"⟩, prog_7_method_51_code, 2, (some .int), 5, false, cdX5_fit)
abbrev kX5_fit : Nat := 164
set_option maxRecDepth 100000 in
theorem ckX5_fit : axCk 5 false 0 prog_7_method_51_code cdX5_fit = true := by decide +kernel
def cdX5_doFit : List axE := [
  (0, 1, .null, 1, 0, [], 1), (1, 0, .int 0, 0, 0, [], 2), (2, 2, .null, 0, 0, [], 3), (3, 52, .ref 5, 166, 0, [], 6), (6, 0, .int 1, 0, 0, [], 7), (7, 12, .null, 0, 0, [], 8), (8, 53, .null, 129, 3, [], 11), (11, 33, .null, 1, 16, [], 14),
  (14, 0, .int (-1), 0, 0, [], 15), (15, 49, .null, 0, 0, [], 15), (16, 0, .int 0, 0, 0, [], 17), (17, 4, .null, 2, 0, [], 18), (18, 2, .null, 0, 0, [], 19), (19, 36, .null, 5, 0, [], 22), (22, 0, .int 0, 0, 0, [], 23), (23, 40, .null, 0, 0, [], 24),
  (24, 0, .int 1, 0, 0, [], 25), (25, 12, .null, 0, 0, [], 26), (26, 4, .null, 3, 0, [], 27), (27, 1, .null, 3, 0, [], 28), (28, 33, .null, 2, 117, [], 31), (31, 2, .null, 0, 0, [], 32), (32, 36, .null, 5, 0, [], 35), (35, 0, .int 10, 0, 0, [], 37),
  (37, 1, .null, 3, 0, [], 38), (38, 11, .null, 0, 0, [], 39), (39, 40, .null, 0, 0, [], 40), (40, 4, .null, 4, 0, [], 42), (42, 2, .null, 0, 0, [], 43), (43, 1, .null, 3, 0, [], 44), (44, 52, .ref 5, 167, 1, [], 47), (47, 1, .null, 1, 0, [], 48),
  (48, 32, .null, 1, 111, [], 51), (51, 2, .null, 0, 0, [], 52), (52, 1, .null, 1, 0, [], 53), (53, 52, .ref 5, 168, 1, [], 56), (56, 33, .null, 5, 111, [], 59), (59, 2, .null, 0, 0, [], 60), (60, 1, .null, 1, 0, [], 61), (61, 52, .ref 5, 168, 1, [], 64),
  (64, 2, .null, 0, 0, [], 65), (65, 1, .null, 4, 0, [], 67), (67, 52, .ref 5, 153, 1, [], 70), (70, 32, .null, 3, 81, [], 73), (73, 2, .null, 0, 0, [], 74), (74, 1, .null, 1, 0, [], 75), (75, 52, .ref 5, 168, 1, [], 78), (78, 9, .null, 0, 0, [], 87),
  (81, 2, .null, 0, 0, [], 82), (82, 1, .null, 4, 0, [], 84), (84, 52, .ref 5, 153, 1, [], 87), (87, 4, .null, 5, 0, [], 89), (89, 2, .null, 0, 0, [], 90), (90, 1, .null, 4, 0, [], 92), (92, 0, .int 2, 0, 0, [], 93), (93, 2, .null, 0, 0, [], 94),
  (94, 1, .null, 4, 0, [], 96), (96, 0, .int 2, 0, 0, [], 97), (97, 52, .ref 5, 138, 2, [], 100), (100, 1, .null, 5, 0, [], 102), (102, 12, .null, 0, 0, [], 103), (103, 52, .ref 5, 139, 3, [], 106), (106, 1, .null, 2, 0, [], 107), (107, 1, .null, 5, 0, [], 109),
  (109, 11, .null, 0, 0, [], 110), (110, 4, .null, 2, 0, [], 111), (111, 6, .int (-1), 3, 0, [], 114), (114, 9, .null, 0, 0, [], 27), (117, 2, .null, 0, 0, [], 118), (118, 1, .null, 1, 0, [], 119), (119, 52, .ref 5, 168, 1, [], 122), (122, 2, .null, 0, 0, [], 123),
  (123, 36, .null, 5, 0, [], 126), (126, 0, .int 2, 0, 0, [], 127), (127, 40, .null, 0, 0, [], 128), (128, 32, .null, 5, 136, [], 131), (131, 0, .int (-5), 0, 0, [], 133), (133, 9, .null, 0, 0, [], 137), (136, 1, .null, 2, 0, [], 137), (137, 49, .null, 0, 0, [], 137)]
def mtX5_doFit : axM := (⟨"BeatSlugsModel", "doFit", "(I)I"⟩, prog_7_method_35_code, 6, (some .int), 5, false, cdX5_doFit)
abbrev kX5_doFit : Nat := 165
set_option maxRecDepth 100000 in
theorem ckX5_doFit : axCk 5 false 0 prog_7_method_35_code cdX5_doFit = true := by decide +kernel
def cdX5_acts : List axE := [
  (0, 2, .null, 0, 0, [], 1), (1, 36, .null, 5, 0, [], 4), (4, 0, .int 0, 0, 0, [], 5), (5, 40, .null, 0, 0, [], 6), (6, 33, .null, 1, 13, [], 9), (9, 0, .int 0, 0, 0, [], 10), (10, 9, .null, 0, 0, [], 27), (13, 2, .null, 0, 0, [], 14),
  (14, 2, .null, 0, 0, [], 15), (15, 36, .null, 5, 0, [], 18), (18, 0, .int 0, 0, 0, [], 19), (19, 40, .null, 0, 0, [], 20), (20, 0, .int 1, 0, 0, [], 21), (21, 12, .null, 0, 0, [], 22), (22, 52, .ref 5, 167, 1, [], 25), (25, 0, .int 1, 0, 0, [], 26),
  (26, 11, .null, 0, 0, [], 27), (27, 49, .null, 0, 0, [], 27)]
def mtX5_acts : axM := (⟨"BeatSlugsModel", "acts", "()I"⟩, prog_7_method_20_code, 1, (some .int), 5, false, cdX5_acts)
abbrev kX5_acts : Nat := 166
set_option maxRecDepth 100000 in
theorem ckX5_acts : axCk 5 false 0 prog_7_method_20_code cdX5_acts = true := by decide +kernel
def cdX5_actAt : List axE := [
  (0, 0, .int 0, 0, 0, [], 1), (1, 4, .null, 2, 0, [], 2), (2, 0, .int 0, 0, 0, [], 3), (3, 4, .null, 3, 0, [], 4), (4, 1, .null, 3, 0, [], 5), (5, 1, .null, 1, 0, [], 6), (6, 32, .null, 3, 32, [], 9), (9, 1, .null, 2, 0, [], 10),
  (10, 2, .null, 0, 0, [], 11), (11, 2, .null, 0, 0, [], 12), (12, 36, .null, 5, 0, [], 15), (15, 0, .int 10, 0, 0, [], 17), (17, 1, .null, 3, 0, [], 18), (18, 11, .null, 0, 0, [], 19), (19, 40, .null, 0, 0, [], 20), (20, 0, .int 3, 0, 0, [], 21),
  (21, 52, .ref 5, 138, 2, [], 24), (24, 11, .null, 0, 0, [], 25), (25, 4, .null, 2, 0, [], 26), (26, 6, .int 1, 3, 0, [], 29), (29, 9, .null, 0, 0, [], 4), (32, 1, .null, 2, 0, [], 33), (33, 49, .null, 0, 0, [], 33)]
def mtX5_actAt : axM := (⟨"BeatSlugsModel", "actAt", "(I)I"⟩, prog_7_method_19_code, 4, (some .int), 5, false, cdX5_actAt)
abbrev kX5_actAt : Nat := 167
set_option maxRecDepth 100000 in
theorem ckX5_actAt : axCk 5 false 0 prog_7_method_19_code cdX5_actAt = true := by decide +kernel
def cdX5_off : List axE := [
  (0, 2, .null, 0, 0, [], 1), (1, 1, .null, 1, 0, [], 2), (2, 0, .int 0, 0, 0, [], 3), (3, 52, .ref 5, 169, 2, [], 6), (6, 2, .null, 0, 0, [], 7), (7, 1, .null, 1, 0, [], 8), (8, 52, .ref 5, 170, 1, [], 11), (11, 12, .null, 0, 0, [], 12),
  (12, 49, .null, 0, 0, [], 12)]
def mtX5_off : axM := (⟨"BeatSlugsModel", "off", "(I)I"⟩, prog_7_method_25_code, 2, (some .int), 5, false, cdX5_off)
abbrev kX5_off : Nat := 168
set_option maxRecDepth 100000 in
theorem ckX5_off : axCk 5 false 0 prog_7_method_25_code cdX5_off = true := by decide +kernel
def cdX5_sumOf : List axE := [
  (0, 0, .int 0, 0, 0, [], 1), (1, 4, .null, 3, 0, [], 2), (2, 0, .int 0, 0, 0, [], 3), (3, 4, .null, 4, 0, [], 5), (5, 1, .null, 4, 0, [], 7), (7, 2, .null, 0, 0, [], 8), (8, 36, .null, 5, 0, [], 11), (11, 0, .int 0, 0, 0, [], 12),
  (12, 40, .null, 0, 0, [], 13), (13, 32, .null, 3, 80, [], 16), (16, 2, .null, 0, 0, [], 17), (17, 1, .null, 4, 0, [], 19), (19, 52, .ref 5, 167, 1, [], 22), (22, 1, .null, 1, 0, [], 23), (23, 32, .null, 1, 74, [], 26), (26, 1, .null, 3, 0, [], 27),
  (27, 1, .null, 2, 0, [], 28), (28, 33, .null, 1, 49, [], 31), (31, 2, .null, 0, 0, [], 32), (32, 2, .null, 0, 0, [], 33), (33, 36, .null, 5, 0, [], 36), (36, 0, .int 10, 0, 0, [], 38), (38, 1, .null, 4, 0, [], 40), (40, 11, .null, 0, 0, [], 41),
  (41, 40, .null, 0, 0, [], 42), (42, 0, .int 2, 0, 0, [], 43), (43, 52, .ref 5, 138, 2, [], 46), (46, 9, .null, 0, 0, [], 72), (49, 1, .null, 2, 0, [], 50), (50, 0, .int 1, 0, 0, [], 51), (51, 32, .null, 1, 58, [], 54), (54, 0, .int 1, 0, 0, [], 55),
  (55, 9, .null, 0, 0, [], 72), (58, 2, .null, 0, 0, [], 59), (59, 2, .null, 0, 0, [], 60), (60, 36, .null, 5, 0, [], 63), (63, 0, .int 10, 0, 0, [], 65), (65, 1, .null, 4, 0, [], 67), (67, 11, .null, 0, 0, [], 68), (68, 40, .null, 0, 0, [], 69),
  (69, 52, .ref 5, 153, 1, [], 72), (72, 11, .null, 0, 0, [], 73), (73, 4, .null, 3, 0, [], 74), (74, 6, .int 1, 4, 0, [], 77), (77, 9, .null, 0, 0, [], 5), (80, 1, .null, 3, 0, [], 81), (81, 49, .null, 0, 0, [], 81)]
def mtX5_sumOf : axM := (⟨"BeatSlugsModel", "sumOf", "(II)I"⟩, prog_7_method_23_code, 5, (some .int), 5, false, cdX5_sumOf)
abbrev kX5_sumOf : Nat := 169
set_option maxRecDepth 100000 in
theorem ckX5_sumOf : axCk 5 false 0 prog_7_method_23_code cdX5_sumOf = true := by decide +kernel
def cdX5_targetOf : List axE := [
  (0, 2, .null, 0, 0, [], 1), (1, 36, .null, 5, 0, [], 4), (4, 0, .int 4, 0, 0, [], 5), (5, 1, .null, 1, 0, [], 6), (6, 0, .int 6, 0, 0, [], 8), (8, 32, .null, 3, 15, [], 11), (11, 1, .null, 1, 0, [], 12), (12, 9, .null, 0, 0, [], 16),
  (15, 0, .int 5, 0, 0, [], 16), (16, 11, .null, 0, 0, [], 17), (17, 40, .null, 0, 0, [], 18), (18, 49, .null, 0, 0, [], 18)]
def mtX5_targetOf : axM := (⟨"BeatSlugsModel", "targetOf", "(I)I"⟩, prog_7_method_22_code, 2, (some .int), 5, false, cdX5_targetOf)
abbrev kX5_targetOf : Nat := 170
set_option maxRecDepth 100000 in
theorem ckX5_targetOf : axCk 5 false 0 prog_7_method_22_code cdX5_targetOf = true := by decide +kernel
def cdX5_of : List axE := [
  (0, 2, .null, 0, 0, [], 1), (1, 1, .null, 1, 0, [], 2), (2, 52, .ref 5, 143, 1, [], 5), (5, 33, .null, 1, 10, [], 8), (8, 0, .int (-1), 0, 0, [], 9), (9, 49, .null, 0, 0, [], 9), (10, 1, .null, 2, 0, [], 11), (11, 35, .null, 0, 147, [(0, 64), (1, 70), (2, 77), (3, 84), (4, 91), (5, 98), (6, 104), (7, 114), (8, 131), (9, 141)], 11),
  (64, 2, .null, 0, 0, [], 65), (65, 1, .null, 1, 0, [], 66), (66, 52, .ref 5, 144, 1, [], 69), (69, 49, .null, 0, 0, [], 69), (70, 2, .null, 0, 0, [], 71), (71, 1, .null, 1, 0, [], 72), (72, 0, .int 1, 0, 0, [], 73), (73, 52, .ref 5, 138, 2, [], 76),
  (76, 49, .null, 0, 0, [], 76), (77, 2, .null, 0, 0, [], 78), (78, 1, .null, 1, 0, [], 79), (79, 0, .int 2, 0, 0, [], 80), (80, 52, .ref 5, 138, 2, [], 83), (83, 49, .null, 0, 0, [], 83), (84, 2, .null, 0, 0, [], 85), (85, 1, .null, 1, 0, [], 86),
  (86, 0, .int 3, 0, 0, [], 87), (87, 52, .ref 5, 138, 2, [], 90), (90, 49, .null, 0, 0, [], 90), (91, 2, .null, 0, 0, [], 92), (92, 1, .null, 1, 0, [], 93), (93, 0, .int 4, 0, 0, [], 94), (94, 52, .ref 5, 138, 2, [], 97), (97, 49, .null, 0, 0, [], 97),
  (98, 2, .null, 0, 0, [], 99), (99, 1, .null, 1, 0, [], 100), (100, 52, .ref 5, 172, 1, [], 103), (103, 49, .null, 0, 0, [], 103), (104, 2, .null, 0, 0, [], 105), (105, 2, .null, 0, 0, [], 106), (106, 1, .null, 1, 0, [], 107), (107, 52, .ref 5, 144, 1, [], 110),
  (110, 52, .ref 5, 173, 1, [], 113), (113, 49, .null, 0, 0, [], 113), (114, 2, .null, 0, 0, [], 115), (115, 2, .null, 0, 0, [], 116), (116, 1, .null, 1, 0, [], 117), (117, 52, .ref 5, 144, 1, [], 120), (120, 52, .ref 5, 173, 1, [], 123), (123, 2, .null, 0, 0, [], 124),
  (124, 36, .null, 5, 0, [], 127), (127, 0, .int 1, 0, 0, [], 128), (128, 40, .null, 0, 0, [], 129), (129, 47, .null, 0, 0, [], 130), (130, 49, .null, 0, 0, [], 130), (131, 2, .null, 0, 0, [], 132), (132, 2, .null, 0, 0, [], 133), (133, 1, .null, 1, 0, [], 134),
  (134, 52, .ref 5, 144, 1, [], 137), (137, 52, .ref 5, 167, 1, [], 140), (140, 49, .null, 0, 0, [], 140), (141, 2, .null, 0, 0, [], 142), (142, 1, .null, 1, 0, [], 143), (143, 52, .ref 5, 153, 1, [], 146), (146, 49, .null, 0, 0, [], 146), (147, 0, .int (-2), 0, 0, [], 149),
  (149, 49, .null, 0, 0, [], 149)]
def mtX5_of : axM := (⟨"BeatSlugsModel", "of", "(II)I"⟩, prog_7_method_53_code, 3, (some .int), 5, false, cdX5_of)
abbrev kX5_of : Nat := 171
set_option maxRecDepth 100000 in
theorem ckX5_of : axCk 5 false 0 prog_7_method_53_code cdX5_of = true := by decide +kernel
def cdX5_neededBy : List axE := [
  (0, 0, .int 0, 0, 0, [], 1), (1, 4, .null, 2, 0, [], 2), (2, 0, .int 0, 0, 0, [], 3), (3, 4, .null, 3, 0, [], 4), (4, 1, .null, 3, 0, [], 5), (5, 0, .int 24, 0, 0, [], 7), (7, 32, .null, 3, 49, [], 10), (10, 1, .null, 2, 0, [], 11),
  (11, 2, .null, 0, 0, [], 12), (12, 1, .null, 3, 0, [], 13), (13, 0, .int 0, 0, 0, [], 14), (14, 52, .ref 5, 138, 2, [], 17), (17, 0, .int 1, 0, 0, [], 18), (18, 32, .null, 1, 40, [], 21), (21, 2, .null, 0, 0, [], 22), (22, 1, .null, 3, 0, [], 23),
  (23, 0, .int 4, 0, 0, [], 24), (24, 52, .ref 5, 138, 2, [], 27), (27, 1, .null, 1, 0, [], 28), (28, 53, .null, 149, 2, [], 31), (31, 33, .null, 0, 40, [], 34), (34, 0, .int 1, 0, 0, [], 35), (35, 1, .null, 3, 0, [], 36), (36, 17, .null, 0, 0, [], 37),
  (37, 9, .null, 0, 0, [], 41), (40, 0, .int 0, 0, 0, [], 41), (41, 15, .null, 0, 0, [], 42), (42, 4, .null, 2, 0, [], 43), (43, 6, .int 1, 3, 0, [], 46), (46, 9, .null, 0, 0, [], 4), (49, 1, .null, 2, 0, [], 50), (50, 49, .null, 0, 0, [], 50)]
def mtX5_neededBy : axM := (⟨"BeatSlugsModel", "neededBy", "(I)I"⟩, prog_7_method_52_code, 4, (some .int), 5, false, cdX5_neededBy)
abbrev kX5_neededBy : Nat := 172
set_option maxRecDepth 100000 in
theorem ckX5_neededBy : axCk 5 false 0 prog_7_method_52_code cdX5_neededBy = true := by decide +kernel
def cdX5_begin : List axE := [
  (0, 0, .int 0, 0, 0, [], 1), (1, 4, .null, 2, 0, [], 2), (2, 0, .int 0, 0, 0, [], 3), (3, 4, .null, 3, 0, [], 4), (4, 1, .null, 3, 0, [], 5), (5, 1, .null, 1, 0, [], 6), (6, 32, .null, 3, 32, [], 9), (9, 1, .null, 2, 0, [], 10),
  (10, 2, .null, 0, 0, [], 11), (11, 2, .null, 0, 0, [], 12), (12, 36, .null, 5, 0, [], 15), (15, 0, .int 10, 0, 0, [], 17), (17, 1, .null, 3, 0, [], 18), (18, 11, .null, 0, 0, [], 19), (19, 40, .null, 0, 0, [], 20), (20, 0, .int 2, 0, 0, [], 21),
  (21, 52, .ref 5, 138, 2, [], 24), (24, 11, .null, 0, 0, [], 25), (25, 4, .null, 2, 0, [], 26), (26, 6, .int 1, 3, 0, [], 29), (29, 9, .null, 0, 0, [], 4), (32, 1, .null, 2, 0, [], 33), (33, 49, .null, 0, 0, [], 33)]
def mtX5_begin : axM := (⟨"BeatSlugsModel", "begin", "(I)I"⟩, prog_7_method_15_code, 4, (some .int), 5, false, cdX5_begin)
abbrev kX5_begin : Nat := 173
set_option maxRecDepth 100000 in
theorem ckX5_begin : axCk 5 false 0 prog_7_method_15_code cdX5_begin = true := by decide +kernel
def cdX5_at : List axE := [
  (0, 1, .null, 1, 0, [], 1), (1, 0, .int 0, 0, 0, [], 2), (2, 2, .null, 0, 0, [], 3), (3, 36, .null, 5, 0, [], 6), (6, 0, .int 0, 0, 0, [], 7), (7, 40, .null, 0, 0, [], 8), (8, 0, .int 1, 0, 0, [], 9), (9, 12, .null, 0, 0, [], 10),
  (10, 53, .null, 129, 3, [], 13), (13, 33, .null, 0, 28, [], 16), (16, 2, .null, 0, 0, [], 17), (17, 36, .null, 5, 0, [], 20), (20, 0, .int 10, 0, 0, [], 22), (22, 1, .null, 1, 0, [], 23), (23, 11, .null, 0, 0, [], 24), (24, 40, .null, 0, 0, [], 25),
  (25, 9, .null, 0, 0, [], 29), (28, 0, .int (-1), 0, 0, [], 29), (29, 49, .null, 0, 0, [], 29)]
def mtX5_at : axM := (⟨"BeatSlugsModel", "at", "(I)I"⟩, prog_7_method_54_code, 2, (some .int), 5, false, cdX5_at)
abbrev kX5_at : Nat := 174
set_option maxRecDepth 100000 in
theorem ckX5_at : axCk 5 false 0 prog_7_method_54_code cdX5_at = true := by decide +kernel
def cdX5_atBeat : List axE := [
  (0, 1, .null, 1, 0, [], 1), (1, 33, .null, 3, 7, [], 4), (4, 0, .int (-2), 0, 0, [], 6), (6, 49, .null, 0, 0, [], 6), (7, 0, .int 0, 0, 0, [], 8), (8, 4, .null, 2, 0, [], 9), (9, 1, .null, 2, 0, [], 10), (10, 2, .null, 0, 0, [], 11),
  (11, 36, .null, 5, 0, [], 14), (14, 0, .int 0, 0, 0, [], 15), (15, 40, .null, 0, 0, [], 16), (16, 32, .null, 3, 36, [], 19), (19, 2, .null, 0, 0, [], 20), (20, 1, .null, 2, 0, [], 21), (21, 0, .int 1, 0, 0, [], 22), (22, 11, .null, 0, 0, [], 23),
  (23, 52, .ref 5, 173, 1, [], 26), (26, 1, .null, 1, 0, [], 27), (27, 32, .null, 4, 36, [], 30), (30, 6, .int 1, 2, 0, [], 33), (33, 9, .null, 0, 0, [], 9), (36, 1, .null, 2, 0, [], 37), (37, 2, .null, 0, 0, [], 38), (38, 36, .null, 5, 0, [], 41),
  (41, 0, .int 0, 0, 0, [], 42), (42, 40, .null, 0, 0, [], 43), (43, 32, .null, 3, 58, [], 46), (46, 2, .null, 0, 0, [], 47), (47, 36, .null, 5, 0, [], 50), (50, 0, .int 10, 0, 0, [], 52), (52, 1, .null, 2, 0, [], 53), (53, 11, .null, 0, 0, [], 54),
  (54, 40, .null, 0, 0, [], 55), (55, 9, .null, 0, 0, [], 60), (58, 0, .int (-6), 0, 0, [], 60), (60, 49, .null, 0, 0, [], 60)]
def mtX5_atBeat : axM := (⟨"BeatSlugsModel", "atBeat", "(I)I"⟩, prog_7_method_55_code, 3, (some .int), 5, false, cdX5_atBeat)
abbrev kX5_atBeat : Nat := 175
set_option maxRecDepth 100000 in
theorem ckX5_atBeat : axCk 5 false 0 prog_7_method_55_code cdX5_atBeat = true := by decide +kernel
def cdX5_ofAct : List axE := [
  (0, 1, .null, 1, 0, [], 1), (1, 0, .int 0, 0, 0, [], 2), (2, 2, .null, 0, 0, [], 3), (3, 52, .ref 5, 166, 0, [], 6), (6, 0, .int 1, 0, 0, [], 7), (7, 12, .null, 0, 0, [], 8), (8, 53, .null, 129, 3, [], 11), (11, 33, .null, 1, 16, [], 14),
  (14, 0, .int (-1), 0, 0, [], 15), (15, 49, .null, 0, 0, [], 15), (16, 1, .null, 2, 0, [], 17), (17, 35, .null, 0, 135, [(0, 64), (1, 71), (2, 77), (3, 87), (4, 101), (5, 115), (6, 122), (7, 128)], 17), (64, 2, .null, 0, 0, [], 65), (65, 1, .null, 1, 0, [], 66), (66, 0, .int 0, 0, 0, [], 67), (67, 52, .ref 5, 169, 2, [], 70),
  (70, 49, .null, 0, 0, [], 70), (71, 2, .null, 0, 0, [], 72), (72, 1, .null, 1, 0, [], 73), (73, 52, .ref 5, 170, 1, [], 76), (76, 49, .null, 0, 0, [], 76), (77, 2, .null, 0, 0, [], 78), (78, 1, .null, 1, 0, [], 79), (79, 52, .ref 5, 168, 1, [], 82),
  (82, 0, .int 5000, 0, 0, [], 85), (85, 11, .null, 0, 0, [], 86), (86, 49, .null, 0, 0, [], 86), (87, 2, .null, 0, 0, [], 88), (88, 1, .null, 1, 0, [], 89), (89, 52, .ref 5, 177, 1, [], 92), (92, 33, .null, 0, 99, [], 95), (95, 0, .int 1, 0, 0, [], 96),
  (96, 9, .null, 0, 0, [], 100), (99, 0, .int 0, 0, 0, [], 100), (100, 49, .null, 0, 0, [], 100), (101, 2, .null, 0, 0, [], 102), (102, 1, .null, 1, 0, [], 103), (103, 52, .ref 5, 178, 1, [], 106), (106, 33, .null, 0, 113, [], 109), (109, 0, .int 1, 0, 0, [], 110),
  (110, 9, .null, 0, 0, [], 114), (113, 0, .int 0, 0, 0, [], 114), (114, 49, .null, 0, 0, [], 114), (115, 2, .null, 0, 0, [], 116), (116, 1, .null, 1, 0, [], 117), (117, 0, .int 1, 0, 0, [], 118), (118, 52, .ref 5, 169, 2, [], 121), (121, 49, .null, 0, 0, [], 121),
  (122, 2, .null, 0, 0, [], 123), (123, 1, .null, 1, 0, [], 124), (124, 52, .ref 5, 179, 1, [], 127), (127, 49, .null, 0, 0, [], 127), (128, 2, .null, 0, 0, [], 129), (129, 1, .null, 1, 0, [], 130), (130, 0, .int 2, 0, 0, [], 131), (131, 52, .ref 5, 169, 2, [], 134),
  (134, 49, .null, 0, 0, [], 134), (135, 0, .int (-2), 0, 0, [], 137), (137, 49, .null, 0, 0, [], 137)]
def mtX5_ofAct : axM := (⟨"BeatSlugsModel", "ofAct", "(II)I"⟩, prog_7_method_56_code, 3, (some .int), 5, false, cdX5_ofAct)
abbrev kX5_ofAct : Nat := 176
set_option maxRecDepth 100000 in
theorem ckX5_ofAct : axCk 5 false 0 prog_7_method_56_code cdX5_ofAct = true := by decide +kernel
def cdX5_fits : List axE := [
  (0, 2, .null, 0, 0, [], 1), (1, 1, .null, 1, 0, [], 2), (2, 52, .ref 5, 168, 1, [], 5), (5, 53, .null, 161, 1, [], 8), (8, 2, .null, 0, 0, [], 9), (9, 36, .null, 5, 0, [], 12), (12, 0, .int 2, 0, 0, [], 13), (13, 40, .null, 0, 0, [], 14),
  (14, 32, .null, 4, 29, [], 17), (17, 2, .null, 0, 0, [], 18), (18, 1, .null, 1, 0, [], 19), (19, 52, .ref 5, 178, 1, [], 22), (22, 33, .null, 1, 29, [], 25), (25, 0, .int 1, 0, 0, [], 26), (26, 9, .null, 0, 0, [], 30), (29, 0, .int 0, 0, 0, [], 30),
  (30, 49, .null, 2, 0, [], 30)]
def mtX5_fits : axM := (⟨"BeatSlugsModel", "fits", "(I)Z"⟩, prog_7_method_27_code, 2, (some .boolean), 5, false, cdX5_fits)
abbrev kX5_fits : Nat := 177
set_option maxRecDepth 100000 in
theorem ckX5_fits : axCk 5 false 2 prog_7_method_27_code cdX5_fits = true := by decide +kernel
def cdX5_isOpen : List axE := [
  (0, 2, .null, 0, 0, [], 1), (1, 2, .null, 0, 0, [], 2), (2, 36, .null, 5, 0, [], 5), (5, 0, .int 0, 0, 0, [], 6), (6, 40, .null, 0, 0, [], 7), (7, 52, .ref 5, 167, 1, [], 10), (10, 1, .null, 1, 0, [], 11), (11, 32, .null, 1, 18, [], 14),
  (14, 0, .int 1, 0, 0, [], 15), (15, 9, .null, 0, 0, [], 19), (18, 0, .int 0, 0, 0, [], 19), (19, 49, .null, 2, 0, [], 19)]
def mtX5_isOpen : axM := (⟨"BeatSlugsModel", "isOpen", "(I)Z"⟩, prog_7_method_21_code, 2, (some .boolean), 5, false, cdX5_isOpen)
abbrev kX5_isOpen : Nat := 178
set_option maxRecDepth 100000 in
theorem ckX5_isOpen : axCk 5 false 2 prog_7_method_21_code cdX5_isOpen = true := by decide +kernel
def cdX5_beginOfAct : List axE := [
  (0, 0, .int 0, 0, 0, [], 1), (1, 4, .null, 2, 0, [], 2), (2, 2, .null, 0, 0, [], 3), (3, 1, .null, 2, 0, [], 4), (4, 52, .ref 5, 167, 1, [], 7), (7, 1, .null, 1, 0, [], 8), (8, 32, .null, 3, 17, [], 11), (11, 6, .int 1, 2, 0, [], 14),
  (14, 9, .null, 0, 0, [], 2), (17, 2, .null, 0, 0, [], 18), (18, 1, .null, 2, 0, [], 19), (19, 52, .ref 5, 173, 1, [], 22), (22, 49, .null, 0, 0, [], 22)]
def mtX5_beginOfAct : axM := (⟨"BeatSlugsModel", "beginOfAct", "(I)I"⟩, prog_7_method_24_code, 3, (some .int), 5, false, cdX5_beginOfAct)
abbrev kX5_beginOfAct : Nat := 179
set_option maxRecDepth 100000 in
theorem ckX5_beginOfAct : axCk 5 false 0 prog_7_method_24_code cdX5_beginOfAct = true := by decide +kernel
def cdX5_count : List axE := [
  (0, 1, .null, 1, 0, [], 1), (1, 35, .null, 0, 149, [(0, 64), (1, 69), (2, 74), (3, 85), (4, 112), (5, 117), (6, 122), (7, 127), (8, 127), (9, 127), (10, 139), (11, 144)], 1), (64, 2, .null, 0, 0, [], 65), (65, 52, .ref 5, 181, 0, [], 68), (68, 49, .null, 0, 0, [], 68), (69, 2, .null, 0, 0, [], 70), (70, 52, .ref 5, 166, 0, [], 73), (73, 49, .null, 0, 0, [], 73),
  (74, 2, .null, 0, 0, [], 75), (75, 2, .null, 0, 0, [], 76), (76, 36, .null, 5, 0, [], 79), (79, 0, .int 0, 0, 0, [], 80), (80, 40, .null, 0, 0, [], 81), (81, 52, .ref 5, 173, 1, [], 84), (84, 49, .null, 0, 0, [], 84), (85, 2, .null, 0, 0, [], 86),
  (86, 2, .null, 0, 0, [], 87), (87, 36, .null, 5, 0, [], 90), (90, 0, .int 0, 0, 0, [], 91), (91, 40, .null, 0, 0, [], 92), (92, 52, .ref 5, 173, 1, [], 95), (95, 2, .null, 0, 0, [], 96), (96, 36, .null, 5, 0, [], 99), (99, 0, .int 1, 0, 0, [], 100),
  (100, 40, .null, 0, 0, [], 101), (101, 11, .null, 0, 0, [], 102), (102, 0, .int 1, 0, 0, [], 103), (103, 12, .null, 0, 0, [], 104), (104, 2, .null, 0, 0, [], 105), (105, 36, .null, 5, 0, [], 108), (108, 0, .int 1, 0, 0, [], 109), (109, 40, .null, 0, 0, [], 110),
  (110, 47, .null, 0, 0, [], 111), (111, 49, .null, 0, 0, [], 111), (112, 2, .null, 0, 0, [], 113), (113, 52, .ref 5, 182, 0, [], 116), (116, 49, .null, 0, 0, [], 116), (117, 2, .null, 0, 0, [], 118), (118, 52, .ref 5, 183, 0, [], 121), (121, 49, .null, 0, 0, [], 121),
  (122, 2, .null, 0, 0, [], 123), (123, 52, .ref 5, 184, 0, [], 126), (126, 49, .null, 0, 0, [], 126), (127, 2, .null, 0, 0, [], 128), (128, 36, .null, 5, 0, [], 131), (131, 0, .int 1, 0, 0, [], 132), (132, 1, .null, 1, 0, [], 133), (133, 11, .null, 0, 0, [], 134),
  (134, 0, .int 7, 0, 0, [], 136), (136, 12, .null, 0, 0, [], 137), (137, 40, .null, 0, 0, [], 138), (138, 49, .null, 0, 0, [], 138), (139, 2, .null, 0, 0, [], 140), (140, 36, .null, 5, 7, [], 143), (143, 49, .null, 0, 0, [], 143), (144, 2, .null, 0, 0, [], 145),
  (145, 36, .null, 5, 2, [], 148), (148, 49, .null, 0, 0, [], 148), (149, 0, .int (-2), 0, 0, [], 151), (151, 49, .null, 0, 0, [], 151)]
def mtX5_count : axM := (⟨"BeatSlugsModel", "count", "(I)I"⟩, prog_7_method_59_code, 2, (some .int), 5, false, cdX5_count)
abbrev kX5_count : Nat := 180
set_option maxRecDepth 100000 in
theorem ckX5_count : axCk 5 false 0 prog_7_method_59_code cdX5_count = true := by decide +kernel
def cdX5_slugs : List axE := [
  (0, 0, .int 0, 0, 0, [], 1), (1, 4, .null, 1, 0, [], 2), (2, 0, .int 0, 0, 0, [], 3), (3, 4, .null, 2, 0, [], 4), (4, 1, .null, 2, 0, [], 5), (5, 2, .null, 0, 0, [], 6), (6, 36, .null, 5, 0, [], 9), (9, 0, .int 0, 0, 0, [], 10),
  (10, 40, .null, 0, 0, [], 11), (11, 32, .null, 3, 34, [], 14), (14, 1, .null, 1, 0, [], 15), (15, 0, .int 1, 0, 0, [], 16), (16, 2, .null, 0, 0, [], 17), (17, 36, .null, 5, 0, [], 20), (20, 0, .int 10, 0, 0, [], 22), (22, 1, .null, 2, 0, [], 23),
  (23, 11, .null, 0, 0, [], 24), (24, 40, .null, 0, 0, [], 25), (25, 17, .null, 0, 0, [], 26), (26, 15, .null, 0, 0, [], 27), (27, 4, .null, 1, 0, [], 28), (28, 6, .int 1, 2, 0, [], 31), (31, 9, .null, 0, 0, [], 4), (34, 1, .null, 1, 0, [], 35),
  (35, 49, .null, 0, 0, [], 35)]
def mtX5_slugs : axM := (⟨"BeatSlugsModel", "slugs", "()I"⟩, prog_7_method_57_code, 3, (some .int), 5, false, cdX5_slugs)
abbrev kX5_slugs : Nat := 181
set_option maxRecDepth 100000 in
theorem ckX5_slugs : axCk 5 false 0 prog_7_method_57_code cdX5_slugs = true := by decide +kernel
def cdX5_allOff : List axE := [
  (0, 0, .int 0, 0, 0, [], 1), (1, 4, .null, 1, 0, [], 2), (2, 0, .int 0, 0, 0, [], 3), (3, 4, .null, 2, 0, [], 4), (4, 1, .null, 2, 0, [], 5), (5, 2, .null, 0, 0, [], 6), (6, 52, .ref 5, 166, 0, [], 9), (9, 32, .null, 3, 29, [], 12),
  (12, 1, .null, 1, 0, [], 13), (13, 2, .null, 0, 0, [], 14), (14, 1, .null, 2, 0, [], 15), (15, 52, .ref 5, 168, 1, [], 18), (18, 53, .null, 161, 1, [], 21), (21, 11, .null, 0, 0, [], 22), (22, 4, .null, 1, 0, [], 23), (23, 6, .int 1, 2, 0, [], 26),
  (26, 9, .null, 0, 0, [], 4), (29, 1, .null, 1, 0, [], 30), (30, 49, .null, 0, 0, [], 30)]
def mtX5_allOff : axM := (⟨"BeatSlugsModel", "allOff", "()I"⟩, prog_7_method_28_code, 3, (some .int), 5, false, cdX5_allOff)
abbrev kX5_allOff : Nat := 182
set_option maxRecDepth 100000 in
theorem ckX5_allOff : axCk 5 false 0 prog_7_method_28_code cdX5_allOff = true := by decide +kernel
def cdX5_fitting : List axE := [
  (0, 0, .int 0, 0, 0, [], 1), (1, 4, .null, 1, 0, [], 2), (2, 0, .int 0, 0, 0, [], 3), (3, 4, .null, 2, 0, [], 4), (4, 1, .null, 2, 0, [], 5), (5, 2, .null, 0, 0, [], 6), (6, 52, .ref 5, 166, 0, [], 9), (9, 32, .null, 3, 34, [], 12),
  (12, 1, .null, 1, 0, [], 13), (13, 2, .null, 0, 0, [], 14), (14, 1, .null, 2, 0, [], 15), (15, 52, .ref 5, 177, 1, [], 18), (18, 33, .null, 0, 25, [], 21), (21, 0, .int 1, 0, 0, [], 22), (22, 9, .null, 0, 0, [], 26), (25, 0, .int 0, 0, 0, [], 26),
  (26, 11, .null, 0, 0, [], 27), (27, 4, .null, 1, 0, [], 28), (28, 6, .int 1, 2, 0, [], 31), (31, 9, .null, 0, 0, [], 4), (34, 1, .null, 1, 0, [], 35), (35, 49, .null, 0, 0, [], 35)]
def mtX5_fitting : axM := (⟨"BeatSlugsModel", "fitting", "()I"⟩, prog_7_method_29_code, 3, (some .int), 5, false, cdX5_fitting)
abbrev kX5_fitting : Nat := 183
set_option maxRecDepth 100000 in
theorem ckX5_fitting : axCk 5 false 0 prog_7_method_29_code cdX5_fitting = true := by decide +kernel
def cdX5_longest : List axE := [
  (0, 0, .int (-6), 0, 0, [], 2), (2, 4, .null, 1, 0, [], 3), (3, 0, .int 0, 0, 0, [], 4), (4, 4, .null, 2, 0, [], 5), (5, 1, .null, 2, 0, [], 6), (6, 2, .null, 0, 0, [], 7), (7, 36, .null, 5, 0, [], 10), (10, 0, .int 0, 0, 0, [], 11),
  (11, 40, .null, 0, 0, [], 12), (12, 32, .null, 3, 64, [], 15), (15, 1, .null, 1, 0, [], 16), (16, 0, .int (-6), 0, 0, [], 18), (18, 32, .null, 0, 44, [], 21), (21, 2, .null, 0, 0, [], 22), (22, 2, .null, 0, 0, [], 23), (23, 36, .null, 5, 0, [], 26),
  (26, 0, .int 10, 0, 0, [], 28), (28, 1, .null, 2, 0, [], 29), (29, 11, .null, 0, 0, [], 30), (30, 40, .null, 0, 0, [], 31), (31, 0, .int 2, 0, 0, [], 32), (32, 52, .ref 5, 138, 2, [], 35), (35, 2, .null, 0, 0, [], 36), (36, 1, .null, 1, 0, [], 37),
  (37, 0, .int 2, 0, 0, [], 38), (38, 52, .ref 5, 138, 2, [], 41), (41, 32, .null, 5, 56, [], 44), (44, 2, .null, 0, 0, [], 45), (45, 36, .null, 5, 0, [], 48), (48, 0, .int 10, 0, 0, [], 50), (50, 1, .null, 2, 0, [], 51), (51, 11, .null, 0, 0, [], 52),
  (52, 40, .null, 0, 0, [], 53), (53, 9, .null, 0, 0, [], 57), (56, 1, .null, 1, 0, [], 57), (57, 4, .null, 1, 0, [], 58), (58, 6, .int 1, 2, 0, [], 61), (61, 9, .null, 0, 0, [], 5), (64, 1, .null, 1, 0, [], 65), (65, 49, .null, 0, 0, [], 65)]
def mtX5_longest : axM := (⟨"BeatSlugsModel", "longest", "()I"⟩, prog_7_method_58_code, 3, (some .int), 5, false, cdX5_longest)
abbrev kX5_longest : Nat := 184
set_option maxRecDepth 100000 in
theorem ckX5_longest : axCk 5 false 0 prog_7_method_58_code cdX5_longest = true := by decide +kernel
def cdX5_places : List axE := [
  (0, 2, .null, 0, 0, [], 1), (1, 1, .null, 1, 0, [], 2), (2, 52, .ref 5, 143, 1, [], 5), (5, 33, .null, 1, 10, [], 8), (8, 0, .int (-1), 0, 0, [], 9), (9, 49, .null, 0, 0, [], 9), (10, 0, .int 0, 0, 0, [], 11), (11, 4, .null, 2, 0, [], 12),
  (12, 2, .null, 0, 0, [], 13), (13, 36, .null, 5, 0, [], 16), (16, 0, .int 0, 0, 0, [], 17), (17, 2, .null, 0, 0, [], 18), (18, 36, .null, 5, 5, [], 21), (21, 0, .int 0, 0, 0, [], 22), (22, 53, .null, 132, 4, [], 25), (25, 0, .int 0, 0, 0, [], 26),
  (26, 4, .null, 3, 0, [], 27), (27, 1, .null, 3, 0, [], 28), (28, 2, .null, 0, 0, [], 29), (29, 36, .null, 5, 0, [], 32), (32, 0, .int 0, 0, 0, [], 33), (33, 40, .null, 0, 0, [], 34), (34, 32, .null, 3, 75, [], 37), (37, 1, .null, 2, 0, [], 38),
  (38, 2, .null, 0, 0, [], 39), (39, 1, .null, 1, 0, [], 40), (40, 1, .null, 3, 0, [], 41), (41, 52, .ref 5, 157, 2, [], 44), (44, 33, .null, 2, 53, [], 47), (47, 0, .int 1, 0, 0, [], 48), (48, 1, .null, 3, 0, [], 49), (49, 17, .null, 0, 0, [], 50),
  (50, 9, .null, 0, 0, [], 54), (53, 0, .int 0, 0, 0, [], 54), (54, 15, .null, 0, 0, [], 55), (55, 4, .null, 2, 0, [], 56), (56, 2, .null, 0, 0, [], 57), (57, 36, .null, 5, 5, [], 60), (60, 0, .int 0, 0, 0, [], 61), (61, 2, .null, 0, 0, [], 62),
  (62, 36, .null, 5, 0, [], 65), (65, 0, .int 0, 0, 0, [], 66), (66, 53, .null, 132, 4, [], 69), (69, 6, .int 1, 3, 0, [], 72), (72, 9, .null, 0, 0, [], 27), (75, 1, .null, 2, 0, [], 76), (76, 49, .null, 0, 0, [], 76)]
def mtX5_places : axM := (⟨"BeatSlugsModel", "places", "(I)I"⟩, prog_7_method_60_code, 4, (some .int), 5, false, cdX5_places)
abbrev kX5_places : Nat := 185
set_option maxRecDepth 100000 in
theorem ckX5_places : axCk 5 false 0 prog_7_method_60_code cdX5_places = true := by decide +kernel
def cdX5_bestSwap : List axE := [
  (0, 1, .null, 1, 0, [], 1), (1, 0, .int 0, 0, 0, [], 2), (2, 0, .int 2, 0, 0, [], 3), (3, 53, .null, 129, 3, [], 6), (6, 33, .null, 1, 12, [], 9), (9, 0, .int (-2), 0, 0, [], 11), (11, 49, .null, 0, 0, [], 11), (12, 2, .null, 0, 0, [], 13),
  (13, 52, .ref 5, 182, 0, [], 16), (16, 4, .null, 2, 0, [], 17), (17, 0, .int (-6), 0, 0, [], 19), (19, 4, .null, 3, 0, [], 20), (20, 2, .null, 0, 0, [], 21), (21, 36, .null, 5, 0, [], 24), (24, 0, .int 0, 0, 0, [], 25), (25, 2, .null, 0, 0, [], 26),
  (26, 36, .null, 5, 5, [], 29), (29, 0, .int 0, 0, 0, [], 30), (30, 53, .null, 132, 4, [], 33), (33, 0, .int 0, 0, 0, [], 34), (34, 4, .null, 4, 0, [], 36), (36, 1, .null, 4, 0, [], 38), (38, 0, .int 576, 0, 0, [], 41), (41, 32, .null, 3, 171, [], 44),
  (44, 1, .null, 4, 0, [], 46), (46, 0, .int 24, 0, 0, [], 48), (48, 47, .null, 0, 0, [], 49), (49, 4, .null, 5, 0, [], 51), (51, 1, .null, 4, 0, [], 53), (53, 0, .int 24, 0, 0, [], 55), (55, 48, .null, 0, 0, [], 56), (56, 4, .null, 6, 0, [], 58),
  (58, 1, .null, 5, 0, [], 60), (60, 1, .null, 6, 0, [], 62), (62, 32, .null, 3, 165, [], 65), (65, 1, .null, 6, 0, [], 67), (67, 2, .null, 0, 0, [], 68), (68, 36, .null, 5, 0, [], 71), (71, 0, .int 0, 0, 0, [], 72), (72, 40, .null, 0, 0, [], 73),
  (73, 32, .null, 3, 165, [], 76), (76, 2, .null, 0, 0, [], 77), (77, 2, .null, 0, 0, [], 78), (78, 36, .null, 5, 0, [], 81), (81, 0, .int 10, 0, 0, [], 83), (83, 1, .null, 5, 0, [], 85), (85, 11, .null, 0, 0, [], 86), (86, 40, .null, 0, 0, [], 87),
  (87, 2, .null, 0, 0, [], 88), (88, 36, .null, 5, 0, [], 91), (91, 0, .int 10, 0, 0, [], 93), (93, 1, .null, 6, 0, [], 95), (95, 11, .null, 0, 0, [], 96), (96, 40, .null, 0, 0, [], 97), (97, 52, .ref 5, 160, 2, [], 100), (100, 33, .null, 2, 107, [], 103),
  (103, 0, .int 1, 0, 0, [], 104), (104, 9, .null, 0, 0, [], 108), (107, 0, .int 0, 0, 0, [], 108), (108, 4, .null, 7, 0, [], 110), (110, 2, .null, 0, 0, [], 111), (111, 52, .ref 5, 182, 0, [], 114), (114, 4, .null, 8, 0, [], 116), (116, 1, .null, 7, 0, [], 118),
  (118, 33, .null, 0, 132, [], 121), (121, 1, .null, 8, 0, [], 123), (123, 1, .null, 2, 0, [], 124), (124, 32, .null, 3, 132, [], 127), (127, 1, .null, 4, 0, [], 129), (129, 9, .null, 0, 0, [], 133), (132, 1, .null, 3, 0, [], 133), (133, 4, .null, 3, 0, [], 134),
  (134, 1, .null, 7, 0, [], 136), (136, 33, .null, 0, 150, [], 139), (139, 1, .null, 8, 0, [], 141), (141, 1, .null, 2, 0, [], 142), (142, 32, .null, 3, 150, [], 145), (145, 1, .null, 8, 0, [], 147), (147, 9, .null, 0, 0, [], 151), (150, 1, .null, 2, 0, [], 151),
  (151, 4, .null, 2, 0, [], 152), (152, 2, .null, 0, 0, [], 153), (153, 36, .null, 5, 5, [], 156), (156, 0, .int 0, 0, 0, [], 157), (157, 2, .null, 0, 0, [], 158), (158, 36, .null, 5, 0, [], 161), (161, 0, .int 0, 0, 0, [], 162), (162, 53, .null, 132, 4, [], 165),
  (165, 6, .int 1, 4, 0, [], 168), (168, 9, .null, 0, 0, [], 36), (171, 1, .null, 3, 0, [], 172), (172, 0, .int (-6), 0, 0, [], 174), (174, 32, .null, 1, 182, [], 177), (177, 0, .int (-6), 0, 0, [], 179), (179, 9, .null, 0, 0, [], 222), (182, 1, .null, 1, 0, [], 183),
  (183, 33, .null, 1, 201, [], 186), (186, 2, .null, 0, 0, [], 187), (187, 36, .null, 5, 0, [], 190), (190, 0, .int 10, 0, 0, [], 192), (192, 1, .null, 3, 0, [], 193), (193, 0, .int 24, 0, 0, [], 195), (195, 47, .null, 0, 0, [], 196), (196, 11, .null, 0, 0, [], 197),
  (197, 40, .null, 0, 0, [], 198), (198, 9, .null, 0, 0, [], 222), (201, 1, .null, 1, 0, [], 202), (202, 0, .int 1, 0, 0, [], 203), (203, 32, .null, 1, 221, [], 206), (206, 2, .null, 0, 0, [], 207), (207, 36, .null, 5, 0, [], 210), (210, 0, .int 10, 0, 0, [], 212),
  (212, 1, .null, 3, 0, [], 213), (213, 0, .int 24, 0, 0, [], 215), (215, 48, .null, 0, 0, [], 216), (216, 11, .null, 0, 0, [], 217), (217, 40, .null, 0, 0, [], 218), (218, 9, .null, 0, 0, [], 222), (221, 1, .null, 2, 0, [], 222), (222, 49, .null, 0, 0, [], 222)]
def mtX5_bestSwap : axM := (⟨"BeatSlugsModel", "bestSwap", "(I)I"⟩, prog_7_method_61_code, 9, (some .int), 5, false, cdX5_bestSwap)
abbrev kX5_bestSwap : Nat := 186
set_option maxRecDepth 100000 in
theorem ckX5_bestSwap : axCk 5 false 0 prog_7_method_61_code cdX5_bestSwap = true := by decide +kernel
def cdX5_ifFitted : List axE := [
  (0, 2, .null, 0, 0, [], 1), (1, 36, .null, 5, 0, [], 4), (4, 0, .int 0, 0, 0, [], 5), (5, 2, .null, 0, 0, [], 6), (6, 36, .null, 5, 5, [], 9), (9, 0, .int 0, 0, 0, [], 10), (10, 53, .null, 132, 4, [], 13), (13, 2, .null, 0, 0, [], 14),
  (14, 1, .null, 1, 0, [], 15), (15, 52, .ref 5, 165, 1, [], 18), (18, 4, .null, 2, 0, [], 19), (19, 2, .null, 0, 0, [], 20), (20, 36, .null, 5, 5, [], 23), (23, 0, .int 0, 0, 0, [], 24), (24, 2, .null, 0, 0, [], 25), (25, 36, .null, 5, 0, [], 28),
  (28, 0, .int 0, 0, 0, [], 29), (29, 53, .null, 132, 4, [], 32), (32, 1, .null, 2, 0, [], 33), (33, 49, .null, 0, 0, [], 33)]
def mtX5_ifFitted : axM := (⟨"BeatSlugsModel", "ifFitted", "(I)I"⟩, prog_7_method_62_code, 3, (some .int), 5, false, cdX5_ifFitted)
abbrev kX5_ifFitted : Nat := 187
set_option maxRecDepth 100000 in
theorem ckX5_ifFitted : axCk 5 false 0 prog_7_method_62_code cdX5_ifFitted = true := by decide +kernel
def cdX5_ifTurned : List axE := [
  (0, 2, .null, 0, 0, [], 1), (1, 1, .null, 1, 0, [], 2), (2, 52, .ref 5, 143, 1, [], 5), (5, 33, .null, 1, 10, [], 8), (8, 0, .int (-1), 0, 0, [], 9), (9, 49, .null, 0, 0, [], 9), (10, 2, .null, 0, 0, [], 11), (11, 1, .null, 1, 0, [], 12),
  (12, 0, .int 3, 0, 0, [], 13), (13, 0, .int 1, 0, 0, [], 14), (14, 2, .null, 0, 0, [], 15), (15, 1, .null, 1, 0, [], 16), (16, 0, .int 3, 0, 0, [], 17), (17, 52, .ref 5, 138, 2, [], 20), (20, 12, .null, 0, 0, [], 21), (21, 52, .ref 5, 139, 3, [], 24),
  (24, 2, .null, 0, 0, [], 25), (25, 52, .ref 5, 182, 0, [], 28), (28, 4, .null, 2, 0, [], 29), (29, 2, .null, 0, 0, [], 30), (30, 1, .null, 1, 0, [], 31), (31, 0, .int 3, 0, 0, [], 32), (32, 0, .int 1, 0, 0, [], 33), (33, 2, .null, 0, 0, [], 34),
  (34, 1, .null, 1, 0, [], 35), (35, 0, .int 3, 0, 0, [], 36), (36, 52, .ref 5, 138, 2, [], 39), (39, 12, .null, 0, 0, [], 40), (40, 52, .ref 5, 139, 3, [], 43), (43, 1, .null, 2, 0, [], 44), (44, 49, .null, 0, 0, [], 44)]
def mtX5_ifTurned : axM := (⟨"BeatSlugsModel", "ifTurned", "(I)I"⟩, prog_7_method_63_code, 3, (some .int), 5, false, cdX5_ifTurned)
abbrev kX5_ifTurned : Nat := 188
set_option maxRecDepth 100000 in
theorem ckX5_ifTurned : axCk 5 false 0 prog_7_method_63_code cdX5_ifTurned = true := by decide +kernel
def cdX5_needs : List axE := [
  (0, 2, .null, 0, 0, [], 1), (1, 1, .null, 1, 0, [], 2), (2, 52, .ref 5, 143, 1, [], 5), (5, 33, .null, 1, 10, [], 8), (8, 0, .int (-1), 0, 0, [], 9), (9, 49, .null, 0, 0, [], 9), (10, 2, .null, 0, 0, [], 11), (11, 1, .null, 1, 0, [], 12),
  (12, 0, .int 4, 0, 0, [], 13), (13, 52, .ref 5, 138, 2, [], 16), (16, 4, .null, 2, 0, [], 17), (17, 2, .null, 0, 0, [], 18), (18, 36, .null, 5, 0, [], 21), (21, 0, .int 0, 0, 0, [], 22), (22, 40, .null, 0, 0, [], 23), (23, 0, .int 1, 0, 0, [], 24),
  (24, 12, .null, 0, 0, [], 25), (25, 4, .null, 3, 0, [], 26), (26, 1, .null, 3, 0, [], 27), (27, 33, .null, 2, 73, [], 30), (30, 1, .null, 2, 0, [], 31), (31, 1, .null, 2, 0, [], 32), (32, 2, .null, 0, 0, [], 33), (33, 36, .null, 5, 0, [], 36),
  (36, 0, .int 10, 0, 0, [], 38), (38, 1, .null, 3, 0, [], 39), (39, 11, .null, 0, 0, [], 40), (40, 40, .null, 0, 0, [], 41), (41, 53, .null, 149, 2, [], 44), (44, 33, .null, 0, 64, [], 47), (47, 2, .null, 0, 0, [], 48), (48, 2, .null, 0, 0, [], 49),
  (49, 36, .null, 5, 0, [], 52), (52, 0, .int 10, 0, 0, [], 54), (54, 1, .null, 3, 0, [], 55), (55, 11, .null, 0, 0, [], 56), (56, 40, .null, 0, 0, [], 57), (57, 0, .int 4, 0, 0, [], 58), (58, 52, .ref 5, 138, 2, [], 61), (61, 9, .null, 0, 0, [], 65),
  (64, 0, .int 0, 0, 0, [], 65), (65, 15, .null, 0, 0, [], 66), (66, 4, .null, 2, 0, [], 67), (67, 6, .int (-1), 3, 0, [], 70), (70, 9, .null, 0, 0, [], 26), (73, 1, .null, 2, 0, [], 74), (74, 49, .null, 0, 0, [], 74)]
def mtX5_needs : axM := (⟨"BeatSlugsModel", "needs", "(I)I"⟩, prog_7_method_64_code, 4, (some .int), 5, false, cdX5_needs)
abbrev kX5_needs : Nat := 189
set_option maxRecDepth 100000 in
theorem ckX5_needs : axCk 5 false 0 prog_7_method_64_code cdX5_needs = true := by decide +kernel
def cdX5_put : List axE := [
  (0, 0, .int 0, 0, 0, [], 1), (1, 4, .null, 3, 0, [], 2), (2, 3, .null, 1, 0, [], 3), (3, 0, .long 0, 0, 0, [], 4), (4, 29, .null, 0, 0, [], 5), (5, 33, .null, 0, 12, [], 8), (8, 0, .int 1, 0, 0, [], 9), (9, 9, .null, 0, 0, [], 13),
  (12, 0, .int 0, 0, 0, [], 13), (13, 4, .null, 4, 0, [], 15), (15, 0, .int 7, 0, 0, [], 17), (17, 4, .null, 5, 0, [], 19), (19, 1, .null, 5, 0, [], 21), (21, 33, .null, 2, 93, [], 24), (24, 3, .null, 1, 0, [], 25), (25, 0, .int 8, 0, 0, [], 27),
  (27, 1, .null, 5, 0, [], 29), (29, 13, .null, 0, 0, [], 30), (30, 27, .null, 0, 0, [], 31), (31, 0, .long 255, 0, 0, [], 34), (34, 24, .null, 0, 0, [], 35), (35, 23, .null, 0, 0, [], 36), (36, 4, .null, 6, 0, [], 38), (38, 1, .null, 4, 0, [], 40),
  (40, 33, .null, 0, 71, [], 43), (43, 1, .null, 6, 0, [], 45), (45, 33, .null, 1, 55, [], 48), (48, 1, .null, 3, 0, [], 49), (49, 33, .null, 1, 71, [], 52), (52, 9, .null, 0, 0, [], 67), (55, 1, .null, 6, 0, [], 57), (57, 0, .int 33, 0, 0, [], 59),
  (59, 0, .int 126, 0, 0, [], 61), (61, 53, .null, 129, 3, [], 64), (64, 33, .null, 0, 71, [], 67), (67, 0, .int 1, 0, 0, [], 68), (68, 9, .null, 0, 0, [], 72), (71, 0, .int 0, 0, 0, [], 72), (72, 4, .null, 4, 0, [], 74), (74, 1, .null, 3, 0, [], 75),
  (75, 1, .null, 6, 0, [], 77), (77, 33, .null, 1, 84, [], 80), (80, 0, .int 0, 0, 0, [], 81), (81, 9, .null, 0, 0, [], 85), (84, 0, .int 1, 0, 0, [], 85), (85, 11, .null, 0, 0, [], 86), (86, 4, .null, 3, 0, [], 87), (87, 6, .int (-1), 5, 0, [], 90),
  (90, 9, .null, 0, 0, [], 19), (93, 1, .null, 4, 0, [], 95), (95, 33, .null, 1, 101, [], 98), (98, 0, .int (-2), 0, 0, [], 100), (100, 49, .null, 0, 0, [], 100), (101, 2, .null, 0, 0, [], 102), (102, 36, .null, 5, 7, [], 105), (105, 1, .null, 3, 0, [], 106),
  (106, 11, .null, 0, 0, [], 107), (107, 0, .int 80, 0, 0, [], 109), (109, 32, .null, 5, 115, [], 112), (112, 0, .int (-4), 0, 0, [], 114), (114, 49, .null, 0, 0, [], 114), (115, 1, .null, 3, 0, [], 116), (116, 0, .int 1, 0, 0, [], 117), (117, 12, .null, 0, 0, [], 118),
  (118, 4, .null, 5, 0, [], 120), (120, 1, .null, 5, 0, [], 122), (122, 33, .null, 2, 162, [], 125), (125, 2, .null, 0, 0, [], 126), (126, 36, .null, 5, 6, [], 129), (129, 2, .null, 0, 0, [], 130), (130, 36, .null, 5, 7, [], 133), (133, 3, .null, 1, 0, [], 134),
  (134, 0, .int 8, 0, 0, [], 136), (136, 1, .null, 5, 0, [], 138), (138, 13, .null, 0, 0, [], 139), (139, 27, .null, 0, 0, [], 140), (140, 0, .long 255, 0, 0, [], 143), (143, 24, .null, 0, 0, [], 144), (144, 23, .null, 0, 0, [], 145), (145, 42, .null, 0, 0, [], 146),
  (146, 2, .null, 0, 0, [], 147), (147, 7, .null, 0, 0, [], 148), (148, 36, .null, 5, 7, [], 151), (151, 0, .int 1, 0, 0, [], 152), (152, 11, .null, 0, 0, [], 153), (153, 37, .null, 5, 7, [], 156), (156, 6, .int (-1), 5, 0, [], 159), (159, 9, .null, 0, 0, [], 120),
  (162, 2, .null, 0, 0, [], 163), (163, 36, .null, 5, 7, [], 166), (166, 49, .null, 0, 0, [], 166)]
def mtX5_put : axM := (⟨"BeatSlugsModel", "put", "(J)I"⟩, prog_7_method_65_code, 7, (some .int), 5, false, cdX5_put)
abbrev kX5_put : Nat := 190
set_option maxRecDepth 100000 in
theorem ckX5_put : axCk 5 false 0 prog_7_method_65_code cdX5_put = true := by decide +kernel
def cdX5_wipe : List axE := [
  (0, 2, .null, 0, 0, [], 1), (1, 36, .null, 5, 7, [], 4), (4, 4, .null, 1, 0, [], 5), (5, 2, .null, 0, 0, [], 6), (6, 0, .int 0, 0, 0, [], 7), (7, 37, .null, 5, 7, [], 10), (10, 1, .null, 1, 0, [], 11), (11, 49, .null, 0, 0, [], 11)]
def mtX5_wipe : axM := (⟨"BeatSlugsModel", "wipe", "()I"⟩, prog_7_method_66_code, 2, (some .int), 5, false, cdX5_wipe)
abbrev kX5_wipe : Nat := 191
set_option maxRecDepth 100000 in
theorem ckX5_wipe : axCk 5 false 0 prog_7_method_66_code cdX5_wipe = true := by decide +kernel
def cdX5_fault : List axE := [
  (0, 2, .null, 0, 0, [], 1), (1, 0, .int 0, 0, 0, [], 2), (2, 52, .ref 5, 193, 1, [], 5), (5, 33, .null, 0, 13, [], 8), (8, 0, .int (-6), 0, 0, [], 10), (10, 9, .null, 0, 0, [], 17), (13, 2, .null, 0, 0, [], 14), (14, 36, .null, 5, 8, [], 17),
  (17, 49, .null, 0, 0, [], 17)]
def mtX5_fault : axM := (⟨"BeatSlugsModel", "fault", "()I"⟩, prog_7_method_74_code, 1, (some .int), 5, false, cdX5_fault)
abbrev kX5_fault : Nat := 192
set_option maxRecDepth 100000 in
theorem ckX5_fault : axCk 5 false 0 prog_7_method_74_code cdX5_fault = true := by decide +kernel
def cdX5_readPad : List axE := [
  (0, 2, .null, 0, 0, [], 1), (1, 0, .int 0, 0, 0, [], 2), (2, 37, .null, 5, 8, [], 5), (5, 2, .null, 0, 0, [], 6), (6, 0, .int 0, 0, 0, [], 7), (7, 37, .null, 5, 13, [], 10), (10, 2, .null, 0, 0, [], 11), (11, 52, .ref 5, 194, 0, [], 14),
  (14, 4, .null, 2, 0, [], 15), (15, 1, .null, 2, 0, [], 16), (16, 33, .null, 0, 106, [], 19), (19, 1, .null, 1, 0, [], 20), (20, 33, .null, 0, 58, [], 23), (23, 2, .null, 0, 0, [], 24), (24, 36, .null, 5, 0, [], 27), (27, 0, .int 0, 0, 0, [], 28),
  (28, 2, .null, 0, 0, [], 29), (29, 36, .null, 5, 5, [], 32), (32, 0, .int 0, 0, 0, [], 33), (33, 53, .null, 132, 4, [], 36), (36, 2, .null, 0, 0, [], 37), (37, 52, .ref 5, 199, 0, [], 40), (40, 33, .null, 3, 58, [], 43), (43, 2, .null, 0, 0, [], 44),
  (44, 36, .null, 5, 5, [], 47), (47, 0, .int 0, 0, 0, [], 48), (48, 2, .null, 0, 0, [], 49), (49, 36, .null, 5, 0, [], 52), (52, 0, .int 0, 0, 0, [], 53), (53, 53, .null, 132, 4, [], 56), (56, 0, .int 1, 0, 0, [], 57), (57, 49, .null, 2, 0, [], 57),
  (58, 2, .null, 0, 0, [], 59), (59, 7, .null, 0, 0, [], 60), (60, 36, .null, 5, 13, [], 63), (63, 0, .int 1, 0, 0, [], 64), (64, 11, .null, 0, 0, [], 65), (65, 37, .null, 5, 13, [], 68), (68, 2, .null, 0, 0, [], 69), (69, 36, .null, 5, 8, [], 72),
  (72, 2, .null, 0, 0, [], 73), (73, 36, .null, 5, 7, [], 76), (76, 32, .null, 1, 81, [], 79), (79, 0, .int 1, 0, 0, [], 80), (80, 49, .null, 2, 0, [], 80), (81, 2, .null, 0, 0, [], 82), (82, 0, .int 59, 0, 0, [], 84), (84, 52, .ref 5, 197, 1, [], 87),
  (87, 33, .null, 0, 101, [], 90), (90, 2, .null, 0, 0, [], 91), (91, 52, .ref 5, 194, 0, [], 94), (94, 33, .null, 0, 101, [], 97), (97, 0, .int 1, 0, 0, [], 98), (98, 9, .null, 0, 0, [], 102), (101, 0, .int 0, 0, 0, [], 102), (102, 4, .null, 2, 0, [], 103),
  (103, 9, .null, 0, 0, [], 15), (106, 0, .int 0, 0, 0, [], 107), (107, 49, .null, 2, 0, [], 107)]
def mtX5_readPad : axM := (⟨"BeatSlugsModel", "readPad", "(Z)Z"⟩, prog_7_method_73_code, 3, (some .boolean), 5, false, cdX5_readPad)
abbrev kX5_readPad : Nat := 193
set_option maxRecDepth 100000 in
theorem ckX5_readPad : axCk 5 false 2 prog_7_method_73_code cdX5_readPad = true := by decide +kernel
def cdX5_readOrder : List axE := [
  (0, 2, .null, 0, 0, [], 1), (1, 2, .null, 0, 0, [], 2), (2, 36, .null, 5, 8, [], 5), (5, 2, .null, 0, 0, [], 6), (6, 36, .null, 5, 7, [], 9), (9, 32, .null, 3, 24, [], 12), (12, 2, .null, 0, 0, [], 13), (13, 36, .null, 5, 6, [], 16),
  (16, 2, .null, 0, 0, [], 17), (17, 36, .null, 5, 8, [], 20), (20, 40, .null, 0, 0, [], 21), (21, 9, .null, 0, 0, [], 25), (24, 0, .int 0, 0, 0, [], 25), (25, 37, .null, 5, 9, [], 28), (28, 2, .null, 0, 0, [], 29), (29, 36, .null, 5, 9, [], 32),
  (32, 0, .int 115, 0, 0, [], 34), (34, 32, .null, 0, 84, [], 37), (37, 2, .null, 0, 0, [], 38), (38, 36, .null, 5, 9, [], 41), (41, 0, .int 110, 0, 0, [], 43), (43, 32, .null, 0, 84, [], 46), (46, 2, .null, 0, 0, [], 47), (47, 36, .null, 5, 9, [], 50),
  (50, 0, .int 109, 0, 0, [], 52), (52, 32, .null, 0, 84, [], 55), (55, 2, .null, 0, 0, [], 56), (56, 36, .null, 5, 9, [], 59), (59, 0, .int 120, 0, 0, [], 61), (61, 32, .null, 0, 84, [], 64), (64, 2, .null, 0, 0, [], 65), (65, 36, .null, 5, 9, [], 68),
  (68, 0, .int 116, 0, 0, [], 70), (70, 32, .null, 0, 84, [], 73), (73, 2, .null, 0, 0, [], 74), (74, 36, .null, 5, 9, [], 77), (77, 0, .int 102, 0, 0, [], 79), (79, 32, .null, 0, 84, [], 82), (82, 0, .int 0, 0, 0, [], 83), (83, 49, .null, 2, 0, [], 83),
  (84, 2, .null, 0, 0, [], 85), (85, 7, .null, 0, 0, [], 86), (86, 36, .null, 5, 8, [], 89), (89, 0, .int 1, 0, 0, [], 90), (90, 11, .null, 0, 0, [], 91), (91, 37, .null, 5, 8, [], 94), (94, 2, .null, 0, 0, [], 95), (95, 36, .null, 5, 9, [], 98),
  (98, 0, .int 102, 0, 0, [], 100), (100, 32, .null, 1, 157, [], 103), (103, 2, .null, 0, 0, [], 104), (104, 0, .int 48, 0, 0, [], 106), (106, 0, .int 57, 0, 0, [], 108), (108, 52, .ref 5, 195, 2, [], 111), (111, 4, .null, 1, 0, [], 112), (112, 2, .null, 0, 0, [], 113),
  (113, 1, .null, 1, 0, [], 114), (114, 33, .null, 0, 132, [], 117), (117, 2, .null, 0, 0, [], 118), (118, 36, .null, 5, 6, [], 121), (121, 2, .null, 0, 0, [], 122), (122, 36, .null, 5, 8, [], 125), (125, 40, .null, 0, 0, [], 126), (126, 0, .int 48, 0, 0, [], 128),
  (128, 12, .null, 0, 0, [], 129), (129, 9, .null, 0, 0, [], 134), (132, 0, .int (-6), 0, 0, [], 134), (134, 37, .null, 5, 10, [], 137), (137, 2, .null, 0, 0, [], 138), (138, 7, .null, 0, 0, [], 139), (139, 36, .null, 5, 8, [], 142), (142, 1, .null, 1, 0, [], 143),
  (143, 33, .null, 0, 150, [], 146), (146, 0, .int 1, 0, 0, [], 147), (147, 9, .null, 0, 0, [], 151), (150, 0, .int 0, 0, 0, [], 151), (151, 11, .null, 0, 0, [], 152), (152, 37, .null, 5, 8, [], 155), (155, 1, .null, 1, 0, [], 156), (156, 49, .null, 2, 0, [], 156),
  (157, 2, .null, 0, 0, [], 158), (158, 2, .null, 0, 0, [], 159), (159, 52, .ref 5, 196, 0, [], 162), (162, 37, .null, 5, 10, [], 165), (165, 2, .null, 0, 0, [], 166), (166, 36, .null, 5, 10, [], 169), (169, 0, .int (-6), 0, 0, [], 171), (171, 32, .null, 1, 176, [], 174),
  (174, 0, .int 0, 0, 0, [], 175), (175, 49, .null, 2, 0, [], 175), (176, 2, .null, 0, 0, [], 177), (177, 36, .null, 5, 9, [], 180), (180, 0, .int 115, 0, 0, [], 182), (182, 32, .null, 1, 197, [], 185), (185, 2, .null, 0, 0, [], 186), (186, 2, .null, 0, 0, [], 187),
  (187, 0, .int 33, 0, 0, [], 189), (189, 52, .ref 5, 197, 1, [], 192), (192, 37, .null, 5, 12, [], 195), (195, 0, .int 1, 0, 0, [], 196), (196, 49, .null, 2, 0, [], 196), (197, 2, .null, 0, 0, [], 198), (198, 2, .null, 0, 0, [], 199), (199, 36, .null, 5, 9, [], 202),
  (202, 53, .null, 198, 1, [], 205), (205, 52, .ref 5, 197, 1, [], 208), (208, 33, .null, 1, 213, [], 211), (211, 0, .int 0, 0, 0, [], 212), (212, 49, .null, 2, 0, [], 212), (213, 2, .null, 0, 0, [], 214), (214, 2, .null, 0, 0, [], 215), (215, 52, .ref 5, 196, 0, [], 218),
  (218, 37, .null, 5, 11, [], 221), (221, 2, .null, 0, 0, [], 222), (222, 36, .null, 5, 11, [], 225), (225, 0, .int (-6), 0, 0, [], 227), (227, 32, .null, 0, 234, [], 230), (230, 0, .int 1, 0, 0, [], 231), (231, 9, .null, 0, 0, [], 235), (234, 0, .int 0, 0, 0, [], 235),
  (235, 49, .null, 2, 0, [], 235)]
def mtX5_readOrder : axM := (⟨"BeatSlugsModel", "readOrder", "()Z"⟩, prog_7_method_71_code, 2, (some .boolean), 5, false, cdX5_readOrder)
abbrev kX5_readOrder : Nat := 194
set_option maxRecDepth 100000 in
theorem ckX5_readOrder : axCk 5 false 2 prog_7_method_71_code cdX5_readOrder = true := by decide +kernel
def cdX5_isNext : List axE := [
  (0, 2, .null, 0, 0, [], 1), (1, 36, .null, 5, 8, [], 4), (4, 2, .null, 0, 0, [], 5), (5, 36, .null, 5, 7, [], 8), (8, 32, .null, 3, 32, [], 11), (11, 2, .null, 0, 0, [], 12), (12, 36, .null, 5, 6, [], 15), (15, 2, .null, 0, 0, [], 16),
  (16, 36, .null, 5, 8, [], 19), (19, 40, .null, 0, 0, [], 20), (20, 1, .null, 1, 0, [], 21), (21, 1, .null, 2, 0, [], 22), (22, 53, .null, 129, 3, [], 25), (25, 33, .null, 0, 32, [], 28), (28, 0, .int 1, 0, 0, [], 29), (29, 9, .null, 0, 0, [], 33),
  (32, 0, .int 0, 0, 0, [], 33), (33, 49, .null, 2, 0, [], 33)]
def mtX5_isNext : axM := (⟨"BeatSlugsModel", "isNext", "(II)Z"⟩, prog_7_method_67_code, 3, (some .boolean), 5, false, cdX5_isNext)
abbrev kX5_isNext : Nat := 195
set_option maxRecDepth 100000 in
theorem ckX5_isNext : axCk 5 false 2 prog_7_method_67_code cdX5_isNext = true := by decide +kernel
def cdX5_readNumber : List axE := [
  (0, 2, .null, 0, 0, [], 1), (1, 0, .int 48, 0, 0, [], 3), (3, 0, .int 57, 0, 0, [], 5), (5, 52, .ref 5, 195, 2, [], 8), (8, 33, .null, 1, 14, [], 11), (11, 0, .int (-6), 0, 0, [], 13), (13, 49, .null, 0, 0, [], 13), (14, 2, .null, 0, 0, [], 15),
  (15, 36, .null, 5, 6, [], 18), (18, 2, .null, 0, 0, [], 19), (19, 36, .null, 5, 8, [], 22), (22, 40, .null, 0, 0, [], 23), (23, 0, .int 48, 0, 0, [], 25), (25, 12, .null, 0, 0, [], 26), (26, 4, .null, 1, 0, [], 27), (27, 2, .null, 0, 0, [], 28),
  (28, 7, .null, 0, 0, [], 29), (29, 36, .null, 5, 8, [], 32), (32, 0, .int 1, 0, 0, [], 33), (33, 11, .null, 0, 0, [], 34), (34, 37, .null, 5, 8, [], 37), (37, 1, .null, 1, 0, [], 38), (38, 33, .null, 5, 80, [], 41), (41, 2, .null, 0, 0, [], 42),
  (42, 0, .int 48, 0, 0, [], 44), (44, 0, .int 57, 0, 0, [], 46), (46, 52, .ref 5, 195, 2, [], 49), (49, 33, .null, 0, 80, [], 52), (52, 0, .int 10, 0, 0, [], 54), (54, 1, .null, 1, 0, [], 55), (55, 13, .null, 0, 0, [], 56), (56, 2, .null, 0, 0, [], 57),
  (57, 36, .null, 5, 6, [], 60), (60, 2, .null, 0, 0, [], 61), (61, 36, .null, 5, 8, [], 64), (64, 40, .null, 0, 0, [], 65), (65, 11, .null, 0, 0, [], 66), (66, 0, .int 48, 0, 0, [], 68), (68, 12, .null, 0, 0, [], 69), (69, 4, .null, 1, 0, [], 70),
  (70, 2, .null, 0, 0, [], 71), (71, 7, .null, 0, 0, [], 72), (72, 36, .null, 5, 8, [], 75), (75, 0, .int 1, 0, 0, [], 76), (76, 11, .null, 0, 0, [], 77), (77, 37, .null, 5, 8, [], 80), (80, 1, .null, 1, 0, [], 81), (81, 49, .null, 0, 0, [], 81)]
def mtX5_readNumber : axM := (⟨"BeatSlugsModel", "readNumber", "()I"⟩, prog_7_method_69_code, 2, (some .int), 5, false, cdX5_readNumber)
abbrev kX5_readNumber : Nat := 196
set_option maxRecDepth 100000 in
theorem ckX5_readNumber : axCk 5 false 0 prog_7_method_69_code cdX5_readNumber = true := by decide +kernel
def cdX5_takes : List axE := [
  (0, 2, .null, 0, 0, [], 1), (1, 1, .null, 1, 0, [], 2), (2, 1, .null, 1, 0, [], 3), (3, 52, .ref 5, 195, 2, [], 6), (6, 4, .null, 2, 0, [], 7), (7, 2, .null, 0, 0, [], 8), (8, 7, .null, 0, 0, [], 9), (9, 36, .null, 5, 8, [], 12),
  (12, 1, .null, 2, 0, [], 13), (13, 33, .null, 0, 20, [], 16), (16, 0, .int 1, 0, 0, [], 17), (17, 9, .null, 0, 0, [], 21), (20, 0, .int 0, 0, 0, [], 21), (21, 11, .null, 0, 0, [], 22), (22, 37, .null, 5, 8, [], 25), (25, 1, .null, 2, 0, [], 26),
  (26, 49, .null, 2, 0, [], 26)]
def mtX5_takes : axM := (⟨"BeatSlugsModel", "takes", "(I)Z"⟩, prog_7_method_68_code, 3, (some .boolean), 5, false, cdX5_takes)
abbrev kX5_takes : Nat := 197
set_option maxRecDepth 100000 in
theorem ckX5_takes : axCk 5 false 2 prog_7_method_68_code cdX5_takes = true := by decide +kernel
def cdX5_signOf : List axE := [
  (0, 1, .null, 0, 0, [], 1), (1, 0, .int 110, 0, 0, [], 3), (3, 32, .null, 1, 11, [], 6), (6, 0, .int 62, 0, 0, [], 8), (8, 9, .null, 0, 0, [], 35), (11, 1, .null, 0, 0, [], 12), (12, 0, .int 109, 0, 0, [], 14), (14, 32, .null, 1, 22, [], 17),
  (17, 0, .int 64, 0, 0, [], 19), (19, 9, .null, 0, 0, [], 35), (22, 1, .null, 0, 0, [], 23), (23, 0, .int 120, 0, 0, [], 25), (25, 32, .null, 1, 33, [], 28), (28, 0, .int 126, 0, 0, [], 30), (30, 9, .null, 0, 0, [], 35), (33, 0, .int 45, 0, 0, [], 35),
  (35, 49, .null, 0, 0, [], 35)]
def mtX5_signOf : axM := (⟨"BeatSlugsModel", "signOf", "(I)I"⟩, prog_7_method_70_code, 1, (some .int), 5, false, cdX5_signOf)
abbrev kX5_signOf : Nat := 198
set_option maxRecDepth 100000 in
theorem ckX5_signOf : axCk 5 false 0 prog_7_method_70_code cdX5_signOf = true := by decide +kernel
def cdX5_does : List axE := [
  (0, 2, .null, 0, 0, [], 1), (1, 36, .null, 5, 9, [], 4), (4, 35, .null, 0, 147, [(109, 108), (110, 95), (111, 147), (112, 147), (113, 147), (114, 147), (115, 68), (116, 134), (117, 147), (118, 147), (119, 147), (120, 121)], 4), (68, 2, .null, 0, 0, [], 69), (69, 2, .null, 0, 0, [], 70), (70, 36, .null, 5, 0, [], 73), (73, 0, .int 0, 0, 0, [], 74), (74, 40, .null, 0, 0, [], 75),
  (75, 2, .null, 0, 0, [], 76), (76, 36, .null, 5, 10, [], 79), (79, 2, .null, 0, 0, [], 80), (80, 36, .null, 5, 12, [], 83), (83, 33, .null, 0, 90, [], 86), (86, 0, .int 1, 0, 0, [], 87), (87, 9, .null, 0, 0, [], 91), (90, 0, .int 0, 0, 0, [], 91),
  (91, 52, .ref 5, 136, 3, [], 94), (94, 49, .null, 0, 0, [], 94), (95, 2, .null, 0, 0, [], 96), (96, 2, .null, 0, 0, [], 97), (97, 36, .null, 5, 10, [], 100), (100, 2, .null, 0, 0, [], 101), (101, 36, .null, 5, 11, [], 104), (104, 52, .ref 5, 148, 2, [], 107),
  (107, 49, .null, 0, 0, [], 107), (108, 2, .null, 0, 0, [], 109), (109, 2, .null, 0, 0, [], 110), (110, 36, .null, 5, 10, [], 113), (113, 2, .null, 0, 0, [], 114), (114, 36, .null, 5, 11, [], 117), (117, 52, .ref 5, 157, 2, [], 120), (120, 49, .null, 0, 0, [], 120),
  (121, 2, .null, 0, 0, [], 122), (122, 2, .null, 0, 0, [], 123), (123, 36, .null, 5, 10, [], 126), (126, 2, .null, 0, 0, [], 127), (127, 36, .null, 5, 11, [], 130), (130, 52, .ref 5, 160, 2, [], 133), (133, 49, .null, 0, 0, [], 133), (134, 2, .null, 0, 0, [], 135),
  (135, 2, .null, 0, 0, [], 136), (136, 36, .null, 5, 10, [], 139), (139, 2, .null, 0, 0, [], 140), (140, 36, .null, 5, 11, [], 143), (143, 52, .ref 5, 152, 2, [], 146), (146, 49, .null, 0, 0, [], 146), (147, 2, .null, 0, 0, [], 148), (148, 2, .null, 0, 0, [], 149),
  (149, 36, .null, 5, 10, [], 152), (152, 52, .ref 5, 165, 1, [], 155), (155, 49, .null, 0, 0, [], 155)]
def mtX5_does : axM := (⟨"BeatSlugsModel", "does", "()I"⟩, prog_7_method_72_code, 1, (some .int), 5, false, cdX5_does)
abbrev kX5_does : Nat := 199
set_option maxRecDepth 100000 in
theorem ckX5_does : axCk 5 false 0 prog_7_method_72_code cdX5_does = true := by decide +kernel
def cdX5_carryOut : List axE := [
  (0, 2, .null, 0, 0, [], 1), (1, 0, .int 0, 0, 0, [], 2), (2, 52, .ref 5, 193, 1, [], 5), (5, 33, .null, 1, 11, [], 8), (8, 0, .int (-3), 0, 0, [], 10), (10, 49, .null, 0, 0, [], 10), (11, 2, .null, 0, 0, [], 12), (12, 2, .null, 0, 0, [], 13),
  (13, 36, .null, 5, 0, [], 16), (16, 52, .ref 5, 131, 1, [], 19), (19, 2, .null, 0, 0, [], 20), (20, 0, .int 1, 0, 0, [], 21), (21, 52, .ref 5, 193, 1, [], 24), (24, 4, .null, 1, 0, [], 25), (25, 2, .null, 0, 0, [], 26), (26, 0, .int 0, 0, 0, [], 27),
  (27, 37, .null, 5, 7, [], 30), (30, 1, .null, 1, 0, [], 31), (31, 33, .null, 0, 41, [], 34), (34, 2, .null, 0, 0, [], 35), (35, 36, .null, 5, 13, [], 38), (38, 9, .null, 0, 0, [], 42), (41, 0, .int 0, 0, 0, [], 42), (42, 49, .null, 0, 0, [], 42)]
def mtX5_carryOut : axM := (⟨"BeatSlugsModel", "carryOut", "()I"⟩, prog_7_method_75_code, 2, (some .int), 5, false, cdX5_carryOut)
abbrev kX5_carryOut : Nat := 200
set_option maxRecDepth 100000 in
theorem ckX5_carryOut : axCk 5 false 0 prog_7_method_75_code cdX5_carryOut = true := by decide +kernel
def cdX5_undo : List axE := [
  (0, 2, .null, 0, 0, [], 1), (1, 36, .null, 5, 2, [], 4), (4, 33, .null, 1, 10, [], 7), (7, 0, .int (-5), 0, 0, [], 9), (9, 49, .null, 0, 0, [], 9), (10, 2, .null, 0, 0, [], 11), (11, 7, .null, 0, 0, [], 12), (12, 36, .null, 5, 2, [], 15),
  (15, 0, .int 1, 0, 0, [], 16), (16, 12, .null, 0, 0, [], 17), (17, 37, .null, 5, 2, [], 20), (20, 2, .null, 0, 0, [], 21), (21, 36, .null, 5, 1, [], 24), (24, 0, .int 154, 0, 0, [], 27), (27, 2, .null, 0, 0, [], 28), (28, 36, .null, 5, 2, [], 31),
  (31, 13, .null, 0, 0, [], 32), (32, 2, .null, 0, 0, [], 33), (33, 36, .null, 5, 0, [], 36), (36, 0, .int 0, 0, 0, [], 37), (37, 53, .null, 132, 4, [], 40), (40, 2, .null, 0, 0, [], 41), (41, 36, .null, 5, 2, [], 44), (44, 49, .null, 0, 0, [], 44)]
def mtX5_undo : axM := (⟨"BeatSlugsModel", "undo", "()I"⟩, prog_7_method_76_code, 1, (some .int), 5, false, cdX5_undo)
abbrev kX5_undo : Nat := 201
set_option maxRecDepth 100000 in
theorem ckX5_undo : axCk 5 false 0 prog_7_method_76_code cdX5_undo = true := by decide +kernel
def cdX5_save : List axE := [
  (0, 1, .null, 1, 0, [], 1), (1, 0, .int 0, 0, 0, [], 2), (2, 0, .int 1, 0, 0, [], 3), (3, 53, .null, 129, 3, [], 6), (6, 33, .null, 1, 12, [], 9), (9, 0, .int (-2), 0, 0, [], 11), (11, 49, .null, 0, 0, [], 11), (12, 2, .null, 0, 0, [], 13),
  (13, 36, .null, 5, 0, [], 16), (16, 0, .int 0, 0, 0, [], 17), (17, 2, .null, 0, 0, [], 18), (18, 36, .null, 5, 3, [], 21), (21, 0, .int 154, 0, 0, [], 24), (24, 1, .null, 1, 0, [], 25), (25, 13, .null, 0, 0, [], 26), (26, 53, .null, 132, 4, [], 29),
  (29, 2, .null, 0, 0, [], 30), (30, 36, .null, 5, 4, [], 33), (33, 1, .null, 1, 0, [], 34), (34, 0, .int 1, 0, 0, [], 35), (35, 42, .null, 2, 0, [], 36), (36, 2, .null, 0, 0, [], 37), (37, 36, .null, 5, 0, [], 40), (40, 0, .int 0, 0, 0, [], 41),
  (41, 40, .null, 0, 0, [], 42), (42, 49, .null, 0, 0, [], 42)]
def mtX5_save : axM := (⟨"BeatSlugsModel", "save", "(I)I"⟩, prog_7_method_77_code, 2, (some .int), 5, false, cdX5_save)
abbrev kX5_save : Nat := 202
set_option maxRecDepth 100000 in
theorem ckX5_save : axCk 5 false 0 prog_7_method_77_code cdX5_save = true := by decide +kernel
def cdX5_restore : List axE := [
  (0, 1, .null, 1, 0, [], 1), (1, 0, .int 0, 0, 0, [], 2), (2, 0, .int 1, 0, 0, [], 3), (3, 53, .null, 129, 3, [], 6), (6, 33, .null, 1, 12, [], 9), (9, 0, .int (-2), 0, 0, [], 11), (11, 49, .null, 0, 0, [], 11), (12, 2, .null, 0, 0, [], 13),
  (13, 36, .null, 5, 4, [], 16), (16, 1, .null, 1, 0, [], 17), (17, 40, .null, 2, 0, [], 18), (18, 33, .null, 1, 24, [], 21), (21, 0, .int (-5), 0, 0, [], 23), (23, 49, .null, 0, 0, [], 23), (24, 2, .null, 0, 0, [], 25), (25, 2, .null, 0, 0, [], 26),
  (26, 36, .null, 5, 0, [], 29), (29, 52, .ref 5, 131, 1, [], 32), (32, 2, .null, 0, 0, [], 33), (33, 36, .null, 5, 3, [], 36), (36, 0, .int 154, 0, 0, [], 39), (39, 1, .null, 1, 0, [], 40), (40, 13, .null, 0, 0, [], 41), (41, 2, .null, 0, 0, [], 42),
  (42, 36, .null, 5, 0, [], 45), (45, 0, .int 0, 0, 0, [], 46), (46, 53, .null, 132, 4, [], 49), (49, 2, .null, 0, 0, [], 50), (50, 36, .null, 5, 0, [], 53), (53, 0, .int 0, 0, 0, [], 54), (54, 40, .null, 0, 0, [], 55), (55, 49, .null, 0, 0, [], 55)]
def mtX5_restore : axM := (⟨"BeatSlugsModel", "restore", "(I)I"⟩, prog_7_method_78_code, 2, (some .int), 5, false, cdX5_restore)
abbrev kX5_restore : Nat := 203
set_option maxRecDepth 100000 in
theorem ckX5_restore : axCk 5 false 0 prog_7_method_78_code cdX5_restore = true := by decide +kernel
end
section
/-! The code of the methods as rows of the abstract machine. Written by wip/whole/gen2.py. -/
def cdL_law0 : List axE := [
  (0, 46, .null, 4, 0, [], 3), (3, 7, .null, 0, 0, [], 4), (4, 54, .null, 0, 0, [], 7), (7, 5, .null, 1, 0, [], 8), (8, 46, .null, 5, 0, [], 11), (11, 7, .null, 0, 0, [], 12), (12, 54, .null, 127, 0, [], 15), (15, 5, .null, 2, 0, [], 16),
  (16, 0, .int 0, 0, 0, [], 17), (17, 4, .null, 3, 0, [], 18), (18, 1, .null, 3, 0, [], 19), (19, 2, .null, 0, 0, [], 20), (20, 39, .null, 0, 0, [], 21), (21, 0, .int 4, 0, 0, [], 22), (22, 12, .null, 0, 0, [], 23), (23, 32, .null, 4, 937, [], 26),
  (26, 2, .null, 0, 0, [], 27), (27, 1, .null, 3, 0, [], 28), (28, 40, .null, 0, 0, [], 29), (29, 0, .int 31, 0, 0, [], 31), (31, 14, .null, 0, 0, [], 32), (32, 35, .null, 0, 931, [(0, 164), (1, 197), (2, 230), (3, 273), (4, 296), (5, 319), (6, 352), (7, 385), (8, 408), (9, 441), (10, 474), (11, 507), (12, 530), (13, 563), (14, 586), (15, 609), (16, 642), (17, 665), (18, 688), (19, 711), (20, 734), (21, 757), (22, 780), (23, 833), (24, 846), (25, 859), (26, 872), (27, 885), (28, 908)], 32), (164, 2, .null, 1, 0, [], 165), (165, 2, .null, 0, 0, [], 166),
  (166, 1, .null, 3, 0, [], 167), (167, 0, .int 1, 0, 0, [], 168), (168, 11, .null, 0, 0, [], 169), (169, 40, .null, 0, 0, [], 170), (170, 2, .null, 0, 0, [], 171), (171, 1, .null, 3, 0, [], 172), (172, 0, .int 2, 0, 0, [], 173), (173, 11, .null, 0, 0, [], 174),
  (174, 40, .null, 0, 0, [], 175), (175, 52, .ref 4, 5, 2, [], 178), (178, 2, .null, 2, 0, [], 179), (179, 2, .null, 0, 0, [], 180), (180, 1, .null, 3, 0, [], 181), (181, 0, .int 1, 0, 0, [], 182), (182, 11, .null, 0, 0, [], 183), (183, 40, .null, 0, 0, [], 184),
  (184, 2, .null, 0, 0, [], 185), (185, 1, .null, 3, 0, [], 186), (186, 0, .int 2, 0, 0, [], 187), (187, 11, .null, 0, 0, [], 188)]
set_option maxRecDepth 100000 in
theorem ckL_law0 : axCk 6 false 2 code cdL_law0 = true := by decide +kernel
def cdL_law1 : List axE := [
  (188, 40, .null, 0, 0, [], 189), (189, 52, .ref 5, 128, 2, [], 192), (192, 32, .null, 0, 931, [], 195), (195, 0, .int 0, 0, 0, [], 196), (196, 49, .null, 2, 0, [], 196), (197, 2, .null, 1, 0, [], 198), (198, 2, .null, 0, 0, [], 199), (199, 1, .null, 3, 0, [], 200),
  (200, 0, .int 1, 0, 0, [], 201), (201, 11, .null, 0, 0, [], 202), (202, 40, .null, 0, 0, [], 203), (203, 2, .null, 0, 0, [], 204), (204, 1, .null, 3, 0, [], 205), (205, 0, .int 2, 0, 0, [], 206), (206, 11, .null, 0, 0, [], 207), (207, 40, .null, 0, 0, [], 208),
  (208, 52, .ref 4, 12, 2, [], 211), (211, 2, .null, 2, 0, [], 212), (212, 2, .null, 0, 0, [], 213), (213, 1, .null, 3, 0, [], 214), (214, 0, .int 1, 0, 0, [], 215), (215, 11, .null, 0, 0, [], 216), (216, 40, .null, 0, 0, [], 217), (217, 2, .null, 0, 0, [], 218),
  (218, 1, .null, 3, 0, [], 219), (219, 0, .int 2, 0, 0, [], 220), (220, 11, .null, 0, 0, [], 221), (221, 40, .null, 0, 0, [], 222), (222, 52, .ref 5, 133, 2, [], 225), (225, 32, .null, 0, 931, [], 228), (228, 0, .int 0, 0, 0, [], 229), (229, 49, .null, 2, 0, [], 229),
  (230, 2, .null, 1, 0, [], 231), (231, 2, .null, 0, 0, [], 232), (232, 1, .null, 3, 0, [], 233), (233, 0, .int 1, 0, 0, [], 234), (234, 11, .null, 0, 0, [], 235), (235, 40, .null, 0, 0, [], 236), (236, 2, .null, 0, 0, [], 237), (237, 1, .null, 3, 0, [], 238),
  (238, 0, .int 2, 0, 0, [], 239), (239, 11, .null, 0, 0, [], 240), (240, 40, .null, 0, 0, [], 241), (241, 2, .null, 0, 0, [], 242)]
set_option maxRecDepth 100000 in
theorem ckL_law1 : axCk 6 false 2 code cdL_law1 = true := by decide +kernel
def cdL_law2 : List axE := [
  (242, 1, .null, 3, 0, [], 243), (243, 0, .int 3, 0, 0, [], 244), (244, 11, .null, 0, 0, [], 245), (245, 40, .null, 0, 0, [], 246), (246, 52, .ref 4, 14, 3, [], 249), (249, 2, .null, 2, 0, [], 250), (250, 2, .null, 0, 0, [], 251), (251, 1, .null, 3, 0, [], 252),
  (252, 0, .int 1, 0, 0, [], 253), (253, 11, .null, 0, 0, [], 254), (254, 40, .null, 0, 0, [], 255), (255, 2, .null, 0, 0, [], 256), (256, 1, .null, 3, 0, [], 257), (257, 0, .int 2, 0, 0, [], 258), (258, 11, .null, 0, 0, [], 259), (259, 40, .null, 0, 0, [], 260),
  (260, 2, .null, 0, 0, [], 261), (261, 1, .null, 3, 0, [], 262), (262, 0, .int 3, 0, 0, [], 263), (263, 11, .null, 0, 0, [], 264), (264, 40, .null, 0, 0, [], 265), (265, 52, .ref 5, 134, 3, [], 268), (268, 32, .null, 0, 931, [], 271), (271, 0, .int 0, 0, 0, [], 272),
  (272, 49, .null, 2, 0, [], 272), (273, 2, .null, 1, 0, [], 274), (274, 2, .null, 0, 0, [], 275), (275, 1, .null, 3, 0, [], 276), (276, 0, .int 1, 0, 0, [], 277), (277, 11, .null, 0, 0, [], 278), (278, 40, .null, 0, 0, [], 279), (279, 52, .ref 4, 22, 1, [], 282),
  (282, 2, .null, 2, 0, [], 283), (283, 2, .null, 0, 0, [], 284), (284, 1, .null, 3, 0, [], 285), (285, 0, .int 1, 0, 0, [], 286), (286, 11, .null, 0, 0, [], 287), (287, 40, .null, 0, 0, [], 288), (288, 52, .ref 5, 142, 1, [], 291), (291, 32, .null, 0, 931, [], 294),
  (294, 0, .int 0, 0, 0, [], 295), (295, 49, .null, 2, 0, [], 295), (296, 2, .null, 1, 0, [], 297), (297, 2, .null, 0, 0, [], 298)]
set_option maxRecDepth 100000 in
theorem ckL_law2 : axCk 6 false 2 code cdL_law2 = true := by decide +kernel
def cdL_law3 : List axE := [
  (298, 1, .null, 3, 0, [], 299), (299, 0, .int 1, 0, 0, [], 300), (300, 11, .null, 0, 0, [], 301), (301, 40, .null, 0, 0, [], 302), (302, 52, .ref 4, 27, 1, [], 305), (305, 2, .null, 2, 0, [], 306), (306, 2, .null, 0, 0, [], 307), (307, 1, .null, 3, 0, [], 308),
  (308, 0, .int 1, 0, 0, [], 309), (309, 11, .null, 0, 0, [], 310), (310, 40, .null, 0, 0, [], 311), (311, 52, .ref 5, 146, 1, [], 314), (314, 32, .null, 0, 931, [], 317), (317, 0, .int 0, 0, 0, [], 318), (318, 49, .null, 2, 0, [], 318), (319, 2, .null, 1, 0, [], 320),
  (320, 2, .null, 0, 0, [], 321), (321, 1, .null, 3, 0, [], 322), (322, 0, .int 1, 0, 0, [], 323), (323, 11, .null, 0, 0, [], 324), (324, 40, .null, 0, 0, [], 325), (325, 2, .null, 0, 0, [], 326), (326, 1, .null, 3, 0, [], 327), (327, 0, .int 2, 0, 0, [], 328),
  (328, 11, .null, 0, 0, [], 329), (329, 40, .null, 0, 0, [], 330), (330, 52, .ref 4, 30, 2, [], 333), (333, 2, .null, 2, 0, [], 334), (334, 2, .null, 0, 0, [], 335), (335, 1, .null, 3, 0, [], 336), (336, 0, .int 1, 0, 0, [], 337), (337, 11, .null, 0, 0, [], 338),
  (338, 40, .null, 0, 0, [], 339), (339, 2, .null, 0, 0, [], 340), (340, 1, .null, 3, 0, [], 341), (341, 0, .int 2, 0, 0, [], 342), (342, 11, .null, 0, 0, [], 343), (343, 40, .null, 0, 0, [], 344), (344, 52, .ref 5, 147, 2, [], 347), (347, 32, .null, 0, 931, [], 350),
  (350, 0, .int 0, 0, 0, [], 351), (351, 49, .null, 2, 0, [], 351), (352, 2, .null, 1, 0, [], 353), (353, 2, .null, 0, 0, [], 354)]
set_option maxRecDepth 100000 in
theorem ckL_law3 : axCk 6 false 2 code cdL_law3 = true := by decide +kernel
def cdL_law4 : List axE := [
  (354, 1, .null, 3, 0, [], 355), (355, 0, .int 1, 0, 0, [], 356), (356, 11, .null, 0, 0, [], 357), (357, 40, .null, 0, 0, [], 358), (358, 2, .null, 0, 0, [], 359), (359, 1, .null, 3, 0, [], 360), (360, 0, .int 2, 0, 0, [], 361), (361, 11, .null, 0, 0, [], 362),
  (362, 40, .null, 0, 0, [], 363), (363, 52, .ref 4, 34, 2, [], 366), (366, 2, .null, 2, 0, [], 367), (367, 2, .null, 0, 0, [], 368), (368, 1, .null, 3, 0, [], 369), (369, 0, .int 1, 0, 0, [], 370), (370, 11, .null, 0, 0, [], 371), (371, 40, .null, 0, 0, [], 372),
  (372, 2, .null, 0, 0, [], 373), (373, 1, .null, 3, 0, [], 374), (374, 0, .int 2, 0, 0, [], 375), (375, 11, .null, 0, 0, [], 376), (376, 40, .null, 0, 0, [], 377), (377, 52, .ref 5, 151, 2, [], 380), (380, 32, .null, 0, 931, [], 383), (383, 0, .int 0, 0, 0, [], 384),
  (384, 49, .null, 2, 0, [], 384), (385, 2, .null, 1, 0, [], 386), (386, 2, .null, 0, 0, [], 387), (387, 1, .null, 3, 0, [], 388), (388, 0, .int 1, 0, 0, [], 389), (389, 11, .null, 0, 0, [], 390), (390, 40, .null, 0, 0, [], 391), (391, 52, .ref 4, 38, 1, [], 394),
  (394, 2, .null, 2, 0, [], 395), (395, 2, .null, 0, 0, [], 396), (396, 1, .null, 3, 0, [], 397), (397, 0, .int 1, 0, 0, [], 398), (398, 11, .null, 0, 0, [], 399), (399, 40, .null, 0, 0, [], 400), (400, 52, .ref 5, 155, 1, [], 403), (403, 32, .null, 0, 931, [], 406),
  (406, 0, .int 0, 0, 0, [], 407), (407, 49, .null, 2, 0, [], 407), (408, 2, .null, 1, 0, [], 409), (409, 2, .null, 0, 0, [], 410)]
set_option maxRecDepth 100000 in
theorem ckL_law4 : axCk 6 false 2 code cdL_law4 = true := by decide +kernel
def cdL_law5 : List axE := [
  (410, 1, .null, 3, 0, [], 411), (411, 0, .int 1, 0, 0, [], 412), (412, 11, .null, 0, 0, [], 413), (413, 40, .null, 0, 0, [], 414), (414, 2, .null, 0, 0, [], 415), (415, 1, .null, 3, 0, [], 416), (416, 0, .int 2, 0, 0, [], 417), (417, 11, .null, 0, 0, [], 418),
  (418, 40, .null, 0, 0, [], 419), (419, 52, .ref 4, 41, 2, [], 422), (422, 2, .null, 2, 0, [], 423), (423, 2, .null, 0, 0, [], 424), (424, 1, .null, 3, 0, [], 425), (425, 0, .int 1, 0, 0, [], 426), (426, 11, .null, 0, 0, [], 427), (427, 40, .null, 0, 0, [], 428),
  (428, 2, .null, 0, 0, [], 429), (429, 1, .null, 3, 0, [], 430), (430, 0, .int 2, 0, 0, [], 431), (431, 11, .null, 0, 0, [], 432), (432, 40, .null, 0, 0, [], 433), (433, 52, .ref 5, 156, 2, [], 436), (436, 32, .null, 0, 931, [], 439), (439, 0, .int 0, 0, 0, [], 440),
  (440, 49, .null, 2, 0, [], 440), (441, 2, .null, 1, 0, [], 442), (442, 2, .null, 0, 0, [], 443), (443, 1, .null, 3, 0, [], 444), (444, 0, .int 1, 0, 0, [], 445), (445, 11, .null, 0, 0, [], 446), (446, 40, .null, 0, 0, [], 447), (447, 2, .null, 0, 0, [], 448),
  (448, 1, .null, 3, 0, [], 449), (449, 0, .int 2, 0, 0, [], 450), (450, 11, .null, 0, 0, [], 451), (451, 40, .null, 0, 0, [], 452), (452, 52, .ref 4, 46, 2, [], 455), (455, 2, .null, 2, 0, [], 456), (456, 2, .null, 0, 0, [], 457), (457, 1, .null, 3, 0, [], 458),
  (458, 0, .int 1, 0, 0, [], 459), (459, 11, .null, 0, 0, [], 460), (460, 40, .null, 0, 0, [], 461), (461, 2, .null, 0, 0, [], 462)]
set_option maxRecDepth 100000 in
theorem ckL_law5 : axCk 6 false 2 code cdL_law5 = true := by decide +kernel
def cdL_law6 : List axE := [
  (462, 1, .null, 3, 0, [], 463), (463, 0, .int 2, 0, 0, [], 464), (464, 11, .null, 0, 0, [], 465), (465, 40, .null, 0, 0, [], 466), (466, 52, .ref 5, 159, 2, [], 469), (469, 32, .null, 0, 931, [], 472), (472, 0, .int 0, 0, 0, [], 473), (473, 49, .null, 2, 0, [], 473),
  (474, 2, .null, 1, 0, [], 475), (475, 2, .null, 0, 0, [], 476), (476, 1, .null, 3, 0, [], 477), (477, 0, .int 1, 0, 0, [], 478), (478, 11, .null, 0, 0, [], 479), (479, 40, .null, 0, 0, [], 480), (480, 2, .null, 0, 0, [], 481), (481, 1, .null, 3, 0, [], 482),
  (482, 0, .int 2, 0, 0, [], 483), (483, 11, .null, 0, 0, [], 484), (484, 40, .null, 0, 0, [], 485), (485, 52, .ref 4, 48, 2, [], 488), (488, 2, .null, 2, 0, [], 489), (489, 2, .null, 0, 0, [], 490), (490, 1, .null, 3, 0, [], 491), (491, 0, .int 1, 0, 0, [], 492),
  (492, 11, .null, 0, 0, [], 493), (493, 40, .null, 0, 0, [], 494), (494, 2, .null, 0, 0, [], 495), (495, 1, .null, 3, 0, [], 496), (496, 0, .int 2, 0, 0, [], 497), (497, 11, .null, 0, 0, [], 498), (498, 40, .null, 0, 0, [], 499), (499, 52, .ref 5, 162, 2, [], 502),
  (502, 32, .null, 0, 931, [], 505), (505, 0, .int 0, 0, 0, [], 506), (506, 49, .null, 2, 0, [], 506), (507, 2, .null, 1, 0, [], 508), (508, 2, .null, 0, 0, [], 509), (509, 1, .null, 3, 0, [], 510), (510, 0, .int 1, 0, 0, [], 511), (511, 11, .null, 0, 0, [], 512),
  (512, 40, .null, 0, 0, [], 513), (513, 52, .ref 4, 52, 1, [], 516), (516, 2, .null, 2, 0, [], 517), (517, 2, .null, 0, 0, [], 518)]
set_option maxRecDepth 100000 in
theorem ckL_law6 : axCk 6 false 2 code cdL_law6 = true := by decide +kernel
def cdL_law7 : List axE := [
  (518, 1, .null, 3, 0, [], 519), (519, 0, .int 1, 0, 0, [], 520), (520, 11, .null, 0, 0, [], 521), (521, 40, .null, 0, 0, [], 522), (522, 52, .ref 5, 164, 1, [], 525), (525, 32, .null, 0, 931, [], 528), (528, 0, .int 0, 0, 0, [], 529), (529, 49, .null, 2, 0, [], 529),
  (530, 2, .null, 1, 0, [], 531), (531, 2, .null, 0, 0, [], 532), (532, 1, .null, 3, 0, [], 533), (533, 0, .int 1, 0, 0, [], 534), (534, 11, .null, 0, 0, [], 535), (535, 40, .null, 0, 0, [], 536), (536, 2, .null, 0, 0, [], 537), (537, 1, .null, 3, 0, [], 538),
  (538, 0, .int 2, 0, 0, [], 539), (539, 11, .null, 0, 0, [], 540), (540, 40, .null, 0, 0, [], 541), (541, 52, .ref 4, 63, 2, [], 544), (544, 2, .null, 2, 0, [], 545), (545, 2, .null, 0, 0, [], 546), (546, 1, .null, 3, 0, [], 547), (547, 0, .int 1, 0, 0, [], 548),
  (548, 11, .null, 0, 0, [], 549), (549, 40, .null, 0, 0, [], 550), (550, 2, .null, 0, 0, [], 551), (551, 1, .null, 3, 0, [], 552), (552, 0, .int 2, 0, 0, [], 553), (553, 11, .null, 0, 0, [], 554), (554, 40, .null, 0, 0, [], 555), (555, 52, .ref 5, 171, 2, [], 558),
  (558, 32, .null, 0, 931, [], 561), (561, 0, .int 0, 0, 0, [], 562), (562, 49, .null, 2, 0, [], 562), (563, 2, .null, 1, 0, [], 564), (564, 2, .null, 0, 0, [], 565), (565, 1, .null, 3, 0, [], 566), (566, 0, .int 1, 0, 0, [], 567), (567, 11, .null, 0, 0, [], 568),
  (568, 40, .null, 0, 0, [], 569), (569, 52, .ref 4, 67, 1, [], 572), (572, 2, .null, 2, 0, [], 573), (573, 2, .null, 0, 0, [], 574)]
set_option maxRecDepth 100000 in
theorem ckL_law7 : axCk 6 false 2 code cdL_law7 = true := by decide +kernel
def cdL_law8 : List axE := [
  (574, 1, .null, 3, 0, [], 575), (575, 0, .int 1, 0, 0, [], 576), (576, 11, .null, 0, 0, [], 577), (577, 40, .null, 0, 0, [], 578), (578, 52, .ref 5, 174, 1, [], 581), (581, 32, .null, 0, 931, [], 584), (584, 0, .int 0, 0, 0, [], 585), (585, 49, .null, 2, 0, [], 585),
  (586, 2, .null, 1, 0, [], 587), (587, 2, .null, 0, 0, [], 588), (588, 1, .null, 3, 0, [], 589), (589, 0, .int 1, 0, 0, [], 590), (590, 11, .null, 0, 0, [], 591), (591, 40, .null, 0, 0, [], 592), (592, 52, .ref 4, 69, 1, [], 595), (595, 2, .null, 2, 0, [], 596),
  (596, 2, .null, 0, 0, [], 597), (597, 1, .null, 3, 0, [], 598), (598, 0, .int 1, 0, 0, [], 599), (599, 11, .null, 0, 0, [], 600), (600, 40, .null, 0, 0, [], 601), (601, 52, .ref 5, 175, 1, [], 604), (604, 32, .null, 0, 931, [], 607), (607, 0, .int 0, 0, 0, [], 608),
  (608, 49, .null, 2, 0, [], 608), (609, 2, .null, 1, 0, [], 610), (610, 2, .null, 0, 0, [], 611), (611, 1, .null, 3, 0, [], 612), (612, 0, .int 1, 0, 0, [], 613), (613, 11, .null, 0, 0, [], 614), (614, 40, .null, 0, 0, [], 615), (615, 2, .null, 0, 0, [], 616),
  (616, 1, .null, 3, 0, [], 617), (617, 0, .int 2, 0, 0, [], 618), (618, 11, .null, 0, 0, [], 619), (619, 40, .null, 0, 0, [], 620), (620, 52, .ref 4, 71, 2, [], 623), (623, 2, .null, 2, 0, [], 624), (624, 2, .null, 0, 0, [], 625), (625, 1, .null, 3, 0, [], 626),
  (626, 0, .int 1, 0, 0, [], 627), (627, 11, .null, 0, 0, [], 628), (628, 40, .null, 0, 0, [], 629), (629, 2, .null, 0, 0, [], 630)]
set_option maxRecDepth 100000 in
theorem ckL_law8 : axCk 6 false 2 code cdL_law8 = true := by decide +kernel
def cdL_law9 : List axE := [
  (630, 1, .null, 3, 0, [], 631), (631, 0, .int 2, 0, 0, [], 632), (632, 11, .null, 0, 0, [], 633), (633, 40, .null, 0, 0, [], 634), (634, 52, .ref 5, 176, 2, [], 637), (637, 32, .null, 0, 931, [], 640), (640, 0, .int 0, 0, 0, [], 641), (641, 49, .null, 2, 0, [], 641),
  (642, 2, .null, 1, 0, [], 643), (643, 2, .null, 0, 0, [], 644), (644, 1, .null, 3, 0, [], 645), (645, 0, .int 1, 0, 0, [], 646), (646, 11, .null, 0, 0, [], 647), (647, 40, .null, 0, 0, [], 648), (648, 52, .ref 4, 74, 1, [], 651), (651, 2, .null, 2, 0, [], 652),
  (652, 2, .null, 0, 0, [], 653), (653, 1, .null, 3, 0, [], 654), (654, 0, .int 1, 0, 0, [], 655), (655, 11, .null, 0, 0, [], 656), (656, 40, .null, 0, 0, [], 657), (657, 52, .ref 5, 180, 1, [], 660), (660, 32, .null, 0, 931, [], 663), (663, 0, .int 0, 0, 0, [], 664),
  (664, 49, .null, 2, 0, [], 664), (665, 2, .null, 1, 0, [], 666), (666, 2, .null, 0, 0, [], 667), (667, 1, .null, 3, 0, [], 668), (668, 0, .int 1, 0, 0, [], 669), (669, 11, .null, 0, 0, [], 670), (670, 40, .null, 0, 0, [], 671), (671, 52, .ref 4, 83, 1, [], 674),
  (674, 2, .null, 2, 0, [], 675), (675, 2, .null, 0, 0, [], 676), (676, 1, .null, 3, 0, [], 677), (677, 0, .int 1, 0, 0, [], 678), (678, 11, .null, 0, 0, [], 679), (679, 40, .null, 0, 0, [], 680), (680, 52, .ref 5, 185, 1, [], 683), (683, 32, .null, 0, 931, [], 686),
  (686, 0, .int 0, 0, 0, [], 687), (687, 49, .null, 2, 0, [], 687), (688, 2, .null, 1, 0, [], 689), (689, 2, .null, 0, 0, [], 690)]
set_option maxRecDepth 100000 in
theorem ckL_law9 : axCk 6 false 2 code cdL_law9 = true := by decide +kernel
def cdL_law10 : List axE := [
  (690, 1, .null, 3, 0, [], 691), (691, 0, .int 1, 0, 0, [], 692), (692, 11, .null, 0, 0, [], 693), (693, 40, .null, 0, 0, [], 694), (694, 52, .ref 4, 84, 1, [], 697), (697, 2, .null, 2, 0, [], 698), (698, 2, .null, 0, 0, [], 699), (699, 1, .null, 3, 0, [], 700),
  (700, 0, .int 1, 0, 0, [], 701), (701, 11, .null, 0, 0, [], 702), (702, 40, .null, 0, 0, [], 703), (703, 52, .ref 5, 186, 1, [], 706), (706, 32, .null, 0, 931, [], 709), (709, 0, .int 0, 0, 0, [], 710), (710, 49, .null, 2, 0, [], 710), (711, 2, .null, 1, 0, [], 712),
  (712, 2, .null, 0, 0, [], 713), (713, 1, .null, 3, 0, [], 714), (714, 0, .int 1, 0, 0, [], 715), (715, 11, .null, 0, 0, [], 716), (716, 40, .null, 0, 0, [], 717), (717, 52, .ref 4, 95, 1, [], 720), (720, 2, .null, 2, 0, [], 721), (721, 2, .null, 0, 0, [], 722),
  (722, 1, .null, 3, 0, [], 723), (723, 0, .int 1, 0, 0, [], 724), (724, 11, .null, 0, 0, [], 725), (725, 40, .null, 0, 0, [], 726), (726, 52, .ref 5, 187, 1, [], 729), (729, 32, .null, 0, 931, [], 732), (732, 0, .int 0, 0, 0, [], 733), (733, 49, .null, 2, 0, [], 733),
  (734, 2, .null, 1, 0, [], 735), (735, 2, .null, 0, 0, [], 736), (736, 1, .null, 3, 0, [], 737), (737, 0, .int 1, 0, 0, [], 738), (738, 11, .null, 0, 0, [], 739), (739, 40, .null, 0, 0, [], 740), (740, 52, .ref 4, 96, 1, [], 743), (743, 2, .null, 2, 0, [], 744),
  (744, 2, .null, 0, 0, [], 745), (745, 1, .null, 3, 0, [], 746), (746, 0, .int 1, 0, 0, [], 747), (747, 11, .null, 0, 0, [], 748)]
set_option maxRecDepth 100000 in
theorem ckL_law10 : axCk 6 false 2 code cdL_law10 = true := by decide +kernel
def cdL_law11 : List axE := [
  (748, 40, .null, 0, 0, [], 749), (749, 52, .ref 5, 188, 1, [], 752), (752, 32, .null, 0, 931, [], 755), (755, 0, .int 0, 0, 0, [], 756), (756, 49, .null, 2, 0, [], 756), (757, 2, .null, 1, 0, [], 758), (758, 2, .null, 0, 0, [], 759), (759, 1, .null, 3, 0, [], 760),
  (760, 0, .int 1, 0, 0, [], 761), (761, 11, .null, 0, 0, [], 762), (762, 40, .null, 0, 0, [], 763), (763, 52, .ref 4, 98, 1, [], 766), (766, 2, .null, 2, 0, [], 767), (767, 2, .null, 0, 0, [], 768), (768, 1, .null, 3, 0, [], 769), (769, 0, .int 1, 0, 0, [], 770),
  (770, 11, .null, 0, 0, [], 771), (771, 40, .null, 0, 0, [], 772), (772, 52, .ref 5, 189, 1, [], 775), (775, 32, .null, 0, 931, [], 778), (778, 0, .int 0, 0, 0, [], 779), (779, 49, .null, 2, 0, [], 779), (780, 2, .null, 1, 0, [], 781), (781, 2, .null, 0, 0, [], 782),
  (782, 1, .null, 3, 0, [], 783), (783, 0, .int 1, 0, 0, [], 784), (784, 11, .null, 0, 0, [], 785), (785, 40, .null, 0, 0, [], 786), (786, 22, .null, 0, 0, [], 787), (787, 0, .int 32, 0, 0, [], 789), (789, 26, .null, 0, 0, [], 790), (790, 2, .null, 0, 0, [], 791),
  (791, 1, .null, 3, 0, [], 792), (792, 0, .int 2, 0, 0, [], 793), (793, 11, .null, 0, 0, [], 794), (794, 40, .null, 0, 0, [], 795), (795, 22, .null, 0, 0, [], 796), (796, 0, .long 4294967295, 0, 0, [], 799), (799, 24, .null, 0, 0, [], 800), (800, 25, .null, 0, 0, [], 801),
  (801, 52, .ref 4, 100, 1, [], 804), (804, 2, .null, 2, 0, [], 805), (805, 2, .null, 0, 0, [], 806), (806, 1, .null, 3, 0, [], 807)]
set_option maxRecDepth 100000 in
theorem ckL_law11 : axCk 6 false 2 code cdL_law11 = true := by decide +kernel
def cdL_law12 : List axE := [
  (807, 0, .int 1, 0, 0, [], 808), (808, 11, .null, 0, 0, [], 809), (809, 40, .null, 0, 0, [], 810), (810, 22, .null, 0, 0, [], 811), (811, 0, .int 32, 0, 0, [], 813), (813, 26, .null, 0, 0, [], 814), (814, 2, .null, 0, 0, [], 815), (815, 1, .null, 3, 0, [], 816),
  (816, 0, .int 2, 0, 0, [], 817), (817, 11, .null, 0, 0, [], 818), (818, 40, .null, 0, 0, [], 819), (819, 22, .null, 0, 0, [], 820), (820, 0, .long 4294967295, 0, 0, [], 823), (823, 24, .null, 0, 0, [], 824), (824, 25, .null, 0, 0, [], 825), (825, 52, .ref 5, 190, 1, [], 828),
  (828, 32, .null, 0, 931, [], 831), (831, 0, .int 0, 0, 0, [], 832), (832, 49, .null, 2, 0, [], 832), (833, 2, .null, 1, 0, [], 834), (834, 52, .ref 4, 105, 0, [], 837), (837, 2, .null, 2, 0, [], 838), (838, 52, .ref 5, 191, 0, [], 841), (841, 32, .null, 0, 931, [], 844),
  (844, 0, .int 0, 0, 0, [], 845), (845, 49, .null, 2, 0, [], 845), (846, 2, .null, 1, 0, [], 847), (847, 52, .ref 4, 107, 0, [], 850), (850, 2, .null, 2, 0, [], 851), (851, 52, .ref 5, 192, 0, [], 854), (854, 32, .null, 0, 931, [], 857), (857, 0, .int 0, 0, 0, [], 858),
  (858, 49, .null, 2, 0, [], 858), (859, 2, .null, 1, 0, [], 860), (860, 52, .ref 4, 118, 0, [], 863), (863, 2, .null, 2, 0, [], 864), (864, 52, .ref 5, 200, 0, [], 867), (867, 32, .null, 0, 931, [], 870), (870, 0, .int 0, 0, 0, [], 871), (871, 49, .null, 2, 0, [], 871),
  (872, 2, .null, 1, 0, [], 873), (873, 52, .ref 4, 123, 0, [], 876), (876, 2, .null, 2, 0, [], 877), (877, 52, .ref 5, 201, 0, [], 880)]
set_option maxRecDepth 100000 in
theorem ckL_law12 : axCk 6 false 2 code cdL_law12 = true := by decide +kernel
def cdL_law13 : List axE := [
  (880, 32, .null, 0, 931, [], 883), (883, 0, .int 0, 0, 0, [], 884), (884, 49, .null, 2, 0, [], 884), (885, 2, .null, 1, 0, [], 886), (886, 2, .null, 0, 0, [], 887), (887, 1, .null, 3, 0, [], 888), (888, 0, .int 1, 0, 0, [], 889), (889, 11, .null, 0, 0, [], 890),
  (890, 40, .null, 0, 0, [], 891), (891, 52, .ref 4, 125, 1, [], 894), (894, 2, .null, 2, 0, [], 895), (895, 2, .null, 0, 0, [], 896), (896, 1, .null, 3, 0, [], 897), (897, 0, .int 1, 0, 0, [], 898), (898, 11, .null, 0, 0, [], 899), (899, 40, .null, 0, 0, [], 900),
  (900, 52, .ref 5, 202, 1, [], 903), (903, 32, .null, 0, 931, [], 906), (906, 0, .int 0, 0, 0, [], 907), (907, 49, .null, 2, 0, [], 907), (908, 2, .null, 1, 0, [], 909), (909, 2, .null, 0, 0, [], 910), (910, 1, .null, 3, 0, [], 911), (911, 0, .int 1, 0, 0, [], 912),
  (912, 11, .null, 0, 0, [], 913), (913, 40, .null, 0, 0, [], 914), (914, 52, .ref 4, 126, 1, [], 917), (917, 2, .null, 2, 0, [], 918), (918, 2, .null, 0, 0, [], 919), (919, 1, .null, 3, 0, [], 920), (920, 0, .int 1, 0, 0, [], 921), (921, 11, .null, 0, 0, [], 922),
  (922, 40, .null, 0, 0, [], 923), (923, 52, .ref 5, 203, 1, [], 926), (926, 32, .null, 0, 931, [], 929), (929, 0, .int 0, 0, 0, [], 930), (930, 49, .null, 2, 0, [], 930), (931, 6, .int 4, 3, 0, [], 934), (934, 9, .null, 0, 0, [], 18), (937, 0, .int 1, 0, 0, [], 938),
  (938, 49, .null, 2, 0, [], 938)]
set_option maxRecDepth 100000 in
theorem ckL_law13 : axCk 6 false 2 code cdL_law13 = true := by decide +kernel
def cdL_law : List axE := cdL_law0 ++ (cdL_law1 ++ (cdL_law2 ++ (cdL_law3 ++ (cdL_law4 ++ (cdL_law5 ++ (cdL_law6 ++ (cdL_law7 ++ (cdL_law8 ++ (cdL_law9 ++ (cdL_law10 ++ (cdL_law11 ++ (cdL_law12 ++ (cdL_law13)))))))))))))
theorem axCk_app {o : Nat} {i : Bool} {r : Nat} {b : ByteArray} {l m : List axE} (h1 : axCk o i r b l = true) (h2 : axCk o i r b m = true) : axCk o i r b (l ++ m) = true := by unfold axCk at *; rw [List.all_append, h1, h2]; rfl
theorem ckL_law : axCk 6 false 2 code cdL_law = true := axCk_app ckL_law0 (axCk_app ckL_law1 (axCk_app ckL_law2 (axCk_app ckL_law3 (axCk_app ckL_law4 (axCk_app ckL_law5 (axCk_app ckL_law6 (axCk_app ckL_law7 (axCk_app ckL_law8 (axCk_app ckL_law9 (axCk_app ckL_law10 (axCk_app ckL_law11 (axCk_app ckL_law12 (ckL_law13)))))))))))))
end
section
/-! What the tables say of the methods and the links. Written by wip/whole/gen2.py. -/
def axMs0 : List axM := [mtX4_init, mtX0_init, mtX1_init, mtX2_init, mtX3_init, mtX4_set, mtX1_prepare, mtX4_copyInto, mtX0_takeOver, mtX0_changeSetting, mtX4_cell, mtX1_settle, mtX4_target, mtX0_changeTarget, mtX4_slug, mtX0_addSlug, mtX0_makeSlug, mtX0_lowestFree, mtX4_contains, mtX4_bit, mtX4_store, mtX0_putIn, mtX4_drop, mtX0_dropSlug, mtX0_has, mtX0_placeOf, mtX0_takeOut, mtX4_turn, mtX0_flipTurn, mtX0_isTurn, mtX4_need, mtX0_flipNeed, mtX0_needsOf, mtJ_bitCount]
def axMs1 : List axM := [mtX4_trim, mtX0_trimSlug, mtX0_roomOf, mtX0_beatsOf, mtX4_restoreTail, mtX0_giveBack, mtX0_writtenOf, mtX4_move, mtX0_moveSlug, mtX0_mayStandIn, mtX0_lowestPlace, mtX0_highestPlace, mtX4_swap, mtX0_swapSlugs, mtX4_split, mtX0_splitSlug, mtX0_handOverNeeds, mtX0_handOverTurn, mtX4_fit, mtX0_fitAct, mtX0_cutOf, mtX0_hasAct, mtX0_actCount, mtX0_offOf, mtX0_startOf, mtX0_beatsIn, mtX0_targetOf, mtX0_roomIn, mtX0_settingOf, mtX4_of, mtX0_needersOf, mtX0_pageBeats, mtX0_turnsAhead, mtX4_at]
def axMs2 : List axM := [mtX0_slugIn, mtX4_atBeat, mtX0_slugAtBeat, mtX4_ofAct, mtX0_isFitting, mtX0_isOpen, mtX4_count, mtX0_allSlugs, mtX0_allBeats, mtX0_offTogether, mtX0_offOfRow, mtX0_fittingActs, mtX0_longestSlug, mtX2_size, mtX1_size, mtX4_places, mtX4_bestSwap, mtX3_run, mtX0_size, mtX3_tryAllBehind, mtX3_tryOne, mtX3_exchange, mtX0_allTurns, mtX3_isFound, mtX3_lowerPlace, mtX3_higherPlace, mtX3_leastOff, mtX4_ifFitted, mtX4_ifTurned, mtX0_offIfTurned, mtX4_needs, mtX0_allNeedsOf, mtX4_put, mtX2_append]
def axMs3 : List axM := [mtX2_signsOf, mtX2_codeOf, mtX2_addSign, mtX4_wipe, mtX2_clear, mtX4_fault, mtX2_firstFault, mtX2_rewind, mtX2_readOrder, mtX2_signAt, mtX2_readSlug, mtX2_readNumber, mtX2_readDigit, mtX2_skip, mtX2_readPair, mtX2_readAct, mtX4_carryOut, mtX4_carryOrder, mtX2_firstNumber, mtX2_secondNumber, mtX2_kind, mtX4_undo, mtX1_takeBack, mtX4_save, mtX4_restore, mtX5_init, mtX5_set, mtX5_in, mtX5_isValue, mtX5_record, mtX5_copy, mtX5_target, mtX5_slug, mtX5_begins]
def axMs4 : List axM := [mtX5_doSlug, mtX5_freeNumber, mtX5_get, mtX5_lay, mtX5_putIn, mtX5_ends, mtX5_drop, mtX5_isSlug, mtX5_placeOf, mtX5_takeOut, mtX5_turn, mtX5_need, mtX5_doNeed, mtX5_has, mtX5_bits, mtX5_trim, mtX5_doTrim, mtX5_canTrim, mtX5_leastBeats, mtX5_restoreTail, mtX5_move, mtX5_doMove, mtX5_isOrdered, mtX5_swap, mtX5_doSwap, mtX5_size, mtX5_split, mtX5_doSplit, mtX5_fit, mtX5_doFit, mtX5_acts, mtX5_actAt, mtX5_off, mtX5_sumOf]
def axMs5 : List axM := [mtX5_targetOf, mtX5_of, mtX5_neededBy, mtX5_begin, mtX5_at, mtX5_atBeat, mtX5_ofAct, mtX5_fits, mtX5_isOpen, mtX5_beginOfAct, mtX5_count, mtX5_slugs, mtX5_allOff, mtX5_fitting, mtX5_longest, mtX5_places, mtX5_bestSwap, mtX5_ifFitted, mtX5_ifTurned, mtX5_needs, mtX5_put, mtX5_wipe, mtX5_fault, mtX5_readPad, mtX5_readOrder, mtX5_isNext, mtX5_readNumber, mtX5_takes, mtX5_signOf, mtX5_does, mtX5_carryOut, mtX5_undo, mtX5_save, mtX5_restore]
def axMs : List axM := axMs0 ++ (axMs1 ++ (axMs2 ++ (axMs3 ++ (axMs4 ++ (axMs5)))))
/-- what every method of the list has -/
def axGood (M : axM) : Prop := Cond.code M.1 M.2.1 M.2.2.1 M.2.2.2.1 ∈ lw_tbl ∧ Cond.initialized M.1.cls ∈ lw_tbl ∧ axCn M.2.2.2.2.1 = M.1.cls ∧ M.2.2.1 ≤ 13 ∧ plainName M.1.cls = true ∧ (M.1.cls ≠ "java/lang/invoke/MethodHandle" ∧ M.1.cls ≠ "java/lang/invoke/VarHandle") ∧ axCk M.2.2.2.2.1 M.2.2.2.2.2.1 (axRk M.2.2.2.1) M.2.1 M.2.2.2.2.2.2 = true ∧ (M.2.2.2.2.2.1 = true → M.1.name = "<init>")
theorem moX4_init : axGood mtX4_init := ⟨List.mem_of_getElem? (i := 73) (by decide +kernel), List.mem_of_getElem? (i := 60) (by decide +kernel), rfl, by decide, by decide +kernel, ⟨by decide +kernel, by decide +kernel⟩, ckX4_init, by decide +kernel⟩
theorem moX0_init : axGood mtX0_init := ⟨List.mem_of_getElem? (i := 81) (by decide +kernel), List.mem_of_getElem? (i := 61) (by decide +kernel), rfl, by decide, by decide +kernel, ⟨by decide +kernel, by decide +kernel⟩, ckX0_init, by decide +kernel⟩
theorem moX1_init : axGood mtX1_init := ⟨List.mem_of_getElem? (i := 116) (by decide +kernel), List.mem_of_getElem? (i := 62) (by decide +kernel), rfl, by decide, by decide +kernel, ⟨by decide +kernel, by decide +kernel⟩, ckX1_init, by decide +kernel⟩
theorem moX2_init : axGood mtX2_init := ⟨List.mem_of_getElem? (i := 134) (by decide +kernel), List.mem_of_getElem? (i := 63) (by decide +kernel), rfl, by decide, by decide +kernel, ⟨by decide +kernel, by decide +kernel⟩, ckX2_init, by decide +kernel⟩
theorem moX3_init : axGood mtX3_init := ⟨List.mem_of_getElem? (i := 163) (by decide +kernel), List.mem_of_getElem? (i := 64) (by decide +kernel), rfl, by decide, by decide +kernel, ⟨by decide +kernel, by decide +kernel⟩, ckX3_init, by decide +kernel⟩
theorem moX4_set : axGood mtX4_set := ⟨List.mem_of_getElem? (i := 197) (by decide +kernel), List.mem_of_getElem? (i := 60) (by decide +kernel), rfl, by decide, by decide +kernel, ⟨by decide +kernel, by decide +kernel⟩, ckX4_set, by decide +kernel⟩
theorem moX1_prepare : axGood mtX1_prepare := ⟨List.mem_of_getElem? (i := 201) (by decide +kernel), List.mem_of_getElem? (i := 62) (by decide +kernel), rfl, by decide, by decide +kernel, ⟨by decide +kernel, by decide +kernel⟩, ckX1_prepare, by decide +kernel⟩
theorem moX4_copyInto : axGood mtX4_copyInto := ⟨List.mem_of_getElem? (i := 204) (by decide +kernel), List.mem_of_getElem? (i := 60) (by decide +kernel), rfl, by decide, by decide +kernel, ⟨by decide +kernel, by decide +kernel⟩, ckX4_copyInto, by decide +kernel⟩
theorem moX0_takeOver : axGood mtX0_takeOver := ⟨List.mem_of_getElem? (i := 208) (by decide +kernel), List.mem_of_getElem? (i := 61) (by decide +kernel), rfl, by decide, by decide +kernel, ⟨by decide +kernel, by decide +kernel⟩, ckX0_takeOver, by decide +kernel⟩
theorem moX0_changeSetting : axGood mtX0_changeSetting := ⟨List.mem_of_getElem? (i := 215) (by decide +kernel), List.mem_of_getElem? (i := 61) (by decide +kernel), rfl, by decide, by decide +kernel, ⟨by decide +kernel, by decide +kernel⟩, ckX0_changeSetting, by decide +kernel⟩
theorem moX4_cell : axGood mtX4_cell := ⟨List.mem_of_getElem? (i := 220) (by decide +kernel), List.mem_of_getElem? (i := 60) (by decide +kernel), rfl, by decide, by decide +kernel, ⟨by decide +kernel, by decide +kernel⟩, ckX4_cell, by decide +kernel⟩
theorem moX1_settle : axGood mtX1_settle := ⟨List.mem_of_getElem? (i := 226) (by decide +kernel), List.mem_of_getElem? (i := 62) (by decide +kernel), rfl, by decide, by decide +kernel, ⟨by decide +kernel, by decide +kernel⟩, ckX1_settle, by decide +kernel⟩
theorem moX4_target : axGood mtX4_target := ⟨List.mem_of_getElem? (i := 233) (by decide +kernel), List.mem_of_getElem? (i := 60) (by decide +kernel), rfl, by decide, by decide +kernel, ⟨by decide +kernel, by decide +kernel⟩, ckX4_target, by decide +kernel⟩
theorem moX0_changeTarget : axGood mtX0_changeTarget := ⟨List.mem_of_getElem? (i := 237) (by decide +kernel), List.mem_of_getElem? (i := 61) (by decide +kernel), rfl, by decide, by decide +kernel, ⟨by decide +kernel, by decide +kernel⟩, ckX0_changeTarget, by decide +kernel⟩
theorem moX4_slug : axGood mtX4_slug := ⟨List.mem_of_getElem? (i := 241) (by decide +kernel), List.mem_of_getElem? (i := 60) (by decide +kernel), rfl, by decide, by decide +kernel, ⟨by decide +kernel, by decide +kernel⟩, ckX4_slug, by decide +kernel⟩
theorem moX0_addSlug : axGood mtX0_addSlug := ⟨List.mem_of_getElem? (i := 245) (by decide +kernel), List.mem_of_getElem? (i := 61) (by decide +kernel), rfl, by decide, by decide +kernel, ⟨by decide +kernel, by decide +kernel⟩, ckX0_addSlug, by decide +kernel⟩
theorem moX0_makeSlug : axGood mtX0_makeSlug := ⟨List.mem_of_getElem? (i := 249) (by decide +kernel), List.mem_of_getElem? (i := 61) (by decide +kernel), rfl, by decide, by decide +kernel, ⟨by decide +kernel, by decide +kernel⟩, ckX0_makeSlug, by decide +kernel⟩
theorem moX0_lowestFree : axGood mtX0_lowestFree := ⟨List.mem_of_getElem? (i := 253) (by decide +kernel), List.mem_of_getElem? (i := 61) (by decide +kernel), rfl, by decide, by decide +kernel, ⟨by decide +kernel, by decide +kernel⟩, ckX0_lowestFree, by decide +kernel⟩
theorem moX4_contains : axGood mtX4_contains := ⟨List.mem_of_getElem? (i := 256) (by decide +kernel), List.mem_of_getElem? (i := 60) (by decide +kernel), rfl, by decide, by decide +kernel, ⟨by decide +kernel, by decide +kernel⟩, ckX4_contains, by decide +kernel⟩
theorem moX4_bit : axGood mtX4_bit := ⟨List.mem_of_getElem? (i := 259) (by decide +kernel), List.mem_of_getElem? (i := 60) (by decide +kernel), rfl, by decide, by decide +kernel, ⟨by decide +kernel, by decide +kernel⟩, ckX4_bit, by decide +kernel⟩
theorem moX4_store : axGood mtX4_store := ⟨List.mem_of_getElem? (i := 262) (by decide +kernel), List.mem_of_getElem? (i := 60) (by decide +kernel), rfl, by decide, by decide +kernel, ⟨by decide +kernel, by decide +kernel⟩, ckX4_store, by decide +kernel⟩
theorem moX0_putIn : axGood mtX0_putIn := ⟨List.mem_of_getElem? (i := 266) (by decide +kernel), List.mem_of_getElem? (i := 61) (by decide +kernel), rfl, by decide, by decide +kernel, ⟨by decide +kernel, by decide +kernel⟩, ckX0_putIn, by decide +kernel⟩
theorem moX4_drop : axGood mtX4_drop := ⟨List.mem_of_getElem? (i := 270) (by decide +kernel), List.mem_of_getElem? (i := 60) (by decide +kernel), rfl, by decide, by decide +kernel, ⟨by decide +kernel, by decide +kernel⟩, ckX4_drop, by decide +kernel⟩
theorem moX0_dropSlug : axGood mtX0_dropSlug := ⟨List.mem_of_getElem? (i := 274) (by decide +kernel), List.mem_of_getElem? (i := 61) (by decide +kernel), rfl, by decide, by decide +kernel, ⟨by decide +kernel, by decide +kernel⟩, ckX0_dropSlug, by decide +kernel⟩
theorem moX0_has : axGood mtX0_has := ⟨List.mem_of_getElem? (i := 278) (by decide +kernel), List.mem_of_getElem? (i := 61) (by decide +kernel), rfl, by decide, by decide +kernel, ⟨by decide +kernel, by decide +kernel⟩, ckX0_has, by decide +kernel⟩
theorem moX0_placeOf : axGood mtX0_placeOf := ⟨List.mem_of_getElem? (i := 282) (by decide +kernel), List.mem_of_getElem? (i := 61) (by decide +kernel), rfl, by decide, by decide +kernel, ⟨by decide +kernel, by decide +kernel⟩, ckX0_placeOf, by decide +kernel⟩
theorem moX0_takeOut : axGood mtX0_takeOut := ⟨List.mem_of_getElem? (i := 286) (by decide +kernel), List.mem_of_getElem? (i := 61) (by decide +kernel), rfl, by decide, by decide +kernel, ⟨by decide +kernel, by decide +kernel⟩, ckX0_takeOut, by decide +kernel⟩
theorem moX4_turn : axGood mtX4_turn := ⟨List.mem_of_getElem? (i := 290) (by decide +kernel), List.mem_of_getElem? (i := 60) (by decide +kernel), rfl, by decide, by decide +kernel, ⟨by decide +kernel, by decide +kernel⟩, ckX4_turn, by decide +kernel⟩
theorem moX0_flipTurn : axGood mtX0_flipTurn := ⟨List.mem_of_getElem? (i := 294) (by decide +kernel), List.mem_of_getElem? (i := 61) (by decide +kernel), rfl, by decide, by decide +kernel, ⟨by decide +kernel, by decide +kernel⟩, ckX0_flipTurn, by decide +kernel⟩
theorem moX0_isTurn : axGood mtX0_isTurn := ⟨List.mem_of_getElem? (i := 298) (by decide +kernel), List.mem_of_getElem? (i := 61) (by decide +kernel), rfl, by decide, by decide +kernel, ⟨by decide +kernel, by decide +kernel⟩, ckX0_isTurn, by decide +kernel⟩
theorem moX4_need : axGood mtX4_need := ⟨List.mem_of_getElem? (i := 302) (by decide +kernel), List.mem_of_getElem? (i := 60) (by decide +kernel), rfl, by decide, by decide +kernel, ⟨by decide +kernel, by decide +kernel⟩, ckX4_need, by decide +kernel⟩
theorem moX0_flipNeed : axGood mtX0_flipNeed := ⟨List.mem_of_getElem? (i := 306) (by decide +kernel), List.mem_of_getElem? (i := 61) (by decide +kernel), rfl, by decide, by decide +kernel, ⟨by decide +kernel, by decide +kernel⟩, ckX0_flipNeed, by decide +kernel⟩
theorem moX0_needsOf : axGood mtX0_needsOf := ⟨List.mem_of_getElem? (i := 310) (by decide +kernel), List.mem_of_getElem? (i := 61) (by decide +kernel), rfl, by decide, by decide +kernel, ⟨by decide +kernel, by decide +kernel⟩, ckX0_needsOf, by decide +kernel⟩
theorem moJ_bitCount : axGood mtJ_bitCount := ⟨List.mem_of_getElem? (i := 313) (by decide +kernel), List.mem_of_getElem? (i := 68) (by decide +kernel), rfl, by decide, by decide +kernel, ⟨by decide +kernel, by decide +kernel⟩, ckJ_bitCount, by decide +kernel⟩
theorem moX4_trim : axGood mtX4_trim := ⟨List.mem_of_getElem? (i := 320) (by decide +kernel), List.mem_of_getElem? (i := 60) (by decide +kernel), rfl, by decide, by decide +kernel, ⟨by decide +kernel, by decide +kernel⟩, ckX4_trim, by decide +kernel⟩
theorem moX0_trimSlug : axGood mtX0_trimSlug := ⟨List.mem_of_getElem? (i := 324) (by decide +kernel), List.mem_of_getElem? (i := 61) (by decide +kernel), rfl, by decide, by decide +kernel, ⟨by decide +kernel, by decide +kernel⟩, ckX0_trimSlug, by decide +kernel⟩
theorem moX0_roomOf : axGood mtX0_roomOf := ⟨List.mem_of_getElem? (i := 328) (by decide +kernel), List.mem_of_getElem? (i := 61) (by decide +kernel), rfl, by decide, by decide +kernel, ⟨by decide +kernel, by decide +kernel⟩, ckX0_roomOf, by decide +kernel⟩
theorem moX0_beatsOf : axGood mtX0_beatsOf := ⟨List.mem_of_getElem? (i := 335) (by decide +kernel), List.mem_of_getElem? (i := 61) (by decide +kernel), rfl, by decide, by decide +kernel, ⟨by decide +kernel, by decide +kernel⟩, ckX0_beatsOf, by decide +kernel⟩
theorem moX4_restoreTail : axGood mtX4_restoreTail := ⟨List.mem_of_getElem? (i := 339) (by decide +kernel), List.mem_of_getElem? (i := 60) (by decide +kernel), rfl, by decide, by decide +kernel, ⟨by decide +kernel, by decide +kernel⟩, ckX4_restoreTail, by decide +kernel⟩
theorem moX0_giveBack : axGood mtX0_giveBack := ⟨List.mem_of_getElem? (i := 343) (by decide +kernel), List.mem_of_getElem? (i := 61) (by decide +kernel), rfl, by decide, by decide +kernel, ⟨by decide +kernel, by decide +kernel⟩, ckX0_giveBack, by decide +kernel⟩
theorem moX0_writtenOf : axGood mtX0_writtenOf := ⟨List.mem_of_getElem? (i := 347) (by decide +kernel), List.mem_of_getElem? (i := 61) (by decide +kernel), rfl, by decide, by decide +kernel, ⟨by decide +kernel, by decide +kernel⟩, ckX0_writtenOf, by decide +kernel⟩
theorem moX4_move : axGood mtX4_move := ⟨List.mem_of_getElem? (i := 351) (by decide +kernel), List.mem_of_getElem? (i := 60) (by decide +kernel), rfl, by decide, by decide +kernel, ⟨by decide +kernel, by decide +kernel⟩, ckX4_move, by decide +kernel⟩
theorem moX0_moveSlug : axGood mtX0_moveSlug := ⟨List.mem_of_getElem? (i := 355) (by decide +kernel), List.mem_of_getElem? (i := 61) (by decide +kernel), rfl, by decide, by decide +kernel, ⟨by decide +kernel, by decide +kernel⟩, ckX0_moveSlug, by decide +kernel⟩
theorem moX0_mayStandIn : axGood mtX0_mayStandIn := ⟨List.mem_of_getElem? (i := 359) (by decide +kernel), List.mem_of_getElem? (i := 61) (by decide +kernel), rfl, by decide, by decide +kernel, ⟨by decide +kernel, by decide +kernel⟩, ckX0_mayStandIn, by decide +kernel⟩
theorem moX0_lowestPlace : axGood mtX0_lowestPlace := ⟨List.mem_of_getElem? (i := 363) (by decide +kernel), List.mem_of_getElem? (i := 61) (by decide +kernel), rfl, by decide, by decide +kernel, ⟨by decide +kernel, by decide +kernel⟩, ckX0_lowestPlace, by decide +kernel⟩
theorem moX0_highestPlace : axGood mtX0_highestPlace := ⟨List.mem_of_getElem? (i := 367) (by decide +kernel), List.mem_of_getElem? (i := 61) (by decide +kernel), rfl, by decide, by decide +kernel, ⟨by decide +kernel, by decide +kernel⟩, ckX0_highestPlace, by decide +kernel⟩
theorem moX4_swap : axGood mtX4_swap := ⟨List.mem_of_getElem? (i := 371) (by decide +kernel), List.mem_of_getElem? (i := 60) (by decide +kernel), rfl, by decide, by decide +kernel, ⟨by decide +kernel, by decide +kernel⟩, ckX4_swap, by decide +kernel⟩
theorem moX0_swapSlugs : axGood mtX0_swapSlugs := ⟨List.mem_of_getElem? (i := 375) (by decide +kernel), List.mem_of_getElem? (i := 61) (by decide +kernel), rfl, by decide, by decide +kernel, ⟨by decide +kernel, by decide +kernel⟩, ckX0_swapSlugs, by decide +kernel⟩
theorem moX4_split : axGood mtX4_split := ⟨List.mem_of_getElem? (i := 382) (by decide +kernel), List.mem_of_getElem? (i := 60) (by decide +kernel), rfl, by decide, by decide +kernel, ⟨by decide +kernel, by decide +kernel⟩, ckX4_split, by decide +kernel⟩
theorem moX0_splitSlug : axGood mtX0_splitSlug := ⟨List.mem_of_getElem? (i := 386) (by decide +kernel), List.mem_of_getElem? (i := 61) (by decide +kernel), rfl, by decide, by decide +kernel, ⟨by decide +kernel, by decide +kernel⟩, ckX0_splitSlug, by decide +kernel⟩
theorem moX0_handOverNeeds : axGood mtX0_handOverNeeds := ⟨List.mem_of_getElem? (i := 390) (by decide +kernel), List.mem_of_getElem? (i := 61) (by decide +kernel), rfl, by decide, by decide +kernel, ⟨by decide +kernel, by decide +kernel⟩, ckX0_handOverNeeds, by decide +kernel⟩
theorem moX0_handOverTurn : axGood mtX0_handOverTurn := ⟨List.mem_of_getElem? (i := 394) (by decide +kernel), List.mem_of_getElem? (i := 61) (by decide +kernel), rfl, by decide, by decide +kernel, ⟨by decide +kernel, by decide +kernel⟩, ckX0_handOverTurn, by decide +kernel⟩
theorem moX4_fit : axGood mtX4_fit := ⟨List.mem_of_getElem? (i := 398) (by decide +kernel), List.mem_of_getElem? (i := 60) (by decide +kernel), rfl, by decide, by decide +kernel, ⟨by decide +kernel, by decide +kernel⟩, ckX4_fit, by decide +kernel⟩
theorem moX0_fitAct : axGood mtX0_fitAct := ⟨List.mem_of_getElem? (i := 402) (by decide +kernel), List.mem_of_getElem? (i := 61) (by decide +kernel), rfl, by decide, by decide +kernel, ⟨by decide +kernel, by decide +kernel⟩, ckX0_fitAct, by decide +kernel⟩
theorem moX0_cutOf : axGood mtX0_cutOf := ⟨List.mem_of_getElem? (i := 406) (by decide +kernel), List.mem_of_getElem? (i := 61) (by decide +kernel), rfl, by decide, by decide +kernel, ⟨by decide +kernel, by decide +kernel⟩, ckX0_cutOf, by decide +kernel⟩
theorem moX0_hasAct : axGood mtX0_hasAct := ⟨List.mem_of_getElem? (i := 410) (by decide +kernel), List.mem_of_getElem? (i := 61) (by decide +kernel), rfl, by decide, by decide +kernel, ⟨by decide +kernel, by decide +kernel⟩, ckX0_hasAct, by decide +kernel⟩
theorem moX0_actCount : axGood mtX0_actCount := ⟨List.mem_of_getElem? (i := 414) (by decide +kernel), List.mem_of_getElem? (i := 61) (by decide +kernel), rfl, by decide, by decide +kernel, ⟨by decide +kernel, by decide +kernel⟩, ckX0_actCount, by decide +kernel⟩
theorem moX0_offOf : axGood mtX0_offOf := ⟨List.mem_of_getElem? (i := 418) (by decide +kernel), List.mem_of_getElem? (i := 61) (by decide +kernel), rfl, by decide, by decide +kernel, ⟨by decide +kernel, by decide +kernel⟩, ckX0_offOf, by decide +kernel⟩
theorem moX0_startOf : axGood mtX0_startOf := ⟨List.mem_of_getElem? (i := 422) (by decide +kernel), List.mem_of_getElem? (i := 61) (by decide +kernel), rfl, by decide, by decide +kernel, ⟨by decide +kernel, by decide +kernel⟩, ckX0_startOf, by decide +kernel⟩
theorem moX0_beatsIn : axGood mtX0_beatsIn := ⟨List.mem_of_getElem? (i := 426) (by decide +kernel), List.mem_of_getElem? (i := 61) (by decide +kernel), rfl, by decide, by decide +kernel, ⟨by decide +kernel, by decide +kernel⟩, ckX0_beatsIn, by decide +kernel⟩
theorem moX0_targetOf : axGood mtX0_targetOf := ⟨List.mem_of_getElem? (i := 430) (by decide +kernel), List.mem_of_getElem? (i := 61) (by decide +kernel), rfl, by decide, by decide +kernel, ⟨by decide +kernel, by decide +kernel⟩, ckX0_targetOf, by decide +kernel⟩
theorem moX0_roomIn : axGood mtX0_roomIn := ⟨List.mem_of_getElem? (i := 435) (by decide +kernel), List.mem_of_getElem? (i := 61) (by decide +kernel), rfl, by decide, by decide +kernel, ⟨by decide +kernel, by decide +kernel⟩, ckX0_roomIn, by decide +kernel⟩
theorem moX0_settingOf : axGood mtX0_settingOf := ⟨List.mem_of_getElem? (i := 439) (by decide +kernel), List.mem_of_getElem? (i := 61) (by decide +kernel), rfl, by decide, by decide +kernel, ⟨by decide +kernel, by decide +kernel⟩, ckX0_settingOf, by decide +kernel⟩
theorem moX4_of : axGood mtX4_of := ⟨List.mem_of_getElem? (i := 443) (by decide +kernel), List.mem_of_getElem? (i := 60) (by decide +kernel), rfl, by decide, by decide +kernel, ⟨by decide +kernel, by decide +kernel⟩, ckX4_of, by decide +kernel⟩
theorem moX0_needersOf : axGood mtX0_needersOf := ⟨List.mem_of_getElem? (i := 453) (by decide +kernel), List.mem_of_getElem? (i := 61) (by decide +kernel), rfl, by decide, by decide +kernel, ⟨by decide +kernel, by decide +kernel⟩, ckX0_needersOf, by decide +kernel⟩
theorem moX0_pageBeats : axGood mtX0_pageBeats := ⟨List.mem_of_getElem? (i := 458) (by decide +kernel), List.mem_of_getElem? (i := 61) (by decide +kernel), rfl, by decide, by decide +kernel, ⟨by decide +kernel, by decide +kernel⟩, ckX0_pageBeats, by decide +kernel⟩
theorem moX0_turnsAhead : axGood mtX0_turnsAhead := ⟨List.mem_of_getElem? (i := 462) (by decide +kernel), List.mem_of_getElem? (i := 61) (by decide +kernel), rfl, by decide, by decide +kernel, ⟨by decide +kernel, by decide +kernel⟩, ckX0_turnsAhead, by decide +kernel⟩
theorem moX4_at : axGood mtX4_at := ⟨List.mem_of_getElem? (i := 467) (by decide +kernel), List.mem_of_getElem? (i := 60) (by decide +kernel), rfl, by decide, by decide +kernel, ⟨by decide +kernel, by decide +kernel⟩, ckX4_at, by decide +kernel⟩
theorem moX0_slugIn : axGood mtX0_slugIn := ⟨List.mem_of_getElem? (i := 471) (by decide +kernel), List.mem_of_getElem? (i := 61) (by decide +kernel), rfl, by decide, by decide +kernel, ⟨by decide +kernel, by decide +kernel⟩, ckX0_slugIn, by decide +kernel⟩
theorem moX4_atBeat : axGood mtX4_atBeat := ⟨List.mem_of_getElem? (i := 475) (by decide +kernel), List.mem_of_getElem? (i := 60) (by decide +kernel), rfl, by decide, by decide +kernel, ⟨by decide +kernel, by decide +kernel⟩, ckX4_atBeat, by decide +kernel⟩
theorem moX0_slugAtBeat : axGood mtX0_slugAtBeat := ⟨List.mem_of_getElem? (i := 479) (by decide +kernel), List.mem_of_getElem? (i := 61) (by decide +kernel), rfl, by decide, by decide +kernel, ⟨by decide +kernel, by decide +kernel⟩, ckX0_slugAtBeat, by decide +kernel⟩
theorem moX4_ofAct : axGood mtX4_ofAct := ⟨List.mem_of_getElem? (i := 483) (by decide +kernel), List.mem_of_getElem? (i := 60) (by decide +kernel), rfl, by decide, by decide +kernel, ⟨by decide +kernel, by decide +kernel⟩, ckX4_ofAct, by decide +kernel⟩
theorem moX0_isFitting : axGood mtX0_isFitting := ⟨List.mem_of_getElem? (i := 491) (by decide +kernel), List.mem_of_getElem? (i := 61) (by decide +kernel), rfl, by decide, by decide +kernel, ⟨by decide +kernel, by decide +kernel⟩, ckX0_isFitting, by decide +kernel⟩
theorem moX0_isOpen : axGood mtX0_isOpen := ⟨List.mem_of_getElem? (i := 495) (by decide +kernel), List.mem_of_getElem? (i := 61) (by decide +kernel), rfl, by decide, by decide +kernel, ⟨by decide +kernel, by decide +kernel⟩, ckX0_isOpen, by decide +kernel⟩
theorem moX4_count : axGood mtX4_count := ⟨List.mem_of_getElem? (i := 501) (by decide +kernel), List.mem_of_getElem? (i := 60) (by decide +kernel), rfl, by decide, by decide +kernel, ⟨by decide +kernel, by decide +kernel⟩, ckX4_count, by decide +kernel⟩
theorem moX0_allSlugs : axGood mtX0_allSlugs := ⟨List.mem_of_getElem? (i := 505) (by decide +kernel), List.mem_of_getElem? (i := 61) (by decide +kernel), rfl, by decide, by decide +kernel, ⟨by decide +kernel, by decide +kernel⟩, ckX0_allSlugs, by decide +kernel⟩
theorem moX0_allBeats : axGood mtX0_allBeats := ⟨List.mem_of_getElem? (i := 510) (by decide +kernel), List.mem_of_getElem? (i := 61) (by decide +kernel), rfl, by decide, by decide +kernel, ⟨by decide +kernel, by decide +kernel⟩, ckX0_allBeats, by decide +kernel⟩
theorem moX0_offTogether : axGood mtX0_offTogether := ⟨List.mem_of_getElem? (i := 514) (by decide +kernel), List.mem_of_getElem? (i := 61) (by decide +kernel), rfl, by decide, by decide +kernel, ⟨by decide +kernel, by decide +kernel⟩, ckX0_offTogether, by decide +kernel⟩
theorem moX0_offOfRow : axGood mtX0_offOfRow := ⟨List.mem_of_getElem? (i := 518) (by decide +kernel), List.mem_of_getElem? (i := 61) (by decide +kernel), rfl, by decide, by decide +kernel, ⟨by decide +kernel, by decide +kernel⟩, ckX0_offOfRow, by decide +kernel⟩
theorem moX0_fittingActs : axGood mtX0_fittingActs := ⟨List.mem_of_getElem? (i := 522) (by decide +kernel), List.mem_of_getElem? (i := 61) (by decide +kernel), rfl, by decide, by decide +kernel, ⟨by decide +kernel, by decide +kernel⟩, ckX0_fittingActs, by decide +kernel⟩
theorem moX0_longestSlug : axGood mtX0_longestSlug := ⟨List.mem_of_getElem? (i := 527) (by decide +kernel), List.mem_of_getElem? (i := 61) (by decide +kernel), rfl, by decide, by decide +kernel, ⟨by decide +kernel, by decide +kernel⟩, ckX0_longestSlug, by decide +kernel⟩
theorem moX2_size : axGood mtX2_size := ⟨List.mem_of_getElem? (i := 532) (by decide +kernel), List.mem_of_getElem? (i := 63) (by decide +kernel), rfl, by decide, by decide +kernel, ⟨by decide +kernel, by decide +kernel⟩, ckX2_size, by decide +kernel⟩
theorem moX1_size : axGood mtX1_size := ⟨List.mem_of_getElem? (i := 536) (by decide +kernel), List.mem_of_getElem? (i := 62) (by decide +kernel), rfl, by decide, by decide +kernel, ⟨by decide +kernel, by decide +kernel⟩, ckX1_size, by decide +kernel⟩
theorem moX4_places : axGood mtX4_places := ⟨List.mem_of_getElem? (i := 540) (by decide +kernel), List.mem_of_getElem? (i := 60) (by decide +kernel), rfl, by decide, by decide +kernel, ⟨by decide +kernel, by decide +kernel⟩, ckX4_places, by decide +kernel⟩
theorem moX4_bestSwap : axGood mtX4_bestSwap := ⟨List.mem_of_getElem? (i := 547) (by decide +kernel), List.mem_of_getElem? (i := 60) (by decide +kernel), rfl, by decide, by decide +kernel, ⟨by decide +kernel, by decide +kernel⟩, ckX4_bestSwap, by decide +kernel⟩
theorem moX3_run : axGood mtX3_run := ⟨List.mem_of_getElem? (i := 551) (by decide +kernel), List.mem_of_getElem? (i := 64) (by decide +kernel), rfl, by decide, by decide +kernel, ⟨by decide +kernel, by decide +kernel⟩, ckX3_run, by decide +kernel⟩
theorem moX0_size : axGood mtX0_size := ⟨List.mem_of_getElem? (i := 556) (by decide +kernel), List.mem_of_getElem? (i := 61) (by decide +kernel), rfl, by decide, by decide +kernel, ⟨by decide +kernel, by decide +kernel⟩, ckX0_size, by decide +kernel⟩
theorem moX3_tryAllBehind : axGood mtX3_tryAllBehind := ⟨List.mem_of_getElem? (i := 562) (by decide +kernel), List.mem_of_getElem? (i := 64) (by decide +kernel), rfl, by decide, by decide +kernel, ⟨by decide +kernel, by decide +kernel⟩, ckX3_tryAllBehind, by decide +kernel⟩
theorem moX3_tryOne : axGood mtX3_tryOne := ⟨List.mem_of_getElem? (i := 568) (by decide +kernel), List.mem_of_getElem? (i := 64) (by decide +kernel), rfl, by decide, by decide +kernel, ⟨by decide +kernel, by decide +kernel⟩, ckX3_tryOne, by decide +kernel⟩
theorem moX3_exchange : axGood mtX3_exchange := ⟨List.mem_of_getElem? (i := 572) (by decide +kernel), List.mem_of_getElem? (i := 64) (by decide +kernel), rfl, by decide, by decide +kernel, ⟨by decide +kernel, by decide +kernel⟩, ckX3_exchange, by decide +kernel⟩
theorem moX0_allTurns : axGood mtX0_allTurns := ⟨List.mem_of_getElem? (i := 577) (by decide +kernel), List.mem_of_getElem? (i := 61) (by decide +kernel), rfl, by decide, by decide +kernel, ⟨by decide +kernel, by decide +kernel⟩, ckX0_allTurns, by decide +kernel⟩
theorem moX3_isFound : axGood mtX3_isFound := ⟨List.mem_of_getElem? (i := 582) (by decide +kernel), List.mem_of_getElem? (i := 64) (by decide +kernel), rfl, by decide, by decide +kernel, ⟨by decide +kernel, by decide +kernel⟩, ckX3_isFound, by decide +kernel⟩
theorem moX3_lowerPlace : axGood mtX3_lowerPlace := ⟨List.mem_of_getElem? (i := 586) (by decide +kernel), List.mem_of_getElem? (i := 64) (by decide +kernel), rfl, by decide, by decide +kernel, ⟨by decide +kernel, by decide +kernel⟩, ckX3_lowerPlace, by decide +kernel⟩
theorem moX3_higherPlace : axGood mtX3_higherPlace := ⟨List.mem_of_getElem? (i := 590) (by decide +kernel), List.mem_of_getElem? (i := 64) (by decide +kernel), rfl, by decide, by decide +kernel, ⟨by decide +kernel, by decide +kernel⟩, ckX3_higherPlace, by decide +kernel⟩
theorem moX3_leastOff : axGood mtX3_leastOff := ⟨List.mem_of_getElem? (i := 594) (by decide +kernel), List.mem_of_getElem? (i := 64) (by decide +kernel), rfl, by decide, by decide +kernel, ⟨by decide +kernel, by decide +kernel⟩, ckX3_leastOff, by decide +kernel⟩
theorem moX4_ifFitted : axGood mtX4_ifFitted := ⟨List.mem_of_getElem? (i := 598) (by decide +kernel), List.mem_of_getElem? (i := 60) (by decide +kernel), rfl, by decide, by decide +kernel, ⟨by decide +kernel, by decide +kernel⟩, ckX4_ifFitted, by decide +kernel⟩
theorem moX4_ifTurned : axGood mtX4_ifTurned := ⟨List.mem_of_getElem? (i := 603) (by decide +kernel), List.mem_of_getElem? (i := 60) (by decide +kernel), rfl, by decide, by decide +kernel, ⟨by decide +kernel, by decide +kernel⟩, ckX4_ifTurned, by decide +kernel⟩
theorem moX0_offIfTurned : axGood mtX0_offIfTurned := ⟨List.mem_of_getElem? (i := 607) (by decide +kernel), List.mem_of_getElem? (i := 61) (by decide +kernel), rfl, by decide, by decide +kernel, ⟨by decide +kernel, by decide +kernel⟩, ckX0_offIfTurned, by decide +kernel⟩
theorem moX4_needs : axGood mtX4_needs := ⟨List.mem_of_getElem? (i := 611) (by decide +kernel), List.mem_of_getElem? (i := 60) (by decide +kernel), rfl, by decide, by decide +kernel, ⟨by decide +kernel, by decide +kernel⟩, ckX4_needs, by decide +kernel⟩
theorem moX0_allNeedsOf : axGood mtX0_allNeedsOf := ⟨List.mem_of_getElem? (i := 615) (by decide +kernel), List.mem_of_getElem? (i := 61) (by decide +kernel), rfl, by decide, by decide +kernel, ⟨by decide +kernel, by decide +kernel⟩, ckX0_allNeedsOf, by decide +kernel⟩
theorem moX4_put : axGood mtX4_put := ⟨List.mem_of_getElem? (i := 619) (by decide +kernel), List.mem_of_getElem? (i := 60) (by decide +kernel), rfl, by decide, by decide +kernel, ⟨by decide +kernel, by decide +kernel⟩, ckX4_put, by decide +kernel⟩
theorem moX2_append : axGood mtX2_append := ⟨List.mem_of_getElem? (i := 623) (by decide +kernel), List.mem_of_getElem? (i := 63) (by decide +kernel), rfl, by decide, by decide +kernel, ⟨by decide +kernel, by decide +kernel⟩, ckX2_append, by decide +kernel⟩
theorem moX2_signsOf : axGood mtX2_signsOf := ⟨List.mem_of_getElem? (i := 626) (by decide +kernel), List.mem_of_getElem? (i := 63) (by decide +kernel), rfl, by decide, by decide +kernel, ⟨by decide +kernel, by decide +kernel⟩, ckX2_signsOf, by decide +kernel⟩
theorem moX2_codeOf : axGood mtX2_codeOf := ⟨List.mem_of_getElem? (i := 629) (by decide +kernel), List.mem_of_getElem? (i := 63) (by decide +kernel), rfl, by decide, by decide +kernel, ⟨by decide +kernel, by decide +kernel⟩, ckX2_codeOf, by decide +kernel⟩
theorem moX2_addSign : axGood mtX2_addSign := ⟨List.mem_of_getElem? (i := 633) (by decide +kernel), List.mem_of_getElem? (i := 63) (by decide +kernel), rfl, by decide, by decide +kernel, ⟨by decide +kernel, by decide +kernel⟩, ckX2_addSign, by decide +kernel⟩
theorem moX4_wipe : axGood mtX4_wipe := ⟨List.mem_of_getElem? (i := 637) (by decide +kernel), List.mem_of_getElem? (i := 60) (by decide +kernel), rfl, by decide, by decide +kernel, ⟨by decide +kernel, by decide +kernel⟩, ckX4_wipe, by decide +kernel⟩
theorem moX2_clear : axGood mtX2_clear := ⟨List.mem_of_getElem? (i := 641) (by decide +kernel), List.mem_of_getElem? (i := 63) (by decide +kernel), rfl, by decide, by decide +kernel, ⟨by decide +kernel, by decide +kernel⟩, ckX2_clear, by decide +kernel⟩
theorem moX4_fault : axGood mtX4_fault := ⟨List.mem_of_getElem? (i := 645) (by decide +kernel), List.mem_of_getElem? (i := 60) (by decide +kernel), rfl, by decide, by decide +kernel, ⟨by decide +kernel, by decide +kernel⟩, ckX4_fault, by decide +kernel⟩
theorem moX2_firstFault : axGood mtX2_firstFault := ⟨List.mem_of_getElem? (i := 649) (by decide +kernel), List.mem_of_getElem? (i := 63) (by decide +kernel), rfl, by decide, by decide +kernel, ⟨by decide +kernel, by decide +kernel⟩, ckX2_firstFault, by decide +kernel⟩
theorem moX2_rewind : axGood mtX2_rewind := ⟨List.mem_of_getElem? (i := 653) (by decide +kernel), List.mem_of_getElem? (i := 63) (by decide +kernel), rfl, by decide, by decide +kernel, ⟨by decide +kernel, by decide +kernel⟩, ckX2_rewind, by decide +kernel⟩
theorem moX2_readOrder : axGood mtX2_readOrder := ⟨List.mem_of_getElem? (i := 657) (by decide +kernel), List.mem_of_getElem? (i := 63) (by decide +kernel), rfl, by decide, by decide +kernel, ⟨by decide +kernel, by decide +kernel⟩, ckX2_readOrder, by decide +kernel⟩
theorem moX2_signAt : axGood mtX2_signAt := ⟨List.mem_of_getElem? (i := 661) (by decide +kernel), List.mem_of_getElem? (i := 63) (by decide +kernel), rfl, by decide, by decide +kernel, ⟨by decide +kernel, by decide +kernel⟩, ckX2_signAt, by decide +kernel⟩
theorem moX2_readSlug : axGood mtX2_readSlug := ⟨List.mem_of_getElem? (i := 665) (by decide +kernel), List.mem_of_getElem? (i := 63) (by decide +kernel), rfl, by decide, by decide +kernel, ⟨by decide +kernel, by decide +kernel⟩, ckX2_readSlug, by decide +kernel⟩
theorem moX2_readNumber : axGood mtX2_readNumber := ⟨List.mem_of_getElem? (i := 669) (by decide +kernel), List.mem_of_getElem? (i := 63) (by decide +kernel), rfl, by decide, by decide +kernel, ⟨by decide +kernel, by decide +kernel⟩, ckX2_readNumber, by decide +kernel⟩
theorem moX2_readDigit : axGood mtX2_readDigit := ⟨List.mem_of_getElem? (i := 673) (by decide +kernel), List.mem_of_getElem? (i := 63) (by decide +kernel), rfl, by decide, by decide +kernel, ⟨by decide +kernel, by decide +kernel⟩, ckX2_readDigit, by decide +kernel⟩
theorem moX2_skip : axGood mtX2_skip := ⟨List.mem_of_getElem? (i := 677) (by decide +kernel), List.mem_of_getElem? (i := 63) (by decide +kernel), rfl, by decide, by decide +kernel, ⟨by decide +kernel, by decide +kernel⟩, ckX2_skip, by decide +kernel⟩
theorem moX2_readPair : axGood mtX2_readPair := ⟨List.mem_of_getElem? (i := 681) (by decide +kernel), List.mem_of_getElem? (i := 63) (by decide +kernel), rfl, by decide, by decide +kernel, ⟨by decide +kernel, by decide +kernel⟩, ckX2_readPair, by decide +kernel⟩
theorem moX2_readAct : axGood mtX2_readAct := ⟨List.mem_of_getElem? (i := 685) (by decide +kernel), List.mem_of_getElem? (i := 63) (by decide +kernel), rfl, by decide, by decide +kernel, ⟨by decide +kernel, by decide +kernel⟩, ckX2_readAct, by decide +kernel⟩
theorem moX4_carryOut : axGood mtX4_carryOut := ⟨List.mem_of_getElem? (i := 689) (by decide +kernel), List.mem_of_getElem? (i := 60) (by decide +kernel), rfl, by decide, by decide +kernel, ⟨by decide +kernel, by decide +kernel⟩, ckX4_carryOut, by decide +kernel⟩
theorem moX4_carryOrder : axGood mtX4_carryOrder := ⟨List.mem_of_getElem? (i := 695) (by decide +kernel), List.mem_of_getElem? (i := 60) (by decide +kernel), rfl, by decide, by decide +kernel, ⟨by decide +kernel, by decide +kernel⟩, ckX4_carryOrder, by decide +kernel⟩
theorem moX2_firstNumber : axGood mtX2_firstNumber := ⟨List.mem_of_getElem? (i := 699) (by decide +kernel), List.mem_of_getElem? (i := 63) (by decide +kernel), rfl, by decide, by decide +kernel, ⟨by decide +kernel, by decide +kernel⟩, ckX2_firstNumber, by decide +kernel⟩
theorem moX2_secondNumber : axGood mtX2_secondNumber := ⟨List.mem_of_getElem? (i := 703) (by decide +kernel), List.mem_of_getElem? (i := 63) (by decide +kernel), rfl, by decide, by decide +kernel, ⟨by decide +kernel, by decide +kernel⟩, ckX2_secondNumber, by decide +kernel⟩
theorem moX2_kind : axGood mtX2_kind := ⟨List.mem_of_getElem? (i := 707) (by decide +kernel), List.mem_of_getElem? (i := 63) (by decide +kernel), rfl, by decide, by decide +kernel, ⟨by decide +kernel, by decide +kernel⟩, ckX2_kind, by decide +kernel⟩
theorem moX4_undo : axGood mtX4_undo := ⟨List.mem_of_getElem? (i := 712) (by decide +kernel), List.mem_of_getElem? (i := 60) (by decide +kernel), rfl, by decide, by decide +kernel, ⟨by decide +kernel, by decide +kernel⟩, ckX4_undo, by decide +kernel⟩
theorem moX1_takeBack : axGood mtX1_takeBack := ⟨List.mem_of_getElem? (i := 716) (by decide +kernel), List.mem_of_getElem? (i := 62) (by decide +kernel), rfl, by decide, by decide +kernel, ⟨by decide +kernel, by decide +kernel⟩, ckX1_takeBack, by decide +kernel⟩
theorem moX4_save : axGood mtX4_save := ⟨List.mem_of_getElem? (i := 721) (by decide +kernel), List.mem_of_getElem? (i := 60) (by decide +kernel), rfl, by decide, by decide +kernel, ⟨by decide +kernel, by decide +kernel⟩, ckX4_save, by decide +kernel⟩
theorem moX4_restore : axGood mtX4_restore := ⟨List.mem_of_getElem? (i := 726) (by decide +kernel), List.mem_of_getElem? (i := 60) (by decide +kernel), rfl, by decide, by decide +kernel, ⟨by decide +kernel, by decide +kernel⟩, ckX4_restore, by decide +kernel⟩
theorem moX5_init : axGood mtX5_init := ⟨List.mem_of_getElem? (i := 731) (by decide +kernel), List.mem_of_getElem? (i := 65) (by decide +kernel), rfl, by decide, by decide +kernel, ⟨by decide +kernel, by decide +kernel⟩, ckX5_init, by decide +kernel⟩
theorem moX5_set : axGood mtX5_set := ⟨List.mem_of_getElem? (i := 780) (by decide +kernel), List.mem_of_getElem? (i := 65) (by decide +kernel), rfl, by decide, by decide +kernel, ⟨by decide +kernel, by decide +kernel⟩, ckX5_set, by decide +kernel⟩
theorem moX5_in : axGood mtX5_in := ⟨List.mem_of_getElem? (i := 783) (by decide +kernel), List.mem_of_getElem? (i := 65) (by decide +kernel), rfl, by decide, by decide +kernel, ⟨by decide +kernel, by decide +kernel⟩, ckX5_in, by decide +kernel⟩
theorem moX5_isValue : axGood mtX5_isValue := ⟨List.mem_of_getElem? (i := 786) (by decide +kernel), List.mem_of_getElem? (i := 65) (by decide +kernel), rfl, by decide, by decide +kernel, ⟨by decide +kernel, by decide +kernel⟩, ckX5_isValue, by decide +kernel⟩
theorem moX5_record : axGood mtX5_record := ⟨List.mem_of_getElem? (i := 790) (by decide +kernel), List.mem_of_getElem? (i := 65) (by decide +kernel), rfl, by decide, by decide +kernel, ⟨by decide +kernel, by decide +kernel⟩, ckX5_record, by decide +kernel⟩
theorem moX5_copy : axGood mtX5_copy := ⟨List.mem_of_getElem? (i := 793) (by decide +kernel), List.mem_of_getElem? (i := 65) (by decide +kernel), rfl, by decide, by decide +kernel, ⟨by decide +kernel, by decide +kernel⟩, ckX5_copy, by decide +kernel⟩
theorem moX5_target : axGood mtX5_target := ⟨List.mem_of_getElem? (i := 797) (by decide +kernel), List.mem_of_getElem? (i := 65) (by decide +kernel), rfl, by decide, by decide +kernel, ⟨by decide +kernel, by decide +kernel⟩, ckX5_target, by decide +kernel⟩
theorem moX5_slug : axGood mtX5_slug := ⟨List.mem_of_getElem? (i := 801) (by decide +kernel), List.mem_of_getElem? (i := 65) (by decide +kernel), rfl, by decide, by decide +kernel, ⟨by decide +kernel, by decide +kernel⟩, ckX5_slug, by decide +kernel⟩
theorem moX5_begins : axGood mtX5_begins := ⟨List.mem_of_getElem? (i := 805) (by decide +kernel), List.mem_of_getElem? (i := 65) (by decide +kernel), rfl, by decide, by decide +kernel, ⟨by decide +kernel, by decide +kernel⟩, ckX5_begins, by decide +kernel⟩
theorem moX5_doSlug : axGood mtX5_doSlug := ⟨List.mem_of_getElem? (i := 809) (by decide +kernel), List.mem_of_getElem? (i := 65) (by decide +kernel), rfl, by decide, by decide +kernel, ⟨by decide +kernel, by decide +kernel⟩, ckX5_doSlug, by decide +kernel⟩
theorem moX5_freeNumber : axGood mtX5_freeNumber := ⟨List.mem_of_getElem? (i := 813) (by decide +kernel), List.mem_of_getElem? (i := 65) (by decide +kernel), rfl, by decide, by decide +kernel, ⟨by decide +kernel, by decide +kernel⟩, ckX5_freeNumber, by decide +kernel⟩
theorem moX5_get : axGood mtX5_get := ⟨List.mem_of_getElem? (i := 817) (by decide +kernel), List.mem_of_getElem? (i := 65) (by decide +kernel), rfl, by decide, by decide +kernel, ⟨by decide +kernel, by decide +kernel⟩, ckX5_get, by decide +kernel⟩
theorem moX5_lay : axGood mtX5_lay := ⟨List.mem_of_getElem? (i := 821) (by decide +kernel), List.mem_of_getElem? (i := 65) (by decide +kernel), rfl, by decide, by decide +kernel, ⟨by decide +kernel, by decide +kernel⟩, ckX5_lay, by decide +kernel⟩
theorem moX5_putIn : axGood mtX5_putIn := ⟨List.mem_of_getElem? (i := 825) (by decide +kernel), List.mem_of_getElem? (i := 65) (by decide +kernel), rfl, by decide, by decide +kernel, ⟨by decide +kernel, by decide +kernel⟩, ckX5_putIn, by decide +kernel⟩
theorem moX5_ends : axGood mtX5_ends := ⟨List.mem_of_getElem? (i := 829) (by decide +kernel), List.mem_of_getElem? (i := 65) (by decide +kernel), rfl, by decide, by decide +kernel, ⟨by decide +kernel, by decide +kernel⟩, ckX5_ends, by decide +kernel⟩
theorem moX5_drop : axGood mtX5_drop := ⟨List.mem_of_getElem? (i := 833) (by decide +kernel), List.mem_of_getElem? (i := 65) (by decide +kernel), rfl, by decide, by decide +kernel, ⟨by decide +kernel, by decide +kernel⟩, ckX5_drop, by decide +kernel⟩
theorem moX5_isSlug : axGood mtX5_isSlug := ⟨List.mem_of_getElem? (i := 837) (by decide +kernel), List.mem_of_getElem? (i := 65) (by decide +kernel), rfl, by decide, by decide +kernel, ⟨by decide +kernel, by decide +kernel⟩, ckX5_isSlug, by decide +kernel⟩
theorem moX5_placeOf : axGood mtX5_placeOf := ⟨List.mem_of_getElem? (i := 841) (by decide +kernel), List.mem_of_getElem? (i := 65) (by decide +kernel), rfl, by decide, by decide +kernel, ⟨by decide +kernel, by decide +kernel⟩, ckX5_placeOf, by decide +kernel⟩
theorem moX5_takeOut : axGood mtX5_takeOut := ⟨List.mem_of_getElem? (i := 845) (by decide +kernel), List.mem_of_getElem? (i := 65) (by decide +kernel), rfl, by decide, by decide +kernel, ⟨by decide +kernel, by decide +kernel⟩, ckX5_takeOut, by decide +kernel⟩
theorem moX5_turn : axGood mtX5_turn := ⟨List.mem_of_getElem? (i := 849) (by decide +kernel), List.mem_of_getElem? (i := 65) (by decide +kernel), rfl, by decide, by decide +kernel, ⟨by decide +kernel, by decide +kernel⟩, ckX5_turn, by decide +kernel⟩
theorem moX5_need : axGood mtX5_need := ⟨List.mem_of_getElem? (i := 853) (by decide +kernel), List.mem_of_getElem? (i := 65) (by decide +kernel), rfl, by decide, by decide +kernel, ⟨by decide +kernel, by decide +kernel⟩, ckX5_need, by decide +kernel⟩
theorem moX5_doNeed : axGood mtX5_doNeed := ⟨List.mem_of_getElem? (i := 857) (by decide +kernel), List.mem_of_getElem? (i := 65) (by decide +kernel), rfl, by decide, by decide +kernel, ⟨by decide +kernel, by decide +kernel⟩, ckX5_doNeed, by decide +kernel⟩
theorem moX5_has : axGood mtX5_has := ⟨List.mem_of_getElem? (i := 860) (by decide +kernel), List.mem_of_getElem? (i := 65) (by decide +kernel), rfl, by decide, by decide +kernel, ⟨by decide +kernel, by decide +kernel⟩, ckX5_has, by decide +kernel⟩
theorem moX5_bits : axGood mtX5_bits := ⟨List.mem_of_getElem? (i := 863) (by decide +kernel), List.mem_of_getElem? (i := 65) (by decide +kernel), rfl, by decide, by decide +kernel, ⟨by decide +kernel, by decide +kernel⟩, ckX5_bits, by decide +kernel⟩
theorem moX5_trim : axGood mtX5_trim := ⟨List.mem_of_getElem? (i := 867) (by decide +kernel), List.mem_of_getElem? (i := 65) (by decide +kernel), rfl, by decide, by decide +kernel, ⟨by decide +kernel, by decide +kernel⟩, ckX5_trim, by decide +kernel⟩
theorem moX5_doTrim : axGood mtX5_doTrim := ⟨List.mem_of_getElem? (i := 871) (by decide +kernel), List.mem_of_getElem? (i := 65) (by decide +kernel), rfl, by decide, by decide +kernel, ⟨by decide +kernel, by decide +kernel⟩, ckX5_doTrim, by decide +kernel⟩
theorem moX5_canTrim : axGood mtX5_canTrim := ⟨List.mem_of_getElem? (i := 875) (by decide +kernel), List.mem_of_getElem? (i := 65) (by decide +kernel), rfl, by decide, by decide +kernel, ⟨by decide +kernel, by decide +kernel⟩, ckX5_canTrim, by decide +kernel⟩
theorem moX5_leastBeats : axGood mtX5_leastBeats := ⟨List.mem_of_getElem? (i := 879) (by decide +kernel), List.mem_of_getElem? (i := 65) (by decide +kernel), rfl, by decide, by decide +kernel, ⟨by decide +kernel, by decide +kernel⟩, ckX5_leastBeats, by decide +kernel⟩
theorem moX5_restoreTail : axGood mtX5_restoreTail := ⟨List.mem_of_getElem? (i := 883) (by decide +kernel), List.mem_of_getElem? (i := 65) (by decide +kernel), rfl, by decide, by decide +kernel, ⟨by decide +kernel, by decide +kernel⟩, ckX5_restoreTail, by decide +kernel⟩
theorem moX5_move : axGood mtX5_move := ⟨List.mem_of_getElem? (i := 887) (by decide +kernel), List.mem_of_getElem? (i := 65) (by decide +kernel), rfl, by decide, by decide +kernel, ⟨by decide +kernel, by decide +kernel⟩, ckX5_move, by decide +kernel⟩
theorem moX5_doMove : axGood mtX5_doMove := ⟨List.mem_of_getElem? (i := 891) (by decide +kernel), List.mem_of_getElem? (i := 65) (by decide +kernel), rfl, by decide, by decide +kernel, ⟨by decide +kernel, by decide +kernel⟩, ckX5_doMove, by decide +kernel⟩
theorem moX5_isOrdered : axGood mtX5_isOrdered := ⟨List.mem_of_getElem? (i := 895) (by decide +kernel), List.mem_of_getElem? (i := 65) (by decide +kernel), rfl, by decide, by decide +kernel, ⟨by decide +kernel, by decide +kernel⟩, ckX5_isOrdered, by decide +kernel⟩
theorem moX5_swap : axGood mtX5_swap := ⟨List.mem_of_getElem? (i := 899) (by decide +kernel), List.mem_of_getElem? (i := 65) (by decide +kernel), rfl, by decide, by decide +kernel, ⟨by decide +kernel, by decide +kernel⟩, ckX5_swap, by decide +kernel⟩
theorem moX5_doSwap : axGood mtX5_doSwap := ⟨List.mem_of_getElem? (i := 903) (by decide +kernel), List.mem_of_getElem? (i := 65) (by decide +kernel), rfl, by decide, by decide +kernel, ⟨by decide +kernel, by decide +kernel⟩, ckX5_doSwap, by decide +kernel⟩
theorem moX5_size : axGood mtX5_size := ⟨List.mem_of_getElem? (i := 906) (by decide +kernel), List.mem_of_getElem? (i := 65) (by decide +kernel), rfl, by decide, by decide +kernel, ⟨by decide +kernel, by decide +kernel⟩, ckX5_size, by decide +kernel⟩
theorem moX5_split : axGood mtX5_split := ⟨List.mem_of_getElem? (i := 910) (by decide +kernel), List.mem_of_getElem? (i := 65) (by decide +kernel), rfl, by decide, by decide +kernel, ⟨by decide +kernel, by decide +kernel⟩, ckX5_split, by decide +kernel⟩
theorem moX5_doSplit : axGood mtX5_doSplit := ⟨List.mem_of_getElem? (i := 914) (by decide +kernel), List.mem_of_getElem? (i := 65) (by decide +kernel), rfl, by decide, by decide +kernel, ⟨by decide +kernel, by decide +kernel⟩, ckX5_doSplit, by decide +kernel⟩
theorem moX5_fit : axGood mtX5_fit := ⟨List.mem_of_getElem? (i := 918) (by decide +kernel), List.mem_of_getElem? (i := 65) (by decide +kernel), rfl, by decide, by decide +kernel, ⟨by decide +kernel, by decide +kernel⟩, ckX5_fit, by decide +kernel⟩
theorem moX5_doFit : axGood mtX5_doFit := ⟨List.mem_of_getElem? (i := 922) (by decide +kernel), List.mem_of_getElem? (i := 65) (by decide +kernel), rfl, by decide, by decide +kernel, ⟨by decide +kernel, by decide +kernel⟩, ckX5_doFit, by decide +kernel⟩
theorem moX5_acts : axGood mtX5_acts := ⟨List.mem_of_getElem? (i := 926) (by decide +kernel), List.mem_of_getElem? (i := 65) (by decide +kernel), rfl, by decide, by decide +kernel, ⟨by decide +kernel, by decide +kernel⟩, ckX5_acts, by decide +kernel⟩
theorem moX5_actAt : axGood mtX5_actAt := ⟨List.mem_of_getElem? (i := 930) (by decide +kernel), List.mem_of_getElem? (i := 65) (by decide +kernel), rfl, by decide, by decide +kernel, ⟨by decide +kernel, by decide +kernel⟩, ckX5_actAt, by decide +kernel⟩
theorem moX5_off : axGood mtX5_off := ⟨List.mem_of_getElem? (i := 934) (by decide +kernel), List.mem_of_getElem? (i := 65) (by decide +kernel), rfl, by decide, by decide +kernel, ⟨by decide +kernel, by decide +kernel⟩, ckX5_off, by decide +kernel⟩
theorem moX5_sumOf : axGood mtX5_sumOf := ⟨List.mem_of_getElem? (i := 938) (by decide +kernel), List.mem_of_getElem? (i := 65) (by decide +kernel), rfl, by decide, by decide +kernel, ⟨by decide +kernel, by decide +kernel⟩, ckX5_sumOf, by decide +kernel⟩
theorem moX5_targetOf : axGood mtX5_targetOf := ⟨List.mem_of_getElem? (i := 942) (by decide +kernel), List.mem_of_getElem? (i := 65) (by decide +kernel), rfl, by decide, by decide +kernel, ⟨by decide +kernel, by decide +kernel⟩, ckX5_targetOf, by decide +kernel⟩
theorem moX5_of : axGood mtX5_of := ⟨List.mem_of_getElem? (i := 946) (by decide +kernel), List.mem_of_getElem? (i := 65) (by decide +kernel), rfl, by decide, by decide +kernel, ⟨by decide +kernel, by decide +kernel⟩, ckX5_of, by decide +kernel⟩
theorem moX5_neededBy : axGood mtX5_neededBy := ⟨List.mem_of_getElem? (i := 950) (by decide +kernel), List.mem_of_getElem? (i := 65) (by decide +kernel), rfl, by decide, by decide +kernel, ⟨by decide +kernel, by decide +kernel⟩, ckX5_neededBy, by decide +kernel⟩
theorem moX5_begin : axGood mtX5_begin := ⟨List.mem_of_getElem? (i := 954) (by decide +kernel), List.mem_of_getElem? (i := 65) (by decide +kernel), rfl, by decide, by decide +kernel, ⟨by decide +kernel, by decide +kernel⟩, ckX5_begin, by decide +kernel⟩
theorem moX5_at : axGood mtX5_at := ⟨List.mem_of_getElem? (i := 958) (by decide +kernel), List.mem_of_getElem? (i := 65) (by decide +kernel), rfl, by decide, by decide +kernel, ⟨by decide +kernel, by decide +kernel⟩, ckX5_at, by decide +kernel⟩
theorem moX5_atBeat : axGood mtX5_atBeat := ⟨List.mem_of_getElem? (i := 962) (by decide +kernel), List.mem_of_getElem? (i := 65) (by decide +kernel), rfl, by decide, by decide +kernel, ⟨by decide +kernel, by decide +kernel⟩, ckX5_atBeat, by decide +kernel⟩
theorem moX5_ofAct : axGood mtX5_ofAct := ⟨List.mem_of_getElem? (i := 966) (by decide +kernel), List.mem_of_getElem? (i := 65) (by decide +kernel), rfl, by decide, by decide +kernel, ⟨by decide +kernel, by decide +kernel⟩, ckX5_ofAct, by decide +kernel⟩
theorem moX5_fits : axGood mtX5_fits := ⟨List.mem_of_getElem? (i := 970) (by decide +kernel), List.mem_of_getElem? (i := 65) (by decide +kernel), rfl, by decide, by decide +kernel, ⟨by decide +kernel, by decide +kernel⟩, ckX5_fits, by decide +kernel⟩
theorem moX5_isOpen : axGood mtX5_isOpen := ⟨List.mem_of_getElem? (i := 974) (by decide +kernel), List.mem_of_getElem? (i := 65) (by decide +kernel), rfl, by decide, by decide +kernel, ⟨by decide +kernel, by decide +kernel⟩, ckX5_isOpen, by decide +kernel⟩
theorem moX5_beginOfAct : axGood mtX5_beginOfAct := ⟨List.mem_of_getElem? (i := 978) (by decide +kernel), List.mem_of_getElem? (i := 65) (by decide +kernel), rfl, by decide, by decide +kernel, ⟨by decide +kernel, by decide +kernel⟩, ckX5_beginOfAct, by decide +kernel⟩
theorem moX5_count : axGood mtX5_count := ⟨List.mem_of_getElem? (i := 982) (by decide +kernel), List.mem_of_getElem? (i := 65) (by decide +kernel), rfl, by decide, by decide +kernel, ⟨by decide +kernel, by decide +kernel⟩, ckX5_count, by decide +kernel⟩
theorem moX5_slugs : axGood mtX5_slugs := ⟨List.mem_of_getElem? (i := 986) (by decide +kernel), List.mem_of_getElem? (i := 65) (by decide +kernel), rfl, by decide, by decide +kernel, ⟨by decide +kernel, by decide +kernel⟩, ckX5_slugs, by decide +kernel⟩
theorem moX5_allOff : axGood mtX5_allOff := ⟨List.mem_of_getElem? (i := 990) (by decide +kernel), List.mem_of_getElem? (i := 65) (by decide +kernel), rfl, by decide, by decide +kernel, ⟨by decide +kernel, by decide +kernel⟩, ckX5_allOff, by decide +kernel⟩
theorem moX5_fitting : axGood mtX5_fitting := ⟨List.mem_of_getElem? (i := 994) (by decide +kernel), List.mem_of_getElem? (i := 65) (by decide +kernel), rfl, by decide, by decide +kernel, ⟨by decide +kernel, by decide +kernel⟩, ckX5_fitting, by decide +kernel⟩
theorem moX5_longest : axGood mtX5_longest := ⟨List.mem_of_getElem? (i := 998) (by decide +kernel), List.mem_of_getElem? (i := 65) (by decide +kernel), rfl, by decide, by decide +kernel, ⟨by decide +kernel, by decide +kernel⟩, ckX5_longest, by decide +kernel⟩
theorem moX5_places : axGood mtX5_places := ⟨List.mem_of_getElem? (i := 1002) (by decide +kernel), List.mem_of_getElem? (i := 65) (by decide +kernel), rfl, by decide, by decide +kernel, ⟨by decide +kernel, by decide +kernel⟩, ckX5_places, by decide +kernel⟩
theorem moX5_bestSwap : axGood mtX5_bestSwap := ⟨List.mem_of_getElem? (i := 1006) (by decide +kernel), List.mem_of_getElem? (i := 65) (by decide +kernel), rfl, by decide, by decide +kernel, ⟨by decide +kernel, by decide +kernel⟩, ckX5_bestSwap, by decide +kernel⟩
theorem moX5_ifFitted : axGood mtX5_ifFitted := ⟨List.mem_of_getElem? (i := 1010) (by decide +kernel), List.mem_of_getElem? (i := 65) (by decide +kernel), rfl, by decide, by decide +kernel, ⟨by decide +kernel, by decide +kernel⟩, ckX5_ifFitted, by decide +kernel⟩
theorem moX5_ifTurned : axGood mtX5_ifTurned := ⟨List.mem_of_getElem? (i := 1014) (by decide +kernel), List.mem_of_getElem? (i := 65) (by decide +kernel), rfl, by decide, by decide +kernel, ⟨by decide +kernel, by decide +kernel⟩, ckX5_ifTurned, by decide +kernel⟩
theorem moX5_needs : axGood mtX5_needs := ⟨List.mem_of_getElem? (i := 1018) (by decide +kernel), List.mem_of_getElem? (i := 65) (by decide +kernel), rfl, by decide, by decide +kernel, ⟨by decide +kernel, by decide +kernel⟩, ckX5_needs, by decide +kernel⟩
theorem moX5_put : axGood mtX5_put := ⟨List.mem_of_getElem? (i := 1022) (by decide +kernel), List.mem_of_getElem? (i := 65) (by decide +kernel), rfl, by decide, by decide +kernel, ⟨by decide +kernel, by decide +kernel⟩, ckX5_put, by decide +kernel⟩
theorem moX5_wipe : axGood mtX5_wipe := ⟨List.mem_of_getElem? (i := 1027) (by decide +kernel), List.mem_of_getElem? (i := 65) (by decide +kernel), rfl, by decide, by decide +kernel, ⟨by decide +kernel, by decide +kernel⟩, ckX5_wipe, by decide +kernel⟩
theorem moX5_fault : axGood mtX5_fault := ⟨List.mem_of_getElem? (i := 1031) (by decide +kernel), List.mem_of_getElem? (i := 65) (by decide +kernel), rfl, by decide, by decide +kernel, ⟨by decide +kernel, by decide +kernel⟩, ckX5_fault, by decide +kernel⟩
theorem moX5_readPad : axGood mtX5_readPad := ⟨List.mem_of_getElem? (i := 1035) (by decide +kernel), List.mem_of_getElem? (i := 65) (by decide +kernel), rfl, by decide, by decide +kernel, ⟨by decide +kernel, by decide +kernel⟩, ckX5_readPad, by decide +kernel⟩
theorem moX5_readOrder : axGood mtX5_readOrder := ⟨List.mem_of_getElem? (i := 1039) (by decide +kernel), List.mem_of_getElem? (i := 65) (by decide +kernel), rfl, by decide, by decide +kernel, ⟨by decide +kernel, by decide +kernel⟩, ckX5_readOrder, by decide +kernel⟩
theorem moX5_isNext : axGood mtX5_isNext := ⟨List.mem_of_getElem? (i := 1043) (by decide +kernel), List.mem_of_getElem? (i := 65) (by decide +kernel), rfl, by decide, by decide +kernel, ⟨by decide +kernel, by decide +kernel⟩, ckX5_isNext, by decide +kernel⟩
theorem moX5_readNumber : axGood mtX5_readNumber := ⟨List.mem_of_getElem? (i := 1047) (by decide +kernel), List.mem_of_getElem? (i := 65) (by decide +kernel), rfl, by decide, by decide +kernel, ⟨by decide +kernel, by decide +kernel⟩, ckX5_readNumber, by decide +kernel⟩
theorem moX5_takes : axGood mtX5_takes := ⟨List.mem_of_getElem? (i := 1051) (by decide +kernel), List.mem_of_getElem? (i := 65) (by decide +kernel), rfl, by decide, by decide +kernel, ⟨by decide +kernel, by decide +kernel⟩, ckX5_takes, by decide +kernel⟩
theorem moX5_signOf : axGood mtX5_signOf := ⟨List.mem_of_getElem? (i := 1054) (by decide +kernel), List.mem_of_getElem? (i := 65) (by decide +kernel), rfl, by decide, by decide +kernel, ⟨by decide +kernel, by decide +kernel⟩, ckX5_signOf, by decide +kernel⟩
theorem moX5_does : axGood mtX5_does := ⟨List.mem_of_getElem? (i := 1058) (by decide +kernel), List.mem_of_getElem? (i := 65) (by decide +kernel), rfl, by decide, by decide +kernel, ⟨by decide +kernel, by decide +kernel⟩, ckX5_does, by decide +kernel⟩
theorem moX5_carryOut : axGood mtX5_carryOut := ⟨List.mem_of_getElem? (i := 1062) (by decide +kernel), List.mem_of_getElem? (i := 65) (by decide +kernel), rfl, by decide, by decide +kernel, ⟨by decide +kernel, by decide +kernel⟩, ckX5_carryOut, by decide +kernel⟩
theorem moX5_undo : axGood mtX5_undo := ⟨List.mem_of_getElem? (i := 1066) (by decide +kernel), List.mem_of_getElem? (i := 65) (by decide +kernel), rfl, by decide, by decide +kernel, ⟨by decide +kernel, by decide +kernel⟩, ckX5_undo, by decide +kernel⟩
theorem moX5_save : axGood mtX5_save := ⟨List.mem_of_getElem? (i := 1070) (by decide +kernel), List.mem_of_getElem? (i := 65) (by decide +kernel), rfl, by decide, by decide +kernel, ⟨by decide +kernel, by decide +kernel⟩, ckX5_save, by decide +kernel⟩
theorem moX5_restore : axGood mtX5_restore := ⟨List.mem_of_getElem? (i := 1074) (by decide +kernel), List.mem_of_getElem? (i := 65) (by decide +kernel), rfl, by decide, by decide +kernel, ⟨by decide +kernel, by decide +kernel⟩, ckX5_restore, by decide +kernel⟩
theorem axMs0_ok : ∀ M ∈ axMs0, axGood M := List.forall_mem_cons.mpr ⟨moX4_init, List.forall_mem_cons.mpr ⟨moX0_init, List.forall_mem_cons.mpr ⟨moX1_init, List.forall_mem_cons.mpr ⟨moX2_init, List.forall_mem_cons.mpr ⟨moX3_init, List.forall_mem_cons.mpr ⟨moX4_set, List.forall_mem_cons.mpr ⟨moX1_prepare, List.forall_mem_cons.mpr ⟨moX4_copyInto, List.forall_mem_cons.mpr ⟨moX0_takeOver, List.forall_mem_cons.mpr ⟨moX0_changeSetting, List.forall_mem_cons.mpr ⟨moX4_cell, List.forall_mem_cons.mpr ⟨moX1_settle, List.forall_mem_cons.mpr ⟨moX4_target, List.forall_mem_cons.mpr ⟨moX0_changeTarget, List.forall_mem_cons.mpr ⟨moX4_slug, List.forall_mem_cons.mpr ⟨moX0_addSlug, List.forall_mem_cons.mpr ⟨moX0_makeSlug, List.forall_mem_cons.mpr ⟨moX0_lowestFree, List.forall_mem_cons.mpr ⟨moX4_contains, List.forall_mem_cons.mpr ⟨moX4_bit, List.forall_mem_cons.mpr ⟨moX4_store, List.forall_mem_cons.mpr ⟨moX0_putIn, List.forall_mem_cons.mpr ⟨moX4_drop, List.forall_mem_cons.mpr ⟨moX0_dropSlug, List.forall_mem_cons.mpr ⟨moX0_has, List.forall_mem_cons.mpr ⟨moX0_placeOf, List.forall_mem_cons.mpr ⟨moX0_takeOut, List.forall_mem_cons.mpr ⟨moX4_turn, List.forall_mem_cons.mpr ⟨moX0_flipTurn, List.forall_mem_cons.mpr ⟨moX0_isTurn, List.forall_mem_cons.mpr ⟨moX4_need, List.forall_mem_cons.mpr ⟨moX0_flipNeed, List.forall_mem_cons.mpr ⟨moX0_needsOf, List.forall_mem_cons.mpr ⟨moJ_bitCount, fun _ h => absurd h List.not_mem_nil⟩⟩⟩⟩⟩⟩⟩⟩⟩⟩⟩⟩⟩⟩⟩⟩⟩⟩⟩⟩⟩⟩⟩⟩⟩⟩⟩⟩⟩⟩⟩⟩⟩⟩
theorem axMs1_ok : ∀ M ∈ axMs1, axGood M := List.forall_mem_cons.mpr ⟨moX4_trim, List.forall_mem_cons.mpr ⟨moX0_trimSlug, List.forall_mem_cons.mpr ⟨moX0_roomOf, List.forall_mem_cons.mpr ⟨moX0_beatsOf, List.forall_mem_cons.mpr ⟨moX4_restoreTail, List.forall_mem_cons.mpr ⟨moX0_giveBack, List.forall_mem_cons.mpr ⟨moX0_writtenOf, List.forall_mem_cons.mpr ⟨moX4_move, List.forall_mem_cons.mpr ⟨moX0_moveSlug, List.forall_mem_cons.mpr ⟨moX0_mayStandIn, List.forall_mem_cons.mpr ⟨moX0_lowestPlace, List.forall_mem_cons.mpr ⟨moX0_highestPlace, List.forall_mem_cons.mpr ⟨moX4_swap, List.forall_mem_cons.mpr ⟨moX0_swapSlugs, List.forall_mem_cons.mpr ⟨moX4_split, List.forall_mem_cons.mpr ⟨moX0_splitSlug, List.forall_mem_cons.mpr ⟨moX0_handOverNeeds, List.forall_mem_cons.mpr ⟨moX0_handOverTurn, List.forall_mem_cons.mpr ⟨moX4_fit, List.forall_mem_cons.mpr ⟨moX0_fitAct, List.forall_mem_cons.mpr ⟨moX0_cutOf, List.forall_mem_cons.mpr ⟨moX0_hasAct, List.forall_mem_cons.mpr ⟨moX0_actCount, List.forall_mem_cons.mpr ⟨moX0_offOf, List.forall_mem_cons.mpr ⟨moX0_startOf, List.forall_mem_cons.mpr ⟨moX0_beatsIn, List.forall_mem_cons.mpr ⟨moX0_targetOf, List.forall_mem_cons.mpr ⟨moX0_roomIn, List.forall_mem_cons.mpr ⟨moX0_settingOf, List.forall_mem_cons.mpr ⟨moX4_of, List.forall_mem_cons.mpr ⟨moX0_needersOf, List.forall_mem_cons.mpr ⟨moX0_pageBeats, List.forall_mem_cons.mpr ⟨moX0_turnsAhead, List.forall_mem_cons.mpr ⟨moX4_at, fun _ h => absurd h List.not_mem_nil⟩⟩⟩⟩⟩⟩⟩⟩⟩⟩⟩⟩⟩⟩⟩⟩⟩⟩⟩⟩⟩⟩⟩⟩⟩⟩⟩⟩⟩⟩⟩⟩⟩⟩
theorem axMs2_ok : ∀ M ∈ axMs2, axGood M := List.forall_mem_cons.mpr ⟨moX0_slugIn, List.forall_mem_cons.mpr ⟨moX4_atBeat, List.forall_mem_cons.mpr ⟨moX0_slugAtBeat, List.forall_mem_cons.mpr ⟨moX4_ofAct, List.forall_mem_cons.mpr ⟨moX0_isFitting, List.forall_mem_cons.mpr ⟨moX0_isOpen, List.forall_mem_cons.mpr ⟨moX4_count, List.forall_mem_cons.mpr ⟨moX0_allSlugs, List.forall_mem_cons.mpr ⟨moX0_allBeats, List.forall_mem_cons.mpr ⟨moX0_offTogether, List.forall_mem_cons.mpr ⟨moX0_offOfRow, List.forall_mem_cons.mpr ⟨moX0_fittingActs, List.forall_mem_cons.mpr ⟨moX0_longestSlug, List.forall_mem_cons.mpr ⟨moX2_size, List.forall_mem_cons.mpr ⟨moX1_size, List.forall_mem_cons.mpr ⟨moX4_places, List.forall_mem_cons.mpr ⟨moX4_bestSwap, List.forall_mem_cons.mpr ⟨moX3_run, List.forall_mem_cons.mpr ⟨moX0_size, List.forall_mem_cons.mpr ⟨moX3_tryAllBehind, List.forall_mem_cons.mpr ⟨moX3_tryOne, List.forall_mem_cons.mpr ⟨moX3_exchange, List.forall_mem_cons.mpr ⟨moX0_allTurns, List.forall_mem_cons.mpr ⟨moX3_isFound, List.forall_mem_cons.mpr ⟨moX3_lowerPlace, List.forall_mem_cons.mpr ⟨moX3_higherPlace, List.forall_mem_cons.mpr ⟨moX3_leastOff, List.forall_mem_cons.mpr ⟨moX4_ifFitted, List.forall_mem_cons.mpr ⟨moX4_ifTurned, List.forall_mem_cons.mpr ⟨moX0_offIfTurned, List.forall_mem_cons.mpr ⟨moX4_needs, List.forall_mem_cons.mpr ⟨moX0_allNeedsOf, List.forall_mem_cons.mpr ⟨moX4_put, List.forall_mem_cons.mpr ⟨moX2_append, fun _ h => absurd h List.not_mem_nil⟩⟩⟩⟩⟩⟩⟩⟩⟩⟩⟩⟩⟩⟩⟩⟩⟩⟩⟩⟩⟩⟩⟩⟩⟩⟩⟩⟩⟩⟩⟩⟩⟩⟩
theorem axMs3_ok : ∀ M ∈ axMs3, axGood M := List.forall_mem_cons.mpr ⟨moX2_signsOf, List.forall_mem_cons.mpr ⟨moX2_codeOf, List.forall_mem_cons.mpr ⟨moX2_addSign, List.forall_mem_cons.mpr ⟨moX4_wipe, List.forall_mem_cons.mpr ⟨moX2_clear, List.forall_mem_cons.mpr ⟨moX4_fault, List.forall_mem_cons.mpr ⟨moX2_firstFault, List.forall_mem_cons.mpr ⟨moX2_rewind, List.forall_mem_cons.mpr ⟨moX2_readOrder, List.forall_mem_cons.mpr ⟨moX2_signAt, List.forall_mem_cons.mpr ⟨moX2_readSlug, List.forall_mem_cons.mpr ⟨moX2_readNumber, List.forall_mem_cons.mpr ⟨moX2_readDigit, List.forall_mem_cons.mpr ⟨moX2_skip, List.forall_mem_cons.mpr ⟨moX2_readPair, List.forall_mem_cons.mpr ⟨moX2_readAct, List.forall_mem_cons.mpr ⟨moX4_carryOut, List.forall_mem_cons.mpr ⟨moX4_carryOrder, List.forall_mem_cons.mpr ⟨moX2_firstNumber, List.forall_mem_cons.mpr ⟨moX2_secondNumber, List.forall_mem_cons.mpr ⟨moX2_kind, List.forall_mem_cons.mpr ⟨moX4_undo, List.forall_mem_cons.mpr ⟨moX1_takeBack, List.forall_mem_cons.mpr ⟨moX4_save, List.forall_mem_cons.mpr ⟨moX4_restore, List.forall_mem_cons.mpr ⟨moX5_init, List.forall_mem_cons.mpr ⟨moX5_set, List.forall_mem_cons.mpr ⟨moX5_in, List.forall_mem_cons.mpr ⟨moX5_isValue, List.forall_mem_cons.mpr ⟨moX5_record, List.forall_mem_cons.mpr ⟨moX5_copy, List.forall_mem_cons.mpr ⟨moX5_target, List.forall_mem_cons.mpr ⟨moX5_slug, List.forall_mem_cons.mpr ⟨moX5_begins, fun _ h => absurd h List.not_mem_nil⟩⟩⟩⟩⟩⟩⟩⟩⟩⟩⟩⟩⟩⟩⟩⟩⟩⟩⟩⟩⟩⟩⟩⟩⟩⟩⟩⟩⟩⟩⟩⟩⟩⟩
theorem axMs4_ok : ∀ M ∈ axMs4, axGood M := List.forall_mem_cons.mpr ⟨moX5_doSlug, List.forall_mem_cons.mpr ⟨moX5_freeNumber, List.forall_mem_cons.mpr ⟨moX5_get, List.forall_mem_cons.mpr ⟨moX5_lay, List.forall_mem_cons.mpr ⟨moX5_putIn, List.forall_mem_cons.mpr ⟨moX5_ends, List.forall_mem_cons.mpr ⟨moX5_drop, List.forall_mem_cons.mpr ⟨moX5_isSlug, List.forall_mem_cons.mpr ⟨moX5_placeOf, List.forall_mem_cons.mpr ⟨moX5_takeOut, List.forall_mem_cons.mpr ⟨moX5_turn, List.forall_mem_cons.mpr ⟨moX5_need, List.forall_mem_cons.mpr ⟨moX5_doNeed, List.forall_mem_cons.mpr ⟨moX5_has, List.forall_mem_cons.mpr ⟨moX5_bits, List.forall_mem_cons.mpr ⟨moX5_trim, List.forall_mem_cons.mpr ⟨moX5_doTrim, List.forall_mem_cons.mpr ⟨moX5_canTrim, List.forall_mem_cons.mpr ⟨moX5_leastBeats, List.forall_mem_cons.mpr ⟨moX5_restoreTail, List.forall_mem_cons.mpr ⟨moX5_move, List.forall_mem_cons.mpr ⟨moX5_doMove, List.forall_mem_cons.mpr ⟨moX5_isOrdered, List.forall_mem_cons.mpr ⟨moX5_swap, List.forall_mem_cons.mpr ⟨moX5_doSwap, List.forall_mem_cons.mpr ⟨moX5_size, List.forall_mem_cons.mpr ⟨moX5_split, List.forall_mem_cons.mpr ⟨moX5_doSplit, List.forall_mem_cons.mpr ⟨moX5_fit, List.forall_mem_cons.mpr ⟨moX5_doFit, List.forall_mem_cons.mpr ⟨moX5_acts, List.forall_mem_cons.mpr ⟨moX5_actAt, List.forall_mem_cons.mpr ⟨moX5_off, List.forall_mem_cons.mpr ⟨moX5_sumOf, fun _ h => absurd h List.not_mem_nil⟩⟩⟩⟩⟩⟩⟩⟩⟩⟩⟩⟩⟩⟩⟩⟩⟩⟩⟩⟩⟩⟩⟩⟩⟩⟩⟩⟩⟩⟩⟩⟩⟩⟩
theorem axMs5_ok : ∀ M ∈ axMs5, axGood M := List.forall_mem_cons.mpr ⟨moX5_targetOf, List.forall_mem_cons.mpr ⟨moX5_of, List.forall_mem_cons.mpr ⟨moX5_neededBy, List.forall_mem_cons.mpr ⟨moX5_begin, List.forall_mem_cons.mpr ⟨moX5_at, List.forall_mem_cons.mpr ⟨moX5_atBeat, List.forall_mem_cons.mpr ⟨moX5_ofAct, List.forall_mem_cons.mpr ⟨moX5_fits, List.forall_mem_cons.mpr ⟨moX5_isOpen, List.forall_mem_cons.mpr ⟨moX5_beginOfAct, List.forall_mem_cons.mpr ⟨moX5_count, List.forall_mem_cons.mpr ⟨moX5_slugs, List.forall_mem_cons.mpr ⟨moX5_allOff, List.forall_mem_cons.mpr ⟨moX5_fitting, List.forall_mem_cons.mpr ⟨moX5_longest, List.forall_mem_cons.mpr ⟨moX5_places, List.forall_mem_cons.mpr ⟨moX5_bestSwap, List.forall_mem_cons.mpr ⟨moX5_ifFitted, List.forall_mem_cons.mpr ⟨moX5_ifTurned, List.forall_mem_cons.mpr ⟨moX5_needs, List.forall_mem_cons.mpr ⟨moX5_put, List.forall_mem_cons.mpr ⟨moX5_wipe, List.forall_mem_cons.mpr ⟨moX5_fault, List.forall_mem_cons.mpr ⟨moX5_readPad, List.forall_mem_cons.mpr ⟨moX5_readOrder, List.forall_mem_cons.mpr ⟨moX5_isNext, List.forall_mem_cons.mpr ⟨moX5_readNumber, List.forall_mem_cons.mpr ⟨moX5_takes, List.forall_mem_cons.mpr ⟨moX5_signOf, List.forall_mem_cons.mpr ⟨moX5_does, List.forall_mem_cons.mpr ⟨moX5_carryOut, List.forall_mem_cons.mpr ⟨moX5_undo, List.forall_mem_cons.mpr ⟨moX5_save, List.forall_mem_cons.mpr ⟨moX5_restore, fun _ h => absurd h List.not_mem_nil⟩⟩⟩⟩⟩⟩⟩⟩⟩⟩⟩⟩⟩⟩⟩⟩⟩⟩⟩⟩⟩⟩⟩⟩⟩⟩⟩⟩⟩⟩⟩⟩⟩⟩
theorem axMs_ok : ∀ M ∈ axMs, axGood M := List.forall_mem_append.mpr ⟨axMs0_ok, List.forall_mem_append.mpr ⟨axMs1_ok, List.forall_mem_append.mpr ⟨axMs2_ok, List.forall_mem_append.mpr ⟨axMs3_ok, List.forall_mem_append.mpr ⟨axMs4_ok, axMs5_ok⟩⟩⟩⟩⟩
end
section
/-! The links. Written by wip/whole/gen2.py. -/
abbrev axPn (y : MethodName) (n : Nat) : Prop := (parseMethodDescriptor y.desc).map (fun d => d.parameters.length) = some n
def axLinkOk (q : Nat × Nat × Nat × Nat × Nat × Nat × Nat) : Prop := match q with
  | (o, i, kind, z, n, ci, _) => match kind with
    | 0 => ∃ M, axMs[z]? = some M ∧ Cond.methodLink (axCn o) i M.1 ∈ lw_tbl ∧ Cond.instanceMethod M.1 ∈ lw_tbl ∧ Cond.selects M.1.cls M.1 M.1 ∈ lw_tbl ∧ M.1.cls = axCn ci ∧ axPn M.1 n ∧ ci < 6
    | 1 => ∃ M, axMs[z]? = some M ∧ Cond.methodLink (axCn o) i M.1 ∈ lw_tbl ∧ Cond.static M.1 ∈ lw_tbl ∧ M.1.cls = axCn o ∧ axPn M.1 n
    | 2 => ∃ M, axMs[z]? = some M ∧ Cond.methodLinkNest (axCn o) i M.1 "BeatSlugs" ∈ lw_tbl ∧ Cond.static M.1 ∈ lw_tbl ∧ axPn M.1 n
    | 3 => ∃ M, axMs[z]? = some M ∧ Cond.methodLink (axCn o) i M.1 ∈ lw_tbl ∧ Cond.static M.1 ∈ lw_tbl ∧ axPn M.1 n
    | 4 => Cond.methodLink (axCn o) i arraycopyName ∈ lw_tbl
    | 5 => Cond.methodLink (axCn o) i Lib.Math.max.name ∈ lw_tbl
    | 6 => Cond.methodLink (axCn o) i Lib.Math.min.name ∈ lw_tbl
    | 7 => Cond.methodLink (axCn o) i Lib.Math.abs.name ∈ lw_tbl
    | 8 => ∃ M, axMs[z]? = some M ∧ Cond.methodLink (axCn o) i M.1 ∈ lw_tbl ∧ Cond.instanceMethod M.1 ∈ lw_tbl ∧ M.1.name = "<init>" ∧ axPn M.1 n ∧ M.2.2.2.1 = none
    | _ => Cond.methodLink (axCn o) i objectInit ∈ lw_tbl
theorem lk0 : axLinkOk (6, 9, 8, 0, 0, 4, 71) := ⟨mtX4_init, rfl, List.mem_of_getElem? (i := 71) (by decide +kernel), List.mem_of_getElem? (i := 72) (by decide +kernel), rfl, by decide +kernel, rfl⟩
theorem lk1 : axLinkOk (4, 1, 9, 0, 0, 0, 74) := List.mem_of_getElem? (i := 74) (by decide +kernel)
theorem lk2 : axLinkOk (4, 9, 8, 1, 0, 0, 79) := ⟨mtX0_init, rfl, List.mem_of_getElem? (i := 79) (by decide +kernel), List.mem_of_getElem? (i := 80) (by decide +kernel), rfl, by decide +kernel, rfl⟩
theorem lk3 : axLinkOk (0, 3, 9, 0, 0, 0, 82) := List.mem_of_getElem? (i := 82) (by decide +kernel)
theorem lk4 : axLinkOk (4, 18, 8, 2, 0, 1, 114) := ⟨mtX1_init, rfl, List.mem_of_getElem? (i := 114) (by decide +kernel), List.mem_of_getElem? (i := 115) (by decide +kernel), rfl, by decide +kernel, rfl⟩
theorem lk5 : axLinkOk (1, 3, 9, 0, 0, 0, 117) := List.mem_of_getElem? (i := 117) (by decide +kernel)
theorem lk6 : axLinkOk (4, 29, 8, 3, 0, 2, 132) := ⟨mtX2_init, rfl, List.mem_of_getElem? (i := 132) (by decide +kernel), List.mem_of_getElem? (i := 133) (by decide +kernel), rfl, by decide +kernel, rfl⟩
theorem lk7 : axLinkOk (2, 3, 9, 0, 0, 0, 135) := List.mem_of_getElem? (i := 135) (by decide +kernel)
theorem lk8 : axLinkOk (4, 36, 8, 4, 0, 3, 161) := ⟨mtX3_init, rfl, List.mem_of_getElem? (i := 161) (by decide +kernel), List.mem_of_getElem? (i := 162) (by decide +kernel), rfl, by decide +kernel, rfl⟩
theorem lk9 : axLinkOk (3, 3, 9, 0, 0, 0, 164) := List.mem_of_getElem? (i := 164) (by decide +kernel)
theorem lk10 : axLinkOk (6, 13, 0, 5, 2, 4, 194) := ⟨mtX4_set, rfl, List.mem_of_getElem? (i := 194) (by decide +kernel), List.mem_of_getElem? (i := 195) (by decide +kernel), List.mem_of_getElem? (i := 196) (by decide +kernel), rfl, by decide +kernel, by decide⟩
theorem lk11 : axLinkOk (4, 41, 0, 6, 1, 1, 198) := ⟨mtX1_prepare, rfl, List.mem_of_getElem? (i := 198) (by decide +kernel), List.mem_of_getElem? (i := 199) (by decide +kernel), List.mem_of_getElem? (i := 200) (by decide +kernel), rfl, by decide +kernel, by decide⟩
theorem lk12 : axLinkOk (4, 236, 0, 8, 1, 0, 205) := ⟨mtX0_takeOver, rfl, List.mem_of_getElem? (i := 205) (by decide +kernel), List.mem_of_getElem? (i := 206) (by decide +kernel), List.mem_of_getElem? (i := 207) (by decide +kernel), rfl, by decide +kernel, by decide⟩
theorem lk13 : axLinkOk (0, 30, 4, 0, 5, 0, 209) := List.mem_of_getElem? (i := 209) (by decide +kernel)
theorem lk14 : axLinkOk (4, 45, 0, 9, 2, 0, 212) := ⟨mtX0_changeSetting, rfl, List.mem_of_getElem? (i := 212) (by decide +kernel), List.mem_of_getElem? (i := 213) (by decide +kernel), List.mem_of_getElem? (i := 214) (by decide +kernel), rfl, by decide +kernel, by decide⟩
theorem lk15 : axLinkOk (4, 49, 0, 11, 1, 1, 223) := ⟨mtX1_settle, rfl, List.mem_of_getElem? (i := 223) (by decide +kernel), List.mem_of_getElem? (i := 224) (by decide +kernel), List.mem_of_getElem? (i := 225) (by decide +kernel), rfl, by decide +kernel, by decide⟩
theorem lk16 : axLinkOk (1, 28, 6, 0, 2, 0, 227) := List.mem_of_getElem? (i := 227) (by decide +kernel)
theorem lk17 : axLinkOk (6, 18, 0, 12, 2, 4, 230) := ⟨mtX4_target, rfl, List.mem_of_getElem? (i := 230) (by decide +kernel), List.mem_of_getElem? (i := 231) (by decide +kernel), List.mem_of_getElem? (i := 232) (by decide +kernel), rfl, by decide +kernel, by decide⟩
theorem lk18 : axLinkOk (4, 53, 0, 13, 2, 0, 234) := ⟨mtX0_changeTarget, rfl, List.mem_of_getElem? (i := 234) (by decide +kernel), List.mem_of_getElem? (i := 235) (by decide +kernel), List.mem_of_getElem? (i := 236) (by decide +kernel), rfl, by decide +kernel, by decide⟩
theorem lk19 : axLinkOk (6, 22, 0, 14, 3, 4, 238) := ⟨mtX4_slug, rfl, List.mem_of_getElem? (i := 238) (by decide +kernel), List.mem_of_getElem? (i := 239) (by decide +kernel), List.mem_of_getElem? (i := 240) (by decide +kernel), rfl, by decide +kernel, by decide⟩
theorem lk20 : axLinkOk (4, 56, 0, 15, 3, 0, 242) := ⟨mtX0_addSlug, rfl, List.mem_of_getElem? (i := 242) (by decide +kernel), List.mem_of_getElem? (i := 243) (by decide +kernel), List.mem_of_getElem? (i := 244) (by decide +kernel), rfl, by decide +kernel, by decide⟩
theorem lk21 : axLinkOk (0, 56, 0, 16, 2, 0, 246) := ⟨mtX0_makeSlug, rfl, List.mem_of_getElem? (i := 246) (by decide +kernel), List.mem_of_getElem? (i := 248) (by decide +kernel), List.mem_of_getElem? (i := 0) (by decide +kernel), rfl, by decide +kernel, by decide⟩
theorem lk22 : axLinkOk (0, 130, 0, 17, 0, 0, 250) := ⟨mtX0_lowestFree, rfl, List.mem_of_getElem? (i := 250) (by decide +kernel), List.mem_of_getElem? (i := 252) (by decide +kernel), List.mem_of_getElem? (i := 1) (by decide +kernel), rfl, by decide +kernel, by decide⟩
theorem lk23 : axLinkOk (0, 106, 0, 21, 2, 0, 263) := ⟨mtX0_putIn, rfl, List.mem_of_getElem? (i := 263) (by decide +kernel), List.mem_of_getElem? (i := 265) (by decide +kernel), List.mem_of_getElem? (i := 2) (by decide +kernel), rfl, by decide +kernel, by decide⟩
theorem lk24 : axLinkOk (6, 27, 0, 22, 1, 4, 267) := ⟨mtX4_drop, rfl, List.mem_of_getElem? (i := 267) (by decide +kernel), List.mem_of_getElem? (i := 268) (by decide +kernel), List.mem_of_getElem? (i := 269) (by decide +kernel), rfl, by decide +kernel, by decide⟩
theorem lk25 : axLinkOk (4, 60, 0, 23, 1, 0, 271) := ⟨mtX0_dropSlug, rfl, List.mem_of_getElem? (i := 271) (by decide +kernel), List.mem_of_getElem? (i := 272) (by decide +kernel), List.mem_of_getElem? (i := 273) (by decide +kernel), rfl, by decide +kernel, by decide⟩
theorem lk26 : axLinkOk (0, 64, 0, 24, 1, 0, 275) := ⟨mtX0_has, rfl, List.mem_of_getElem? (i := 275) (by decide +kernel), List.mem_of_getElem? (i := 276) (by decide +kernel), List.mem_of_getElem? (i := 277) (by decide +kernel), rfl, by decide +kernel, by decide⟩
theorem lk27 : axLinkOk (0, 68, 0, 25, 1, 0, 279) := ⟨mtX0_placeOf, rfl, List.mem_of_getElem? (i := 279) (by decide +kernel), List.mem_of_getElem? (i := 280) (by decide +kernel), List.mem_of_getElem? (i := 281) (by decide +kernel), rfl, by decide +kernel, by decide⟩
theorem lk28 : axLinkOk (0, 71, 0, 26, 1, 0, 283) := ⟨mtX0_takeOut, rfl, List.mem_of_getElem? (i := 283) (by decide +kernel), List.mem_of_getElem? (i := 285) (by decide +kernel), List.mem_of_getElem? (i := 3) (by decide +kernel), rfl, by decide +kernel, by decide⟩
theorem lk29 : axLinkOk (6, 32, 0, 27, 1, 4, 287) := ⟨mtX4_turn, rfl, List.mem_of_getElem? (i := 287) (by decide +kernel), List.mem_of_getElem? (i := 288) (by decide +kernel), List.mem_of_getElem? (i := 289) (by decide +kernel), rfl, by decide +kernel, by decide⟩
theorem lk30 : axLinkOk (4, 63, 0, 28, 1, 0, 291) := ⟨mtX0_flipTurn, rfl, List.mem_of_getElem? (i := 291) (by decide +kernel), List.mem_of_getElem? (i := 292) (by decide +kernel), List.mem_of_getElem? (i := 293) (by decide +kernel), rfl, by decide +kernel, by decide⟩
theorem lk31 : axLinkOk (0, 75, 0, 29, 1, 0, 295) := ⟨mtX0_isTurn, rfl, List.mem_of_getElem? (i := 295) (by decide +kernel), List.mem_of_getElem? (i := 296) (by decide +kernel), List.mem_of_getElem? (i := 297) (by decide +kernel), rfl, by decide +kernel, by decide⟩
theorem lk32 : axLinkOk (6, 36, 0, 30, 2, 4, 299) := ⟨mtX4_need, rfl, List.mem_of_getElem? (i := 299) (by decide +kernel), List.mem_of_getElem? (i := 300) (by decide +kernel), List.mem_of_getElem? (i := 301) (by decide +kernel), rfl, by decide +kernel, by decide⟩
theorem lk33 : axLinkOk (4, 66, 0, 31, 2, 0, 303) := ⟨mtX0_flipNeed, rfl, List.mem_of_getElem? (i := 303) (by decide +kernel), List.mem_of_getElem? (i := 304) (by decide +kernel), List.mem_of_getElem? (i := 305) (by decide +kernel), rfl, by decide +kernel, by decide⟩
theorem lk34 : axLinkOk (0, 78, 0, 32, 1, 0, 307) := ⟨mtX0_needsOf, rfl, List.mem_of_getElem? (i := 307) (by decide +kernel), List.mem_of_getElem? (i := 308) (by decide +kernel), List.mem_of_getElem? (i := 309) (by decide +kernel), rfl, by decide +kernel, by decide⟩
theorem lk35 : axLinkOk (0, 89, 3, 33, 1, 7, 311) := ⟨mtJ_bitCount, rfl, List.mem_of_getElem? (i := 311) (by decide +kernel), List.mem_of_getElem? (i := 312) (by decide +kernel), by decide +kernel⟩
theorem lk36 : axLinkOk (6, 40, 0, 34, 2, 4, 317) := ⟨mtX4_trim, rfl, List.mem_of_getElem? (i := 317) (by decide +kernel), List.mem_of_getElem? (i := 318) (by decide +kernel), List.mem_of_getElem? (i := 319) (by decide +kernel), rfl, by decide +kernel, by decide⟩
theorem lk37 : axLinkOk (4, 69, 0, 35, 2, 0, 321) := ⟨mtX0_trimSlug, rfl, List.mem_of_getElem? (i := 321) (by decide +kernel), List.mem_of_getElem? (i := 322) (by decide +kernel), List.mem_of_getElem? (i := 323) (by decide +kernel), rfl, by decide +kernel, by decide⟩
theorem lk38 : axLinkOk (0, 94, 0, 36, 1, 0, 325) := ⟨mtX0_roomOf, rfl, List.mem_of_getElem? (i := 325) (by decide +kernel), List.mem_of_getElem? (i := 326) (by decide +kernel), List.mem_of_getElem? (i := 327) (by decide +kernel), rfl, by decide +kernel, by decide⟩
theorem lk39 : axLinkOk (0, 137, 5, 0, 2, 0, 329) := List.mem_of_getElem? (i := 329) (by decide +kernel)
theorem lk40 : axLinkOk (0, 97, 0, 37, 1, 0, 332) := ⟨mtX0_beatsOf, rfl, List.mem_of_getElem? (i := 332) (by decide +kernel), List.mem_of_getElem? (i := 333) (by decide +kernel), List.mem_of_getElem? (i := 334) (by decide +kernel), rfl, by decide +kernel, by decide⟩
theorem lk41 : axLinkOk (6, 44, 0, 38, 1, 4, 336) := ⟨mtX4_restoreTail, rfl, List.mem_of_getElem? (i := 336) (by decide +kernel), List.mem_of_getElem? (i := 337) (by decide +kernel), List.mem_of_getElem? (i := 338) (by decide +kernel), rfl, by decide +kernel, by decide⟩
theorem lk42 : axLinkOk (4, 72, 0, 39, 1, 0, 340) := ⟨mtX0_giveBack, rfl, List.mem_of_getElem? (i := 340) (by decide +kernel), List.mem_of_getElem? (i := 341) (by decide +kernel), List.mem_of_getElem? (i := 342) (by decide +kernel), rfl, by decide +kernel, by decide⟩
theorem lk43 : axLinkOk (0, 100, 0, 40, 1, 0, 344) := ⟨mtX0_writtenOf, rfl, List.mem_of_getElem? (i := 344) (by decide +kernel), List.mem_of_getElem? (i := 345) (by decide +kernel), List.mem_of_getElem? (i := 346) (by decide +kernel), rfl, by decide +kernel, by decide⟩
theorem lk44 : axLinkOk (6, 48, 0, 41, 2, 4, 348) := ⟨mtX4_move, rfl, List.mem_of_getElem? (i := 348) (by decide +kernel), List.mem_of_getElem? (i := 349) (by decide +kernel), List.mem_of_getElem? (i := 350) (by decide +kernel), rfl, by decide +kernel, by decide⟩
theorem lk45 : axLinkOk (4, 75, 0, 42, 2, 0, 352) := ⟨mtX0_moveSlug, rfl, List.mem_of_getElem? (i := 352) (by decide +kernel), List.mem_of_getElem? (i := 353) (by decide +kernel), List.mem_of_getElem? (i := 354) (by decide +kernel), rfl, by decide +kernel, by decide⟩
theorem lk46 : axLinkOk (0, 103, 0, 43, 2, 0, 356) := ⟨mtX0_mayStandIn, rfl, List.mem_of_getElem? (i := 356) (by decide +kernel), List.mem_of_getElem? (i := 358) (by decide +kernel), List.mem_of_getElem? (i := 4) (by decide +kernel), rfl, by decide +kernel, by decide⟩
theorem lk47 : axLinkOk (0, 140, 0, 44, 1, 0, 360) := ⟨mtX0_lowestPlace, rfl, List.mem_of_getElem? (i := 360) (by decide +kernel), List.mem_of_getElem? (i := 361) (by decide +kernel), List.mem_of_getElem? (i := 362) (by decide +kernel), rfl, by decide +kernel, by decide⟩
theorem lk48 : axLinkOk (0, 143, 0, 45, 1, 0, 364) := ⟨mtX0_highestPlace, rfl, List.mem_of_getElem? (i := 364) (by decide +kernel), List.mem_of_getElem? (i := 365) (by decide +kernel), List.mem_of_getElem? (i := 366) (by decide +kernel), rfl, by decide +kernel, by decide⟩
theorem lk49 : axLinkOk (6, 52, 0, 46, 2, 4, 368) := ⟨mtX4_swap, rfl, List.mem_of_getElem? (i := 368) (by decide +kernel), List.mem_of_getElem? (i := 369) (by decide +kernel), List.mem_of_getElem? (i := 370) (by decide +kernel), rfl, by decide +kernel, by decide⟩
theorem lk50 : axLinkOk (4, 78, 0, 47, 2, 0, 372) := ⟨mtX0_swapSlugs, rfl, List.mem_of_getElem? (i := 372) (by decide +kernel), List.mem_of_getElem? (i := 373) (by decide +kernel), List.mem_of_getElem? (i := 374) (by decide +kernel), rfl, by decide +kernel, by decide⟩
theorem lk51 : axLinkOk (0, 110, 7, 0, 1, 0, 376) := List.mem_of_getElem? (i := 376) (by decide +kernel)
theorem lk52 : axLinkOk (6, 56, 0, 48, 2, 4, 379) := ⟨mtX4_split, rfl, List.mem_of_getElem? (i := 379) (by decide +kernel), List.mem_of_getElem? (i := 380) (by decide +kernel), List.mem_of_getElem? (i := 381) (by decide +kernel), rfl, by decide +kernel, by decide⟩
theorem lk53 : axLinkOk (4, 81, 0, 49, 2, 0, 383) := ⟨mtX0_splitSlug, rfl, List.mem_of_getElem? (i := 383) (by decide +kernel), List.mem_of_getElem? (i := 384) (by decide +kernel), List.mem_of_getElem? (i := 385) (by decide +kernel), rfl, by decide +kernel, by decide⟩
theorem lk54 : axLinkOk (0, 115, 0, 50, 2, 0, 387) := ⟨mtX0_handOverNeeds, rfl, List.mem_of_getElem? (i := 387) (by decide +kernel), List.mem_of_getElem? (i := 389) (by decide +kernel), List.mem_of_getElem? (i := 5) (by decide +kernel), rfl, by decide +kernel, by decide⟩
theorem lk55 : axLinkOk (0, 118, 0, 51, 2, 0, 391) := ⟨mtX0_handOverTurn, rfl, List.mem_of_getElem? (i := 391) (by decide +kernel), List.mem_of_getElem? (i := 393) (by decide +kernel), List.mem_of_getElem? (i := 6) (by decide +kernel), rfl, by decide +kernel, by decide⟩
theorem lk56 : axLinkOk (6, 60, 0, 52, 1, 4, 395) := ⟨mtX4_fit, rfl, List.mem_of_getElem? (i := 395) (by decide +kernel), List.mem_of_getElem? (i := 396) (by decide +kernel), List.mem_of_getElem? (i := 397) (by decide +kernel), rfl, by decide +kernel, by decide⟩
theorem lk57 : axLinkOk (4, 84, 0, 53, 1, 0, 399) := ⟨mtX0_fitAct, rfl, List.mem_of_getElem? (i := 399) (by decide +kernel), List.mem_of_getElem? (i := 400) (by decide +kernel), List.mem_of_getElem? (i := 401) (by decide +kernel), rfl, by decide +kernel, by decide⟩
theorem lk58 : axLinkOk (0, 121, 0, 54, 1, 0, 403) := ⟨mtX0_cutOf, rfl, List.mem_of_getElem? (i := 403) (by decide +kernel), List.mem_of_getElem? (i := 404) (by decide +kernel), List.mem_of_getElem? (i := 405) (by decide +kernel), rfl, by decide +kernel, by decide⟩
theorem lk59 : axLinkOk (0, 164, 0, 55, 1, 0, 407) := ⟨mtX0_hasAct, rfl, List.mem_of_getElem? (i := 407) (by decide +kernel), List.mem_of_getElem? (i := 408) (by decide +kernel), List.mem_of_getElem? (i := 409) (by decide +kernel), rfl, by decide +kernel, by decide⟩
theorem lk60 : axLinkOk (0, 149, 0, 56, 0, 0, 411) := ⟨mtX0_actCount, rfl, List.mem_of_getElem? (i := 411) (by decide +kernel), List.mem_of_getElem? (i := 412) (by decide +kernel), List.mem_of_getElem? (i := 413) (by decide +kernel), rfl, by decide +kernel, by decide⟩
theorem lk61 : axLinkOk (0, 158, 0, 57, 1, 0, 415) := ⟨mtX0_offOf, rfl, List.mem_of_getElem? (i := 415) (by decide +kernel), List.mem_of_getElem? (i := 416) (by decide +kernel), List.mem_of_getElem? (i := 417) (by decide +kernel), rfl, by decide +kernel, by decide⟩
theorem lk62 : axLinkOk (0, 124, 0, 58, 1, 0, 419) := ⟨mtX0_startOf, rfl, List.mem_of_getElem? (i := 419) (by decide +kernel), List.mem_of_getElem? (i := 420) (by decide +kernel), List.mem_of_getElem? (i := 421) (by decide +kernel), rfl, by decide +kernel, by decide⟩
theorem lk63 : axLinkOk (0, 146, 0, 59, 2, 0, 423) := ⟨mtX0_beatsIn, rfl, List.mem_of_getElem? (i := 423) (by decide +kernel), List.mem_of_getElem? (i := 424) (by decide +kernel), List.mem_of_getElem? (i := 425) (by decide +kernel), rfl, by decide +kernel, by decide⟩
theorem lk64 : axLinkOk (0, 152, 0, 60, 1, 0, 427) := ⟨mtX0_targetOf, rfl, List.mem_of_getElem? (i := 427) (by decide +kernel), List.mem_of_getElem? (i := 428) (by decide +kernel), List.mem_of_getElem? (i := 429) (by decide +kernel), rfl, by decide +kernel, by decide⟩
theorem lk65 : axLinkOk (0, 127, 6, 0, 2, 0, 431) := List.mem_of_getElem? (i := 431) (by decide +kernel)
theorem lk66 : axLinkOk (0, 167, 0, 61, 2, 0, 432) := ⟨mtX0_roomIn, rfl, List.mem_of_getElem? (i := 432) (by decide +kernel), List.mem_of_getElem? (i := 433) (by decide +kernel), List.mem_of_getElem? (i := 434) (by decide +kernel), rfl, by decide +kernel, by decide⟩
theorem lk67 : axLinkOk (0, 134, 0, 62, 1, 0, 436) := ⟨mtX0_settingOf, rfl, List.mem_of_getElem? (i := 436) (by decide +kernel), List.mem_of_getElem? (i := 437) (by decide +kernel), List.mem_of_getElem? (i := 438) (by decide +kernel), rfl, by decide +kernel, by decide⟩
theorem lk68 : axLinkOk (6, 64, 0, 63, 2, 4, 440) := ⟨mtX4_of, rfl, List.mem_of_getElem? (i := 440) (by decide +kernel), List.mem_of_getElem? (i := 441) (by decide +kernel), List.mem_of_getElem? (i := 442) (by decide +kernel), rfl, by decide +kernel, by decide⟩
theorem lk69 : axLinkOk (4, 87, 0, 24, 1, 0, 444) := ⟨mtX0_has, rfl, List.mem_of_getElem? (i := 444) (by decide +kernel), List.mem_of_getElem? (i := 276) (by decide +kernel), List.mem_of_getElem? (i := 277) (by decide +kernel), rfl, by decide +kernel, by decide⟩
theorem lk70 : axLinkOk (4, 91, 0, 25, 1, 0, 445) := ⟨mtX0_placeOf, rfl, List.mem_of_getElem? (i := 445) (by decide +kernel), List.mem_of_getElem? (i := 280) (by decide +kernel), List.mem_of_getElem? (i := 281) (by decide +kernel), rfl, by decide +kernel, by decide⟩
theorem lk71 : axLinkOk (4, 94, 0, 40, 1, 0, 446) := ⟨mtX0_writtenOf, rfl, List.mem_of_getElem? (i := 446) (by decide +kernel), List.mem_of_getElem? (i := 345) (by decide +kernel), List.mem_of_getElem? (i := 346) (by decide +kernel), rfl, by decide +kernel, by decide⟩
theorem lk72 : axLinkOk (4, 97, 0, 37, 1, 0, 447) := ⟨mtX0_beatsOf, rfl, List.mem_of_getElem? (i := 447) (by decide +kernel), List.mem_of_getElem? (i := 333) (by decide +kernel), List.mem_of_getElem? (i := 334) (by decide +kernel), rfl, by decide +kernel, by decide⟩
theorem lk73 : axLinkOk (4, 100, 0, 29, 1, 0, 448) := ⟨mtX0_isTurn, rfl, List.mem_of_getElem? (i := 448) (by decide +kernel), List.mem_of_getElem? (i := 296) (by decide +kernel), List.mem_of_getElem? (i := 297) (by decide +kernel), rfl, by decide +kernel, by decide⟩
theorem lk74 : axLinkOk (4, 103, 0, 32, 1, 0, 449) := ⟨mtX0_needsOf, rfl, List.mem_of_getElem? (i := 449) (by decide +kernel), List.mem_of_getElem? (i := 308) (by decide +kernel), List.mem_of_getElem? (i := 309) (by decide +kernel), rfl, by decide +kernel, by decide⟩
theorem lk75 : axLinkOk (4, 106, 0, 64, 1, 0, 450) := ⟨mtX0_needersOf, rfl, List.mem_of_getElem? (i := 450) (by decide +kernel), List.mem_of_getElem? (i := 451) (by decide +kernel), List.mem_of_getElem? (i := 452) (by decide +kernel), rfl, by decide +kernel, by decide⟩
theorem lk76 : axLinkOk (4, 109, 0, 59, 2, 0, 454) := ⟨mtX0_beatsIn, rfl, List.mem_of_getElem? (i := 454) (by decide +kernel), List.mem_of_getElem? (i := 424) (by decide +kernel), List.mem_of_getElem? (i := 425) (by decide +kernel), rfl, by decide +kernel, by decide⟩
theorem lk77 : axLinkOk (4, 112, 0, 65, 0, 0, 455) := ⟨mtX0_pageBeats, rfl, List.mem_of_getElem? (i := 455) (by decide +kernel), List.mem_of_getElem? (i := 456) (by decide +kernel), List.mem_of_getElem? (i := 457) (by decide +kernel), rfl, by decide +kernel, by decide⟩
theorem lk78 : axLinkOk (4, 116, 0, 66, 1, 0, 459) := ⟨mtX0_turnsAhead, rfl, List.mem_of_getElem? (i := 459) (by decide +kernel), List.mem_of_getElem? (i := 460) (by decide +kernel), List.mem_of_getElem? (i := 461) (by decide +kernel), rfl, by decide +kernel, by decide⟩
theorem lk79 : axLinkOk (4, 119, 0, 36, 1, 0, 463) := ⟨mtX0_roomOf, rfl, List.mem_of_getElem? (i := 463) (by decide +kernel), List.mem_of_getElem? (i := 326) (by decide +kernel), List.mem_of_getElem? (i := 327) (by decide +kernel), rfl, by decide +kernel, by decide⟩
theorem lk80 : axLinkOk (6, 68, 0, 67, 1, 4, 464) := ⟨mtX4_at, rfl, List.mem_of_getElem? (i := 464) (by decide +kernel), List.mem_of_getElem? (i := 465) (by decide +kernel), List.mem_of_getElem? (i := 466) (by decide +kernel), rfl, by decide +kernel, by decide⟩
theorem lk81 : axLinkOk (4, 122, 0, 68, 1, 0, 468) := ⟨mtX0_slugIn, rfl, List.mem_of_getElem? (i := 468) (by decide +kernel), List.mem_of_getElem? (i := 469) (by decide +kernel), List.mem_of_getElem? (i := 470) (by decide +kernel), rfl, by decide +kernel, by decide⟩
theorem lk82 : axLinkOk (6, 72, 0, 69, 1, 4, 472) := ⟨mtX4_atBeat, rfl, List.mem_of_getElem? (i := 472) (by decide +kernel), List.mem_of_getElem? (i := 473) (by decide +kernel), List.mem_of_getElem? (i := 474) (by decide +kernel), rfl, by decide +kernel, by decide⟩
theorem lk83 : axLinkOk (4, 125, 0, 70, 1, 0, 476) := ⟨mtX0_slugAtBeat, rfl, List.mem_of_getElem? (i := 476) (by decide +kernel), List.mem_of_getElem? (i := 477) (by decide +kernel), List.mem_of_getElem? (i := 478) (by decide +kernel), rfl, by decide +kernel, by decide⟩
theorem lk84 : axLinkOk (6, 76, 0, 71, 2, 4, 480) := ⟨mtX4_ofAct, rfl, List.mem_of_getElem? (i := 480) (by decide +kernel), List.mem_of_getElem? (i := 481) (by decide +kernel), List.mem_of_getElem? (i := 482) (by decide +kernel), rfl, by decide +kernel, by decide⟩
theorem lk85 : axLinkOk (4, 128, 0, 55, 1, 0, 484) := ⟨mtX0_hasAct, rfl, List.mem_of_getElem? (i := 484) (by decide +kernel), List.mem_of_getElem? (i := 408) (by decide +kernel), List.mem_of_getElem? (i := 409) (by decide +kernel), rfl, by decide +kernel, by decide⟩
theorem lk86 : axLinkOk (4, 131, 0, 58, 1, 0, 485) := ⟨mtX0_startOf, rfl, List.mem_of_getElem? (i := 485) (by decide +kernel), List.mem_of_getElem? (i := 420) (by decide +kernel), List.mem_of_getElem? (i := 421) (by decide +kernel), rfl, by decide +kernel, by decide⟩
theorem lk87 : axLinkOk (4, 134, 0, 60, 1, 0, 486) := ⟨mtX0_targetOf, rfl, List.mem_of_getElem? (i := 486) (by decide +kernel), List.mem_of_getElem? (i := 428) (by decide +kernel), List.mem_of_getElem? (i := 429) (by decide +kernel), rfl, by decide +kernel, by decide⟩
theorem lk88 : axLinkOk (4, 137, 0, 57, 1, 0, 487) := ⟨mtX0_offOf, rfl, List.mem_of_getElem? (i := 487) (by decide +kernel), List.mem_of_getElem? (i := 416) (by decide +kernel), List.mem_of_getElem? (i := 417) (by decide +kernel), rfl, by decide +kernel, by decide⟩
theorem lk89 : axLinkOk (4, 140, 0, 72, 1, 0, 488) := ⟨mtX0_isFitting, rfl, List.mem_of_getElem? (i := 488) (by decide +kernel), List.mem_of_getElem? (i := 489) (by decide +kernel), List.mem_of_getElem? (i := 490) (by decide +kernel), rfl, by decide +kernel, by decide⟩
theorem lk90 : axLinkOk (0, 155, 0, 73, 1, 0, 492) := ⟨mtX0_isOpen, rfl, List.mem_of_getElem? (i := 492) (by decide +kernel), List.mem_of_getElem? (i := 493) (by decide +kernel), List.mem_of_getElem? (i := 494) (by decide +kernel), rfl, by decide +kernel, by decide⟩
theorem lk91 : axLinkOk (4, 143, 0, 73, 1, 0, 496) := ⟨mtX0_isOpen, rfl, List.mem_of_getElem? (i := 496) (by decide +kernel), List.mem_of_getElem? (i := 493) (by decide +kernel), List.mem_of_getElem? (i := 494) (by decide +kernel), rfl, by decide +kernel, by decide⟩
theorem lk92 : axLinkOk (4, 146, 0, 61, 2, 0, 497) := ⟨mtX0_roomIn, rfl, List.mem_of_getElem? (i := 497) (by decide +kernel), List.mem_of_getElem? (i := 433) (by decide +kernel), List.mem_of_getElem? (i := 434) (by decide +kernel), rfl, by decide +kernel, by decide⟩
theorem lk93 : axLinkOk (6, 80, 0, 74, 1, 4, 498) := ⟨mtX4_count, rfl, List.mem_of_getElem? (i := 498) (by decide +kernel), List.mem_of_getElem? (i := 499) (by decide +kernel), List.mem_of_getElem? (i := 500) (by decide +kernel), rfl, by decide +kernel, by decide⟩
theorem lk94 : axLinkOk (4, 149, 0, 75, 0, 0, 502) := ⟨mtX0_allSlugs, rfl, List.mem_of_getElem? (i := 502) (by decide +kernel), List.mem_of_getElem? (i := 503) (by decide +kernel), List.mem_of_getElem? (i := 504) (by decide +kernel), rfl, by decide +kernel, by decide⟩
theorem lk95 : axLinkOk (4, 152, 0, 56, 0, 0, 506) := ⟨mtX0_actCount, rfl, List.mem_of_getElem? (i := 506) (by decide +kernel), List.mem_of_getElem? (i := 412) (by decide +kernel), List.mem_of_getElem? (i := 413) (by decide +kernel), rfl, by decide +kernel, by decide⟩
theorem lk96 : axLinkOk (4, 155, 0, 76, 0, 0, 507) := ⟨mtX0_allBeats, rfl, List.mem_of_getElem? (i := 507) (by decide +kernel), List.mem_of_getElem? (i := 508) (by decide +kernel), List.mem_of_getElem? (i := 509) (by decide +kernel), rfl, by decide +kernel, by decide⟩
theorem lk97 : axLinkOk (4, 158, 0, 77, 0, 0, 511) := ⟨mtX0_offTogether, rfl, List.mem_of_getElem? (i := 511) (by decide +kernel), List.mem_of_getElem? (i := 512) (by decide +kernel), List.mem_of_getElem? (i := 513) (by decide +kernel), rfl, by decide +kernel, by decide⟩
theorem lk98 : axLinkOk (0, 170, 0, 78, 2, 0, 515) := ⟨mtX0_offOfRow, rfl, List.mem_of_getElem? (i := 515) (by decide +kernel), List.mem_of_getElem? (i := 516) (by decide +kernel), List.mem_of_getElem? (i := 517) (by decide +kernel), rfl, by decide +kernel, by decide⟩
theorem lk99 : axLinkOk (4, 161, 0, 79, 0, 0, 519) := ⟨mtX0_fittingActs, rfl, List.mem_of_getElem? (i := 519) (by decide +kernel), List.mem_of_getElem? (i := 520) (by decide +kernel), List.mem_of_getElem? (i := 521) (by decide +kernel), rfl, by decide +kernel, by decide⟩
theorem lk100 : axLinkOk (0, 161, 0, 72, 1, 0, 523) := ⟨mtX0_isFitting, rfl, List.mem_of_getElem? (i := 523) (by decide +kernel), List.mem_of_getElem? (i := 489) (by decide +kernel), List.mem_of_getElem? (i := 490) (by decide +kernel), rfl, by decide +kernel, by decide⟩
theorem lk101 : axLinkOk (4, 164, 0, 80, 0, 0, 524) := ⟨mtX0_longestSlug, rfl, List.mem_of_getElem? (i := 524) (by decide +kernel), List.mem_of_getElem? (i := 525) (by decide +kernel), List.mem_of_getElem? (i := 526) (by decide +kernel), rfl, by decide +kernel, by decide⟩
theorem lk102 : axLinkOk (4, 167, 0, 62, 1, 0, 528) := ⟨mtX0_settingOf, rfl, List.mem_of_getElem? (i := 528) (by decide +kernel), List.mem_of_getElem? (i := 437) (by decide +kernel), List.mem_of_getElem? (i := 438) (by decide +kernel), rfl, by decide +kernel, by decide⟩
theorem lk103 : axLinkOk (4, 170, 0, 81, 0, 2, 529) := ⟨mtX2_size, rfl, List.mem_of_getElem? (i := 529) (by decide +kernel), List.mem_of_getElem? (i := 530) (by decide +kernel), List.mem_of_getElem? (i := 531) (by decide +kernel), rfl, by decide +kernel, by decide⟩
theorem lk104 : axLinkOk (4, 173, 0, 82, 0, 1, 533) := ⟨mtX1_size, rfl, List.mem_of_getElem? (i := 533) (by decide +kernel), List.mem_of_getElem? (i := 534) (by decide +kernel), List.mem_of_getElem? (i := 535) (by decide +kernel), rfl, by decide +kernel, by decide⟩
theorem lk105 : axLinkOk (6, 84, 0, 83, 1, 4, 537) := ⟨mtX4_places, rfl, List.mem_of_getElem? (i := 537) (by decide +kernel), List.mem_of_getElem? (i := 538) (by decide +kernel), List.mem_of_getElem? (i := 539) (by decide +kernel), rfl, by decide +kernel, by decide⟩
theorem lk106 : axLinkOk (4, 174, 0, 45, 1, 0, 541) := ⟨mtX0_highestPlace, rfl, List.mem_of_getElem? (i := 541) (by decide +kernel), List.mem_of_getElem? (i := 365) (by decide +kernel), List.mem_of_getElem? (i := 366) (by decide +kernel), rfl, by decide +kernel, by decide⟩
theorem lk107 : axLinkOk (4, 177, 0, 44, 1, 0, 542) := ⟨mtX0_lowestPlace, rfl, List.mem_of_getElem? (i := 542) (by decide +kernel), List.mem_of_getElem? (i := 361) (by decide +kernel), List.mem_of_getElem? (i := 362) (by decide +kernel), rfl, by decide +kernel, by decide⟩
theorem lk108 : axLinkOk (4, 180, 1, 19, 1, 4, 543) := ⟨mtX4_bit, rfl, List.mem_of_getElem? (i := 543) (by decide +kernel), List.mem_of_getElem? (i := 258) (by decide +kernel), rfl, by decide +kernel⟩
theorem lk109 : axLinkOk (6, 88, 0, 84, 1, 4, 544) := ⟨mtX4_bestSwap, rfl, List.mem_of_getElem? (i := 544) (by decide +kernel), List.mem_of_getElem? (i := 545) (by decide +kernel), List.mem_of_getElem? (i := 546) (by decide +kernel), rfl, by decide +kernel, by decide⟩
theorem lk110 : axLinkOk (4, 183, 0, 85, 1, 3, 548) := ⟨mtX3_run, rfl, List.mem_of_getElem? (i := 548) (by decide +kernel), List.mem_of_getElem? (i := 549) (by decide +kernel), List.mem_of_getElem? (i := 550) (by decide +kernel), rfl, by decide +kernel, by decide⟩
theorem lk111 : axLinkOk (3, 25, 0, 77, 0, 0, 552) := ⟨mtX0_offTogether, rfl, List.mem_of_getElem? (i := 552) (by decide +kernel), List.mem_of_getElem? (i := 512) (by decide +kernel), List.mem_of_getElem? (i := 513) (by decide +kernel), rfl, by decide +kernel, by decide⟩
theorem lk112 : axLinkOk (3, 31, 0, 86, 0, 0, 553) := ⟨mtX0_size, rfl, List.mem_of_getElem? (i := 553) (by decide +kernel), List.mem_of_getElem? (i := 554) (by decide +kernel), List.mem_of_getElem? (i := 555) (by decide +kernel), rfl, by decide +kernel, by decide⟩
theorem lk113 : axLinkOk (3, 34, 0, 68, 1, 0, 557) := ⟨mtX0_slugIn, rfl, List.mem_of_getElem? (i := 557) (by decide +kernel), List.mem_of_getElem? (i := 469) (by decide +kernel), List.mem_of_getElem? (i := 470) (by decide +kernel), rfl, by decide +kernel, by decide⟩
theorem lk114 : axLinkOk (3, 42, 0, 87, 2, 3, 559) := ⟨mtX3_tryAllBehind, rfl, List.mem_of_getElem? (i := 559) (by decide +kernel), List.mem_of_getElem? (i := 561) (by decide +kernel), List.mem_of_getElem? (i := 7) (by decide +kernel), rfl, by decide +kernel, by decide⟩
theorem lk115 : axLinkOk (3, 46, 0, 45, 1, 0, 563) := ⟨mtX0_highestPlace, rfl, List.mem_of_getElem? (i := 563) (by decide +kernel), List.mem_of_getElem? (i := 365) (by decide +kernel), List.mem_of_getElem? (i := 366) (by decide +kernel), rfl, by decide +kernel, by decide⟩
theorem lk116 : axLinkOk (3, 49, 0, 44, 1, 0, 564) := ⟨mtX0_lowestPlace, rfl, List.mem_of_getElem? (i := 564) (by decide +kernel), List.mem_of_getElem? (i := 361) (by decide +kernel), List.mem_of_getElem? (i := 362) (by decide +kernel), rfl, by decide +kernel, by decide⟩
theorem lk117 : axLinkOk (3, 52, 0, 88, 3, 3, 565) := ⟨mtX3_tryOne, rfl, List.mem_of_getElem? (i := 565) (by decide +kernel), List.mem_of_getElem? (i := 567) (by decide +kernel), List.mem_of_getElem? (i := 8) (by decide +kernel), rfl, by decide +kernel, by decide⟩
theorem lk118 : axLinkOk (3, 56, 0, 89, 2, 3, 569) := ⟨mtX3_exchange, rfl, List.mem_of_getElem? (i := 569) (by decide +kernel), List.mem_of_getElem? (i := 571) (by decide +kernel), List.mem_of_getElem? (i := 9) (by decide +kernel), rfl, by decide +kernel, by decide⟩
theorem lk119 : axLinkOk (3, 60, 0, 90, 0, 0, 574) := ⟨mtX0_allTurns, rfl, List.mem_of_getElem? (i := 574) (by decide +kernel), List.mem_of_getElem? (i := 575) (by decide +kernel), List.mem_of_getElem? (i := 576) (by decide +kernel), rfl, by decide +kernel, by decide⟩
theorem lk120 : axLinkOk (3, 63, 0, 78, 2, 0, 578) := ⟨mtX0_offOfRow, rfl, List.mem_of_getElem? (i := 578) (by decide +kernel), List.mem_of_getElem? (i := 516) (by decide +kernel), List.mem_of_getElem? (i := 517) (by decide +kernel), rfl, by decide +kernel, by decide⟩
theorem lk121 : axLinkOk (4, 186, 0, 91, 0, 3, 579) := ⟨mtX3_isFound, rfl, List.mem_of_getElem? (i := 579) (by decide +kernel), List.mem_of_getElem? (i := 580) (by decide +kernel), List.mem_of_getElem? (i := 581) (by decide +kernel), rfl, by decide +kernel, by decide⟩
theorem lk122 : axLinkOk (4, 190, 0, 92, 0, 3, 583) := ⟨mtX3_lowerPlace, rfl, List.mem_of_getElem? (i := 583) (by decide +kernel), List.mem_of_getElem? (i := 584) (by decide +kernel), List.mem_of_getElem? (i := 585) (by decide +kernel), rfl, by decide +kernel, by decide⟩
theorem lk123 : axLinkOk (4, 193, 0, 93, 0, 3, 587) := ⟨mtX3_higherPlace, rfl, List.mem_of_getElem? (i := 587) (by decide +kernel), List.mem_of_getElem? (i := 588) (by decide +kernel), List.mem_of_getElem? (i := 589) (by decide +kernel), rfl, by decide +kernel, by decide⟩
theorem lk124 : axLinkOk (4, 196, 0, 94, 0, 3, 591) := ⟨mtX3_leastOff, rfl, List.mem_of_getElem? (i := 591) (by decide +kernel), List.mem_of_getElem? (i := 592) (by decide +kernel), List.mem_of_getElem? (i := 593) (by decide +kernel), rfl, by decide +kernel, by decide⟩
theorem lk125 : axLinkOk (6, 92, 0, 95, 1, 4, 595) := ⟨mtX4_ifFitted, rfl, List.mem_of_getElem? (i := 595) (by decide +kernel), List.mem_of_getElem? (i := 596) (by decide +kernel), List.mem_of_getElem? (i := 597) (by decide +kernel), rfl, by decide +kernel, by decide⟩
theorem lk126 : axLinkOk (4, 199, 0, 54, 1, 0, 599) := ⟨mtX0_cutOf, rfl, List.mem_of_getElem? (i := 599) (by decide +kernel), List.mem_of_getElem? (i := 404) (by decide +kernel), List.mem_of_getElem? (i := 405) (by decide +kernel), rfl, by decide +kernel, by decide⟩
theorem lk127 : axLinkOk (6, 96, 0, 96, 1, 4, 600) := ⟨mtX4_ifTurned, rfl, List.mem_of_getElem? (i := 600) (by decide +kernel), List.mem_of_getElem? (i := 601) (by decide +kernel), List.mem_of_getElem? (i := 602) (by decide +kernel), rfl, by decide +kernel, by decide⟩
theorem lk128 : axLinkOk (4, 202, 0, 97, 1, 0, 604) := ⟨mtX0_offIfTurned, rfl, List.mem_of_getElem? (i := 604) (by decide +kernel), List.mem_of_getElem? (i := 605) (by decide +kernel), List.mem_of_getElem? (i := 606) (by decide +kernel), rfl, by decide +kernel, by decide⟩
theorem lk129 : axLinkOk (6, 100, 0, 98, 1, 4, 608) := ⟨mtX4_needs, rfl, List.mem_of_getElem? (i := 608) (by decide +kernel), List.mem_of_getElem? (i := 609) (by decide +kernel), List.mem_of_getElem? (i := 610) (by decide +kernel), rfl, by decide +kernel, by decide⟩
theorem lk130 : axLinkOk (4, 205, 0, 99, 1, 0, 612) := ⟨mtX0_allNeedsOf, rfl, List.mem_of_getElem? (i := 612) (by decide +kernel), List.mem_of_getElem? (i := 613) (by decide +kernel), List.mem_of_getElem? (i := 614) (by decide +kernel), rfl, by decide +kernel, by decide⟩
theorem lk131 : axLinkOk (6, 106, 0, 100, 1, 4, 616) := ⟨mtX4_put, rfl, List.mem_of_getElem? (i := 616) (by decide +kernel), List.mem_of_getElem? (i := 617) (by decide +kernel), List.mem_of_getElem? (i := 618) (by decide +kernel), rfl, by decide +kernel, by decide⟩
theorem lk132 : axLinkOk (4, 208, 0, 101, 1, 2, 620) := ⟨mtX2_append, rfl, List.mem_of_getElem? (i := 620) (by decide +kernel), List.mem_of_getElem? (i := 621) (by decide +kernel), List.mem_of_getElem? (i := 622) (by decide +kernel), rfl, by decide +kernel, by decide⟩
theorem lk133 : axLinkOk (2, 19, 1, 102, 1, 2, 624) := ⟨mtX2_signsOf, rfl, List.mem_of_getElem? (i := 624) (by decide +kernel), List.mem_of_getElem? (i := 625) (by decide +kernel), rfl, by decide +kernel⟩
theorem lk134 : axLinkOk (2, 23, 1, 103, 2, 2, 627) := ⟨mtX2_codeOf, rfl, List.mem_of_getElem? (i := 627) (by decide +kernel), List.mem_of_getElem? (i := 628) (by decide +kernel), rfl, by decide +kernel⟩
theorem lk135 : axLinkOk (2, 27, 0, 104, 1, 2, 630) := ⟨mtX2_addSign, rfl, List.mem_of_getElem? (i := 630) (by decide +kernel), List.mem_of_getElem? (i := 632) (by decide +kernel), List.mem_of_getElem? (i := 10) (by decide +kernel), rfl, by decide +kernel, by decide⟩
theorem lk136 : axLinkOk (6, 111, 0, 105, 0, 4, 634) := ⟨mtX4_wipe, rfl, List.mem_of_getElem? (i := 634) (by decide +kernel), List.mem_of_getElem? (i := 635) (by decide +kernel), List.mem_of_getElem? (i := 636) (by decide +kernel), rfl, by decide +kernel, by decide⟩
theorem lk137 : axLinkOk (4, 212, 0, 106, 0, 2, 638) := ⟨mtX2_clear, rfl, List.mem_of_getElem? (i := 638) (by decide +kernel), List.mem_of_getElem? (i := 639) (by decide +kernel), List.mem_of_getElem? (i := 640) (by decide +kernel), rfl, by decide +kernel, by decide⟩
theorem lk138 : axLinkOk (6, 116, 0, 107, 0, 4, 642) := ⟨mtX4_fault, rfl, List.mem_of_getElem? (i := 642) (by decide +kernel), List.mem_of_getElem? (i := 643) (by decide +kernel), List.mem_of_getElem? (i := 644) (by decide +kernel), rfl, by decide +kernel, by decide⟩
theorem lk139 : axLinkOk (4, 215, 0, 108, 0, 2, 646) := ⟨mtX2_firstFault, rfl, List.mem_of_getElem? (i := 646) (by decide +kernel), List.mem_of_getElem? (i := 647) (by decide +kernel), List.mem_of_getElem? (i := 648) (by decide +kernel), rfl, by decide +kernel, by decide⟩
theorem lk140 : axLinkOk (2, 31, 0, 109, 0, 2, 650) := ⟨mtX2_rewind, rfl, List.mem_of_getElem? (i := 650) (by decide +kernel), List.mem_of_getElem? (i := 651) (by decide +kernel), List.mem_of_getElem? (i := 652) (by decide +kernel), rfl, by decide +kernel, by decide⟩
theorem lk141 : axLinkOk (2, 34, 0, 110, 0, 2, 654) := ⟨mtX2_readOrder, rfl, List.mem_of_getElem? (i := 654) (by decide +kernel), List.mem_of_getElem? (i := 655) (by decide +kernel), List.mem_of_getElem? (i := 656) (by decide +kernel), rfl, by decide +kernel, by decide⟩
theorem lk142 : axLinkOk (2, 55, 0, 111, 1, 2, 658) := ⟨mtX2_signAt, rfl, List.mem_of_getElem? (i := 658) (by decide +kernel), List.mem_of_getElem? (i := 660) (by decide +kernel), List.mem_of_getElem? (i := 11) (by decide +kernel), rfl, by decide +kernel, by decide⟩
theorem lk143 : axLinkOk (2, 59, 0, 112, 0, 2, 662) := ⟨mtX2_readSlug, rfl, List.mem_of_getElem? (i := 662) (by decide +kernel), List.mem_of_getElem? (i := 664) (by decide +kernel), List.mem_of_getElem? (i := 12) (by decide +kernel), rfl, by decide +kernel, by decide⟩
theorem lk144 : axLinkOk (2, 72, 0, 113, 0, 2, 666) := ⟨mtX2_readNumber, rfl, List.mem_of_getElem? (i := 666) (by decide +kernel), List.mem_of_getElem? (i := 668) (by decide +kernel), List.mem_of_getElem? (i := 13) (by decide +kernel), rfl, by decide +kernel, by decide⟩
theorem lk145 : axLinkOk (2, 76, 0, 114, 0, 2, 670) := ⟨mtX2_readDigit, rfl, List.mem_of_getElem? (i := 670) (by decide +kernel), List.mem_of_getElem? (i := 672) (by decide +kernel), List.mem_of_getElem? (i := 14) (by decide +kernel), rfl, by decide +kernel, by decide⟩
theorem lk146 : axLinkOk (2, 69, 0, 115, 1, 2, 674) := ⟨mtX2_skip, rfl, List.mem_of_getElem? (i := 674) (by decide +kernel), List.mem_of_getElem? (i := 676) (by decide +kernel), List.mem_of_getElem? (i := 15) (by decide +kernel), rfl, by decide +kernel, by decide⟩
theorem lk147 : axLinkOk (2, 62, 0, 116, 1, 2, 678) := ⟨mtX2_readPair, rfl, List.mem_of_getElem? (i := 678) (by decide +kernel), List.mem_of_getElem? (i := 680) (by decide +kernel), List.mem_of_getElem? (i := 16) (by decide +kernel), rfl, by decide +kernel, by decide⟩
theorem lk148 : axLinkOk (2, 66, 0, 117, 0, 2, 682) := ⟨mtX2_readAct, rfl, List.mem_of_getElem? (i := 682) (by decide +kernel), List.mem_of_getElem? (i := 684) (by decide +kernel), List.mem_of_getElem? (i := 17) (by decide +kernel), rfl, by decide +kernel, by decide⟩
theorem lk149 : axLinkOk (6, 120, 0, 118, 0, 4, 686) := ⟨mtX4_carryOut, rfl, List.mem_of_getElem? (i := 686) (by decide +kernel), List.mem_of_getElem? (i := 687) (by decide +kernel), List.mem_of_getElem? (i := 688) (by decide +kernel), rfl, by decide +kernel, by decide⟩
theorem lk150 : axLinkOk (4, 218, 0, 109, 0, 2, 690) := ⟨mtX2_rewind, rfl, List.mem_of_getElem? (i := 690) (by decide +kernel), List.mem_of_getElem? (i := 651) (by decide +kernel), List.mem_of_getElem? (i := 652) (by decide +kernel), rfl, by decide +kernel, by decide⟩
theorem lk151 : axLinkOk (4, 221, 0, 110, 0, 2, 691) := ⟨mtX2_readOrder, rfl, List.mem_of_getElem? (i := 691) (by decide +kernel), List.mem_of_getElem? (i := 655) (by decide +kernel), List.mem_of_getElem? (i := 656) (by decide +kernel), rfl, by decide +kernel, by decide⟩
theorem lk152 : axLinkOk (4, 224, 0, 119, 0, 4, 692) := ⟨mtX4_carryOrder, rfl, List.mem_of_getElem? (i := 692) (by decide +kernel), List.mem_of_getElem? (i := 694) (by decide +kernel), List.mem_of_getElem? (i := 18) (by decide +kernel), rfl, by decide +kernel, by decide⟩
theorem lk153 : axLinkOk (4, 239, 0, 120, 0, 2, 696) := ⟨mtX2_firstNumber, rfl, List.mem_of_getElem? (i := 696) (by decide +kernel), List.mem_of_getElem? (i := 697) (by decide +kernel), List.mem_of_getElem? (i := 698) (by decide +kernel), rfl, by decide +kernel, by decide⟩
theorem lk154 : axLinkOk (4, 242, 0, 121, 0, 2, 700) := ⟨mtX2_secondNumber, rfl, List.mem_of_getElem? (i := 700) (by decide +kernel), List.mem_of_getElem? (i := 701) (by decide +kernel), List.mem_of_getElem? (i := 702) (by decide +kernel), rfl, by decide +kernel, by decide⟩
theorem lk155 : axLinkOk (4, 245, 0, 122, 0, 2, 704) := ⟨mtX2_kind, rfl, List.mem_of_getElem? (i := 704) (by decide +kernel), List.mem_of_getElem? (i := 705) (by decide +kernel), List.mem_of_getElem? (i := 706) (by decide +kernel), rfl, by decide +kernel, by decide⟩
theorem lk156 : axLinkOk (4, 235, 0, 86, 0, 0, 708) := ⟨mtX0_size, rfl, List.mem_of_getElem? (i := 708) (by decide +kernel), List.mem_of_getElem? (i := 554) (by decide +kernel), List.mem_of_getElem? (i := 555) (by decide +kernel), rfl, by decide +kernel, by decide⟩
theorem lk157 : axLinkOk (6, 124, 0, 123, 0, 4, 709) := ⟨mtX4_undo, rfl, List.mem_of_getElem? (i := 709) (by decide +kernel), List.mem_of_getElem? (i := 710) (by decide +kernel), List.mem_of_getElem? (i := 711) (by decide +kernel), rfl, by decide +kernel, by decide⟩
theorem lk158 : axLinkOk (4, 227, 0, 124, 1, 1, 713) := ⟨mtX1_takeBack, rfl, List.mem_of_getElem? (i := 713) (by decide +kernel), List.mem_of_getElem? (i := 714) (by decide +kernel), List.mem_of_getElem? (i := 715) (by decide +kernel), rfl, by decide +kernel, by decide⟩
theorem lk159 : axLinkOk (1, 34, 0, 8, 1, 0, 717) := ⟨mtX0_takeOver, rfl, List.mem_of_getElem? (i := 717) (by decide +kernel), List.mem_of_getElem? (i := 206) (by decide +kernel), List.mem_of_getElem? (i := 207) (by decide +kernel), rfl, by decide +kernel, by decide⟩
theorem lk160 : axLinkOk (6, 128, 0, 125, 1, 4, 718) := ⟨mtX4_save, rfl, List.mem_of_getElem? (i := 718) (by decide +kernel), List.mem_of_getElem? (i := 719) (by decide +kernel), List.mem_of_getElem? (i := 720) (by decide +kernel), rfl, by decide +kernel, by decide⟩
theorem lk161 : axLinkOk (4, 231, 1, 7, 2, 4, 722) := ⟨mtX4_copyInto, rfl, List.mem_of_getElem? (i := 722) (by decide +kernel), List.mem_of_getElem? (i := 203) (by decide +kernel), rfl, by decide +kernel⟩
theorem lk162 : axLinkOk (6, 132, 0, 126, 1, 4, 723) := ⟨mtX4_restore, rfl, List.mem_of_getElem? (i := 723) (by decide +kernel), List.mem_of_getElem? (i := 724) (by decide +kernel), List.mem_of_getElem? (i := 725) (by decide +kernel), rfl, by decide +kernel, by decide⟩
theorem lk163 : axLinkOk (6, 12, 8, 127, 0, 5, 729) := ⟨mtX5_init, rfl, List.mem_of_getElem? (i := 729) (by decide +kernel), List.mem_of_getElem? (i := 730) (by decide +kernel), rfl, by decide +kernel, rfl⟩
theorem lk164 : axLinkOk (5, 1, 9, 0, 0, 0, 732) := List.mem_of_getElem? (i := 732) (by decide +kernel)
theorem lk165 : axLinkOk (6, 17, 0, 128, 2, 5, 777) := ⟨mtX5_set, rfl, List.mem_of_getElem? (i := 777) (by decide +kernel), List.mem_of_getElem? (i := 778) (by decide +kernel), List.mem_of_getElem? (i := 779) (by decide +kernel), rfl, by decide +kernel, by decide⟩
theorem lk166 : axLinkOk (5, 29, 1, 129, 3, 5, 781) := ⟨mtX5_in, rfl, List.mem_of_getElem? (i := 781) (by decide +kernel), List.mem_of_getElem? (i := 782) (by decide +kernel), rfl, by decide +kernel⟩
theorem lk167 : axLinkOk (5, 121, 1, 130, 2, 5, 784) := ⟨mtX5_isValue, rfl, List.mem_of_getElem? (i := 784) (by decide +kernel), List.mem_of_getElem? (i := 785) (by decide +kernel), rfl, by decide +kernel⟩
theorem lk168 : axLinkOk (5, 117, 0, 131, 1, 5, 787) := ⟨mtX5_record, rfl, List.mem_of_getElem? (i := 787) (by decide +kernel), List.mem_of_getElem? (i := 789) (by decide +kernel), List.mem_of_getElem? (i := 19) (by decide +kernel), rfl, by decide +kernel, by decide⟩
theorem lk169 : axLinkOk (5, 41, 1, 132, 4, 5, 791) := ⟨mtX5_copy, rfl, List.mem_of_getElem? (i := 791) (by decide +kernel), List.mem_of_getElem? (i := 792) (by decide +kernel), rfl, by decide +kernel⟩
theorem lk170 : axLinkOk (6, 21, 0, 133, 2, 5, 794) := ⟨mtX5_target, rfl, List.mem_of_getElem? (i := 794) (by decide +kernel), List.mem_of_getElem? (i := 795) (by decide +kernel), List.mem_of_getElem? (i := 796) (by decide +kernel), rfl, by decide +kernel, by decide⟩
theorem lk171 : axLinkOk (6, 26, 0, 134, 3, 5, 798) := ⟨mtX5_slug, rfl, List.mem_of_getElem? (i := 798) (by decide +kernel), List.mem_of_getElem? (i := 799) (by decide +kernel), List.mem_of_getElem? (i := 800) (by decide +kernel), rfl, by decide +kernel, by decide⟩
theorem lk172 : axLinkOk (5, 124, 0, 135, 0, 5, 802) := ⟨mtX5_begins, rfl, List.mem_of_getElem? (i := 802) (by decide +kernel), List.mem_of_getElem? (i := 804) (by decide +kernel), List.mem_of_getElem? (i := 20) (by decide +kernel), rfl, by decide +kernel, by decide⟩
theorem lk173 : axLinkOk (5, 113, 0, 136, 3, 5, 806) := ⟨mtX5_doSlug, rfl, List.mem_of_getElem? (i := 806) (by decide +kernel), List.mem_of_getElem? (i := 808) (by decide +kernel), List.mem_of_getElem? (i := 21) (by decide +kernel), rfl, by decide +kernel, by decide⟩
theorem lk174 : axLinkOk (5, 81, 0, 137, 0, 5, 810) := ⟨mtX5_freeNumber, rfl, List.mem_of_getElem? (i := 810) (by decide +kernel), List.mem_of_getElem? (i := 812) (by decide +kernel), List.mem_of_getElem? (i := 22) (by decide +kernel), rfl, by decide +kernel, by decide⟩
theorem lk175 : axLinkOk (5, 33, 0, 138, 2, 5, 814) := ⟨mtX5_get, rfl, List.mem_of_getElem? (i := 814) (by decide +kernel), List.mem_of_getElem? (i := 816) (by decide +kernel), List.mem_of_getElem? (i := 23) (by decide +kernel), rfl, by decide +kernel, by decide⟩
theorem lk176 : axLinkOk (5, 84, 0, 139, 3, 5, 818) := ⟨mtX5_lay, rfl, List.mem_of_getElem? (i := 818) (by decide +kernel), List.mem_of_getElem? (i := 820) (by decide +kernel), List.mem_of_getElem? (i := 24) (by decide +kernel), rfl, by decide +kernel, by decide⟩
theorem lk177 : axLinkOk (5, 88, 0, 140, 2, 5, 822) := ⟨mtX5_putIn, rfl, List.mem_of_getElem? (i := 822) (by decide +kernel), List.mem_of_getElem? (i := 824) (by decide +kernel), List.mem_of_getElem? (i := 25) (by decide +kernel), rfl, by decide +kernel, by decide⟩
theorem lk178 : axLinkOk (5, 127, 0, 141, 1, 5, 826) := ⟨mtX5_ends, rfl, List.mem_of_getElem? (i := 826) (by decide +kernel), List.mem_of_getElem? (i := 828) (by decide +kernel), List.mem_of_getElem? (i := 26) (by decide +kernel), rfl, by decide +kernel, by decide⟩
theorem lk179 : axLinkOk (6, 31, 0, 142, 1, 5, 830) := ⟨mtX5_drop, rfl, List.mem_of_getElem? (i := 830) (by decide +kernel), List.mem_of_getElem? (i := 831) (by decide +kernel), List.mem_of_getElem? (i := 832) (by decide +kernel), rfl, by decide +kernel, by decide⟩
theorem lk180 : axLinkOk (5, 92, 0, 143, 1, 5, 834) := ⟨mtX5_isSlug, rfl, List.mem_of_getElem? (i := 834) (by decide +kernel), List.mem_of_getElem? (i := 836) (by decide +kernel), List.mem_of_getElem? (i := 27) (by decide +kernel), rfl, by decide +kernel, by decide⟩
theorem lk181 : axLinkOk (5, 99, 0, 144, 1, 5, 838) := ⟨mtX5_placeOf, rfl, List.mem_of_getElem? (i := 838) (by decide +kernel), List.mem_of_getElem? (i := 840) (by decide +kernel), List.mem_of_getElem? (i := 28) (by decide +kernel), rfl, by decide +kernel, by decide⟩
theorem lk182 : axLinkOk (5, 105, 0, 145, 1, 5, 842) := ⟨mtX5_takeOut, rfl, List.mem_of_getElem? (i := 842) (by decide +kernel), List.mem_of_getElem? (i := 844) (by decide +kernel), List.mem_of_getElem? (i := 29) (by decide +kernel), rfl, by decide +kernel, by decide⟩
theorem lk183 : axLinkOk (6, 35, 0, 146, 1, 5, 846) := ⟨mtX5_turn, rfl, List.mem_of_getElem? (i := 846) (by decide +kernel), List.mem_of_getElem? (i := 847) (by decide +kernel), List.mem_of_getElem? (i := 848) (by decide +kernel), rfl, by decide +kernel, by decide⟩
theorem lk184 : axLinkOk (6, 39, 0, 147, 2, 5, 850) := ⟨mtX5_need, rfl, List.mem_of_getElem? (i := 850) (by decide +kernel), List.mem_of_getElem? (i := 851) (by decide +kernel), List.mem_of_getElem? (i := 852) (by decide +kernel), rfl, by decide +kernel, by decide⟩
theorem lk185 : axLinkOk (5, 130, 0, 148, 2, 5, 854) := ⟨mtX5_doNeed, rfl, List.mem_of_getElem? (i := 854) (by decide +kernel), List.mem_of_getElem? (i := 856) (by decide +kernel), List.mem_of_getElem? (i := 30) (by decide +kernel), rfl, by decide +kernel, by decide⟩
theorem lk186 : axLinkOk (5, 95, 1, 149, 2, 5, 858) := ⟨mtX5_has, rfl, List.mem_of_getElem? (i := 858) (by decide +kernel), List.mem_of_getElem? (i := 859) (by decide +kernel), rfl, by decide +kernel⟩
theorem lk187 : axLinkOk (5, 102, 1, 150, 1, 5, 861) := ⟨mtX5_bits, rfl, List.mem_of_getElem? (i := 861) (by decide +kernel), List.mem_of_getElem? (i := 862) (by decide +kernel), rfl, by decide +kernel⟩
theorem lk188 : axLinkOk (6, 43, 0, 151, 2, 5, 864) := ⟨mtX5_trim, rfl, List.mem_of_getElem? (i := 864) (by decide +kernel), List.mem_of_getElem? (i := 865) (by decide +kernel), List.mem_of_getElem? (i := 866) (by decide +kernel), rfl, by decide +kernel, by decide⟩
theorem lk189 : axLinkOk (5, 133, 0, 152, 2, 5, 868) := ⟨mtX5_doTrim, rfl, List.mem_of_getElem? (i := 868) (by decide +kernel), List.mem_of_getElem? (i := 870) (by decide +kernel), List.mem_of_getElem? (i := 31) (by decide +kernel), rfl, by decide +kernel, by decide⟩
theorem lk190 : axLinkOk (5, 52, 0, 153, 1, 5, 872) := ⟨mtX5_canTrim, rfl, List.mem_of_getElem? (i := 872) (by decide +kernel), List.mem_of_getElem? (i := 874) (by decide +kernel), List.mem_of_getElem? (i := 32) (by decide +kernel), rfl, by decide +kernel, by decide⟩
theorem lk191 : axLinkOk (5, 45, 0, 154, 1, 5, 876) := ⟨mtX5_leastBeats, rfl, List.mem_of_getElem? (i := 876) (by decide +kernel), List.mem_of_getElem? (i := 878) (by decide +kernel), List.mem_of_getElem? (i := 33) (by decide +kernel), rfl, by decide +kernel, by decide⟩
theorem lk192 : axLinkOk (6, 47, 0, 155, 1, 5, 880) := ⟨mtX5_restoreTail, rfl, List.mem_of_getElem? (i := 880) (by decide +kernel), List.mem_of_getElem? (i := 881) (by decide +kernel), List.mem_of_getElem? (i := 882) (by decide +kernel), rfl, by decide +kernel, by decide⟩
theorem lk193 : axLinkOk (6, 51, 0, 156, 2, 5, 884) := ⟨mtX5_move, rfl, List.mem_of_getElem? (i := 884) (by decide +kernel), List.mem_of_getElem? (i := 885) (by decide +kernel), List.mem_of_getElem? (i := 886) (by decide +kernel), rfl, by decide +kernel, by decide⟩
theorem lk194 : axLinkOk (5, 136, 0, 157, 2, 5, 888) := ⟨mtX5_doMove, rfl, List.mem_of_getElem? (i := 888) (by decide +kernel), List.mem_of_getElem? (i := 890) (by decide +kernel), List.mem_of_getElem? (i := 34) (by decide +kernel), rfl, by decide +kernel, by decide⟩
theorem lk195 : axLinkOk (5, 109, 0, 158, 0, 5, 892) := ⟨mtX5_isOrdered, rfl, List.mem_of_getElem? (i := 892) (by decide +kernel), List.mem_of_getElem? (i := 894) (by decide +kernel), List.mem_of_getElem? (i := 35) (by decide +kernel), rfl, by decide +kernel, by decide⟩
theorem lk196 : axLinkOk (6, 55, 0, 159, 2, 5, 896) := ⟨mtX5_swap, rfl, List.mem_of_getElem? (i := 896) (by decide +kernel), List.mem_of_getElem? (i := 897) (by decide +kernel), List.mem_of_getElem? (i := 898) (by decide +kernel), rfl, by decide +kernel, by decide⟩
theorem lk197 : axLinkOk (5, 139, 0, 160, 2, 5, 900) := ⟨mtX5_doSwap, rfl, List.mem_of_getElem? (i := 900) (by decide +kernel), List.mem_of_getElem? (i := 902) (by decide +kernel), List.mem_of_getElem? (i := 36) (by decide +kernel), rfl, by decide +kernel, by decide⟩
theorem lk198 : axLinkOk (5, 67, 1, 161, 1, 5, 904) := ⟨mtX5_size, rfl, List.mem_of_getElem? (i := 904) (by decide +kernel), List.mem_of_getElem? (i := 905) (by decide +kernel), rfl, by decide +kernel⟩
theorem lk199 : axLinkOk (6, 59, 0, 162, 2, 5, 907) := ⟨mtX5_split, rfl, List.mem_of_getElem? (i := 907) (by decide +kernel), List.mem_of_getElem? (i := 908) (by decide +kernel), List.mem_of_getElem? (i := 909) (by decide +kernel), rfl, by decide +kernel, by decide⟩
theorem lk200 : axLinkOk (5, 142, 0, 163, 2, 5, 911) := ⟨mtX5_doSplit, rfl, List.mem_of_getElem? (i := 911) (by decide +kernel), List.mem_of_getElem? (i := 913) (by decide +kernel), List.mem_of_getElem? (i := 37) (by decide +kernel), rfl, by decide +kernel, by decide⟩
theorem lk201 : axLinkOk (6, 63, 0, 164, 1, 5, 915) := ⟨mtX5_fit, rfl, List.mem_of_getElem? (i := 915) (by decide +kernel), List.mem_of_getElem? (i := 916) (by decide +kernel), List.mem_of_getElem? (i := 917) (by decide +kernel), rfl, by decide +kernel, by decide⟩
theorem lk202 : axLinkOk (5, 145, 0, 165, 1, 5, 919) := ⟨mtX5_doFit, rfl, List.mem_of_getElem? (i := 919) (by decide +kernel), List.mem_of_getElem? (i := 921) (by decide +kernel), List.mem_of_getElem? (i := 38) (by decide +kernel), rfl, by decide +kernel, by decide⟩
theorem lk203 : axLinkOk (5, 74, 0, 166, 0, 5, 923) := ⟨mtX5_acts, rfl, List.mem_of_getElem? (i := 923) (by decide +kernel), List.mem_of_getElem? (i := 925) (by decide +kernel), List.mem_of_getElem? (i := 39) (by decide +kernel), rfl, by decide +kernel, by decide⟩
theorem lk204 : axLinkOk (5, 49, 0, 167, 1, 5, 927) := ⟨mtX5_actAt, rfl, List.mem_of_getElem? (i := 927) (by decide +kernel), List.mem_of_getElem? (i := 929) (by decide +kernel), List.mem_of_getElem? (i := 40) (by decide +kernel), rfl, by decide +kernel, by decide⟩
theorem lk205 : axLinkOk (5, 64, 0, 168, 1, 5, 931) := ⟨mtX5_off, rfl, List.mem_of_getElem? (i := 931) (by decide +kernel), List.mem_of_getElem? (i := 933) (by decide +kernel), List.mem_of_getElem? (i := 41) (by decide +kernel), rfl, by decide +kernel, by decide⟩
theorem lk206 : axLinkOk (5, 58, 0, 169, 2, 5, 935) := ⟨mtX5_sumOf, rfl, List.mem_of_getElem? (i := 935) (by decide +kernel), List.mem_of_getElem? (i := 937) (by decide +kernel), List.mem_of_getElem? (i := 42) (by decide +kernel), rfl, by decide +kernel, by decide⟩
theorem lk207 : axLinkOk (5, 61, 0, 170, 1, 5, 939) := ⟨mtX5_targetOf, rfl, List.mem_of_getElem? (i := 939) (by decide +kernel), List.mem_of_getElem? (i := 941) (by decide +kernel), List.mem_of_getElem? (i := 43) (by decide +kernel), rfl, by decide +kernel, by decide⟩
theorem lk208 : axLinkOk (6, 67, 0, 171, 2, 5, 943) := ⟨mtX5_of, rfl, List.mem_of_getElem? (i := 943) (by decide +kernel), List.mem_of_getElem? (i := 944) (by decide +kernel), List.mem_of_getElem? (i := 945) (by decide +kernel), rfl, by decide +kernel, by decide⟩
theorem lk209 : axLinkOk (5, 148, 0, 172, 1, 5, 947) := ⟨mtX5_neededBy, rfl, List.mem_of_getElem? (i := 947) (by decide +kernel), List.mem_of_getElem? (i := 949) (by decide +kernel), List.mem_of_getElem? (i := 44) (by decide +kernel), rfl, by decide +kernel, by decide⟩
theorem lk210 : axLinkOk (5, 55, 0, 173, 1, 5, 951) := ⟨mtX5_begin, rfl, List.mem_of_getElem? (i := 951) (by decide +kernel), List.mem_of_getElem? (i := 953) (by decide +kernel), List.mem_of_getElem? (i := 45) (by decide +kernel), rfl, by decide +kernel, by decide⟩
theorem lk211 : axLinkOk (6, 71, 0, 174, 1, 5, 955) := ⟨mtX5_at, rfl, List.mem_of_getElem? (i := 955) (by decide +kernel), List.mem_of_getElem? (i := 956) (by decide +kernel), List.mem_of_getElem? (i := 957) (by decide +kernel), rfl, by decide +kernel, by decide⟩
theorem lk212 : axLinkOk (6, 75, 0, 175, 1, 5, 959) := ⟨mtX5_atBeat, rfl, List.mem_of_getElem? (i := 959) (by decide +kernel), List.mem_of_getElem? (i := 960) (by decide +kernel), List.mem_of_getElem? (i := 961) (by decide +kernel), rfl, by decide +kernel, by decide⟩
theorem lk213 : axLinkOk (6, 79, 0, 176, 2, 5, 963) := ⟨mtX5_ofAct, rfl, List.mem_of_getElem? (i := 963) (by decide +kernel), List.mem_of_getElem? (i := 964) (by decide +kernel), List.mem_of_getElem? (i := 965) (by decide +kernel), rfl, by decide +kernel, by decide⟩
theorem lk214 : axLinkOk (5, 78, 0, 177, 1, 5, 967) := ⟨mtX5_fits, rfl, List.mem_of_getElem? (i := 967) (by decide +kernel), List.mem_of_getElem? (i := 969) (by decide +kernel), List.mem_of_getElem? (i := 46) (by decide +kernel), rfl, by decide +kernel, by decide⟩
theorem lk215 : axLinkOk (5, 70, 0, 178, 1, 5, 971) := ⟨mtX5_isOpen, rfl, List.mem_of_getElem? (i := 971) (by decide +kernel), List.mem_of_getElem? (i := 973) (by decide +kernel), List.mem_of_getElem? (i := 47) (by decide +kernel), rfl, by decide +kernel, by decide⟩
theorem lk216 : axLinkOk (5, 151, 0, 179, 1, 5, 975) := ⟨mtX5_beginOfAct, rfl, List.mem_of_getElem? (i := 975) (by decide +kernel), List.mem_of_getElem? (i := 977) (by decide +kernel), List.mem_of_getElem? (i := 48) (by decide +kernel), rfl, by decide +kernel, by decide⟩
theorem lk217 : axLinkOk (6, 83, 0, 180, 1, 5, 979) := ⟨mtX5_count, rfl, List.mem_of_getElem? (i := 979) (by decide +kernel), List.mem_of_getElem? (i := 980) (by decide +kernel), List.mem_of_getElem? (i := 981) (by decide +kernel), rfl, by decide +kernel, by decide⟩
theorem lk218 : axLinkOk (5, 154, 0, 181, 0, 5, 983) := ⟨mtX5_slugs, rfl, List.mem_of_getElem? (i := 983) (by decide +kernel), List.mem_of_getElem? (i := 985) (by decide +kernel), List.mem_of_getElem? (i := 49) (by decide +kernel), rfl, by decide +kernel, by decide⟩
theorem lk219 : axLinkOk (5, 157, 0, 182, 0, 5, 987) := ⟨mtX5_allOff, rfl, List.mem_of_getElem? (i := 987) (by decide +kernel), List.mem_of_getElem? (i := 989) (by decide +kernel), List.mem_of_getElem? (i := 50) (by decide +kernel), rfl, by decide +kernel, by decide⟩
theorem lk220 : axLinkOk (5, 160, 0, 183, 0, 5, 991) := ⟨mtX5_fitting, rfl, List.mem_of_getElem? (i := 991) (by decide +kernel), List.mem_of_getElem? (i := 993) (by decide +kernel), List.mem_of_getElem? (i := 51) (by decide +kernel), rfl, by decide +kernel, by decide⟩
theorem lk221 : axLinkOk (5, 163, 0, 184, 0, 5, 995) := ⟨mtX5_longest, rfl, List.mem_of_getElem? (i := 995) (by decide +kernel), List.mem_of_getElem? (i := 997) (by decide +kernel), List.mem_of_getElem? (i := 52) (by decide +kernel), rfl, by decide +kernel, by decide⟩
theorem lk222 : axLinkOk (6, 87, 0, 185, 1, 5, 999) := ⟨mtX5_places, rfl, List.mem_of_getElem? (i := 999) (by decide +kernel), List.mem_of_getElem? (i := 1000) (by decide +kernel), List.mem_of_getElem? (i := 1001) (by decide +kernel), rfl, by decide +kernel, by decide⟩
theorem lk223 : axLinkOk (6, 91, 0, 186, 1, 5, 1003) := ⟨mtX5_bestSwap, rfl, List.mem_of_getElem? (i := 1003) (by decide +kernel), List.mem_of_getElem? (i := 1004) (by decide +kernel), List.mem_of_getElem? (i := 1005) (by decide +kernel), rfl, by decide +kernel, by decide⟩
theorem lk224 : axLinkOk (6, 95, 0, 187, 1, 5, 1007) := ⟨mtX5_ifFitted, rfl, List.mem_of_getElem? (i := 1007) (by decide +kernel), List.mem_of_getElem? (i := 1008) (by decide +kernel), List.mem_of_getElem? (i := 1009) (by decide +kernel), rfl, by decide +kernel, by decide⟩
theorem lk225 : axLinkOk (6, 99, 0, 188, 1, 5, 1011) := ⟨mtX5_ifTurned, rfl, List.mem_of_getElem? (i := 1011) (by decide +kernel), List.mem_of_getElem? (i := 1012) (by decide +kernel), List.mem_of_getElem? (i := 1013) (by decide +kernel), rfl, by decide +kernel, by decide⟩
theorem lk226 : axLinkOk (6, 103, 0, 189, 1, 5, 1015) := ⟨mtX5_needs, rfl, List.mem_of_getElem? (i := 1015) (by decide +kernel), List.mem_of_getElem? (i := 1016) (by decide +kernel), List.mem_of_getElem? (i := 1017) (by decide +kernel), rfl, by decide +kernel, by decide⟩
theorem lk227 : axLinkOk (6, 110, 0, 190, 1, 5, 1019) := ⟨mtX5_put, rfl, List.mem_of_getElem? (i := 1019) (by decide +kernel), List.mem_of_getElem? (i := 1020) (by decide +kernel), List.mem_of_getElem? (i := 1021) (by decide +kernel), rfl, by decide +kernel, by decide⟩
theorem lk228 : axLinkOk (6, 115, 0, 191, 0, 5, 1024) := ⟨mtX5_wipe, rfl, List.mem_of_getElem? (i := 1024) (by decide +kernel), List.mem_of_getElem? (i := 1025) (by decide +kernel), List.mem_of_getElem? (i := 1026) (by decide +kernel), rfl, by decide +kernel, by decide⟩
theorem lk229 : axLinkOk (6, 119, 0, 192, 0, 5, 1028) := ⟨mtX5_fault, rfl, List.mem_of_getElem? (i := 1028) (by decide +kernel), List.mem_of_getElem? (i := 1029) (by decide +kernel), List.mem_of_getElem? (i := 1030) (by decide +kernel), rfl, by decide +kernel, by decide⟩
theorem lk230 : axLinkOk (5, 208, 0, 193, 1, 5, 1032) := ⟨mtX5_readPad, rfl, List.mem_of_getElem? (i := 1032) (by decide +kernel), List.mem_of_getElem? (i := 1034) (by decide +kernel), List.mem_of_getElem? (i := 53) (by decide +kernel), rfl, by decide +kernel, by decide⟩
theorem lk231 : axLinkOk (5, 202, 0, 194, 0, 5, 1036) := ⟨mtX5_readOrder, rfl, List.mem_of_getElem? (i := 1036) (by decide +kernel), List.mem_of_getElem? (i := 1038) (by decide +kernel), List.mem_of_getElem? (i := 54) (by decide +kernel), rfl, by decide +kernel, by decide⟩
theorem lk232 : axLinkOk (5, 174, 0, 195, 2, 5, 1040) := ⟨mtX5_isNext, rfl, List.mem_of_getElem? (i := 1040) (by decide +kernel), List.mem_of_getElem? (i := 1042) (by decide +kernel), List.mem_of_getElem? (i := 55) (by decide +kernel), rfl, by decide +kernel, by decide⟩
theorem lk233 : axLinkOk (5, 183, 0, 196, 0, 5, 1044) := ⟨mtX5_readNumber, rfl, List.mem_of_getElem? (i := 1044) (by decide +kernel), List.mem_of_getElem? (i := 1046) (by decide +kernel), List.mem_of_getElem? (i := 56) (by decide +kernel), rfl, by decide +kernel, by decide⟩
theorem lk234 : axLinkOk (5, 186, 0, 197, 1, 5, 1048) := ⟨mtX5_takes, rfl, List.mem_of_getElem? (i := 1048) (by decide +kernel), List.mem_of_getElem? (i := 1050) (by decide +kernel), List.mem_of_getElem? (i := 57) (by decide +kernel), rfl, by decide +kernel, by decide⟩
theorem lk235 : axLinkOk (5, 193, 1, 198, 1, 5, 1052) := ⟨mtX5_signOf, rfl, List.mem_of_getElem? (i := 1052) (by decide +kernel), List.mem_of_getElem? (i := 1053) (by decide +kernel), rfl, by decide +kernel⟩
theorem lk236 : axLinkOk (5, 205, 0, 199, 0, 5, 1055) := ⟨mtX5_does, rfl, List.mem_of_getElem? (i := 1055) (by decide +kernel), List.mem_of_getElem? (i := 1057) (by decide +kernel), List.mem_of_getElem? (i := 58) (by decide +kernel), rfl, by decide +kernel, by decide⟩
theorem lk237 : axLinkOk (6, 123, 0, 200, 0, 5, 1059) := ⟨mtX5_carryOut, rfl, List.mem_of_getElem? (i := 1059) (by decide +kernel), List.mem_of_getElem? (i := 1060) (by decide +kernel), List.mem_of_getElem? (i := 1061) (by decide +kernel), rfl, by decide +kernel, by decide⟩
theorem lk238 : axLinkOk (6, 127, 0, 201, 0, 5, 1063) := ⟨mtX5_undo, rfl, List.mem_of_getElem? (i := 1063) (by decide +kernel), List.mem_of_getElem? (i := 1064) (by decide +kernel), List.mem_of_getElem? (i := 1065) (by decide +kernel), rfl, by decide +kernel, by decide⟩
theorem lk239 : axLinkOk (6, 131, 0, 202, 1, 5, 1067) := ⟨mtX5_save, rfl, List.mem_of_getElem? (i := 1067) (by decide +kernel), List.mem_of_getElem? (i := 1068) (by decide +kernel), List.mem_of_getElem? (i := 1069) (by decide +kernel), rfl, by decide +kernel, by decide⟩
theorem lk240 : axLinkOk (6, 135, 0, 203, 1, 5, 1071) := ⟨mtX5_restore, rfl, List.mem_of_getElem? (i := 1071) (by decide +kernel), List.mem_of_getElem? (i := 1072) (by decide +kernel), List.mem_of_getElem? (i := 1073) (by decide +kernel), rfl, by decide +kernel, by decide⟩
theorem lk241 : axLinkOk (1, 24, 2, 7, 2, 4, 202) := ⟨mtX4_copyInto, rfl, List.mem_of_getElem? (i := 202) (by decide +kernel), List.mem_of_getElem? (i := 203) (by decide +kernel), by decide +kernel⟩
theorem lk242 : axLinkOk (0, 49, 2, 10, 2, 4, 218) := ⟨mtX4_cell, rfl, List.mem_of_getElem? (i := 218) (by decide +kernel), List.mem_of_getElem? (i := 219) (by decide +kernel), by decide +kernel⟩
theorem lk243 : axLinkOk (0, 81, 2, 18, 2, 4, 254) := ⟨mtX4_contains, rfl, List.mem_of_getElem? (i := 254) (by decide +kernel), List.mem_of_getElem? (i := 255) (by decide +kernel), by decide +kernel⟩
theorem lk244 : axLinkOk (0, 60, 2, 19, 1, 4, 257) := ⟨mtX4_bit, rfl, List.mem_of_getElem? (i := 257) (by decide +kernel), List.mem_of_getElem? (i := 258) (by decide +kernel), by decide +kernel⟩
theorem lk245 : axLinkOk (0, 85, 2, 20, 3, 4, 260) := ⟨mtX4_store, rfl, List.mem_of_getElem? (i := 260) (by decide +kernel), List.mem_of_getElem? (i := 261) (by decide +kernel), by decide +kernel⟩
theorem lk246 : axLinkOk (3, 38, 2, 20, 3, 4, 558) := ⟨mtX4_store, rfl, List.mem_of_getElem? (i := 558) (by decide +kernel), List.mem_of_getElem? (i := 261) (by decide +kernel), by decide +kernel⟩
theorem lk247 : axLinkOk (3, 67, 2, 10, 2, 4, 573) := ⟨mtX4_cell, rfl, List.mem_of_getElem? (i := 573) (by decide +kernel), List.mem_of_getElem? (i := 219) (by decide +kernel), by decide +kernel⟩
theorem axMlT0_ok : ∀ q ∈ axMlT0, axLinkOk q := List.forall_mem_cons.mpr ⟨lk0, List.forall_mem_cons.mpr ⟨lk1, List.forall_mem_cons.mpr ⟨lk2, List.forall_mem_cons.mpr ⟨lk3, List.forall_mem_cons.mpr ⟨lk4, List.forall_mem_cons.mpr ⟨lk5, List.forall_mem_cons.mpr ⟨lk6, List.forall_mem_cons.mpr ⟨lk7, List.forall_mem_cons.mpr ⟨lk8, List.forall_mem_cons.mpr ⟨lk9, List.forall_mem_cons.mpr ⟨lk10, List.forall_mem_cons.mpr ⟨lk11, List.forall_mem_cons.mpr ⟨lk12, List.forall_mem_cons.mpr ⟨lk13, List.forall_mem_cons.mpr ⟨lk14, List.forall_mem_cons.mpr ⟨lk15, List.forall_mem_cons.mpr ⟨lk16, List.forall_mem_cons.mpr ⟨lk17, List.forall_mem_cons.mpr ⟨lk18, List.forall_mem_cons.mpr ⟨lk19, List.forall_mem_cons.mpr ⟨lk20, List.forall_mem_cons.mpr ⟨lk21, List.forall_mem_cons.mpr ⟨lk22, List.forall_mem_cons.mpr ⟨lk23, List.forall_mem_cons.mpr ⟨lk24, List.forall_mem_cons.mpr ⟨lk25, List.forall_mem_cons.mpr ⟨lk26, List.forall_mem_cons.mpr ⟨lk27, List.forall_mem_cons.mpr ⟨lk28, List.forall_mem_cons.mpr ⟨lk29, List.forall_mem_cons.mpr ⟨lk30, List.forall_mem_cons.mpr ⟨lk31, fun _ h => absurd h List.not_mem_nil⟩⟩⟩⟩⟩⟩⟩⟩⟩⟩⟩⟩⟩⟩⟩⟩⟩⟩⟩⟩⟩⟩⟩⟩⟩⟩⟩⟩⟩⟩⟩⟩
theorem axMlT1_ok : ∀ q ∈ axMlT1, axLinkOk q := List.forall_mem_cons.mpr ⟨lk32, List.forall_mem_cons.mpr ⟨lk33, List.forall_mem_cons.mpr ⟨lk34, List.forall_mem_cons.mpr ⟨lk35, List.forall_mem_cons.mpr ⟨lk36, List.forall_mem_cons.mpr ⟨lk37, List.forall_mem_cons.mpr ⟨lk38, List.forall_mem_cons.mpr ⟨lk39, List.forall_mem_cons.mpr ⟨lk40, List.forall_mem_cons.mpr ⟨lk41, List.forall_mem_cons.mpr ⟨lk42, List.forall_mem_cons.mpr ⟨lk43, List.forall_mem_cons.mpr ⟨lk44, List.forall_mem_cons.mpr ⟨lk45, List.forall_mem_cons.mpr ⟨lk46, List.forall_mem_cons.mpr ⟨lk47, List.forall_mem_cons.mpr ⟨lk48, List.forall_mem_cons.mpr ⟨lk49, List.forall_mem_cons.mpr ⟨lk50, List.forall_mem_cons.mpr ⟨lk51, List.forall_mem_cons.mpr ⟨lk52, List.forall_mem_cons.mpr ⟨lk53, List.forall_mem_cons.mpr ⟨lk54, List.forall_mem_cons.mpr ⟨lk55, List.forall_mem_cons.mpr ⟨lk56, List.forall_mem_cons.mpr ⟨lk57, List.forall_mem_cons.mpr ⟨lk58, List.forall_mem_cons.mpr ⟨lk59, List.forall_mem_cons.mpr ⟨lk60, List.forall_mem_cons.mpr ⟨lk61, List.forall_mem_cons.mpr ⟨lk62, List.forall_mem_cons.mpr ⟨lk63, fun _ h => absurd h List.not_mem_nil⟩⟩⟩⟩⟩⟩⟩⟩⟩⟩⟩⟩⟩⟩⟩⟩⟩⟩⟩⟩⟩⟩⟩⟩⟩⟩⟩⟩⟩⟩⟩⟩
theorem axMlT2_ok : ∀ q ∈ axMlT2, axLinkOk q := List.forall_mem_cons.mpr ⟨lk64, List.forall_mem_cons.mpr ⟨lk65, List.forall_mem_cons.mpr ⟨lk66, List.forall_mem_cons.mpr ⟨lk67, List.forall_mem_cons.mpr ⟨lk68, List.forall_mem_cons.mpr ⟨lk69, List.forall_mem_cons.mpr ⟨lk70, List.forall_mem_cons.mpr ⟨lk71, List.forall_mem_cons.mpr ⟨lk72, List.forall_mem_cons.mpr ⟨lk73, List.forall_mem_cons.mpr ⟨lk74, List.forall_mem_cons.mpr ⟨lk75, List.forall_mem_cons.mpr ⟨lk76, List.forall_mem_cons.mpr ⟨lk77, List.forall_mem_cons.mpr ⟨lk78, List.forall_mem_cons.mpr ⟨lk79, List.forall_mem_cons.mpr ⟨lk80, List.forall_mem_cons.mpr ⟨lk81, List.forall_mem_cons.mpr ⟨lk82, List.forall_mem_cons.mpr ⟨lk83, List.forall_mem_cons.mpr ⟨lk84, List.forall_mem_cons.mpr ⟨lk85, List.forall_mem_cons.mpr ⟨lk86, List.forall_mem_cons.mpr ⟨lk87, List.forall_mem_cons.mpr ⟨lk88, List.forall_mem_cons.mpr ⟨lk89, List.forall_mem_cons.mpr ⟨lk90, List.forall_mem_cons.mpr ⟨lk91, List.forall_mem_cons.mpr ⟨lk92, List.forall_mem_cons.mpr ⟨lk93, List.forall_mem_cons.mpr ⟨lk94, List.forall_mem_cons.mpr ⟨lk95, fun _ h => absurd h List.not_mem_nil⟩⟩⟩⟩⟩⟩⟩⟩⟩⟩⟩⟩⟩⟩⟩⟩⟩⟩⟩⟩⟩⟩⟩⟩⟩⟩⟩⟩⟩⟩⟩⟩
theorem axMlT3_ok : ∀ q ∈ axMlT3, axLinkOk q := List.forall_mem_cons.mpr ⟨lk96, List.forall_mem_cons.mpr ⟨lk97, List.forall_mem_cons.mpr ⟨lk98, List.forall_mem_cons.mpr ⟨lk99, List.forall_mem_cons.mpr ⟨lk100, List.forall_mem_cons.mpr ⟨lk101, List.forall_mem_cons.mpr ⟨lk102, List.forall_mem_cons.mpr ⟨lk103, List.forall_mem_cons.mpr ⟨lk104, List.forall_mem_cons.mpr ⟨lk105, List.forall_mem_cons.mpr ⟨lk106, List.forall_mem_cons.mpr ⟨lk107, List.forall_mem_cons.mpr ⟨lk108, List.forall_mem_cons.mpr ⟨lk109, List.forall_mem_cons.mpr ⟨lk110, List.forall_mem_cons.mpr ⟨lk111, List.forall_mem_cons.mpr ⟨lk112, List.forall_mem_cons.mpr ⟨lk113, List.forall_mem_cons.mpr ⟨lk114, List.forall_mem_cons.mpr ⟨lk115, List.forall_mem_cons.mpr ⟨lk116, List.forall_mem_cons.mpr ⟨lk117, List.forall_mem_cons.mpr ⟨lk118, List.forall_mem_cons.mpr ⟨lk119, List.forall_mem_cons.mpr ⟨lk120, List.forall_mem_cons.mpr ⟨lk121, List.forall_mem_cons.mpr ⟨lk122, List.forall_mem_cons.mpr ⟨lk123, List.forall_mem_cons.mpr ⟨lk124, List.forall_mem_cons.mpr ⟨lk125, List.forall_mem_cons.mpr ⟨lk126, List.forall_mem_cons.mpr ⟨lk127, fun _ h => absurd h List.not_mem_nil⟩⟩⟩⟩⟩⟩⟩⟩⟩⟩⟩⟩⟩⟩⟩⟩⟩⟩⟩⟩⟩⟩⟩⟩⟩⟩⟩⟩⟩⟩⟩⟩
theorem axMlT4_ok : ∀ q ∈ axMlT4, axLinkOk q := List.forall_mem_cons.mpr ⟨lk128, List.forall_mem_cons.mpr ⟨lk129, List.forall_mem_cons.mpr ⟨lk130, List.forall_mem_cons.mpr ⟨lk131, List.forall_mem_cons.mpr ⟨lk132, List.forall_mem_cons.mpr ⟨lk133, List.forall_mem_cons.mpr ⟨lk134, List.forall_mem_cons.mpr ⟨lk135, List.forall_mem_cons.mpr ⟨lk136, List.forall_mem_cons.mpr ⟨lk137, List.forall_mem_cons.mpr ⟨lk138, List.forall_mem_cons.mpr ⟨lk139, List.forall_mem_cons.mpr ⟨lk140, List.forall_mem_cons.mpr ⟨lk141, List.forall_mem_cons.mpr ⟨lk142, List.forall_mem_cons.mpr ⟨lk143, List.forall_mem_cons.mpr ⟨lk144, List.forall_mem_cons.mpr ⟨lk145, List.forall_mem_cons.mpr ⟨lk146, List.forall_mem_cons.mpr ⟨lk147, List.forall_mem_cons.mpr ⟨lk148, List.forall_mem_cons.mpr ⟨lk149, List.forall_mem_cons.mpr ⟨lk150, List.forall_mem_cons.mpr ⟨lk151, List.forall_mem_cons.mpr ⟨lk152, List.forall_mem_cons.mpr ⟨lk153, List.forall_mem_cons.mpr ⟨lk154, List.forall_mem_cons.mpr ⟨lk155, List.forall_mem_cons.mpr ⟨lk156, List.forall_mem_cons.mpr ⟨lk157, List.forall_mem_cons.mpr ⟨lk158, List.forall_mem_cons.mpr ⟨lk159, fun _ h => absurd h List.not_mem_nil⟩⟩⟩⟩⟩⟩⟩⟩⟩⟩⟩⟩⟩⟩⟩⟩⟩⟩⟩⟩⟩⟩⟩⟩⟩⟩⟩⟩⟩⟩⟩⟩
theorem axMlT5_ok : ∀ q ∈ axMlT5, axLinkOk q := List.forall_mem_cons.mpr ⟨lk160, List.forall_mem_cons.mpr ⟨lk161, List.forall_mem_cons.mpr ⟨lk162, List.forall_mem_cons.mpr ⟨lk163, List.forall_mem_cons.mpr ⟨lk164, List.forall_mem_cons.mpr ⟨lk165, List.forall_mem_cons.mpr ⟨lk166, List.forall_mem_cons.mpr ⟨lk167, List.forall_mem_cons.mpr ⟨lk168, List.forall_mem_cons.mpr ⟨lk169, List.forall_mem_cons.mpr ⟨lk170, List.forall_mem_cons.mpr ⟨lk171, List.forall_mem_cons.mpr ⟨lk172, List.forall_mem_cons.mpr ⟨lk173, List.forall_mem_cons.mpr ⟨lk174, List.forall_mem_cons.mpr ⟨lk175, List.forall_mem_cons.mpr ⟨lk176, List.forall_mem_cons.mpr ⟨lk177, List.forall_mem_cons.mpr ⟨lk178, List.forall_mem_cons.mpr ⟨lk179, List.forall_mem_cons.mpr ⟨lk180, List.forall_mem_cons.mpr ⟨lk181, List.forall_mem_cons.mpr ⟨lk182, List.forall_mem_cons.mpr ⟨lk183, List.forall_mem_cons.mpr ⟨lk184, List.forall_mem_cons.mpr ⟨lk185, List.forall_mem_cons.mpr ⟨lk186, List.forall_mem_cons.mpr ⟨lk187, List.forall_mem_cons.mpr ⟨lk188, List.forall_mem_cons.mpr ⟨lk189, List.forall_mem_cons.mpr ⟨lk190, List.forall_mem_cons.mpr ⟨lk191, fun _ h => absurd h List.not_mem_nil⟩⟩⟩⟩⟩⟩⟩⟩⟩⟩⟩⟩⟩⟩⟩⟩⟩⟩⟩⟩⟩⟩⟩⟩⟩⟩⟩⟩⟩⟩⟩⟩
theorem axMlT6_ok : ∀ q ∈ axMlT6, axLinkOk q := List.forall_mem_cons.mpr ⟨lk192, List.forall_mem_cons.mpr ⟨lk193, List.forall_mem_cons.mpr ⟨lk194, List.forall_mem_cons.mpr ⟨lk195, List.forall_mem_cons.mpr ⟨lk196, List.forall_mem_cons.mpr ⟨lk197, List.forall_mem_cons.mpr ⟨lk198, List.forall_mem_cons.mpr ⟨lk199, List.forall_mem_cons.mpr ⟨lk200, List.forall_mem_cons.mpr ⟨lk201, List.forall_mem_cons.mpr ⟨lk202, List.forall_mem_cons.mpr ⟨lk203, List.forall_mem_cons.mpr ⟨lk204, List.forall_mem_cons.mpr ⟨lk205, List.forall_mem_cons.mpr ⟨lk206, List.forall_mem_cons.mpr ⟨lk207, List.forall_mem_cons.mpr ⟨lk208, List.forall_mem_cons.mpr ⟨lk209, List.forall_mem_cons.mpr ⟨lk210, List.forall_mem_cons.mpr ⟨lk211, List.forall_mem_cons.mpr ⟨lk212, List.forall_mem_cons.mpr ⟨lk213, List.forall_mem_cons.mpr ⟨lk214, List.forall_mem_cons.mpr ⟨lk215, List.forall_mem_cons.mpr ⟨lk216, List.forall_mem_cons.mpr ⟨lk217, List.forall_mem_cons.mpr ⟨lk218, List.forall_mem_cons.mpr ⟨lk219, List.forall_mem_cons.mpr ⟨lk220, List.forall_mem_cons.mpr ⟨lk221, List.forall_mem_cons.mpr ⟨lk222, List.forall_mem_cons.mpr ⟨lk223, fun _ h => absurd h List.not_mem_nil⟩⟩⟩⟩⟩⟩⟩⟩⟩⟩⟩⟩⟩⟩⟩⟩⟩⟩⟩⟩⟩⟩⟩⟩⟩⟩⟩⟩⟩⟩⟩⟩
theorem axMlT7_ok : ∀ q ∈ axMlT7, axLinkOk q := List.forall_mem_cons.mpr ⟨lk224, List.forall_mem_cons.mpr ⟨lk225, List.forall_mem_cons.mpr ⟨lk226, List.forall_mem_cons.mpr ⟨lk227, List.forall_mem_cons.mpr ⟨lk228, List.forall_mem_cons.mpr ⟨lk229, List.forall_mem_cons.mpr ⟨lk230, List.forall_mem_cons.mpr ⟨lk231, List.forall_mem_cons.mpr ⟨lk232, List.forall_mem_cons.mpr ⟨lk233, List.forall_mem_cons.mpr ⟨lk234, List.forall_mem_cons.mpr ⟨lk235, List.forall_mem_cons.mpr ⟨lk236, List.forall_mem_cons.mpr ⟨lk237, List.forall_mem_cons.mpr ⟨lk238, List.forall_mem_cons.mpr ⟨lk239, List.forall_mem_cons.mpr ⟨lk240, List.forall_mem_cons.mpr ⟨lk241, List.forall_mem_cons.mpr ⟨lk242, List.forall_mem_cons.mpr ⟨lk243, List.forall_mem_cons.mpr ⟨lk244, List.forall_mem_cons.mpr ⟨lk245, List.forall_mem_cons.mpr ⟨lk246, List.forall_mem_cons.mpr ⟨lk247, fun _ h => absurd h List.not_mem_nil⟩⟩⟩⟩⟩⟩⟩⟩⟩⟩⟩⟩⟩⟩⟩⟩⟩⟩⟩⟩⟩⟩⟩⟩
theorem axMlT_ok : ∀ q ∈ axMlT, axLinkOk q := List.forall_mem_append.mpr ⟨axMlT0_ok, List.forall_mem_append.mpr ⟨axMlT1_ok, List.forall_mem_append.mpr ⟨axMlT2_ok, List.forall_mem_append.mpr ⟨axMlT3_ok, List.forall_mem_append.mpr ⟨axMlT4_ok, List.forall_mem_append.mpr ⟨axMlT5_ok, List.forall_mem_append.mpr ⟨axMlT6_ok, axMlT7_ok⟩⟩⟩⟩⟩⟩⟩
theorem axFlT_ok : ∀ q ∈ axFlT, Cond.fieldLink (axCn q.1) q.2.1 (axT q.2.2.1 q.2.2.2.1).1 (axT q.2.2.1 q.2.2.2.1).2.1 (axT q.2.2.1 q.2.2.2.1).2.2.1 ∈ lw_tbl ∧ q.2.2.2.1 < axNf q.2.2.1 ∧ axCl[q.2.2.1]? = some (axCn q.2.2.1, axT q.2.2.1, axNf q.2.2.1) := List.forall_mem_cons.mpr ⟨⟨List.mem_of_getElem? (i := 83) (by decide +kernel), by decide, rfl⟩, List.forall_mem_cons.mpr ⟨⟨List.mem_of_getElem? (i := 84) (by decide +kernel), by decide, rfl⟩, List.forall_mem_cons.mpr ⟨⟨List.mem_of_getElem? (i := 85) (by decide +kernel), by decide, rfl⟩, List.forall_mem_cons.mpr ⟨⟨List.mem_of_getElem? (i := 86) (by decide +kernel), by decide, rfl⟩, List.forall_mem_cons.mpr ⟨⟨List.mem_of_getElem? (i := 87) (by decide +kernel), by decide, rfl⟩, List.forall_mem_cons.mpr ⟨⟨List.mem_of_getElem? (i := 88) (by decide +kernel), by decide, rfl⟩, List.forall_mem_cons.mpr ⟨⟨List.mem_of_getElem? (i := 89) (by decide +kernel), by decide, rfl⟩, List.forall_mem_cons.mpr ⟨⟨List.mem_of_getElem? (i := 90) (by decide +kernel), by decide, rfl⟩, List.forall_mem_cons.mpr ⟨⟨List.mem_of_getElem? (i := 91) (by decide +kernel), by decide, rfl⟩, List.forall_mem_cons.mpr ⟨⟨List.mem_of_getElem? (i := 120) (by decide +kernel), by decide, rfl⟩, List.forall_mem_cons.mpr ⟨⟨List.mem_of_getElem? (i := 121) (by decide +kernel), by decide, rfl⟩, List.forall_mem_cons.mpr ⟨⟨List.mem_of_getElem? (i := 122) (by decide +kernel), by decide, rfl⟩, List.forall_mem_cons.mpr ⟨⟨List.mem_of_getElem? (i := 136) (by decide +kernel), by decide, rfl⟩, List.forall_mem_cons.mpr ⟨⟨List.mem_of_getElem? (i := 137) (by decide +kernel), by decide, rfl⟩, List.forall_mem_cons.mpr ⟨⟨List.mem_of_getElem? (i := 138) (by decide +kernel), by decide, rfl⟩, List.forall_mem_cons.mpr ⟨⟨List.mem_of_getElem? (i := 139) (by decide +kernel), by decide, rfl⟩, List.forall_mem_cons.mpr ⟨⟨List.mem_of_getElem? (i := 140) (by decide +kernel), by decide, rfl⟩, List.forall_mem_cons.mpr ⟨⟨List.mem_of_getElem? (i := 141) (by decide +kernel), by decide, rfl⟩, List.forall_mem_cons.mpr ⟨⟨List.mem_of_getElem? (i := 142) (by decide +kernel), by decide, rfl⟩, List.forall_mem_cons.mpr ⟨⟨List.mem_of_getElem? (i := 165) (by decide +kernel), by decide, rfl⟩, List.forall_mem_cons.mpr ⟨⟨List.mem_of_getElem? (i := 166) (by decide +kernel), by decide, rfl⟩, List.forall_mem_cons.mpr ⟨⟨List.mem_of_getElem? (i := 167) (by decide +kernel), by decide, rfl⟩, List.forall_mem_cons.mpr ⟨⟨List.mem_of_getElem? (i := 168) (by decide +kernel), by decide, rfl⟩, List.forall_mem_cons.mpr ⟨⟨List.mem_of_getElem? (i := 178) (by decide +kernel), by decide, rfl⟩, List.forall_mem_cons.mpr ⟨⟨List.mem_of_getElem? (i := 179) (by decide +kernel), by decide, rfl⟩, List.forall_mem_cons.mpr ⟨⟨List.mem_of_getElem? (i := 180) (by decide +kernel), by decide, rfl⟩, List.forall_mem_cons.mpr ⟨⟨List.mem_of_getElem? (i := 181) (by decide +kernel), by decide, rfl⟩, List.forall_mem_cons.mpr ⟨⟨List.mem_of_getElem? (i := 182) (by decide +kernel), by decide, rfl⟩, List.forall_mem_cons.mpr ⟨⟨List.mem_of_getElem? (i := 733) (by decide +kernel), by decide, rfl⟩, List.forall_mem_cons.mpr ⟨⟨List.mem_of_getElem? (i := 734) (by decide +kernel), by decide, rfl⟩, List.forall_mem_cons.mpr ⟨⟨List.mem_of_getElem? (i := 735) (by decide +kernel), by decide, rfl⟩, List.forall_mem_cons.mpr ⟨⟨List.mem_of_getElem? (i := 736) (by decide +kernel), by decide, rfl⟩, List.forall_mem_cons.mpr ⟨⟨List.mem_of_getElem? (i := 737) (by decide +kernel), by decide, rfl⟩, List.forall_mem_cons.mpr ⟨⟨List.mem_of_getElem? (i := 738) (by decide +kernel), by decide, rfl⟩, List.forall_mem_cons.mpr ⟨⟨List.mem_of_getElem? (i := 739) (by decide +kernel), by decide, rfl⟩, List.forall_mem_cons.mpr ⟨⟨List.mem_of_getElem? (i := 740) (by decide +kernel), by decide, rfl⟩, List.forall_mem_cons.mpr ⟨⟨List.mem_of_getElem? (i := 741) (by decide +kernel), by decide, rfl⟩, List.forall_mem_cons.mpr ⟨⟨List.mem_of_getElem? (i := 742) (by decide +kernel), by decide, rfl⟩, List.forall_mem_cons.mpr ⟨⟨List.mem_of_getElem? (i := 743) (by decide +kernel), by decide, rfl⟩, List.forall_mem_cons.mpr ⟨⟨List.mem_of_getElem? (i := 744) (by decide +kernel), by decide, rfl⟩, List.forall_mem_cons.mpr ⟨⟨List.mem_of_getElem? (i := 745) (by decide +kernel), by decide, rfl⟩, List.forall_mem_cons.mpr ⟨⟨List.mem_of_getElem? (i := 746) (by decide +kernel), by decide, rfl⟩, fun _ h => absurd h List.not_mem_nil⟩⟩⟩⟩⟩⟩⟩⟩⟩⟩⟩⟩⟩⟩⟩⟩⟩⟩⟩⟩⟩⟩⟩⟩⟩⟩⟩⟩⟩⟩⟩⟩⟩⟩⟩⟩⟩⟩⟩⟩⟩⟩
theorem axStT_ok : ∀ q ∈ axStT, Cond.fieldLinkNest (axCn q.1) q.2.1 "BeatSlugs" (if q.2.2.1 = 1 then "LEAST_SETTING" else "MOST_SETTING") "[I" "BeatSlugs" ∈ lw_tbl ∧ (q.2.2.1 = 1 ∨ q.2.2.1 = 2) := List.forall_mem_cons.mpr ⟨⟨List.mem_of_getElem? (i := 216) (by decide +kernel), by decide⟩, List.forall_mem_cons.mpr ⟨⟨List.mem_of_getElem? (i := 221) (by decide +kernel), by decide⟩, fun _ h => absurd h List.not_mem_nil⟩⟩
theorem axClsT_ok : ∀ q ∈ axClsT, Cond.classLink (axCn q.1) q.2.1 (axCn q.2.2.1) ∈ lw_tbl := List.forall_mem_cons.mpr ⟨List.mem_of_getElem? (i := 69) (by decide +kernel), List.forall_mem_cons.mpr ⟨List.mem_of_getElem? (i := 77) (by decide +kernel), List.forall_mem_cons.mpr ⟨List.mem_of_getElem? (i := 112) (by decide +kernel), List.forall_mem_cons.mpr ⟨List.mem_of_getElem? (i := 118) (by decide +kernel), List.forall_mem_cons.mpr ⟨List.mem_of_getElem? (i := 130) (by decide +kernel), List.forall_mem_cons.mpr ⟨List.mem_of_getElem? (i := 159) (by decide +kernel), List.forall_mem_cons.mpr ⟨List.mem_of_getElem? (i := 727) (by decide +kernel), fun _ h => absurd h List.not_mem_nil⟩⟩⟩⟩⟩⟩⟩
theorem axCsT_ok : ∀ q ∈ axCsT, Cond.constant (axCn q.1) q.2.1 q.2.2.1 ∈ lw_tbl := List.forall_mem_cons.mpr ⟨List.mem_of_getElem? (i := 314) (by decide +kernel), List.forall_mem_cons.mpr ⟨List.mem_of_getElem? (i := 315) (by decide +kernel), List.forall_mem_cons.mpr ⟨List.mem_of_getElem? (i := 316) (by decide +kernel), fun _ h => absurd h List.not_mem_nil⟩⟩⟩
theorem axLcT_ok : ∀ q ∈ axLcT, Cond.constantLong (axCn q.1) q.2.1 q.2.2.1 ∈ lw_tbl := List.forall_mem_cons.mpr ⟨List.mem_of_getElem? (i := 1023) (by decide +kernel), List.forall_mem_cons.mpr ⟨List.mem_of_getElem? (i := 1075) (by decide +kernel), fun _ h => absurd h List.not_mem_nil⟩⟩
theorem axW_native : Cond.native arraycopyName ∈ lw_tbl := List.mem_of_getElem? (i := 211) (by decide +kernel)
theorem axW_statac : Cond.static arraycopyName ∈ lw_tbl := List.mem_of_getElem? (i := 210) (by decide +kernel)
theorem axW_sys : Cond.initialized "java/lang/System" ∈ lw_tbl := List.mem_of_getElem? (i := 66) (by decide +kernel)
theorem axW_math : Cond.initialized "java/lang/Math" ∈ lw_tbl := List.mem_of_getElem? (i := 67) (by decide +kernel)
theorem axW_stmax : Cond.static Lib.Math.max.name ∈ lw_tbl := List.mem_of_getElem? (i := 330) (by decide +kernel)
theorem axW_cdmax : Cond.code Lib.Math.max.name Lib.Math.max.code 2 (some .int) ∈ lw_tbl := List.mem_of_getElem? (i := 331) (by decide +kernel)
theorem axW_stmin : Cond.static Lib.Math.min.name ∈ lw_tbl := List.mem_of_getElem? (i := 228) (by decide +kernel)
theorem axW_cdmin : Cond.code Lib.Math.min.name Lib.Math.min.code 2 (some .int) ∈ lw_tbl := List.mem_of_getElem? (i := 229) (by decide +kernel)
theorem axW_stabs : Cond.static Lib.Math.abs.name ∈ lw_tbl := List.mem_of_getElem? (i := 377) (by decide +kernel)
theorem axW_cdabs : Cond.code Lib.Math.abs.name Lib.Math.abs.code 1 (some .int) ∈ lw_tbl := List.mem_of_getElem? (i := 378) (by decide +kernel)
theorem axW_obj : Cond.instanceMethod objectInit ∈ lw_tbl := List.mem_of_getElem? (i := 75) (by decide +kernel)
theorem axW_objc : Cond.code objectInit ⟨#[0xb1]⟩ 1 none ∈ lw_tbl := List.mem_of_getElem? (i := 76) (by decide +kernel)
theorem axW_in0 : Cond.instantiable (axCn 0) (axNf 0) ∈ lw_tbl := List.mem_of_getElem? (i := 78) (by decide +kernel)
theorem axW_ini0 : Cond.initialized (axCn 0) ∈ lw_tbl := List.mem_of_getElem? (i := 61) (by decide +kernel)
theorem axW_lay0 : ∀ w ∈ u_ws (axCn 0) (axT 0) (axNf 0), w ∈ lw_tbl := by decide +kernel
theorem axW_ty0 : ∀ k, k < axNf 0 → parseFieldDescriptor (axT 0 k).2.2.1 = some (axTy 0 k) := by decide +kernel
theorem axW_nm0 : ∀ a, a < axNf 0 → ∀ b, b < axNf 0 → a ≠ b → (axT 0 a).2.1 ≠ (axT 0 b).2.1 := by decide +kernel
theorem axW_own0 : ∀ k, k < axNf 0 → (axT 0 k).1 = axCn 0 := by decide +kernel
theorem axW_df0 : ∀ k, k < axNf 0 → defaultValue (axTy 0 k) = vp_V (axDf 0) k := by decide +kernel
theorem axW_in1 : Cond.instantiable (axCn 1) (axNf 1) ∈ lw_tbl := List.mem_of_getElem? (i := 113) (by decide +kernel)
theorem axW_ini1 : Cond.initialized (axCn 1) ∈ lw_tbl := List.mem_of_getElem? (i := 62) (by decide +kernel)
theorem axW_lay1 : ∀ w ∈ u_ws (axCn 1) (axT 1) (axNf 1), w ∈ lw_tbl := by decide +kernel
theorem axW_ty1 : ∀ k, k < axNf 1 → parseFieldDescriptor (axT 1 k).2.2.1 = some (axTy 1 k) := by decide +kernel
theorem axW_nm1 : ∀ a, a < axNf 1 → ∀ b, b < axNf 1 → a ≠ b → (axT 1 a).2.1 ≠ (axT 1 b).2.1 := by decide +kernel
theorem axW_own1 : ∀ k, k < axNf 1 → (axT 1 k).1 = axCn 1 := by decide +kernel
theorem axW_df1 : ∀ k, k < axNf 1 → defaultValue (axTy 1 k) = vp_V (axDf 1) k := by decide +kernel
theorem axW_in2 : Cond.instantiable (axCn 2) (axNf 2) ∈ lw_tbl := List.mem_of_getElem? (i := 131) (by decide +kernel)
theorem axW_ini2 : Cond.initialized (axCn 2) ∈ lw_tbl := List.mem_of_getElem? (i := 63) (by decide +kernel)
theorem axW_lay2 : ∀ w ∈ u_ws (axCn 2) (axT 2) (axNf 2), w ∈ lw_tbl := by decide +kernel
theorem axW_ty2 : ∀ k, k < axNf 2 → parseFieldDescriptor (axT 2 k).2.2.1 = some (axTy 2 k) := by decide +kernel
theorem axW_nm2 : ∀ a, a < axNf 2 → ∀ b, b < axNf 2 → a ≠ b → (axT 2 a).2.1 ≠ (axT 2 b).2.1 := by decide +kernel
theorem axW_own2 : ∀ k, k < axNf 2 → (axT 2 k).1 = axCn 2 := by decide +kernel
theorem axW_df2 : ∀ k, k < axNf 2 → defaultValue (axTy 2 k) = vp_V (axDf 2) k := by decide +kernel
theorem axW_in3 : Cond.instantiable (axCn 3) (axNf 3) ∈ lw_tbl := List.mem_of_getElem? (i := 160) (by decide +kernel)
theorem axW_ini3 : Cond.initialized (axCn 3) ∈ lw_tbl := List.mem_of_getElem? (i := 64) (by decide +kernel)
theorem axW_lay3 : ∀ w ∈ u_ws (axCn 3) (axT 3) (axNf 3), w ∈ lw_tbl := by decide +kernel
theorem axW_ty3 : ∀ k, k < axNf 3 → parseFieldDescriptor (axT 3 k).2.2.1 = some (axTy 3 k) := by decide +kernel
theorem axW_nm3 : ∀ a, a < axNf 3 → ∀ b, b < axNf 3 → a ≠ b → (axT 3 a).2.1 ≠ (axT 3 b).2.1 := by decide +kernel
theorem axW_own3 : ∀ k, k < axNf 3 → (axT 3 k).1 = axCn 3 := by decide +kernel
theorem axW_df3 : ∀ k, k < axNf 3 → defaultValue (axTy 3 k) = vp_V (axDf 3) k := by decide +kernel
theorem axW_in4 : Cond.instantiable (axCn 4) (axNf 4) ∈ lw_tbl := List.mem_of_getElem? (i := 70) (by decide +kernel)
theorem axW_ini4 : Cond.initialized (axCn 4) ∈ lw_tbl := List.mem_of_getElem? (i := 60) (by decide +kernel)
theorem axW_lay4 : ∀ w ∈ u_ws (axCn 4) (axT 4) (axNf 4), w ∈ lw_tbl := by decide +kernel
theorem axW_ty4 : ∀ k, k < axNf 4 → parseFieldDescriptor (axT 4 k).2.2.1 = some (axTy 4 k) := by decide +kernel
theorem axW_nm4 : ∀ a, a < axNf 4 → ∀ b, b < axNf 4 → a ≠ b → (axT 4 a).2.1 ≠ (axT 4 b).2.1 := by decide +kernel
theorem axW_own4 : ∀ k, k < axNf 4 → (axT 4 k).1 = axCn 4 := by decide +kernel
theorem axW_df4 : ∀ k, k < axNf 4 → defaultValue (axTy 4 k) = vp_V (axDf 4) k := by decide +kernel
theorem axW_in5 : Cond.instantiable (axCn 5) (axNf 5) ∈ lw_tbl := List.mem_of_getElem? (i := 728) (by decide +kernel)
theorem axW_ini5 : Cond.initialized (axCn 5) ∈ lw_tbl := List.mem_of_getElem? (i := 65) (by decide +kernel)
theorem axW_lay5 : ∀ w ∈ u_ws (axCn 5) (axT 5) (axNf 5), w ∈ lw_tbl := by decide +kernel
theorem axW_ty5 : ∀ k, k < axNf 5 → parseFieldDescriptor (axT 5 k).2.2.1 = some (axTy 5 k) := by decide +kernel
theorem axW_nm5 : ∀ a, a < axNf 5 → ∀ b, b < axNf 5 → a ≠ b → (axT 5 a).2.1 ≠ (axT 5 b).2.1 := by decide +kernel
theorem axW_own5 : ∀ k, k < axNf 5 → (axT 5 k).1 = axCn 5 := by decide +kernel
theorem axW_df5 : ∀ k, k < axNf 5 → defaultValue (axTy 5 k) = vp_V (axDf 5) k := by decide +kernel
theorem axW_ari : Cond.arrayClass .int ∈ lw_tbl := List.mem_of_getElem? (i := 111) (by decide +kernel)
theorem axW_arc : Cond.arrayClass .char ∈ lw_tbl := List.mem_of_getElem? (i := 158) (by decide +kernel)
theorem axW_arz : Cond.arrayClass .boolean ∈ lw_tbl := List.mem_of_getElem? (i := 776) (by decide +kernel)
theorem axW_ao : Cond.arrayOver (.object "BeatSlugs$Board") ∈ lw_tbl := List.mem_of_getElem? (i := 119) (by decide +kernel)
theorem axW_lsLEAST : Cond.laysStatic "BeatSlugs" "LEAST_SETTING" "[I" ∈ lw_tbl := List.mem_of_getElem? (i := 217) (by decide +kernel)
theorem axW_lsMOST : Cond.laysStatic "BeatSlugs" "MOST_SETTING" "[I" ∈ lw_tbl := List.mem_of_getElem? (i := 222) (by decide +kernel)
end
section
/-! The abstract heap on the Java heap. b: the heap's size at the law's entry; rb: the three arrays that nobody writes; ca: the array classes. -/
def axTW : List Cond := lw_tbl.filter goodWord
theorem axTW_mem {w : Cond} (h : w ∈ lw_tbl) (g : goodWord w = true) : w ∈ axTW := List.mem_filter.mpr ⟨h, g⟩
theorem axTW_good {w : Cond} (h : w ∈ axTW) : (w.onTables && w.keeps) = true ∨ ∃ ty, w = .arrayClass ty := good_of_word (List.mem_filter.mp h).2
def axCv (b : Nat) (rb : Nat → Nat) : Value → Value := fun v => match v with
  | .ref k => .ref (b + k)
  | .retAddr i => .ref (rb i)
  | v => v
def axCe (b : Nat) (rb : Nat → Nat) (ca : Nat → ClassId) : axC → va_E := fun c => match c with
  | .inl (k, n, f) => .inl (ca k, n, .inl f)
  | .inr (.inl (n, f)) => .inl (ca 3, n, .inr (.inr (.inr (.inr (fun i => (f i).map (fun k => b + k))))))
  | .inr (.inr (ci, fs)) => .inr (ci, fs.map (axCv b rb))
def axWs (b : Nat) (rb : Nat → Nat) (ca : Nat → ClassId) : Nat → axH → va_W
  | _, [] => []
  | k, c :: l => (k, axCe b rb ca c) :: axWs b rb ca (k + 1) l
section AX6
variable {b : Nat} {rb : Nat → Nat} {ca : Nat → ClassId}
theorem axWs_get : ∀ (h : axH) (k i : Nat), (axWs b rb ca k h)[i]? = (h[i]?).map (fun c => (k + i, axCe b rb ca c))
  | [], k, i => by simp [axWs]
  | c :: l, k, 0 => by simp [axWs]
  | c :: l, k, i + 1 => by
    show (axWs b rb ca (k + 1) l)[i]? = (l[i]?).map _
    rw [axWs_get l (k + 1) i]
    congr 1
    funext c
    rw [show k + 1 + i = k + (i + 1) by omega]
theorem axWs_at {h : axH} {i : Nat} {c : axC} (e : h[i]? = some c) : (axWs b rb ca b h)[i]? = some (b + i, axCe b rb ca c) := by rw [axWs_get, e]; rfl
theorem axWs_set : ∀ (h : axH) (k i : Nat) (c : axC), axWs b rb ca k (h.set i c) = (axWs b rb ca k h).set i (k + i, axCe b rb ca c)
  | [], k, i, c => by simp [axWs]
  | _ :: l, k, 0, c => by simp [axWs]
  | d :: l, k, i + 1, c => by
    show (k, axCe b rb ca d) :: axWs b rb ca (k + 1) (l.set i c) = (k, axCe b rb ca d) :: (axWs b rb ca (k + 1) l).set i (k + (i + 1), axCe b rb ca c)
    rw [axWs_set l (k + 1) i c, show k + 1 + i = k + (i + 1) by omega]
theorem axWs_app : ∀ (h : axH) (k : Nat) (c : axC), axWs b rb ca k (h ++ [c]) = axWs b rb ca k h ++ [(k + h.length, axCe b rb ca c)]
  | [], k, c => by simp [axWs]
  | d :: l, k, c => by
    show (k, axCe b rb ca d) :: axWs b rb ca (k + 1) (l ++ [c]) = (k, axCe b rb ca d) :: (axWs b rb ca (k + 1) l ++ [(k + (l.length + 1), axCe b rb ca c)])
    rw [axWs_app l (k + 1) c, show k + 1 + l.length = k + (l.length + 1) by omega]
theorem axWs_D (h : axH) : va_D (fun q : Nat => b ≤ q) (axWs b rb ca b h) := by
  have key : ∀ (k : Nat) (q : Nat × va_E), (axWs b rb ca b h)[k]? = some q → q.1 = b + k := by
    intro k q hq
    rw [axWs_get] at hq
    obtain ⟨c, -, e⟩ := Option.map_eq_some_iff.mp hq
    rw [← e]
  refine ⟨fun i j p q hi hj he => ?_, fun k q hq => ?_⟩
  · rw [key i p hi, key j q hj] at he
    omega
  · show b ≤ q.1
    rw [key k q hq]; omega
theorem axCv_cat (v : Value) : (axCv b rb v).category = v.category := by cases v <;> rfl
theorem axCv_sum (S : List Value) : ((S.map (axCv b rb)).map fun v => v.category).sum = axSum S := by
  unfold axSum
  rw [List.map_map]
  congr 1
  apply List.map_congr_left
  intro v _
  exact axCv_cat v
end AX6
def axTys (ca : Nat → ClassId) : List (ClassId × FieldType) := [(ca 0, .int), (ca 1, .char), (ca 2, .boolean), (ca 3, .object "BeatSlugs$Board")]
def axNest : Cond → Bool
  | .methodLinkNest _ _ _ _ => true
  | .fieldLinkNest _ _ _ _ _ _ => true
  | _ => false
/-- what stays as it was at the law's entry: the arrays that nobody writes, the static fields, the words on nest mates -/
def axSt (b : Nat) (rb : Nat → Nat) (ro : axRo) (U : State) (H : Heap) : Prop :=
  (∀ i, i < 3 → rb i < b ∧ va_T .int (rb i) (ro i).1 (fun j => .int ((ro i).2 j)) (fun q : Nat => b ≤ q) U H) ∧ va_Z "BeatSlugs" "LEAST_SETTING" "[I" (.ref (rb 1)) (fun q : Nat => b ≤ q) U H ∧ va_Z "BeatSlugs" "MOST_SETTING" "[I" (.ref (rb 2)) (fun q : Nat => b ≤ q) U H ∧ (∀ w ∈ lw_tbl, axNest w = true → va_Nw w U) ∧ va_AO "BeatSlugs$Board" U
def axRep (b : Nat) (rb : Nat → Nat) (ca : Nat → ClassId) (D : va_G) (ro : axRo) (h : axH) (U : State) : Prop :=
  U.heap.size = b + h.length ∧ va_P D axCl (axWs b rb ca b h) U.heap ∧ va_K D axCl (axTys ca) U ∧ axSt b rb ro U U.heap
def axInv (b : Nat) (rb : Nat → Nat) (ca : Nat → ClassId) (D : va_G) (s : State) (h : axH) (H : Heap) (locs : List Loc) : Prop :=
  H.size = b + h.length ∧ va_P D axCl (axWs b rb ca b h) H ∧ va_S (fun q : Nat => b ≤ q) s.heap H locs
section AX6b
variable {b : Nat} {rb : Nat → Nat} {ca : Nat → ClassId} {D : va_G} {ro : axRo}
theorem axSt_moved {u U : State} {H H1 : Heap} (hvm : u.vm.Alike U.vm) (hnw : ∀ w ∈ lw_tbl, axNest w = true → va_Nw w u → va_Nw w U) (hq : ∀ a : Nat, a < H.size → ¬ b ≤ a → H1[a]? = H[a]?) (hb : b ≤ H.size) (h : axSt b rb ro u H) : axSt b rb ro U H1 := by
  obtain ⟨h1, h2, h3, h4, h5⟩ := h
  refine ⟨fun i hi => ⟨(h1 i hi).1, ((h1 i hi).2.kept hq).moved hvm⟩, (h2.kept hq).moved hvm, (h3.kept hq).moved hvm, fun w hw hn => hnw w hw hn (h4 w hw hn), h5.moved hvm⟩
theorem axNw_warm {s U : State} (hW : s.WarmedH U.vm) {w : Cond} (hn : axNest w = true) (h : va_Nw w s) : va_Nw w U := by
  cases w <;> simp only [axNest] at hn
  case methodLinkNest => exact va_Nw.warmM hW h
  case fieldLinkNest => exact va_Nw.warmF hW h
  all_goals cases hn
theorem axNw_same {s U : State} (hv : s.vm = U.vm) {w : Cond} (hn : axNest w = true) (h : va_Nw w s) : va_Nw w U := by
  cases w <;> simp only [axNest] at hn
  case methodLinkNest => exact va_Nw.same rfl hv h
  case fieldLinkNest => exact va_Nw.same rfl hv h
  all_goals cases hn
theorem axRep_at {s U : State} {h : axH} {H : Heap} {locs : List Loc} (hW : s.WarmedH U.vm) (hU : U.heap = H) (hK : va_K D axCl (axTys ca) s) (hs : b ≤ s.heap.size) (h0 : axSt b rb ro s s.heap) (hI : axInv b rb ca D s h H locs) : axRep b rb ca D ro h U := by
  obtain ⟨i1, i2, i3⟩ := hI
  refine ⟨by rw [hU]; exact i1, by rw [hU]; exact i2, va_K.moved hW.alike hK, ?_⟩
  rw [hU]
  exact axSt_moved hW.alike (fun w _ hn h => axNw_warm hW hn h) (fun a ha hb => i3.2.1 a ha hb) hs h0
theorem axRep_calling {U : State} {h : axH} (g : JFrame) (mk : MethodId) (a : Array Value) (hR : axRep b rb ca D ro h U) : axRep b rb ca D ro h (U.calling g mk a) := by
  obtain ⟨i1, i2, i3, i4⟩ := hR
  refine ⟨i1, i2, va_K.moved (u := U) (U := U.calling g mk a) (Vm.Alike.refl U.vm) i3, ?_⟩
  refine axSt_moved (u := U) (U := U.calling g mk a) (H := U.heap) (H1 := U.heap) (Vm.Alike.refl U.vm) (fun w _ hn h => axNw_same (s := U) (U := U.calling g mk a) rfl hn h) (fun _ _ _ => rfl) (by omega) i4
end AX6b
def axPc (b : Nat) (rb : Nat → Nat) (ca : Nat → ClassId) (D : va_G) (ro : axRo) (vs : List Value) (h : axH) : Array Value → State → Prop := fun a U => a = (vs.map (axCv b rb)).toArray ∧ axRep b rb ca D ro h U
def axQc (b : Nat) (rb : Nat → Nat) (ca : Nat → ClassId) (D : va_G) (ro : axRo) (r : Option Value) (h : axH) : Array Value → State → Outcome → State → Prop := fun _ st o t => o = .returned (r.map (axCv b rb)) ∧ axRep b rb ca D ro h t ∧ va_F (fun q : Nat => b ≤ q) st t
def axRm (d mc ms : Nat) : Room := { frames := d, cells := mc, slots := ms, locals := 32 * d }
def axCs : axC → Nat := fun c => match c with
  | .inl (_, n, _) => n
  | .inr (.inl (n, _)) => n
  | .inr (.inr (_, fs)) => fs.length
def axSl (h : axH) : Nat := (h.map axCs).sum
theorem axSl_app (h : axH) (c : axC) : axSl (h ++ [c]) = axSl h + axCs c := by simp [axSl]
theorem axSl_set : ∀ (h : axH) (i : Nat) (c d : axC), h[i]? = some d → axCs c = axCs d → axSl (h.set i c) = axSl h
  | [], i, c, d, h, _ => by simp at h
  | a :: l, 0, c, d, h, e => by
    simp only [List.getElem?_cons_zero, Option.some.injEq] at h
    simp [axSl, e, h]
  | a :: l, i + 1, c, d, h, e => by
    rw [List.getElem?_cons_succ] at h
    have := axSl_set l i c d h e
    unfold axSl at *
    rw [List.set_cons_succ, List.map_cons, List.sum_cons, this, List.map_cons, List.sum_cons]
def axWM (M : axM) : List Cond := Cond.code M.1 M.2.1 M.2.2.1 M.2.2.2.1 :: axTW
theorem axWM_good {M : axM} (hM : axGood M) : GoodIn axTW (axWM M) := by
  intro w hw
  have hc : Cond.code M.1 M.2.1 M.2.2.1 M.2.2.2.1 ∈ axTW := axTW_mem hM.1 rfl
  rcases List.mem_cons.mp hw with rfl | h
  · exact ⟨hc, axTW_good hc⟩
  · exact ⟨h, axTW_good h⟩
theorem goodIn_one {big : List Cond} {w : Cond} (h : w ∈ lw_tbl) (g : goodWord w = true) : w ∈ axTW ∧ ((w.onTables && w.keeps) = true ∨ ∃ ty, w = .arrayClass ty) := ⟨axTW_mem h g, good_of_word g⟩
/-! the locals -/
def axEn (b : Nat) (rb : Nat → Nat) : Nat → axL → List (Nat × Value)
  | _, [] => []
  | k, some v :: l => (k, axCv b rb v) :: axEn b rb (k + 1) l
  | k, none :: l => axEn b rb (k + 1) l
def axLr (b : Nat) (rb : Nat → Nat) (L : axL) (ls : Array Slot) (nL : Nat) : Prop := L.length = nL ∧ lv_has ls nL (axEn b rb 0 L)
section AX6c
variable {b : Nat} {rb : Nat → Nat}
theorem axEn_mem : ∀ (L : axL) (k j : Nat) (w : Value), (j, w) ∈ axEn b rb k L ↔ ∃ i v, j = k + i ∧ axG L i = some v ∧ w = axCv b rb v
  | [], k, j, w => by simp [axEn, axG]
  | some u :: l, k, j, w => by
    rw [axEn, List.mem_cons, axEn_mem l (k + 1) j w]
    constructor
    · rintro (h | ⟨i, v, h1, h2, h3⟩)
      · cases h
        exact ⟨0, u, rfl, rfl, rfl⟩
      · exact ⟨i + 1, v, by omega, h2, h3⟩
    · rintro ⟨i, v, h1, h2, h3⟩
      cases i with
      | zero =>
        have : u = v := Option.some.inj h2
        subst this
        left
        rw [h1, h3]; rfl
      | succ i => exact Or.inr ⟨i, v, by omega, h2, h3⟩
  | none :: l, k, j, w => by
    rw [axEn, axEn_mem l (k + 1) j w]
    constructor
    · rintro ⟨i, v, h1, h2, h3⟩
      exact ⟨i + 1, v, by omega, h2, h3⟩
    · rintro ⟨i, v, h1, h2, h3⟩
      cases i with
      | zero => cases h2
      | succ i => exact ⟨i, v, by omega, h2, h3⟩
theorem axLr_get {L : axL} {ls : Array Slot} {nL i : Nat} {v : Value} (h : axLr b rb L ls nL) (e : axG L i = some v) : ls[i]? = some (.val (axCv b rb v)) := h.2.2.2 (i, axCv b rb v) ((axEn_mem L 0 i _).mpr ⟨i, v, by omega, e, rfl⟩)
theorem axP_succ {u : Option Value} {l L' : axL} {i : Nat} {v : Value} (h : axP (u :: l) (i + 1) v = some L') : (∃ l', axP l i v = some l' ∧ L' = u :: l') ∧ (i = 0 → ∀ w, u = some w → ¬ w.category = 2) := by
  have key : ∀ o : Option axL, (match o with | some l' => some (u :: l') | none => none) = some L' → ∃ l', o = some l' ∧ L' = u :: l' := by
    intro o ho
    cases o with
    | none => cases ho
    | some l' => exact ⟨l', rfl, (Option.some.inj ho).symm⟩
  cases i with
  | succ n => exact ⟨key _ (by rw [axP] at h; exact h; all_goals (intros; omega)), fun q => by omega⟩
  | zero =>
    cases u with
    | none => exact ⟨key _ h, fun _ w q => by cases q⟩
    | some w =>
      cases w with
      | long x => cases h
      | double x => cases h
      | _ => exact ⟨key _ h, fun _ w q => by cases q; intro z; cases z⟩
theorem axP_spec : ∀ (L L' : axL) (i : Nat) (v : Value), axP L i v = some L' → L'.length = L.length ∧ i < L.length ∧ ∀ j w, axG L' j = some w → (j = i ∧ w = v) ∨ (j ≠ i ∧ axG L j = some w ∧ ¬ (j + 1 = i ∧ w.category = 2))
  | [], L', i, v, h => by cases h
  | u :: l, L', 0, v, h => by
    have h := (Option.some.inj h).symm
    subst h
    refine ⟨rfl, by simp, fun j w e => ?_⟩
    cases j with
    | zero => exact Or.inl ⟨rfl, (Option.some.inj e).symm⟩
    | succ j => exact Or.inr ⟨by omega, e, by omega⟩
  | u :: l, L', i + 1, v, h => by
    obtain ⟨⟨l', hl, rfl⟩, hn⟩ := axP_succ h
    obtain ⟨a1, a2, a3⟩ := axP_spec l l' i v hl
    refine ⟨by simp [a1], by simp; omega, fun j w e => ?_⟩
    cases j with
    | zero => exact Or.inr ⟨by omega, e, fun q => hn (by omega) w e q.2⟩
    | succ j =>
      rcases a3 j w e with ⟨z1, z2⟩ | ⟨z1, z2, z3⟩
      · exact Or.inl ⟨by omega, z2⟩
      · exact Or.inr ⟨by omega, z2, by omega⟩
end AX6c
end
section
/-! SOUNDNESS, an instruction at a time: where the abstract machine goes on, the Java machine does (1: locals, stack, jumps). Written by wip/whole/mk07.py. -/
/-- what stays for a method's whole body: the machine, the code, the class, the words, the classes' numbers, what nobody writes -/
def axFx (p : Program) (s : State) (m : MethodId) (args : Array Value) (meth : Method) (c : Code) (b : Nat) (rb : Nat → Nat) (ca : Nat → ClassId) (D : va_G) (ro : axRo) (cc : ByteArray) (nL o : Nat) : Prop :=
  p.tables.exec = Jvm.exec ∧ c.code = cc ∧ c.maxLocals = nL ∧ s.vm.findClass (axCn o) = some m.cls ∧ (∀ w ∈ axTW, w.before args s = true) ∧ va_K D axCl (axTys ca) s ∧ axSt b rb ro s s.heap ∧ b ≤ s.heap.size
/-- from every heap that holds the abstract one, with these locals and this stack at pc, the method comes to QQ -/
def axWW (p : Program) (l : Launch) (e : Env) (R : Room) (s : State) (m : MethodId) (args : Array Value) (below : List Frame) (meth : Method) (c : Code) (b : Nat) (rb : Nat → Nat) (ca : Nat → ClassId) (D : va_G) (QQ : State → Prop) (nL n0 s0 : Nat) (pc : Nat) (L : axL) (S : List Value) (h : axH) : Prop :=
  n0 ≤ h.length → s0 ≤ axSl h → ∀ (H : Heap) (locs : List Loc) (ls : Array Slot), axInv b rb ca D s h H locs → axLr b rb L ls nL → W p l e R s m args below meth c H locs (h.length - n0) (axSl h - s0) QQ (F0 m pc ls (S.map (axCv b rb)))
theorem axI_ok {k len : Nat} {e e' : axE} (h : axI k len e = some e') : len = k ∧ e = e' := by
  unfold axI at h
  split at h
  · exact ⟨by assumption, Option.some.inj h⟩
  · cases h
theorem axTg_ok {pc len : Nat} {off : Int} {k : Nat → axE} {e' : axE} (h : axTg pc len off k = some e') : len = 3 ∧ (pc : Int) + off = ((((pc : Int) + off).toNat : Nat) : Int) ∧ k ((pc : Int) + off).toNat = e' := by
  unfold axTg at h
  split at h
  · rename_i q
    exact ⟨q.2, (Int.toNat_of_nonneg q.1).symm, Option.some.inj h⟩
  · cases h
theorem axLr_put {b : Nat} {rb : Nat → Nat} {L L' : axL} {nL i : Nat} {v : Value} {ls' : Array Slot} (hp : axP L i v = some L') (hn : L.length = nL) (hl : lv_has ls' nL ((i, axCv b rb v) :: (axEn b rb 0 L).filter (fun q => !(q.1 == i) && !(q.1 + 1 == i && q.2.category == 2)))) : axLr b rb L' ls' nL := by
  obtain ⟨a1, a2, a3⟩ := axP_spec L L' i v hp
  refine ⟨a1.trans hn, hl.1, hl.2.1, fun q hq => ?_⟩
  obtain ⟨j, w⟩ := q
  obtain ⟨i0, v0, h1, h2, h3⟩ := (axEn_mem L' 0 j w).mp hq
  have h1 : j = i0 := by omega
  subst h1
  subst h3
  rcases a3 j v0 h2 with ⟨z1, z2⟩ | ⟨z1, z2, z3⟩
  · rw [z1, z2]
    exact hl.2.2 (i, axCv b rb v) List.mem_cons_self
  · refine hl.2.2 (j, axCv b rb v0) (List.mem_cons_of_mem _ (List.mem_filter.mpr ⟨(axEn_mem L 0 j _).mpr ⟨j, v0, by omega, z2, rfl⟩, ?_⟩))
    rw [axCv_cat]
    simp only [Bool.and_eq_true, Bool.not_eq_true', beq_eq_false_iff_ne, ne_eq, Bool.and_eq_false_iff]
    refine ⟨z1, ?_⟩
    by_cases hj : j + 1 = i
    · exact Or.inr (fun q => z3 ⟨hj, q⟩)
    · exact Or.inl hj
theorem axFnd_mem {α : Type} {o i : Nat} : ∀ (l : List (Nat × Nat × α)) {x : α}, axFnd o i l = some x → (o, i, x) ∈ l
  | [], x, h => by cases h
  | q :: r, x, h => by
    unfold axFnd at h
    by_cases hq : (Nat.beq q.1 o && Nat.beq q.2.1 i) = true
    · rw [hq] at h
      rw [Bool.and_eq_true] at hq
      have h := Option.some.inj h
      have e1 := Nat.eq_of_beq_eq_true hq.1
      have e2 := Nat.eq_of_beq_eq_true hq.2
      rw [← h, ← e1, ← e2]
      exact List.mem_cons_self
    · rw [Bool.not_eq_true] at hq
      rw [hq] at h
      exact List.mem_cons_of_mem _ (axFnd_mem r h)
section AX7
variable {p : Program} {l : Launch} {e : Env} {R : Room} {s : State} {m : MethodId} {args : Array Value} {below : List Frame} {meth : Method} {c : Code} {b : Nat} {rb : Nat → Nat} {ca : Nat → ClassId} {D : va_G} {ro : axRo} {QQ : State → Prop} {cc : ByteArray} {nL n0 s0 o : Nat} {pc : Nat} {L : axL} {S : List Value} {h : axH} {K : Nat → axL → List Value → axH → Prop} {Q : Option Value → axH → Prop} {E : axCall} {ent : axE} {ini : Bool} {rt len : Nat}

theorem sx_iconst (n : Int) (F : axFx p s m args meth c b rb ca D ro cc nL o) (hd : decode cc pc = .ok (.iconst n, len)) (ht : axTr o ini rt pc (.iconst n) len = some ent) (h1 : axOne ro E ent L S h K Q) (hK : ∀ pc' L' S' h', K pc' L' S' h' → axWW p l e R s m args below meth c b rb ca D QQ nL n0 s0 pc' L' S' h') : axWW p l e R s m args below meth c b rb ca D QQ nL n0 s0 pc L S h := by
  obtain ⟨rfl, rfl⟩ := axI_ok ht
  obtain ⟨q, hq, hk⟩ := h1
  cases (Option.some.inj hq)
  intro g1 g2 H locs ls hI hL
  exact lv_iconst F.1 F.2.1 hd rfl (hK _ _ _ _ hk g1 g2 H locs ls hI hL)
theorem sx_bipush (n : Int) (F : axFx p s m args meth c b rb ca D ro cc nL o) (hd : decode cc pc = .ok (.bipush n, len)) (ht : axTr o ini rt pc (.bipush n) len = some ent) (h1 : axOne ro E ent L S h K Q) (hK : ∀ pc' L' S' h', K pc' L' S' h' → axWW p l e R s m args below meth c b rb ca D QQ nL n0 s0 pc' L' S' h') : axWW p l e R s m args below meth c b rb ca D QQ nL n0 s0 pc L S h := by
  obtain ⟨rfl, rfl⟩ := axI_ok ht
  obtain ⟨q, hq, hk⟩ := h1
  cases (Option.some.inj hq)
  intro g1 g2 H locs ls hI hL
  exact lv_bipush F.1 F.2.1 hd rfl (hK _ _ _ _ hk g1 g2 H locs ls hI hL)
theorem sx_sipush (n : Int) (F : axFx p s m args meth c b rb ca D ro cc nL o) (hd : decode cc pc = .ok (.sipush n, len)) (ht : axTr o ini rt pc (.sipush n) len = some ent) (h1 : axOne ro E ent L S h K Q) (hK : ∀ pc' L' S' h', K pc' L' S' h' → axWW p l e R s m args below meth c b rb ca D QQ nL n0 s0 pc' L' S' h') : axWW p l e R s m args below meth c b rb ca D QQ nL n0 s0 pc L S h := by
  obtain ⟨rfl, rfl⟩ := axI_ok ht
  obtain ⟨q, hq, hk⟩ := h1
  cases (Option.some.inj hq)
  intro g1 g2 H locs ls hI hL
  exact lv_sipush F.1 F.2.1 hd rfl (hK _ _ _ _ hk g1 g2 H locs ls hI hL)
theorem sx_lconst (n : Fin 2) (F : axFx p s m args meth c b rb ca D ro cc nL o) (hd : decode cc pc = .ok (.lconst n, len)) (ht : axTr o ini rt pc (.lconst n) len = some ent) (h1 : axOne ro E ent L S h K Q) (hK : ∀ pc' L' S' h', K pc' L' S' h' → axWW p l e R s m args below meth c b rb ca D QQ nL n0 s0 pc' L' S' h') : axWW p l e R s m args below meth c b rb ca D QQ nL n0 s0 pc L S h := by
  obtain ⟨rfl, rfl⟩ := axI_ok ht
  obtain ⟨q, hq, hk⟩ := h1
  cases (Option.some.inj hq)
  intro g1 g2 H locs ls hI hL
  exact lv_lconst F.1 F.2.1 hd rfl (hK _ _ _ _ hk g1 g2 H locs ls hI hL)
theorem sx_ldc_w (i : Nat) (F : axFx p s m args meth c b rb ca D ro cc nL o) (hd : decode cc pc = .ok (.ldc_w i, len)) (ht : axTr o ini rt pc (.ldc_w i) len = some ent) (h1 : axOne ro E ent L S h K Q) (hK : ∀ pc' L' S' h', K pc' L' S' h' → axWW p l e R s m args below meth c b rb ca D QQ nL n0 s0 pc' L' S' h') : axWW p l e R s m args below meth c b rb ca D QQ nL n0 s0 pc L S h := by
  rcases hq0 : axFnd o i axCsT with _ | ⟨v, w⟩
  · simp only [axTr, hq0] at ht
    cases ht
  · simp only [axTr, hq0] at ht
    obtain ⟨rfl, rfl⟩ := axI_ok ht
    obtain ⟨q, hq, hk⟩ := h1
    cases (Option.some.inj hq)
    intro g1 g2 H locs ls hI hL
    exact lv_ldcw F.1 F.2.1 F.2.2.2.1 (F.2.2.2.2.1 _ (axTW_mem (axCsT_ok _ (axFnd_mem _ hq0)) rfl)) hd (hK _ _ _ _ hk g1 g2 H locs ls hI hL)
theorem sx_ldc2_w (i : Nat) (F : axFx p s m args meth c b rb ca D ro cc nL o) (hd : decode cc pc = .ok (.ldc2_w i, len)) (ht : axTr o ini rt pc (.ldc2_w i) len = some ent) (h1 : axOne ro E ent L S h K Q) (hK : ∀ pc' L' S' h', K pc' L' S' h' → axWW p l e R s m args below meth c b rb ca D QQ nL n0 s0 pc' L' S' h') : axWW p l e R s m args below meth c b rb ca D QQ nL n0 s0 pc L S h := by
  rcases hq0 : axFnd o i axLcT with _ | ⟨v, w⟩
  · simp only [axTr, hq0] at ht
    cases ht
  · simp only [axTr, hq0] at ht
    obtain ⟨rfl, rfl⟩ := axI_ok ht
    obtain ⟨q, hq, hk⟩ := h1
    cases (Option.some.inj hq)
    intro g1 g2 H locs ls hI hL
    exact lv_ldc2 F.1 F.2.1 F.2.2.2.1 (F.2.2.2.2.1 _ (axTW_mem (axLcT_ok _ (axFnd_mem _ hq0)) rfl)) hd (hK _ _ _ _ hk g1 g2 H locs ls hI hL)
theorem sx_iload_n (k : Fin 4) (F : axFx p s m args meth c b rb ca D ro cc nL o) (hd : decode cc pc = .ok (.iload_n k, len)) (ht : axTr o ini rt pc (.iload_n k) len = some ent) (h1 : axOne ro E ent L S h K Q) (hK : ∀ pc' L' S' h', K pc' L' S' h' → axWW p l e R s m args below meth c b rb ca D QQ nL n0 s0 pc' L' S' h') : axWW p l e R s m args below meth c b rb ca D QQ nL n0 s0 pc L S h := by
  obtain ⟨rfl, rfl⟩ := axI_ok ht
  obtain ⟨q, hq, hk⟩ := h1
  simp only [axStp] at hq
  split at hq
  · rename_i x hx
    cases (Option.some.inj hq)
    intro g1 g2 H locs ls hI hL
    exact lv_iload_n F.1 F.2.1 hd rfl (axLr_get hL hx) (hK _ _ _ _ hk g1 g2 H locs ls hI hL)
  · cases hq
theorem sx_iload (k : Nat) (F : axFx p s m args meth c b rb ca D ro cc nL o) (hd : decode cc pc = .ok (.iload k, len)) (ht : axTr o ini rt pc (.iload k) len = some ent) (h1 : axOne ro E ent L S h K Q) (hK : ∀ pc' L' S' h', K pc' L' S' h' → axWW p l e R s m args below meth c b rb ca D QQ nL n0 s0 pc' L' S' h') : axWW p l e R s m args below meth c b rb ca D QQ nL n0 s0 pc L S h := by
  obtain ⟨rfl, rfl⟩ := axI_ok ht
  obtain ⟨q, hq, hk⟩ := h1
  simp only [axStp] at hq
  split at hq
  · rename_i x hx
    cases (Option.some.inj hq)
    intro g1 g2 H locs ls hI hL
    exact lv_iload F.1 F.2.1 hd (axLr_get hL hx) (hK _ _ _ _ hk g1 g2 H locs ls hI hL)
  · cases hq
theorem sx_lload_n (k : Fin 4) (F : axFx p s m args meth c b rb ca D ro cc nL o) (hd : decode cc pc = .ok (.lload_n k, len)) (ht : axTr o ini rt pc (.lload_n k) len = some ent) (h1 : axOne ro E ent L S h K Q) (hK : ∀ pc' L' S' h', K pc' L' S' h' → axWW p l e R s m args below meth c b rb ca D QQ nL n0 s0 pc' L' S' h') : axWW p l e R s m args below meth c b rb ca D QQ nL n0 s0 pc L S h := by
  obtain ⟨rfl, rfl⟩ := axI_ok ht
  obtain ⟨q, hq, hk⟩ := h1
  simp only [axStp] at hq
  split at hq
  · rename_i x hx
    cases (Option.some.inj hq)
    intro g1 g2 H locs ls hI hL
    exact lv_lload_n F.1 F.2.1 hd rfl (axLr_get hL hx) (hK _ _ _ _ hk g1 g2 H locs ls hI hL)
  · cases hq
theorem sx_lload (k : Nat) (F : axFx p s m args meth c b rb ca D ro cc nL o) (hd : decode cc pc = .ok (.lload k, len)) (ht : axTr o ini rt pc (.lload k) len = some ent) (h1 : axOne ro E ent L S h K Q) (hK : ∀ pc' L' S' h', K pc' L' S' h' → axWW p l e R s m args below meth c b rb ca D QQ nL n0 s0 pc' L' S' h') : axWW p l e R s m args below meth c b rb ca D QQ nL n0 s0 pc L S h := by
  obtain ⟨rfl, rfl⟩ := axI_ok ht
  obtain ⟨q, hq, hk⟩ := h1
  simp only [axStp] at hq
  split at hq
  · rename_i x hx
    cases (Option.some.inj hq)
    intro g1 g2 H locs ls hI hL
    exact lv_lload F.1 F.2.1 hd (axLr_get hL hx) (hK _ _ _ _ hk g1 g2 H locs ls hI hL)
  · cases hq
theorem sx_aload_n (k : Fin 4) (F : axFx p s m args meth c b rb ca D ro cc nL o) (hd : decode cc pc = .ok (.aload_n k, len)) (ht : axTr o ini rt pc (.aload_n k) len = some ent) (h1 : axOne ro E ent L S h K Q) (hK : ∀ pc' L' S' h', K pc' L' S' h' → axWW p l e R s m args below meth c b rb ca D QQ nL n0 s0 pc' L' S' h') : axWW p l e R s m args below meth c b rb ca D QQ nL n0 s0 pc L S h := by
  obtain ⟨rfl, rfl⟩ := axI_ok ht
  obtain ⟨q, hq, hk⟩ := h1
  simp only [axStp] at hq
  split at hq
  · rename_i x hx
    cases (Option.some.inj hq)
    intro g1 g2 H locs ls hI hL
    exact lv_aload_n F.1 F.2.1 hd rfl (axLr_get hL hx) (hK _ _ _ _ hk g1 g2 H locs ls hI hL)
  · rename_i hx
    cases (Option.some.inj hq)
    intro g1 g2 H locs ls hI hL
    exact lv_aload_nN F.1 F.2.1 hd rfl (axLr_get hL hx) (hK _ _ _ _ hk g1 g2 H locs ls hI hL)
  · rename_i x hx
    cases (Option.some.inj hq)
    intro g1 g2 H locs ls hI hL
    exact lv_aload_n F.1 F.2.1 hd rfl (axLr_get hL hx) (hK _ _ _ _ hk g1 g2 H locs ls hI hL)
  · cases hq
theorem sx_aload (k : Nat) (F : axFx p s m args meth c b rb ca D ro cc nL o) (hd : decode cc pc = .ok (.aload k, len)) (ht : axTr o ini rt pc (.aload k) len = some ent) (h1 : axOne ro E ent L S h K Q) (hK : ∀ pc' L' S' h', K pc' L' S' h' → axWW p l e R s m args below meth c b rb ca D QQ nL n0 s0 pc' L' S' h') : axWW p l e R s m args below meth c b rb ca D QQ nL n0 s0 pc L S h := by
  obtain ⟨rfl, rfl⟩ := axI_ok ht
  obtain ⟨q, hq, hk⟩ := h1
  simp only [axStp] at hq
  split at hq
  · rename_i x hx
    cases (Option.some.inj hq)
    intro g1 g2 H locs ls hI hL
    exact lv_aload F.1 F.2.1 hd (axLr_get hL hx) (hK _ _ _ _ hk g1 g2 H locs ls hI hL)
  · rename_i hx
    cases (Option.some.inj hq)
    intro g1 g2 H locs ls hI hL
    exact lv_aloadN F.1 F.2.1 hd (axLr_get hL hx) (hK _ _ _ _ hk g1 g2 H locs ls hI hL)
  · rename_i x hx
    cases (Option.some.inj hq)
    intro g1 g2 H locs ls hI hL
    exact lv_aload F.1 F.2.1 hd (axLr_get hL hx) (hK _ _ _ _ hk g1 g2 H locs ls hI hL)
  · cases hq
theorem sx_istore_n (k : Fin 4) (F : axFx p s m args meth c b rb ca D ro cc nL o) (hd : decode cc pc = .ok (.istore_n k, len)) (ht : axTr o ini rt pc (.istore_n k) len = some ent) (h1 : axOne ro E ent L S h K Q) (hK : ∀ pc' L' S' h', K pc' L' S' h' → axWW p l e R s m args below meth c b rb ca D QQ nL n0 s0 pc' L' S' h') : axWW p l e R s m args below meth c b rb ca D QQ nL n0 s0 pc L S h := by
  obtain ⟨rfl, rfl⟩ := axI_ok ht
  obtain ⟨q, hq, hk⟩ := h1
  simp only [axStp] at hq
  split at hq
  · rename_i x S'
    split at hq
    · rename_i L' hp
      cases (Option.some.inj hq)
      intro g1 g2 H locs ls hI hL
      exact lv_istore_n F.1 F.2.1 hd rfl hL.2 (by have := (axP_spec _ _ _ _ hp).2.1; rw [hL.1] at this; exact this) rfl (fun ls hl => hK _ _ _ _ hk g1 g2 H locs ls hI (axLr_put hp hL.1 hl))
    · cases hq
  · cases hq
theorem sx_istore (k : Nat) (F : axFx p s m args meth c b rb ca D ro cc nL o) (hd : decode cc pc = .ok (.istore k, len)) (ht : axTr o ini rt pc (.istore k) len = some ent) (h1 : axOne ro E ent L S h K Q) (hK : ∀ pc' L' S' h', K pc' L' S' h' → axWW p l e R s m args below meth c b rb ca D QQ nL n0 s0 pc' L' S' h') : axWW p l e R s m args below meth c b rb ca D QQ nL n0 s0 pc L S h := by
  obtain ⟨rfl, rfl⟩ := axI_ok ht
  obtain ⟨q, hq, hk⟩ := h1
  simp only [axStp] at hq
  split at hq
  · rename_i x S'
    split at hq
    · rename_i L' hp
      cases (Option.some.inj hq)
      intro g1 g2 H locs ls hI hL
      exact lv_istore F.1 F.2.1 hd hL.2 (by have := (axP_spec _ _ _ _ hp).2.1; rw [hL.1] at this; exact this) rfl (fun ls hl => hK _ _ _ _ hk g1 g2 H locs ls hI (axLr_put hp hL.1 hl))
    · cases hq
  · cases hq
theorem sx_astore_n (k : Fin 4) (F : axFx p s m args meth c b rb ca D ro cc nL o) (hd : decode cc pc = .ok (.astore_n k, len)) (ht : axTr o ini rt pc (.astore_n k) len = some ent) (h1 : axOne ro E ent L S h K Q) (hK : ∀ pc' L' S' h', K pc' L' S' h' → axWW p l e R s m args below meth c b rb ca D QQ nL n0 s0 pc' L' S' h') : axWW p l e R s m args below meth c b rb ca D QQ nL n0 s0 pc L S h := by
  obtain ⟨rfl, rfl⟩ := axI_ok ht
  obtain ⟨q, hq, hk⟩ := h1
  simp only [axStp] at hq
  split at hq
  · rename_i x S'
    split at hq
    · rename_i L' hp
      cases (Option.some.inj hq)
      intro g1 g2 H locs ls hI hL
      exact lv_astore_n F.1 F.2.1 hd rfl hL.2 (by have := (axP_spec _ _ _ _ hp).2.1; rw [hL.1] at this; exact this) rfl (fun ls hl => hK _ _ _ _ hk g1 g2 H locs ls hI (axLr_put hp hL.1 hl))
    · cases hq
  · cases hq
theorem sx_astore (k : Nat) (F : axFx p s m args meth c b rb ca D ro cc nL o) (hd : decode cc pc = .ok (.astore k, len)) (ht : axTr o ini rt pc (.astore k) len = some ent) (h1 : axOne ro E ent L S h K Q) (hK : ∀ pc' L' S' h', K pc' L' S' h' → axWW p l e R s m args below meth c b rb ca D QQ nL n0 s0 pc' L' S' h') : axWW p l e R s m args below meth c b rb ca D QQ nL n0 s0 pc L S h := by
  obtain ⟨rfl, rfl⟩ := axI_ok ht
  obtain ⟨q, hq, hk⟩ := h1
  simp only [axStp] at hq
  split at hq
  · rename_i x S'
    split at hq
    · rename_i L' hp
      cases (Option.some.inj hq)
      intro g1 g2 H locs ls hI hL
      exact lv_astore F.1 F.2.1 hd hL.2 (by have := (axP_spec _ _ _ _ hp).2.1; rw [hL.1] at this; exact this) rfl (fun ls hl => hK _ _ _ _ hk g1 g2 H locs ls hI (axLr_put hp hL.1 hl))
    · cases hq
  · cases hq
theorem sx_iinc (i : Nat) (n : Int) (F : axFx p s m args meth c b rb ca D ro cc nL o) (hd : decode cc pc = .ok (.iinc i n, len)) (ht : axTr o ini rt pc (.iinc i n) len = some ent) (h1 : axOne ro E ent L S h K Q) (hK : ∀ pc' L' S' h', K pc' L' S' h' → axWW p l e R s m args below meth c b rb ca D QQ nL n0 s0 pc' L' S' h') : axWW p l e R s m args below meth c b rb ca D QQ nL n0 s0 pc L S h := by
  obtain ⟨rfl, rfl⟩ := axI_ok ht
  obtain ⟨q, hq, hk⟩ := h1
  simp only [axStp] at hq
  split at hq
  · rename_i x hx
    split at hq
    · rename_i L' hp
      cases (Option.some.inj hq)
      intro g1 g2 H locs ls hI hL
      obtain ⟨k, hkk⟩ := List.getElem?_of_mem ((axEn_mem (b := b) (rb := rb) L 0 i _).mpr ⟨i, _, by omega, hx, rfl⟩)
      exact lv_iinc F.1 F.2.1 hd hL.2 (k := k) hkk rfl (by have := (axP_spec _ _ _ _ hp).2.1; rw [hL.1] at this; exact this) rfl (fun ls hl => hK _ _ _ _ hk g1 g2 H locs ls hI (axLr_put hp hL.1 hl))
    · cases hq
  · cases hq
theorem sx_dup (F : axFx p s m args meth c b rb ca D ro cc nL o) (hd : decode cc pc = .ok (.dup, len)) (ht : axTr o ini rt pc (.dup) len = some ent) (h1 : axOne ro E ent L S h K Q) (hK : ∀ pc' L' S' h', K pc' L' S' h' → axWW p l e R s m args below meth c b rb ca D QQ nL n0 s0 pc' L' S' h') : axWW p l e R s m args below meth c b rb ca D QQ nL n0 s0 pc L S h := by
  obtain ⟨rfl, rfl⟩ := axI_ok ht
  obtain ⟨q, hq, hk⟩ := h1
  simp only [axStp] at hq
  split at hq
  · cases (Option.some.inj hq)
    intro g1 g2 H locs ls hI hL
    exact lv_dup F.1 F.2.1 hd rfl (hK _ _ _ _ hk g1 g2 H locs ls hI hL)
  · cases (Option.some.inj hq)
    intro g1 g2 H locs ls hI hL
    exact lv_dup F.1 F.2.1 hd rfl (hK _ _ _ _ hk g1 g2 H locs ls hI hL)
  · cases hq
theorem sx_pop (F : axFx p s m args meth c b rb ca D ro cc nL o) (hd : decode cc pc = .ok (.pop, len)) (ht : axTr o ini rt pc (.pop) len = some ent) (h1 : axOne ro E ent L S h K Q) (hK : ∀ pc' L' S' h', K pc' L' S' h' → axWW p l e R s m args below meth c b rb ca D QQ nL n0 s0 pc' L' S' h') : axWW p l e R s m args below meth c b rb ca D QQ nL n0 s0 pc L S h := by
  obtain ⟨rfl, rfl⟩ := axI_ok ht
  obtain ⟨q, hq, hk⟩ := h1
  simp only [axStp] at hq
  split at hq
  · cases (Option.some.inj hq)
    intro g1 g2 H locs ls hI hL
    exact lv_pop F.1 F.2.1 hd rfl (hK _ _ _ _ hk g1 g2 H locs ls hI hL)
  · cases (Option.some.inj hq)
    intro g1 g2 H locs ls hI hL
    exact lv_pop F.1 F.2.1 hd rfl (hK _ _ _ _ hk g1 g2 H locs ls hI hL)
  · cases hq
theorem sx_dup2 (F : axFx p s m args meth c b rb ca D ro cc nL o) (hd : decode cc pc = .ok (.dup2, len)) (ht : axTr o ini rt pc (.dup2) len = some ent) (h1 : axOne ro E ent L S h K Q) (hK : ∀ pc' L' S' h', K pc' L' S' h' → axWW p l e R s m args below meth c b rb ca D QQ nL n0 s0 pc' L' S' h') : axWW p l e R s m args below meth c b rb ca D QQ nL n0 s0 pc L S h := by
  obtain ⟨rfl, rfl⟩ := axI_ok ht
  obtain ⟨q, hq, hk⟩ := h1
  simp only [axStp] at hq
  split at hq
  · cases (Option.some.inj hq)
    intro g1 g2 H locs ls hI hL
    exact lv_dup2_11 F.1 F.2.1 hd rfl rfl (hK _ _ _ _ hk g1 g2 H locs ls hI hL)
  · cases hq
theorem sx_iadd (F : axFx p s m args meth c b rb ca D ro cc nL o) (hd : decode cc pc = .ok (.iadd, len)) (ht : axTr o ini rt pc (.iadd) len = some ent) (h1 : axOne ro E ent L S h K Q) (hK : ∀ pc' L' S' h', K pc' L' S' h' → axWW p l e R s m args below meth c b rb ca D QQ nL n0 s0 pc' L' S' h') : axWW p l e R s m args below meth c b rb ca D QQ nL n0 s0 pc L S h := by
  obtain ⟨rfl, rfl⟩ := axI_ok ht
  obtain ⟨q, hq, hk⟩ := h1
  simp only [axStp] at hq
  split at hq
  · cases (Option.some.inj hq)
    intro g1 g2 H locs ls hI hL
    exact lv_iadd F.1 F.2.1 hd (hK _ _ _ _ hk g1 g2 H locs ls hI hL)
  · cases hq
theorem sx_isub (F : axFx p s m args meth c b rb ca D ro cc nL o) (hd : decode cc pc = .ok (.isub, len)) (ht : axTr o ini rt pc (.isub) len = some ent) (h1 : axOne ro E ent L S h K Q) (hK : ∀ pc' L' S' h', K pc' L' S' h' → axWW p l e R s m args below meth c b rb ca D QQ nL n0 s0 pc' L' S' h') : axWW p l e R s m args below meth c b rb ca D QQ nL n0 s0 pc L S h := by
  obtain ⟨rfl, rfl⟩ := axI_ok ht
  obtain ⟨q, hq, hk⟩ := h1
  simp only [axStp] at hq
  split at hq
  · cases (Option.some.inj hq)
    intro g1 g2 H locs ls hI hL
    exact lv_isub F.1 F.2.1 hd (hK _ _ _ _ hk g1 g2 H locs ls hI hL)
  · cases hq
theorem sx_imul (F : axFx p s m args meth c b rb ca D ro cc nL o) (hd : decode cc pc = .ok (.imul, len)) (ht : axTr o ini rt pc (.imul) len = some ent) (h1 : axOne ro E ent L S h K Q) (hK : ∀ pc' L' S' h', K pc' L' S' h' → axWW p l e R s m args below meth c b rb ca D QQ nL n0 s0 pc' L' S' h') : axWW p l e R s m args below meth c b rb ca D QQ nL n0 s0 pc L S h := by
  obtain ⟨rfl, rfl⟩ := axI_ok ht
  obtain ⟨q, hq, hk⟩ := h1
  simp only [axStp] at hq
  split at hq
  · cases (Option.some.inj hq)
    intro g1 g2 H locs ls hI hL
    exact lv_imul F.1 F.2.1 hd (hK _ _ _ _ hk g1 g2 H locs ls hI hL)
  · cases hq
theorem sx_iand (F : axFx p s m args meth c b rb ca D ro cc nL o) (hd : decode cc pc = .ok (.iand, len)) (ht : axTr o ini rt pc (.iand) len = some ent) (h1 : axOne ro E ent L S h K Q) (hK : ∀ pc' L' S' h', K pc' L' S' h' → axWW p l e R s m args below meth c b rb ca D QQ nL n0 s0 pc' L' S' h') : axWW p l e R s m args below meth c b rb ca D QQ nL n0 s0 pc L S h := by
  obtain ⟨rfl, rfl⟩ := axI_ok ht
  obtain ⟨q, hq, hk⟩ := h1
  simp only [axStp] at hq
  split at hq
  · cases (Option.some.inj hq)
    intro g1 g2 H locs ls hI hL
    exact lv_iand F.1 F.2.1 hd (hK _ _ _ _ hk g1 g2 H locs ls hI hL)
  · cases hq
theorem sx_ior (F : axFx p s m args meth c b rb ca D ro cc nL o) (hd : decode cc pc = .ok (.ior, len)) (ht : axTr o ini rt pc (.ior) len = some ent) (h1 : axOne ro E ent L S h K Q) (hK : ∀ pc' L' S' h', K pc' L' S' h' → axWW p l e R s m args below meth c b rb ca D QQ nL n0 s0 pc' L' S' h') : axWW p l e R s m args below meth c b rb ca D QQ nL n0 s0 pc L S h := by
  obtain ⟨rfl, rfl⟩ := axI_ok ht
  obtain ⟨q, hq, hk⟩ := h1
  simp only [axStp] at hq
  split at hq
  · cases (Option.some.inj hq)
    intro g1 g2 H locs ls hI hL
    exact lv_ior F.1 F.2.1 hd (hK _ _ _ _ hk g1 g2 H locs ls hI hL)
  · cases hq
theorem sx_ixor (F : axFx p s m args meth c b rb ca D ro cc nL o) (hd : decode cc pc = .ok (.ixor, len)) (ht : axTr o ini rt pc (.ixor) len = some ent) (h1 : axOne ro E ent L S h K Q) (hK : ∀ pc' L' S' h', K pc' L' S' h' → axWW p l e R s m args below meth c b rb ca D QQ nL n0 s0 pc' L' S' h') : axWW p l e R s m args below meth c b rb ca D QQ nL n0 s0 pc L S h := by
  obtain ⟨rfl, rfl⟩ := axI_ok ht
  obtain ⟨q, hq, hk⟩ := h1
  simp only [axStp] at hq
  split at hq
  · cases (Option.some.inj hq)
    intro g1 g2 H locs ls hI hL
    exact lv_ixor F.1 F.2.1 hd (hK _ _ _ _ hk g1 g2 H locs ls hI hL)
  · cases hq
theorem sx_ishl (F : axFx p s m args meth c b rb ca D ro cc nL o) (hd : decode cc pc = .ok (.ishl, len)) (ht : axTr o ini rt pc (.ishl) len = some ent) (h1 : axOne ro E ent L S h K Q) (hK : ∀ pc' L' S' h', K pc' L' S' h' → axWW p l e R s m args below meth c b rb ca D QQ nL n0 s0 pc' L' S' h') : axWW p l e R s m args below meth c b rb ca D QQ nL n0 s0 pc L S h := by
  obtain ⟨rfl, rfl⟩ := axI_ok ht
  obtain ⟨q, hq, hk⟩ := h1
  simp only [axStp] at hq
  split at hq
  · cases (Option.some.inj hq)
    intro g1 g2 H locs ls hI hL
    exact lv_ishl F.1 F.2.1 hd (hK _ _ _ _ hk g1 g2 H locs ls hI hL)
  · cases hq
theorem sx_ishr (F : axFx p s m args meth c b rb ca D ro cc nL o) (hd : decode cc pc = .ok (.ishr, len)) (ht : axTr o ini rt pc (.ishr) len = some ent) (h1 : axOne ro E ent L S h K Q) (hK : ∀ pc' L' S' h', K pc' L' S' h' → axWW p l e R s m args below meth c b rb ca D QQ nL n0 s0 pc' L' S' h') : axWW p l e R s m args below meth c b rb ca D QQ nL n0 s0 pc L S h := by
  obtain ⟨rfl, rfl⟩ := axI_ok ht
  obtain ⟨q, hq, hk⟩ := h1
  simp only [axStp] at hq
  split at hq
  · cases (Option.some.inj hq)
    intro g1 g2 H locs ls hI hL
    exact lv_ishr F.1 F.2.1 hd (hK _ _ _ _ hk g1 g2 H locs ls hI hL)
  · cases hq
theorem sx_iushr (F : axFx p s m args meth c b rb ca D ro cc nL o) (hd : decode cc pc = .ok (.iushr, len)) (ht : axTr o ini rt pc (.iushr) len = some ent) (h1 : axOne ro E ent L S h K Q) (hK : ∀ pc' L' S' h', K pc' L' S' h' → axWW p l e R s m args below meth c b rb ca D QQ nL n0 s0 pc' L' S' h') : axWW p l e R s m args below meth c b rb ca D QQ nL n0 s0 pc L S h := by
  obtain ⟨rfl, rfl⟩ := axI_ok ht
  obtain ⟨q, hq, hk⟩ := h1
  simp only [axStp] at hq
  split at hq
  · cases (Option.some.inj hq)
    intro g1 g2 H locs ls hI hL
    exact lv_iushr F.1 F.2.1 hd rfl (hK _ _ _ _ hk g1 g2 H locs ls hI hL)
  · cases hq
theorem sx_ineg (F : axFx p s m args meth c b rb ca D ro cc nL o) (hd : decode cc pc = .ok (.ineg, len)) (ht : axTr o ini rt pc (.ineg) len = some ent) (h1 : axOne ro E ent L S h K Q) (hK : ∀ pc' L' S' h', K pc' L' S' h' → axWW p l e R s m args below meth c b rb ca D QQ nL n0 s0 pc' L' S' h') : axWW p l e R s m args below meth c b rb ca D QQ nL n0 s0 pc L S h := by
  obtain ⟨rfl, rfl⟩ := axI_ok ht
  obtain ⟨q, hq, hk⟩ := h1
  simp only [axStp] at hq
  split at hq
  · cases (Option.some.inj hq)
    intro g1 g2 H locs ls hI hL
    exact lv_ineg F.1 F.2.1 hd (hK _ _ _ _ hk g1 g2 H locs ls hI hL)
  · cases hq
theorem sx_i2c (F : axFx p s m args meth c b rb ca D ro cc nL o) (hd : decode cc pc = .ok (.i2c, len)) (ht : axTr o ini rt pc (.i2c) len = some ent) (h1 : axOne ro E ent L S h K Q) (hK : ∀ pc' L' S' h', K pc' L' S' h' → axWW p l e R s m args below meth c b rb ca D QQ nL n0 s0 pc' L' S' h') : axWW p l e R s m args below meth c b rb ca D QQ nL n0 s0 pc L S h := by
  obtain ⟨rfl, rfl⟩ := axI_ok ht
  obtain ⟨q, hq, hk⟩ := h1
  simp only [axStp] at hq
  split at hq
  · cases (Option.some.inj hq)
    intro g1 g2 H locs ls hI hL
    exact lv_i2c F.1 F.2.1 hd rfl (hK _ _ _ _ hk g1 g2 H locs ls hI hL)
  · cases hq
theorem sx_i2l (F : axFx p s m args meth c b rb ca D ro cc nL o) (hd : decode cc pc = .ok (.i2l, len)) (ht : axTr o ini rt pc (.i2l) len = some ent) (h1 : axOne ro E ent L S h K Q) (hK : ∀ pc' L' S' h', K pc' L' S' h' → axWW p l e R s m args below meth c b rb ca D QQ nL n0 s0 pc' L' S' h') : axWW p l e R s m args below meth c b rb ca D QQ nL n0 s0 pc L S h := by
  obtain ⟨rfl, rfl⟩ := axI_ok ht
  obtain ⟨q, hq, hk⟩ := h1
  simp only [axStp] at hq
  split at hq
  · cases (Option.some.inj hq)
    intro g1 g2 H locs ls hI hL
    exact lv_i2l F.1 F.2.1 hd rfl (hK _ _ _ _ hk g1 g2 H locs ls hI hL)
  · cases hq
theorem sx_l2i (F : axFx p s m args meth c b rb ca D ro cc nL o) (hd : decode cc pc = .ok (.l2i, len)) (ht : axTr o ini rt pc (.l2i) len = some ent) (h1 : axOne ro E ent L S h K Q) (hK : ∀ pc' L' S' h', K pc' L' S' h' → axWW p l e R s m args below meth c b rb ca D QQ nL n0 s0 pc' L' S' h') : axWW p l e R s m args below meth c b rb ca D QQ nL n0 s0 pc L S h := by
  obtain ⟨rfl, rfl⟩ := axI_ok ht
  obtain ⟨q, hq, hk⟩ := h1
  simp only [axStp] at hq
  split at hq
  · cases (Option.some.inj hq)
    intro g1 g2 H locs ls hI hL
    exact lv_l2i F.1 F.2.1 hd rfl (hK _ _ _ _ hk g1 g2 H locs ls hI hL)
  · cases hq
theorem sx_land (F : axFx p s m args meth c b rb ca D ro cc nL o) (hd : decode cc pc = .ok (.land, len)) (ht : axTr o ini rt pc (.land) len = some ent) (h1 : axOne ro E ent L S h K Q) (hK : ∀ pc' L' S' h', K pc' L' S' h' → axWW p l e R s m args below meth c b rb ca D QQ nL n0 s0 pc' L' S' h') : axWW p l e R s m args below meth c b rb ca D QQ nL n0 s0 pc L S h := by
  obtain ⟨rfl, rfl⟩ := axI_ok ht
  obtain ⟨q, hq, hk⟩ := h1
  simp only [axStp] at hq
  split at hq
  · cases (Option.some.inj hq)
    intro g1 g2 H locs ls hI hL
    exact lv_land F.1 F.2.1 hd (hK _ _ _ _ hk g1 g2 H locs ls hI hL)
  · cases hq
theorem sx_lor (F : axFx p s m args meth c b rb ca D ro cc nL o) (hd : decode cc pc = .ok (.lor, len)) (ht : axTr o ini rt pc (.lor) len = some ent) (h1 : axOne ro E ent L S h K Q) (hK : ∀ pc' L' S' h', K pc' L' S' h' → axWW p l e R s m args below meth c b rb ca D QQ nL n0 s0 pc' L' S' h') : axWW p l e R s m args below meth c b rb ca D QQ nL n0 s0 pc L S h := by
  obtain ⟨rfl, rfl⟩ := axI_ok ht
  obtain ⟨q, hq, hk⟩ := h1
  simp only [axStp] at hq
  split at hq
  · cases (Option.some.inj hq)
    intro g1 g2 H locs ls hI hL
    exact lv_lor F.1 F.2.1 hd (hK _ _ _ _ hk g1 g2 H locs ls hI hL)
  · cases hq
theorem sx_lshl (F : axFx p s m args meth c b rb ca D ro cc nL o) (hd : decode cc pc = .ok (.lshl, len)) (ht : axTr o ini rt pc (.lshl) len = some ent) (h1 : axOne ro E ent L S h K Q) (hK : ∀ pc' L' S' h', K pc' L' S' h' → axWW p l e R s m args below meth c b rb ca D QQ nL n0 s0 pc' L' S' h') : axWW p l e R s m args below meth c b rb ca D QQ nL n0 s0 pc L S h := by
  obtain ⟨rfl, rfl⟩ := axI_ok ht
  obtain ⟨q, hq, hk⟩ := h1
  simp only [axStp] at hq
  split at hq
  · cases (Option.some.inj hq)
    intro g1 g2 H locs ls hI hL
    exact lv_lshl F.1 F.2.1 hd rfl (hK _ _ _ _ hk g1 g2 H locs ls hI hL)
  · cases hq
theorem sx_lshr (F : axFx p s m args meth c b rb ca D ro cc nL o) (hd : decode cc pc = .ok (.lshr, len)) (ht : axTr o ini rt pc (.lshr) len = some ent) (h1 : axOne ro E ent L S h K Q) (hK : ∀ pc' L' S' h', K pc' L' S' h' → axWW p l e R s m args below meth c b rb ca D QQ nL n0 s0 pc' L' S' h') : axWW p l e R s m args below meth c b rb ca D QQ nL n0 s0 pc L S h := by
  obtain ⟨rfl, rfl⟩ := axI_ok ht
  obtain ⟨q, hq, hk⟩ := h1
  simp only [axStp] at hq
  split at hq
  · cases (Option.some.inj hq)
    intro g1 g2 H locs ls hI hL
    exact lv_lshr F.1 F.2.1 hd rfl (hK _ _ _ _ hk g1 g2 H locs ls hI hL)
  · cases hq
theorem sx_lushr (F : axFx p s m args meth c b rb ca D ro cc nL o) (hd : decode cc pc = .ok (.lushr, len)) (ht : axTr o ini rt pc (.lushr) len = some ent) (h1 : axOne ro E ent L S h K Q) (hK : ∀ pc' L' S' h', K pc' L' S' h' → axWW p l e R s m args below meth c b rb ca D QQ nL n0 s0 pc' L' S' h') : axWW p l e R s m args below meth c b rb ca D QQ nL n0 s0 pc L S h := by
  obtain ⟨rfl, rfl⟩ := axI_ok ht
  obtain ⟨q, hq, hk⟩ := h1
  simp only [axStp] at hq
  split at hq
  · cases (Option.some.inj hq)
    intro g1 g2 H locs ls hI hL
    exact lv_lushr F.1 F.2.1 hd rfl (hK _ _ _ _ hk g1 g2 H locs ls hI hL)
  · cases hq
theorem sx_lcmp (F : axFx p s m args meth c b rb ca D ro cc nL o) (hd : decode cc pc = .ok (.lcmp, len)) (ht : axTr o ini rt pc (.lcmp) len = some ent) (h1 : axOne ro E ent L S h K Q) (hK : ∀ pc' L' S' h', K pc' L' S' h' → axWW p l e R s m args below meth c b rb ca D QQ nL n0 s0 pc' L' S' h') : axWW p l e R s m args below meth c b rb ca D QQ nL n0 s0 pc L S h := by
  obtain ⟨rfl, rfl⟩ := axI_ok ht
  obtain ⟨q, hq, hk⟩ := h1
  simp only [axStp] at hq
  split at hq
  · cases (Option.some.inj hq)
    intro g1 g2 H locs ls hI hL
    exact W.lcmp F.1 F.2.1 hd (hK _ _ _ _ hk g1 g2 H locs ls hI hL)
  · cases hq
theorem sx_goto (off : Int) (F : axFx p s m args meth c b rb ca D ro cc nL o) (hd : decode cc pc = .ok (.goto off, len)) (ht : axTr o ini rt pc (.goto off) len = some ent) (h1 : axOne ro E ent L S h K Q) (hK : ∀ pc' L' S' h', K pc' L' S' h' → axWW p l e R s m args below meth c b rb ca D QQ nL n0 s0 pc' L' S' h') : axWW p l e R s m args below meth c b rb ca D QQ nL n0 s0 pc L S h := by
  simp only [axTr] at ht
  obtain ⟨rfl, et, rfl⟩ := axTg_ok ht
  obtain ⟨q, hq, hk⟩ := h1
  cases (Option.some.inj hq)
  intro g1 g2 H locs ls hI hL
  exact lv_goto F.1 F.2.1 hd et (hK _ _ _ _ hk g1 g2 H locs ls hI hL)
theorem sx_if_icmp (cd : ClassFile.Cond) (off : Int) (F : axFx p s m args meth c b rb ca D ro cc nL o) (hd : decode cc pc = .ok (.if_icmp cd off, len)) (ht : axTr o ini rt pc (.if_icmp cd off) len = some ent) (h1 : axOne ro E ent L S h K Q) (hK : ∀ pc' L' S' h', K pc' L' S' h' → axWW p l e R s m args below meth c b rb ca D QQ nL n0 s0 pc' L' S' h') : axWW p l e R s m args below meth c b rb ca D QQ nL n0 s0 pc L S h := by
  simp only [axTr] at ht
  obtain ⟨rfl, et, rfl⟩ := axTg_ok ht
  obtain ⟨x, y, S', rfl, h2, h3⟩ := h1
  intro g1 g2 H locs ls hI hL
  cases cd
  · exact lv_icmp_eq F.1 F.2.1 hd et (fun q => hK _ _ _ _ (h2 q) g1 g2 H locs ls hI hL) (fun q => hK _ _ _ _ (h3 q) g1 g2 H locs ls hI hL)
  · exact lv_icmp_ne F.1 F.2.1 hd et (fun q => hK _ _ _ _ (h2 q) g1 g2 H locs ls hI hL) (fun q => hK _ _ _ _ (h3 (fun z => z q)) g1 g2 H locs ls hI hL)
  · exact lv_icmp_lt F.1 F.2.1 hd et (fun q => hK _ _ _ _ (h2 q) g1 g2 H locs ls hI hL) (fun q => hK _ _ _ _ (h3 q) g1 g2 H locs ls hI hL)
  · exact lv_icmp_ge F.1 F.2.1 hd et (fun q => hK _ _ _ _ (h2 q) g1 g2 H locs ls hI hL) (fun q => hK _ _ _ _ (h3 q) g1 g2 H locs ls hI hL)
  · exact lv_icmp_gt F.1 F.2.1 hd et (fun q => hK _ _ _ _ (h2 q) g1 g2 H locs ls hI hL) (fun q => hK _ _ _ _ (h3 q) g1 g2 H locs ls hI hL)
  · exact lv_icmp_le F.1 F.2.1 hd et (fun q => hK _ _ _ _ (h2 q) g1 g2 H locs ls hI hL) (fun q => hK _ _ _ _ (h3 q) g1 g2 H locs ls hI hL)
theorem sx_ifCond (cd : ClassFile.Cond) (off : Int) (F : axFx p s m args meth c b rb ca D ro cc nL o) (hd : decode cc pc = .ok (.ifCond cd off, len)) (ht : axTr o ini rt pc (.ifCond cd off) len = some ent) (h1 : axOne ro E ent L S h K Q) (hK : ∀ pc' L' S' h', K pc' L' S' h' → axWW p l e R s m args below meth c b rb ca D QQ nL n0 s0 pc' L' S' h') : axWW p l e R s m args below meth c b rb ca D QQ nL n0 s0 pc L S h := by
  simp only [axTr] at ht
  obtain ⟨rfl, et, rfl⟩ := axTg_ok ht
  obtain ⟨x, S', rfl, h2, h3⟩ := h1
  intro g1 g2 H locs ls hI hL
  cases cd
  · exact lv_if_eq F.1 F.2.1 hd et (fun q => hK _ _ _ _ (h2 q) g1 g2 H locs ls hI hL) (fun q => hK _ _ _ _ (h3 q) g1 g2 H locs ls hI hL)
  · exact lv_if_ne F.1 F.2.1 hd et (fun q => hK _ _ _ _ (h2 q) g1 g2 H locs ls hI hL) (fun q => hK _ _ _ _ (h3 (fun z => z q)) g1 g2 H locs ls hI hL)
  · exact lv_if_lt F.1 F.2.1 hd et (fun q => hK _ _ _ _ (h2 q) g1 g2 H locs ls hI hL) (fun q => hK _ _ _ _ (h3 q) g1 g2 H locs ls hI hL)
  · exact lv_if_ge F.1 F.2.1 hd et (fun q => hK _ _ _ _ (h2 q) g1 g2 H locs ls hI hL) (fun q => hK _ _ _ _ (h3 q) g1 g2 H locs ls hI hL)
  · exact lv_if_gt F.1 F.2.1 hd et (fun q => hK _ _ _ _ (h2 q) g1 g2 H locs ls hI hL) (fun q => hK _ _ _ _ (h3 q) g1 g2 H locs ls hI hL)
  · exact lv_if_le F.1 F.2.1 hd et (fun q => hK _ _ _ _ (h2 q) g1 g2 H locs ls hI hL) (fun q => hK _ _ _ _ (h3 q) g1 g2 H locs ls hI hL)
theorem sx_ifnonnull (off : Int) (F : axFx p s m args meth c b rb ca D ro cc nL o) (hd : decode cc pc = .ok (.ifnonnull off, len)) (ht : axTr o ini rt pc (.ifnonnull off) len = some ent) (h1 : axOne ro E ent L S h K Q) (hK : ∀ pc' L' S' h', K pc' L' S' h' → axWW p l e R s m args below meth c b rb ca D QQ nL n0 s0 pc' L' S' h') : axWW p l e R s m args below meth c b rb ca D QQ nL n0 s0 pc L S h := by
  simp only [axTr] at ht
  obtain ⟨rfl, et, rfl⟩ := axTg_ok ht
  rcases h1 with ⟨k, S', rfl, hk⟩ | ⟨S', rfl, hk⟩
  · intro g1 g2 H locs ls hI hL
    exact lv_ifnonnull F.1 F.2.1 hd et (hK _ _ _ _ hk g1 g2 H locs ls hI hL)
  · intro g1 g2 H locs ls hI hL
    exact lv_ifnonnullN F.1 F.2.1 hd (hK _ _ _ _ hk g1 g2 H locs ls hI hL)
end AX7
end
section
/-! SOUNDNESS 2: the heap. Written by wip/whole/mk08.py. -/
theorem axLay_good {C : String} {T : u_T} {N : Nat} : ∀ w ∈ u_ws C T N, goodWord w = true := by
  intro w hw
  obtain ⟨k, -, rfl⟩ := List.mem_map.mp hw
  unfold u_lay
  split <;> rfl
theorem axLay : ∀ c, c < 6 → ∀ w ∈ u_ws (axCn c) (axT c) (axNf c), w ∈ axTW
  | 0, _ => fun w hw => axTW_mem (axW_lay0 w hw) (axLay_good w hw)
  | 1, _ => fun w hw => axTW_mem (axW_lay1 w hw) (axLay_good w hw)
  | 2, _ => fun w hw => axTW_mem (axW_lay2 w hw) (axLay_good w hw)
  | 3, _ => fun w hw => axTW_mem (axW_lay3 w hw) (axLay_good w hw)
  | 4, _ => fun w hw => axTW_mem (axW_lay4 w hw) (axLay_good w hw)
  | 5, _ => fun w hw => axTW_mem (axW_lay5 w hw) (axLay_good w hw)
  | n + 6, h => absurd h (by omega)
theorem axTyOk : ∀ c, c < 6 → ∀ k, k < axNf c → parseFieldDescriptor (axT c k).2.2.1 = some (axTy c k)
  | 0, _ => axW_ty0
  | 1, _ => axW_ty1
  | 2, _ => axW_ty2
  | 3, _ => axW_ty3
  | 4, _ => axW_ty4
  | 5, _ => axW_ty5
  | n + 6, h => absurd h (by omega)
theorem axNmOk : ∀ c, c < 6 → ∀ a, a < axNf c → ∀ b, b < axNf c → a ≠ b → (axT c a).2.1 ≠ (axT c b).2.1
  | 0, _ => axW_nm0
  | 1, _ => axW_nm1
  | 2, _ => axW_nm2
  | 3, _ => axW_nm3
  | 4, _ => axW_nm4
  | 5, _ => axW_nm5
  | n + 6, h => absurd h (by omega)
theorem axOwnOk : ∀ c, c < 6 → ∀ k, k < axNf c → (axT c k).1 = axCn c
  | 0, _ => axW_own0
  | 1, _ => axW_own1
  | 2, _ => axW_own2
  | 3, _ => axW_own3
  | 4, _ => axW_own4
  | 5, _ => axW_own5
  | n + 6, h => absurd h (by omega)
theorem axDfOk : ∀ c, c < 6 → ∀ k, k < axNf c → defaultValue (axTy c k) = vp_V (axDf c) k
  | 0, _ => axW_df0
  | 1, _ => axW_df1
  | 2, _ => axW_df2
  | 3, _ => axW_df3
  | 4, _ => axW_df4
  | 5, _ => axW_df5
  | n + 6, h => absurd h (by omega)
theorem axInsOk : ∀ c, c < 6 → Cond.instantiable (axCn c) (axNf c) ∈ axTW
  | 0, _ => axTW_mem axW_in0 rfl
  | 1, _ => axTW_mem axW_in1 rfl
  | 2, _ => axTW_mem axW_in2 rfl
  | 3, _ => axTW_mem axW_in3 rfl
  | 4, _ => axTW_mem axW_in4 rfl
  | 5, _ => axTW_mem axW_in5 rfl
  | n + 6, h => absurd h (by omega)
theorem axIniOk : ∀ c, c < 6 → Cond.initialized (axCn c) ∈ axTW
  | 0, _ => axTW_mem axW_ini0 rfl
  | 1, _ => axTW_mem axW_ini1 rfl
  | 2, _ => axTW_mem axW_ini2 rfl
  | 3, _ => axTW_mem axW_ini3 rfl
  | 4, _ => axTW_mem axW_ini4 rfl
  | 5, _ => axTW_mem axW_ini5 rfl
  | n + 6, h => absurd h (by omega)
theorem axClOk : ∀ c, c < 6 → axCl[c]? = some (axCn c, axT c, axNf c)
  | 0, _ => rfl
  | 1, _ => rfl
  | 2, _ => rfl
  | 3, _ => rfl
  | 4, _ => rfl
  | 5, _ => rfl
  | n + 6, h => absurd h (by omega)
theorem axDfN : ∀ c, c < 6 → (axDf c).length = axNf c
  | 0, _ => rfl
  | 1, _ => rfl
  | 2, _ => rfl
  | 3, _ => rfl
  | 4, _ => rfl
  | 5, _ => rfl
  | n + 6, h => absurd h (by omega)
theorem axDf_cv (b : Nat) (rb : Nat → Nat) : ∀ c, (axDf c).map (axCv b rb) = axDf c
  | 0 => rfl
  | 1 => rfl
  | 2 => rfl
  | 3 => rfl
  | 4 => rfl
  | n + 5 => rfl
theorem axCl_lt {c : Nat} {x : vw_C} (h : axCl[c]? = some x) : c < 6 := (List.getElem?_eq_some_iff.mp h).1
theorem axFit_cv {b : Nat} {rb : Nat → Nat} {c k : Nat} {v : Value} (h : axFit c k v) : narrow (axTy c k) (axCv b rb v) = axCv b rb v ∧ fits (axTy c k) (axCv b rb v) = true := by
  obtain ⟨h1, h2, h3⟩ := h
  cases v with
  | retAddr j => exact absurd rfl (h3 j)
  | ref j =>
    refine ⟨?_, ?_⟩
    · generalize axTy c k = ty
      cases ty <;> rfl
    · generalize axTy c k = ty at h2
      cases ty <;> first | exact h2 | rfl
  | _ => exact ⟨h1, h2⟩
section AX8
variable {p : Program} {l : Launch} {e : Env} {R : Room} {s : State} {m : MethodId} {args : Array Value} {below : List Frame} {meth : Method} {c : Code} {b : Nat} {rb : Nat → Nat} {ca : Nat → ClassId} {D : va_G} {ro : axRo} {QQ : State → Prop} {cc : ByteArray} {nL n0 s0 o : Nat} {pc : Nat} {L : axL} {S : List Value} {h : axH} {K : Nat → axL → List Value → axH → Prop} {Q : Option Value → axH → Prop} {E : axCall} {ent : axE} {ini : Bool} {rt len : Nat}
theorem axWs_lt {H : Heap} (hP : va_P D axCl (axWs b rb ca b h) H) (hne : 0 < h.length) : b + (h.length - 1) < H.size := by
  have hc : h[h.length - 1]? = some (h[h.length - 1]'(by omega)) := List.getElem?_eq_getElem (by omega)
  exact (hP _ _ (axWs_at (b := b) (rb := rb) (ca := ca) hc)).lt
/-- the heap's size, out of what the machine says of the room that is used -/
theorem axW_sz (hn : s.heap.size = b + n0) {H : Heap} {locs : List Loc} {slots : Nat} {g : JFrame} (g1 : n0 ≤ h.length) (hP : va_P D axCl (axWs b rb ca b h) H) (hS : va_S (fun q : Nat => b ≤ q) s.heap H locs) (k : H.size = b + h.length → W p l e R s m args below meth c H locs (h.length - n0) slots QQ g) : W p l e R s m args below meth c H locs (h.length - n0) slots QQ g := by
  intro T hT X
  refine k ?_ T hT X
  have h1 := X.heapSize
  rw [hT, hn] at h1
  have h2 := hS.1
  rw [hn] at h2
  by_cases hne : 0 < h.length
  · have h3 := axWs_lt hP hne
    omega
  · omega
theorem axWW_set (hn : s.heap.size = b + n0) {k0 : Nat} {x d : axC} (hc : h[k0]? = some d) (hcs : axCs x = axCs d) (hW : axWW p l e R s m args below meth c b rb ca D QQ nL n0 s0 pc L S (h.set k0 x)) (g1 : n0 ≤ h.length) (g2 : s0 ≤ axSl h) {H : Heap} {locs : List Loc} {ls : Array Slot}
    (hP : va_P D axCl (axWs b rb ca b (h.set k0 x)) H) (hS : va_S (fun q : Nat => b ≤ q) s.heap H locs) (hL : axLr b rb L ls nL) : W p l e R s m args below meth c H locs (h.length - n0) (axSl h - s0) QQ (F0 m pc ls (S.map (axCv b rb))) := by
  have e1 : (h.set k0 x).length = h.length := List.length_set
  have e2 : axSl (h.set k0 x) = axSl h := axSl_set h k0 x d hc hcs
  unfold axWW at hW
  rw [e1, e2] at hW
  have hz := axW_sz (p := p) (l := l) (e := e) (R := R) (m := m) (args := args) (below := below) (meth := meth) (c := c) (QQ := QQ) (slots := axSl h - s0) (g := F0 m pc ls (S.map (axCv b rb))) hn (h := h.set k0 x) (by rw [e1]; exact g1) hP hS
  rw [e1] at hz
  exact hz fun z => hW g1 g2 H locs ls ⟨by rw [e1]; exact z, hP, hS⟩ hL
/-- a new cell's place is the next one -/
theorem axWW_push (hn : s.heap.size = b + n0) {x : axC} {q : Nat} {ls : Array Slot} {S' : List Value} (hW : axWW p l e R s m args below meth c b rb ca D QQ nL n0 s0 pc L (.ref h.length :: S') (h ++ [x])) (g1 : n0 ≤ h.length) (g2 : s0 ≤ axSl h) {H : Heap} {locs : List Loc} {N : Nat} (hN : N = axCs x)
    (hP : va_P D axCl (axWs b rb ca b h ++ [(q, axCe b rb ca x)]) H) (hD : va_D (fun q : Nat => b ≤ q) (axWs b rb ca b h ++ [(q, axCe b rb ca x)])) (hS : va_S (fun q : Nat => b ≤ q) s.heap H locs) (hL : axLr b rb L ls nL) : W p l e R s m args below meth c H locs (h.length - n0 + 1) (axSl h - s0 + N) QQ (F0 m pc ls (.ref q :: S'.map (axCv b rb))) := by
  have hlen : (axWs b rb ca b h).length = h.length := by
    have : ∀ (h : axH) (k : Nat), (axWs b rb ca k h).length = h.length := by
      intro h
      induction h with
      | nil => intro k; rfl
      | cons a t ih => intro k; simp [axWs, ih]
    exact this h b
  have hlast : (axWs b rb ca b h ++ [(q, axCe b rb ca x)])[h.length]? = some (q, axCe b rb ca x) := by rw [← hlen]; simp
  have hlt : q < H.size := (hP _ _ hlast).lt
  have hge : b ≤ q := hD.2 _ _ hlast
  have hq : b + h.length ≤ q := by
    rcases Nat.lt_or_ge q (b + h.length) with z | z
    · have hi : q - b < h.length := by omega
      have hc : h[q - b]? = some (h[q - b]'hi) := List.getElem?_eq_getElem hi
      have h1 : (axWs b rb ca b h ++ [(q, axCe b rb ca x)])[q - b]? = some (b + (q - b), axCe b rb ca (h[q - b]'hi)) := by
        rw [List.getElem?_append_left (by rw [hlen]; exact hi)]
        exact axWs_at hc
      have := hD.1 _ _ _ _ h1 hlast (by show b + (q - b) = q; omega)
      omega
    · exact z
  intro T hT X
  have h1 := X.heapSize
  rw [hT, hn] at h1
  have hqe : q = b + h.length := by omega
  subst hqe
  have e1 : (h ++ [x]).length = h.length + 1 := by simp
  have e2 : axSl (h ++ [x]) = axSl h + N := by rw [axSl_app, hN]
  rw [← axWs_app] at hP
  unfold axWW at hW
  rw [e1, e2] at hW
  have hw := hW (by omega) (by omega) H locs ls ⟨by rw [e1]; omega, hP, hS⟩ hL
  rw [show h.length + 1 - n0 = h.length - n0 + 1 by omega, show axSl h + N - s0 = axSl h - s0 + N by omega] at hw
  exact hw T hT X

theorem sx_getfield (i : Nat) (F : axFx p s m args meth c b rb ca D ro cc nL o) (hn : s.heap.size = b + n0) (hini : ini = true → meth.name = "<init>") (hR : 1 ≤ R.frames ∧ 32 ≤ R.locals) (hcap : ∀ pc' L' S' h', K pc' L' S' h' → h'.length - n0 ≤ R.cells ∧ axSl h' - s0 ≤ R.slots) (hd : decode cc pc = .ok (.getfield i, len)) (ht : axTr o ini rt pc (.getfield i) len = some ent) (h1 : axOne ro E ent L S h K Q) (hK : ∀ pc' L' S' h', K pc' L' S' h' → axWW p l e R s m args below meth c b rb ca D QQ nL n0 s0 pc' L' S' h') : axWW p l e R s m args below meth c b rb ca D QQ nL n0 s0 pc L S h := by
  rcases hq0 : axFnd o i axFlT with _ | ⟨ci, k, w⟩
  · simp only [axTr, hq0] at ht
    cases ht
  · simp only [axTr, hq0] at ht
    obtain ⟨rfl, rfl⟩ := axI_ok ht
    obtain ⟨k0, S', fs, v, rfl, hc, hv, hk⟩ := h1
    obtain ⟨f1, f2, f3⟩ := axFlT_ok _ (axFnd_mem _ hq0)
    intro g1 g2 H locs ls hI hL
    exact va_get F.1 F.2.1 (Ts := axTW) F.2.2.2.2.1 (axLay ci (axCl_lt f3)) F.2.2.2.1 F.2.2.2.2.2.1 hI.2.1 k0 (axWs_at hc) f3 k f2 (F.2.2.2.2.1 _ (axTW_mem f1 rfl)) (fun x hx => hx) (v := axCv b rb v) (by rw [List.getElem?_map, hv]; rfl) hd (hK _ _ _ _ hk g1 g2 H locs ls hI hL)
theorem sx_putfield (i : Nat) (F : axFx p s m args meth c b rb ca D ro cc nL o) (hn : s.heap.size = b + n0) (hini : ini = true → meth.name = "<init>") (hR : 1 ≤ R.frames ∧ 32 ≤ R.locals) (hcap : ∀ pc' L' S' h', K pc' L' S' h' → h'.length - n0 ≤ R.cells ∧ axSl h' - s0 ≤ R.slots) (hd : decode cc pc = .ok (.putfield i, len)) (ht : axTr o ini rt pc (.putfield i) len = some ent) (h1 : axOne ro E ent L S h K Q) (hK : ∀ pc' L' S' h', K pc' L' S' h' → axWW p l e R s m args below meth c b rb ca D QQ nL n0 s0 pc' L' S' h') : axWW p l e R s m args below meth c b rb ca D QQ nL n0 s0 pc L S h := by
  rcases hq0 : axFnd o i axFlT with _ | ⟨ci, k, w⟩
  · simp only [axTr, hq0] at ht
    cases ht
  · simp only [axTr, hq0] at ht
    cases hfin : axFin ci k with
    | false =>
      simp only [hfin, cond_false] at ht
      obtain ⟨rfl, rfl⟩ := axI_ok ht
      obtain ⟨v, k0, S', fs, rfl, hc, hlt, hfit, hk⟩ := h1
      obtain ⟨f1, f2, f3⟩ := axFlT_ok _ (axFnd_mem _ hq0)
      obtain ⟨n1, n2⟩ := axFit_cv (b := b) (rb := rb) hfit
      intro g1 g2 H locs ls hI hL
      refine va_put F.1 F.2.1 (Ts := axTW) F.2.2.2.2.1 (axLay ci (axCl_lt f3)) (axTy ci) (axTyOk ci (axCl_lt f3)) (axNmOk ci (axCl_lt f3)) F.2.2.2.1 F.2.2.2.2.2.1 hI.2.1 (axWs_D h) hI.2.2 k0 (axWs_at hc) f3 k f2 (F.2.2.2.2.1 _ (axTW_mem f1 rfl)) (fun x hx => hx) hfin (axTyOk ci (axCl_lt f3) k f2) n1 n2 (by rw [List.length_map]; exact hlt) hd (fun H1 locs1 hP1 hD1 hS1 => ?_)
      refine axWW_set hn hc (x := .inr (.inr (ci, fs.set k v))) (by simp [axCs]) (hK _ _ _ _ hk) g1 g2 ?_ hS1 hL
      rw [axWs_set]
      show va_P D axCl ((axWs b rb ca b h).set k0 (b + k0, .inr (ci, (fs.set k v).map (axCv b rb)))) H1
      rw [List.map_set]
      exact hP1
    | true =>
      simp only [hfin, cond_true] at ht
      cases hio : (ini && Nat.beq ci o) with
      | false => rw [hio] at ht; cases ht
      | true =>
        rw [hio, cond_true] at ht
        rw [Bool.and_eq_true] at hio
        have e2 := Nat.eq_of_beq_eq_true hio.2
        obtain ⟨rfl, rfl⟩ := axI_ok ht
        obtain ⟨v, k0, S', fs, rfl, hc, hlt, hfit, hk⟩ := h1
        obtain ⟨f1, f2, f3⟩ := axFlT_ok _ (axFnd_mem _ hq0)
        obtain ⟨n1, n2⟩ := axFit_cv (b := b) (rb := rb) hfit
        intro g1 g2 H locs ls hI hL
        refine va_putF F.1 F.2.1 (Ts := axTW) F.2.2.2.2.1 (axLay ci (axCl_lt f3)) (axTy ci) (axTyOk ci (axCl_lt f3)) (axNmOk ci (axCl_lt f3)) F.2.2.2.1 F.2.2.2.2.2.1 hI.2.1 (axWs_D h) hI.2.2 k0 (axWs_at hc) f3 k f2 (F.2.2.2.2.1 _ (axTW_mem f1 rfl)) (fun x hx => hx) hfin (hini hio.1) (by have z := axOwnOk ci (axCl_lt (axFlT_ok _ (axFnd_mem _ hq0)).2.2) k f2; rw [z, e2]) (axTyOk ci (axCl_lt f3) k f2) n1 n2 (by rw [List.length_map]; exact hlt) hd (fun H1 locs1 hP1 hD1 hS1 => ?_)
        refine axWW_set hn hc (x := .inr (.inr (ci, fs.set k v))) (by simp [axCs]) (hK _ _ _ _ hk) g1 g2 ?_ hS1 hL
        rw [axWs_set]
        show va_P D axCl ((axWs b rb ca b h).set k0 (b + k0, .inr (ci, (fs.set k v).map (axCv b rb)))) H1
        rw [List.map_set]
        exact hP1
theorem sx_getstatic (i : Nat) (F : axFx p s m args meth c b rb ca D ro cc nL o) (hn : s.heap.size = b + n0) (hini : ini = true → meth.name = "<init>") (hR : 1 ≤ R.frames ∧ 32 ≤ R.locals) (hcap : ∀ pc' L' S' h', K pc' L' S' h' → h'.length - n0 ≤ R.cells ∧ axSl h' - s0 ≤ R.slots) (hd : decode cc pc = .ok (.getstatic i, len)) (ht : axTr o ini rt pc (.getstatic i) len = some ent) (h1 : axOne ro E ent L S h K Q) (hK : ∀ pc' L' S' h', K pc' L' S' h' → axWW p l e R s m args below meth c b rb ca D QQ nL n0 s0 pc' L' S' h') : axWW p l e R s m args below meth c b rb ca D QQ nL n0 s0 pc L S h := by
  rcases hq0 : axFnd o i axStT with _ | ⟨j, w⟩
  · simp only [axTr, hq0] at ht
    cases ht
  · simp only [axTr, hq0] at ht
    obtain ⟨rfl, rfl⟩ := axI_ok ht
    have hk := h1
    obtain ⟨f1, f2⟩ := axStT_ok _ (axFnd_mem _ hq0)
    obtain ⟨q1, q2, q3, q4, q5⟩ := F.2.2.2.2.2.2.1
    intro g1 g2 H locs ls hI hL
    have f2 : j = 1 ∨ j = 2 := f2
    rcases f2 with rfl | rfl
    · exact va_getsN F.1 F.2.1 q2 hI.2.2 F.2.2.2.1 (va_Nw.use rfl (q4 _ f1 rfl)) (fun x hx => hx) hd (hK _ _ _ _ hk g1 g2 H locs ls hI hL)
    · exact va_getsN F.1 F.2.1 q3 hI.2.2 F.2.2.2.1 (va_Nw.use rfl (q4 _ f1 rfl)) (fun x hx => hx) hd (hK _ _ _ _ hk g1 g2 H locs ls hI hL)
theorem sx_arraylength (F : axFx p s m args meth c b rb ca D ro cc nL o) (hn : s.heap.size = b + n0) (hini : ini = true → meth.name = "<init>") (hR : 1 ≤ R.frames ∧ 32 ≤ R.locals) (hcap : ∀ pc' L' S' h', K pc' L' S' h' → h'.length - n0 ≤ R.cells ∧ axSl h' - s0 ≤ R.slots) (hd : decode cc pc = .ok (.arraylength, len)) (ht : axTr o ini rt pc (.arraylength) len = some ent) (h1 : axOne ro E ent L S h K Q) (hK : ∀ pc' L' S' h', K pc' L' S' h' → axWW p l e R s m args below meth c b rb ca D QQ nL n0 s0 pc' L' S' h') : axWW p l e R s m args below meth c b rb ca D QQ nL n0 s0 pc L S h := by
  obtain ⟨rfl, rfl⟩ := axI_ok ht
  rcases h1 with ⟨k0, S', ki, n, f, rfl, hc, hlt, hk⟩ | ⟨k0, S', n, f, rfl, hc, hk⟩ | ⟨i, S', rfl, hi, hk⟩
  · intro g1 g2 H locs ls hI hL
    have hki : ∃ ty, (axTys ca)[ki]? = some (ca ki, ty) := by
      rcases (show ki = 0 ∨ ki = 1 ∨ ki = 2 by omega) with rfl | rfl | rfl
      · exact ⟨_, rfl⟩
      · exact ⟨_, rfl⟩
      · exact ⟨_, rfl⟩
    obtain ⟨ty, hty⟩ := hki
    exact va_alen F.1 F.2.1 F.2.2.2.2.2.1 hI.2.1 k0 ki (axWs_at hc) hty rfl hd (hK _ _ _ _ hk g1 g2 H locs ls hI hL)
  · intro g1 g2 H locs ls hI hL
    exact va_alen F.1 F.2.1 F.2.2.2.2.2.1 hI.2.1 k0 3 (axWs_at hc) rfl rfl hd (hK _ _ _ _ hk g1 g2 H locs ls hI hL)
  · intro g1 g2 H locs ls hI hL
    obtain ⟨hlt, scr, q1, q2, q3, q4, q5, q6, q7⟩ := F.2.2.2.2.2.2.1.1 i hi
    exact W.alen F.1 F.2.1 (by rw [hI.2.2.2.1 _ (by have z := F.2.2.2.2.2.2.2; omega) q7]; exact q1) q2 q5 rfl rfl hd (hK _ _ _ _ hk g1 g2 H locs ls hI hL)
theorem sx_iaload (F : axFx p s m args meth c b rb ca D ro cc nL o) (hn : s.heap.size = b + n0) (hini : ini = true → meth.name = "<init>") (hR : 1 ≤ R.frames ∧ 32 ≤ R.locals) (hcap : ∀ pc' L' S' h', K pc' L' S' h' → h'.length - n0 ≤ R.cells ∧ axSl h' - s0 ≤ R.slots) (hd : decode cc pc = .ok (.iaload, len)) (ht : axTr o ini rt pc (.iaload) len = some ent) (h1 : axOne ro E ent L S h K Q) (hK : ∀ pc' L' S' h', K pc' L' S' h' → axWW p l e R s m args below meth c b rb ca D QQ nL n0 s0 pc' L' S' h') : axWW p l e R s m args below meth c b rb ca D QQ nL n0 s0 pc L S h := by
  obtain ⟨rfl, rfl⟩ := axI_ok ht
  rcases h1 with ⟨k0, i, S', n, f, rfl, hc, hin, hk⟩ | ⟨hb0, j, i, S', rfl, hj, hin, hk⟩
  · intro g1 g2 H locs ls hI hL
    exact va_iald F.1 F.2.1 F.2.2.2.2.2.1 hI.2.1 k0 0 (axWs_at hc) rfl hin hd (hK _ _ _ _ hk g1 g2 H locs ls hI hL)
  · intro g1 g2 H locs ls hI hL
    obtain ⟨hlt, scr, q1, q2, q3, q4, q5, q6, q7⟩ := F.2.2.2.2.2.2.1.1 j hj
    have hlt2 : i.toNatClampNeg < (ro j).1 := Nat.not_le.mp fun q => hin (Or.inr q)
    exact W.iald F.1 F.2.1 (by rw [hI.2.2.2.1 _ (by have z := F.2.2.2.2.2.2.2; omega) q7]; exact q1) q2 q3 (fun z => hin (z.elim Or.inl (fun z => Or.inr (Nat.le_trans q4 z)))) (q6 _ hlt2) rfl rfl hd (hK _ _ _ _ hk g1 g2 H locs ls hI hL)
theorem sx_caload (F : axFx p s m args meth c b rb ca D ro cc nL o) (hn : s.heap.size = b + n0) (hini : ini = true → meth.name = "<init>") (hR : 1 ≤ R.frames ∧ 32 ≤ R.locals) (hcap : ∀ pc' L' S' h', K pc' L' S' h' → h'.length - n0 ≤ R.cells ∧ axSl h' - s0 ≤ R.slots) (hd : decode cc pc = .ok (.caload, len)) (ht : axTr o ini rt pc (.caload) len = some ent) (h1 : axOne ro E ent L S h K Q) (hK : ∀ pc' L' S' h', K pc' L' S' h' → axWW p l e R s m args below meth c b rb ca D QQ nL n0 s0 pc' L' S' h') : axWW p l e R s m args below meth c b rb ca D QQ nL n0 s0 pc L S h := by
  obtain ⟨rfl, rfl⟩ := axI_ok ht
  rcases h1 with ⟨k0, i, S', n, f, rfl, hc, hin, hk⟩ | ⟨hb0, j, i, S', rfl, hj, hin, hk⟩
  · intro g1 g2 H locs ls hI hL
    exact va_cald F.1 F.2.1 F.2.2.2.2.2.1 hI.2.1 k0 1 (axWs_at hc) rfl hin hd (hK _ _ _ _ hk g1 g2 H locs ls hI hL)
  · cases hb0
theorem sx_baload (F : axFx p s m args meth c b rb ca D ro cc nL o) (hn : s.heap.size = b + n0) (hini : ini = true → meth.name = "<init>") (hR : 1 ≤ R.frames ∧ 32 ≤ R.locals) (hcap : ∀ pc' L' S' h', K pc' L' S' h' → h'.length - n0 ≤ R.cells ∧ axSl h' - s0 ≤ R.slots) (hd : decode cc pc = .ok (.baload, len)) (ht : axTr o ini rt pc (.baload) len = some ent) (h1 : axOne ro E ent L S h K Q) (hK : ∀ pc' L' S' h', K pc' L' S' h' → axWW p l e R s m args below meth c b rb ca D QQ nL n0 s0 pc' L' S' h') : axWW p l e R s m args below meth c b rb ca D QQ nL n0 s0 pc L S h := by
  obtain ⟨rfl, rfl⟩ := axI_ok ht
  rcases h1 with ⟨k0, i, S', n, f, rfl, hc, hin, hk⟩ | ⟨hb0, j, i, S', rfl, hj, hin, hk⟩
  · intro g1 g2 H locs ls hI hL
    exact va_zald F.1 F.2.1 F.2.2.2.2.2.1 hI.2.1 k0 2 (axWs_at hc) rfl hin hd (hK _ _ _ _ hk g1 g2 H locs ls hI hL)
  · cases hb0
theorem sx_aaload (F : axFx p s m args meth c b rb ca D ro cc nL o) (hn : s.heap.size = b + n0) (hini : ini = true → meth.name = "<init>") (hR : 1 ≤ R.frames ∧ 32 ≤ R.locals) (hcap : ∀ pc' L' S' h', K pc' L' S' h' → h'.length - n0 ≤ R.cells ∧ axSl h' - s0 ≤ R.slots) (hd : decode cc pc = .ok (.aaload, len)) (ht : axTr o ini rt pc (.aaload) len = some ent) (h1 : axOne ro E ent L S h K Q) (hK : ∀ pc' L' S' h', K pc' L' S' h' → axWW p l e R s m args below meth c b rb ca D QQ nL n0 s0 pc' L' S' h') : axWW p l e R s m args below meth c b rb ca D QQ nL n0 s0 pc L S h := by
  obtain ⟨rfl, rfl⟩ := axI_ok ht
  obtain ⟨k0, i, S', n, f, rfl, hc, hin, hk⟩ := h1
  intro g1 g2 H locs ls hI hL
  refine va_aldq F.1 F.2.1 F.2.2.2.2.2.1 hI.2.1 k0 3 (axWs_at hc) rfl hin hd ?_
  have hk := (hK _ _ _ _ hk g1 g2 H locs ls hI hL)
  have e1 : axCv b rb (va_rf (f i.toNatClampNeg)) = va_rf ((f i.toNatClampNeg).map (fun k => b + k)) := by cases f i.toNatClampNeg <;> rfl
  rw [List.map_cons, e1] at hk
  exact hk
theorem sx_iastore (F : axFx p s m args meth c b rb ca D ro cc nL o) (hn : s.heap.size = b + n0) (hini : ini = true → meth.name = "<init>") (hR : 1 ≤ R.frames ∧ 32 ≤ R.locals) (hcap : ∀ pc' L' S' h', K pc' L' S' h' → h'.length - n0 ≤ R.cells ∧ axSl h' - s0 ≤ R.slots) (hd : decode cc pc = .ok (.iastore, len)) (ht : axTr o ini rt pc (.iastore) len = some ent) (h1 : axOne ro E ent L S h K Q) (hK : ∀ pc' L' S' h', K pc' L' S' h' → axWW p l e R s m args below meth c b rb ca D QQ nL n0 s0 pc' L' S' h') : axWW p l e R s m args below meth c b rb ca D QQ nL n0 s0 pc L S h := by
  obtain ⟨rfl, rfl⟩ := axI_ok ht
  obtain ⟨x, i, k0, S', n, f, rfl, hc, hin, hnar, hk⟩ := h1
  intro g1 g2 H locs ls hI hL
  refine va_iast F.1 F.2.1 F.2.2.2.2.2.1 hI.2.1 (axWs_D h) hI.2.2 k0 0 (axWs_at hc) rfl hin hd (fun H1 locs1 hP1 hD1 hS1 => ?_)
  refine axWW_set hn hc (x := .inl (0, n, upd f i.toNatClampNeg x)) rfl (hK _ _ _ _ hk) g1 g2 ?_ hS1 hL
  rw [axWs_set]
  exact hP1
theorem sx_castore (F : axFx p s m args meth c b rb ca D ro cc nL o) (hn : s.heap.size = b + n0) (hini : ini = true → meth.name = "<init>") (hR : 1 ≤ R.frames ∧ 32 ≤ R.locals) (hcap : ∀ pc' L' S' h', K pc' L' S' h' → h'.length - n0 ≤ R.cells ∧ axSl h' - s0 ≤ R.slots) (hd : decode cc pc = .ok (.castore, len)) (ht : axTr o ini rt pc (.castore) len = some ent) (h1 : axOne ro E ent L S h K Q) (hK : ∀ pc' L' S' h', K pc' L' S' h' → axWW p l e R s m args below meth c b rb ca D QQ nL n0 s0 pc' L' S' h') : axWW p l e R s m args below meth c b rb ca D QQ nL n0 s0 pc L S h := by
  obtain ⟨rfl, rfl⟩ := axI_ok ht
  obtain ⟨x, i, k0, S', n, f, rfl, hc, hin, hnar, hk⟩ := h1
  intro g1 g2 H locs ls hI hL
  refine va_cast F.1 F.2.1 F.2.2.2.2.2.1 hI.2.1 (axWs_D h) hI.2.2 k0 1 (axWs_at hc) rfl hin hd (fun H1 locs1 hP1 hD1 hS1 => ?_)
  refine axWW_set hn hc (x := .inl (1, n, upd f i.toNatClampNeg x)) rfl (hK _ _ _ _ hk) g1 g2 ?_ hS1 hL
  rw [axWs_set]
  rw [show vp_nar .char x = x from hnar] at hP1
  exact hP1
theorem sx_bastore (F : axFx p s m args meth c b rb ca D ro cc nL o) (hn : s.heap.size = b + n0) (hini : ini = true → meth.name = "<init>") (hR : 1 ≤ R.frames ∧ 32 ≤ R.locals) (hcap : ∀ pc' L' S' h', K pc' L' S' h' → h'.length - n0 ≤ R.cells ∧ axSl h' - s0 ≤ R.slots) (hd : decode cc pc = .ok (.bastore, len)) (ht : axTr o ini rt pc (.bastore) len = some ent) (h1 : axOne ro E ent L S h K Q) (hK : ∀ pc' L' S' h', K pc' L' S' h' → axWW p l e R s m args below meth c b rb ca D QQ nL n0 s0 pc' L' S' h') : axWW p l e R s m args below meth c b rb ca D QQ nL n0 s0 pc L S h := by
  obtain ⟨rfl, rfl⟩ := axI_ok ht
  obtain ⟨x, i, k0, S', n, f, rfl, hc, hin, hnar, hk⟩ := h1
  intro g1 g2 H locs ls hI hL
  refine va_zast F.1 F.2.1 F.2.2.2.2.2.1 hI.2.1 (axWs_D h) hI.2.2 k0 2 (axWs_at hc) rfl hin hd (fun H1 locs1 hP1 hD1 hS1 => ?_)
  refine axWW_set hn hc (x := .inl (2, n, upd f i.toNatClampNeg x)) rfl (hK _ _ _ _ hk) g1 g2 ?_ hS1 hL
  rw [axWs_set]
  rw [show vp_nar .boolean x = x from hnar] at hP1
  exact hP1
theorem sx_aastore (F : axFx p s m args meth c b rb ca D ro cc nL o) (hn : s.heap.size = b + n0) (hini : ini = true → meth.name = "<init>") (hR : 1 ≤ R.frames ∧ 32 ≤ R.locals) (hcap : ∀ pc' L' S' h', K pc' L' S' h' → h'.length - n0 ≤ R.cells ∧ axSl h' - s0 ≤ R.slots) (hd : decode cc pc = .ok (.aastore, len)) (ht : axTr o ini rt pc (.aastore) len = some ent) (h1 : axOne ro E ent L S h K Q) (hK : ∀ pc' L' S' h', K pc' L' S' h' → axWW p l e R s m args below meth c b rb ca D QQ nL n0 s0 pc' L' S' h') : axWW p l e R s m args below meth c b rb ca D QQ nL n0 s0 pc L S h := by
  obtain ⟨rfl, rfl⟩ := axI_ok ht
  obtain ⟨v, i, k0, S', n, f, fs, rfl, hc, hv, hin, hk⟩ := h1
  intro g1 g2 H locs ls hI hL
  refine va_astq F.1 F.2.1 F.2.2.2.2.2.1 hI.2.1 (axWs_D h) hI.2.2 k0 3 v 0 (axWs_at hc) (r := ("BeatSlugs$Board", axT0, 9)) rfl (axWs_at hv) rfl hin hd (fun H1 locs1 hP1 hD1 hS1 => ?_)
  refine axWW_set hn hc (x := .inr (.inl (n, va_up f i.toNatClampNeg (some v)))) rfl (hK _ _ _ _ hk) g1 g2 ?_ hS1 hL
  rw [axWs_set]
  have e1 : (fun j => (va_up f i.toNatClampNeg (some v) j).map (fun k => b + k)) = va_up (fun j => (f j).map (fun k => b + k)) i.toNatClampNeg (some (b + v)) := by
    funext j
    unfold va_up
    split <;> rfl
  show va_P D axCl ((axWs b rb ca b h).set k0 (b + k0, .inl (ca 3, n, .inr (.inr (.inr (.inr (fun j => (va_up f i.toNatClampNeg (some v) j).map (fun k => b + k)))))))) H1
  rw [e1]
  exact hP1
theorem sx_newarray (t : ArrayType) (F : axFx p s m args meth c b rb ca D ro cc nL o) (hn : s.heap.size = b + n0) (hini : ini = true → meth.name = "<init>") (hR : 1 ≤ R.frames ∧ 32 ≤ R.locals) (hcap : ∀ pc' L' S' h', K pc' L' S' h' → h'.length - n0 ≤ R.cells ∧ axSl h' - s0 ≤ R.slots) (hd : decode cc pc = .ok (.newarray t, len)) (ht : axTr o ini rt pc (.newarray t) len = some ent) (h1 : axOne ro E ent L S h K Q) (hK : ∀ pc' L' S' h', K pc' L' S' h' → axWW p l e R s m args below meth c b rb ca D QQ nL n0 s0 pc' L' S' h') : axWW p l e R s m args below meth c b rb ca D QQ nL n0 s0 pc L S h := by
  have key : ∀ (b_ : Nat) (ty : FieldType), newarray.typeOf t = ty → Cond.arrayClass (newarray.typeOf t) ∈ axTW → (axTys ca)[b_]? = some (ca b_, ty) → componentBytes ty ≤ 8 → defaultValue ty = .int 0 → axI 2 len (pc, 44, .null, b_, 0, [], pc + 2) = some ent → axWW p l e R s m args below meth c b rb ca D QQ nL n0 s0 pc L S h := by
    intro b_ ty hty hw htys hcb hdef hti
    obtain ⟨rfl, rfl⟩ := axI_ok hti
    obtain ⟨x, S', rfl, hx0, hxn, hk⟩ := h1
    intro g1 g2 H locs ls hI hL
    have hcp := hcap _ _ _ _ hk
    rw [axSl_app] at hcp
    have hcp : h.length + 1 - n0 ≤ R.cells ∧ axSl h + x.toNatClampNeg - s0 ≤ R.slots := by simpa [axCs] using hcp
    refine va_newa F.1 F.2.1 (F.2.2.2.2.1 _ hw) hty F.2.2.2.2.2.1 hI.2.1 (axWs_D h) hI.2.2 (fun q hq => by show b ≤ q; have := F.2.2.2.2.2.2.2; omega) (a0 := (x.toNatClampNeg, .inl (fun _ => 0))) (N' := x.toNatClampNeg) (fun cA => by rw [hdef]; rfl) hx0 rfl ?_ (by omega) (by omega) hd (fun q cA H1 hK1 hP1 hD1 hS1 => ?_)
    · calc x.toNatClampNeg * componentBytes ty ≤ 65536 * 8 := Nat.mul_le_mul hxn hcb
        _ ≤ 536870912 := by decide
    · have hcA : cA = ca b_ := by
        have z1 := (hK1.2 (axTys ca).length (cA, ty) (by simp)).2
        have z2 := (F.2.2.2.2.2.1.2 b_ (ca b_, ty) htys).2
        cases ty with
        | object C => cases hdef
        | _ => exact Option.some.inj (z1.symm.trans z2)
      subst hcA
      exact axWW_push hn (x := .inl (b_, x.toNatClampNeg, fun _ => 0)) (hK _ _ _ _ hk) g1 g2 rfl hP1 hD1 hS1 hL
  cases t with
  | int => exact key 0 .int rfl (axTW_mem axW_ari rfl) rfl (by decide) rfl ht
  | char => exact key 1 .char rfl (axTW_mem axW_arc rfl) rfl (by decide) rfl ht
  | boolean => exact key 2 .boolean rfl (axTW_mem axW_arz rfl) rfl (by decide) rfl ht
  | _ => cases ht
theorem sx_anewarray (i : Nat) (F : axFx p s m args meth c b rb ca D ro cc nL o) (hn : s.heap.size = b + n0) (hini : ini = true → meth.name = "<init>") (hR : 1 ≤ R.frames ∧ 32 ≤ R.locals) (hcap : ∀ pc' L' S' h', K pc' L' S' h' → h'.length - n0 ≤ R.cells ∧ axSl h' - s0 ≤ R.slots) (hd : decode cc pc = .ok (.anewarray i, len)) (ht : axTr o ini rt pc (.anewarray i) len = some ent) (h1 : axOne ro E ent L S h K Q) (hK : ∀ pc' L' S' h', K pc' L' S' h' → axWW p l e R s m args below meth c b rb ca D QQ nL n0 s0 pc' L' S' h') : axWW p l e R s m args below meth c b rb ca D QQ nL n0 s0 pc L S h := by
  rcases hq0 : axFnd o i axClsT with _ | ⟨ci, w⟩
  · simp only [axTr, hq0] at ht
    cases ht
  · cases ci with
    | succ z => simp only [axTr, hq0] at ht; cases ht
    | zero =>
      simp only [axTr, hq0] at ht
      obtain ⟨rfl, rfl⟩ := axI_ok ht
      obtain ⟨x, S', rfl, hx0, hxn, hk⟩ := h1
      have f1 := axClsT_ok _ (axFnd_mem _ hq0)
      intro g1 g2 H locs ls hI hL
      have hcp := hcap _ _ _ _ hk
      rw [axSl_app] at hcp
      have hcp : h.length + 1 - n0 ≤ R.cells ∧ axSl h + x.toNatClampNeg - s0 ≤ R.slots := by simpa [axCs] using hcp
      refine va_newq (C := "BeatSlugs$Board") F.1 F.2.1 F.2.2.2.1 (F.2.2.2.2.1 _ (axTW_mem f1 rfl)) F.2.2.2.2.2.2.1.2.2.2.2 F.2.2.2.2.2.1 hI.2.1 (axWs_D h) hI.2.2 (fun q hq => by show b ≤ q; have := F.2.2.2.2.2.2.2; omega) (N' := x.toNatClampNeg) hx0 rfl (by omega) (by omega) (by omega) hd (fun q cA H1 hK1 hP1 hD1 hS1 => ?_)
      have hcA : cA = ca 3 := by
        obtain ⟨k1, c1, -, -, -, z1⟩ := (hK1.2 (axTys ca).length (cA, .object "BeatSlugs$Board") (by simp)).2
        obtain ⟨k2, c2, -, -, -, z2⟩ := (F.2.2.2.2.2.1.2 3 (ca 3, .object "BeatSlugs$Board") rfl).2
        exact Option.some.inj (z1.symm.trans z2)
      subst hcA
      exact axWW_push hn (x := .inr (.inl (x.toNatClampNeg, fun _ => none))) (hK _ _ _ _ hk) g1 g2 rfl hP1 hD1 hS1 hL
theorem sx_new (i : Nat) (F : axFx p s m args meth c b rb ca D ro cc nL o) (hn : s.heap.size = b + n0) (hini : ini = true → meth.name = "<init>") (hR : 1 ≤ R.frames ∧ 32 ≤ R.locals) (hcap : ∀ pc' L' S' h', K pc' L' S' h' → h'.length - n0 ≤ R.cells ∧ axSl h' - s0 ≤ R.slots) (hd : decode cc pc = .ok (.new i, len)) (ht : axTr o ini rt pc (.new i) len = some ent) (h1 : axOne ro E ent L S h K Q) (hK : ∀ pc' L' S' h', K pc' L' S' h' → axWW p l e R s m args below meth c b rb ca D QQ nL n0 s0 pc' L' S' h') : axWW p l e R s m args below meth c b rb ca D QQ nL n0 s0 pc L S h := by
  rcases hq0 : axFnd o i axClsT with _ | ⟨ci, w⟩
  · simp only [axTr, hq0] at ht
    cases ht
  · simp only [axTr, hq0] at ht
    cases hb6 : Nat.blt ci 6 with
    | false => rw [hb6] at ht; cases ht
    | true =>
      rw [hb6, cond_true] at ht
      have hlt : ci < 6 := Nat.le_of_ble_eq_true hb6
      obtain ⟨rfl, rfl⟩ := axI_ok ht
      have hk := h1
      have f1 := axClsT_ok _ (axFnd_mem _ hq0)
      intro g1 g2 H locs ls hI hL
      have hcp := hcap _ _ _ _ hk
      rw [axSl_app] at hcp
      have hcp : h.length + 1 - n0 ≤ R.cells ∧ axSl h + axNf ci - s0 ≤ R.slots := by rw [← axDfN ci hlt]; simpa [axCs] using hcp
      refine va_new (ci := ci) (C := axCn ci) (T := axT ci) (N := axNf ci) (fs := (axDf ci).map (axCv b rb)) F.1 F.2.1 F.2.2.2.2.1 (axLay ci hlt) (axTy ci) (axTyOk ci hlt) F.2.2.2.1 (F.2.2.2.2.1 _ (axTW_mem f1 rfl)) (F.2.2.2.2.1 _ (axInsOk ci hlt)) (F.2.2.2.2.1 _ (axIniOk ci hlt)) F.2.2.2.2.2.1 hI.2.1 (axWs_D h) hI.2.2 (fun q hq => by show b ≤ q; have := F.2.2.2.2.2.2.2; omega) (axClOk ci hlt) (fun j hj => by rw [axDf_cv]; exact axDfOk ci hlt j hj) (by omega) (by omega) hd (fun q H1 hP1 hD1 hS1 => ?_)
      exact axWW_push hn (x := .inr (.inr (ci, axDf ci))) (hK _ _ _ _ hk) g1 g2 (axDfN ci hlt).symm hP1 hD1 hS1 hL
theorem sx_idiv (F : axFx p s m args meth c b rb ca D ro cc nL o) (hn : s.heap.size = b + n0) (hini : ini = true → meth.name = "<init>") (hR : 1 ≤ R.frames ∧ 32 ≤ R.locals) (hcap : ∀ pc' L' S' h', K pc' L' S' h' → h'.length - n0 ≤ R.cells ∧ axSl h' - s0 ≤ R.slots) (hd : decode cc pc = .ok (.idiv, len)) (ht : axTr o ini rt pc (.idiv) len = some ent) (h1 : axOne ro E ent L S h K Q) (hK : ∀ pc' L' S' h', K pc' L' S' h' → axWW p l e R s m args below meth c b rb ca D QQ nL n0 s0 pc' L' S' h') : axWW p l e R s m args below meth c b rb ca D QQ nL n0 s0 pc L S h := by
  obtain ⟨rfl, rfl⟩ := axI_ok ht
  obtain ⟨x, y, S', rfl, hy, hk⟩ := h1
  intro g1 g2 H locs ls hI hL
  exact lv_idiv F.1 F.2.1 hd hy (hK _ _ _ _ hk g1 g2 H locs ls hI hL)
theorem sx_irem (F : axFx p s m args meth c b rb ca D ro cc nL o) (hn : s.heap.size = b + n0) (hini : ini = true → meth.name = "<init>") (hR : 1 ≤ R.frames ∧ 32 ≤ R.locals) (hcap : ∀ pc' L' S' h', K pc' L' S' h' → h'.length - n0 ≤ R.cells ∧ axSl h' - s0 ≤ R.slots) (hd : decode cc pc = .ok (.irem, len)) (ht : axTr o ini rt pc (.irem) len = some ent) (h1 : axOne ro E ent L S h K Q) (hK : ∀ pc' L' S' h', K pc' L' S' h' → axWW p l e R s m args below meth c b rb ca D QQ nL n0 s0 pc' L' S' h') : axWW p l e R s m args below meth c b rb ca D QQ nL n0 s0 pc L S h := by
  obtain ⟨rfl, rfl⟩ := axI_ok ht
  obtain ⟨x, y, S', rfl, hy, hk⟩ := h1
  intro g1 g2 H locs ls hI hL
  exact lv_irem F.1 F.2.1 hd hy (hK _ _ _ _ hk g1 g2 H locs ls hI hL)
end AX8
end
section
/-! SOUNDNESS 3: switches, calls, the whole body, the contracts. Written by wip/whole/mk09.py. -/
theorem axToInt {n : Int} (h0 : -1000 ≤ n) (h1 : n ≤ 1001) : (Int32.ofInt n).toInt = n := Int32.toInt_ofInt_of_le (by omega) (by omega)
theorem axSwT_out {pc d : Nat} : ∀ (offs : List Int) (lo : Int) (x : Int32), 0 ≤ lo → lo + offs.length ≤ 1001 → (x.toInt < lo ∨ lo + offs.length ≤ x.toInt) → axSw (axSwT pc lo offs) d x = d
  | [], lo, x, _, _, _ => rfl
  | o :: r, lo, x, h0, h1, h2 => by
    rw [List.length_cons] at h1 h2
    have hne : ¬ x = Int32.ofInt lo := by
      intro e
      have : x.toInt = lo := by rw [e]; exact axToInt (by omega) (by omega)
      omega
    show (if x = Int32.ofInt lo then _ else axSw (axSwT pc (lo + 1) r) d x) = d
    rw [if_neg hne]
    exact axSwT_out r (lo + 1) x (by omega) (by omega) (by omega)
theorem axSwT_in {pc d : Nat} : ∀ (offs : List Int) (lo : Int) (x : Int32) (i : Nat) (o : Int), 0 ≤ lo → lo + offs.length ≤ 1001 → offs[i]? = some o → x.toInt = lo + i → axSw (axSwT pc lo offs) d x = ((pc : Int) + o).toNat
  | [], lo, x, i, o, _, _, h, _ => by simp at h
  | o' :: r, lo, x, 0, o, h0, h1, h2, h3 => by
    rw [List.length_cons] at h1
    have e : x = Int32.ofInt lo := Int32.toInt_inj.mp (by rw [h3, axToInt (by omega) (by omega)]; simp)
    show (if x = Int32.ofInt lo then ((pc : Int) + o').toNat else _) = _
    rw [if_pos e]
    simp only [List.getElem?_cons_zero, Option.some.injEq] at h2
    rw [h2]
  | o' :: r, lo, x, i + 1, o, h0, h1, h2, h3 => by
    rw [List.length_cons] at h1
    rw [List.getElem?_cons_succ] at h2
    have hne : ¬ x = Int32.ofInt lo := by
      intro e
      have : x.toInt = lo := by rw [e]; exact axToInt (by omega) (by omega)
      omega
    show (if x = Int32.ofInt lo then _ else axSw (axSwT pc (lo + 1) r) d x) = _
    rw [if_neg hne]
    exact axSwT_in r (lo + 1) x i o (by omega) (by omega) h2 (by omega)
theorem axSwL_ok {pc : Nat} {d : Int} (hd : 0 ≤ (pc : Int) + d) : ∀ (ps : List (Int × Int)) (x : Int32), (ps.all fun o => decide (0 ≤ (pc : Int) + o.2 ∧ -1000 < o.1 ∧ o.1 < 1000)) = true → 0 ≤ (pc : Int) + Op.lookupswitch.offset ps d x.toInt ∧ axSw (axSwL pc ps) ((pc : Int) + d).toNat x = ((pc : Int) + Op.lookupswitch.offset ps d x.toInt).toNat
  | [], x, _ => ⟨hd, rfl⟩
  | (a, o) :: r, x, h => by
    rw [List.all_cons, Bool.and_eq_true, decide_eq_true_eq] at h
    have ih := axSwL_ok hd r x h.2
    rw [Op.lookupswitch.offset_cons]
    have ht : (Int32.ofInt a).toInt = a := axToInt (by omega) (by omega)
    by_cases e : x = Int32.ofInt a
    · have e1 : a = x.toInt := by rw [e, ht]
      rw [if_pos e1]
      refine ⟨h.1.1, ?_⟩
      show (if x = Int32.ofInt a then _ else _) = _
      rw [if_pos e]
    · have e1 : ¬ a = x.toInt := fun q => e (Int32.toInt_inj.mp (by rw [ht, q]))
      rw [if_neg e1]
      refine ⟨ih.1, ?_⟩
      show (if x = Int32.ofInt a then _ else axSw (axSwL pc r) _ x) = _
      rw [if_neg e]
      exact ih.2
/-- what is known of the calls: the heap grows, and the contract of the method holds -/
def axHE (E : axCall) (l : Launch) (dd : Nat) (b : Nat) (rb : Nat → Nat) (ca : Nat → ClassId) (D : va_G) (ro : axRo) : Prop := ∀ z vs h r h1, E z vs h r h1 → (h.length ≤ h1.length ∧ axSl h ≤ axSl h1) ∧ ∀ M, axMs[z]? = some M → Met l M.1 (axWM M) (axRm dd (h1.length - h.length) (axSl h1 - axSl h)) (axPc b rb ca D ro vs h) (axQc b rb ca D ro r h1) (h1.length - h.length) (axSl h1 - axSl h) (fun q : Nat => b ≤ q)
theorem axGI {M : axM} (hM : axGood M) {ws : List Cond} (h : ∀ w ∈ ws, w ∈ lw_tbl ∧ goodWord w = true) : GoodIn axTW (ws ++ axWM M) := by
  intro w hw
  rcases List.mem_append.mp hw with q | q
  · exact goodIn_one (big := []) (h w q).1 (h w q).2
  · exact axWM_good hM w q
section AX9
variable {p : Program} {l : Launch} {e : Env} {R : Room} {s : State} {m : MethodId} {args : Array Value} {below : List Frame} {meth : Method} {c : Code} {b : Nat} {rb : Nat → Nat} {ca : Nat → ClassId} {D : va_G} {ro : axRo} {QQ : State → Prop} {cc : ByteArray} {nL n0 s0 o : Nat} {pc : Nat} {L : axL} {S : List Value} {h : axH} {K : Nat → axL → List Value → axH → Prop} {Q : Option Value → axH → Prop} {E : axCall} {ent : axE} {ini : Bool} {rt len dd : Nat}
theorem axW_call {h2 : axH} {r : Option Value} {rest st0 : List Value} {a : Array Value} {H : Heap} {locs : List Loc} {ls : Array Slot} (hs : b ≤ s.heap.size) (l1 : h.length ≤ h2.length) (l2 : axSl h ≤ axSl h2) (g1 : n0 ≤ h.length) (g2 : s0 ≤ axSl h) (hS : va_S (fun q : Nat => b ≤ q) s.heap H locs) (hL : axLr b rb L ls nL)
    (hr : va_Run p l e R s m args below meth c H locs (h.length - n0) (axSl h - s0) (h2.length - h.length) (axSl h2 - axSl h) (F0 m pc ls st0) (rest.map (axCv b rb)) (axQc b rb ca D ro r h2 a) (fun q : Nat => b ≤ q))
    (hW : axWW p l e R s m args below meth c b rb ca D QQ nL n0 s0 (pc + 3) L (r.toList ++ rest) h2) : W p l e R s m args below meth c H locs (h.length - n0) (axSl h - s0) QQ (F0 m pc ls st0) := by
  intro T hT X
  obtain ⟨v, st₀, t, T', Lc, h0, X', hLc, e1, e2, ⟨hv, hRep, hF⟩, st⟩ := hr T hT X
  cases hv
  obtain ⟨f1, f2⟩ := hF
  rw [h0] at f1 f2
  obtain ⟨r1, r2, -, -⟩ := hRep
  have hS' : va_S (fun q : Nat => b ≤ q) s.heap T'.heap (locs ++ Lc) := by
    refine ⟨by rw [e1]; exact Nat.le_trans hS.1 f1, fun q q1 q2 => ?_, fun q hq => ?_⟩
    · rw [e1, f2 q (Nat.lt_of_lt_of_le q1 hS.1) q2]
      exact hS.2.1 q q1 q2
    · rcases List.mem_append.mp hq with z | z
      · exact hS.2.2 q z
      · exact hLc q z
  have hw := hW (by omega) (by omega) T'.heap (locs ++ Lc) ls ⟨by rw [e1]; exact r1, by rw [e1]; exact r2, hS'⟩ hL
  have e3 : (r.toList ++ rest).map (axCv b rb) = (r.map (axCv b rb)).toList ++ rest.map (axCv b rb) := by cases r <;> rfl
  rw [e3, show h2.length - n0 = h.length - n0 + (h2.length - h.length) by omega, show axSl h2 - s0 = axSl h - s0 + (axSl h2 - axSl h) by omega] at hw
  obtain ⟨t2, a1, b1⟩ := hw T' rfl X'
  exact ⟨t2, st t2 a1, b1⟩
theorem axBlind {vs : List Value} : FrameBlind (axPc b rb ca D ro vs h) := fun a U g mk q => ⟨q.1, axRep_calling g mk a q.2⟩

theorem sx_tableswitch (d lo hi : Int) (offs : Array Int) (F : axFx p s m args meth c b rb ca D ro cc nL o) (hn : s.heap.size = b + n0) (hE : axHE E l dd b rb ca D ro) (hR : dd + 1 ≤ R.frames ∧ 32 * (dd + 1) ≤ R.locals) (hcap : ∀ pc' L' S' h', K pc' L' S' h' → h'.length - n0 ≤ R.cells ∧ axSl h' - s0 ≤ R.slots) (hd : decode cc pc = .ok (.tableswitch d lo hi offs, len)) (ht : axTr o ini rt pc (.tableswitch d lo hi offs) len = some ent) (h1 : axOne ro E ent L S h K Q) (hK : ∀ pc' L' S' h', K pc' L' S' h' → axWW p l e R s m args below meth c b rb ca D QQ nL n0 s0 pc' L' S' h') : axWW p l e R s m args below meth c b rb ca D QQ nL n0 s0 pc L S h := by
  simp only [axTr] at ht
  split at ht
  · rename_i hq
    obtain ⟨q1, q2, q3, q4, q5⟩ := hq
    have ht := (Option.some.inj ht).symm
    subst ht
    obtain ⟨x, S', rfl, hk⟩ := h1
    have hlen : offs.toList.length = offs.size := Array.length_toList
    intro g1 g2 H locs ls hI hL
    by_cases hx : x.toInt < lo ∨ hi < x.toInt
    · rw [axSwT_out offs.toList lo x q1 (by omega) (by omega)] at hk
      exact lv_tableOut F.1 F.2.1 hd hx (Int.toNat_of_nonneg q4).symm (hK _ _ _ _ hk g1 g2 H locs ls hI hL)
    · have hi' : (x.toInt - lo).toNat < offs.size := by omega
      have ho : offs[(x.toInt - lo).toNat]? = some offs[(x.toInt - lo).toNat] := Array.getElem?_eq_getElem hi'
      have ho' : offs.toList[(x.toInt - lo).toNat]? = some offs[(x.toInt - lo).toNat] := by rw [Array.getElem?_toList]; exact ho
      rw [axSwT_in offs.toList lo x _ _ q1 (by omega) ho' (by omega)] at hk
      have hz := List.all_eq_true.mp q5 _ (List.mem_of_getElem? ho')
      rw [decide_eq_true_eq] at hz
      exact lv_tableIn F.1 F.2.1 hd (by omega) (by omega) ho (Int.toNat_of_nonneg hz).symm (hK _ _ _ _ hk g1 g2 H locs ls hI hL)
  · cases ht
theorem sx_lookupswitch (d : Int) (ps : Array (Int × Int)) (F : axFx p s m args meth c b rb ca D ro cc nL o) (hn : s.heap.size = b + n0) (hE : axHE E l dd b rb ca D ro) (hR : dd + 1 ≤ R.frames ∧ 32 * (dd + 1) ≤ R.locals) (hcap : ∀ pc' L' S' h', K pc' L' S' h' → h'.length - n0 ≤ R.cells ∧ axSl h' - s0 ≤ R.slots) (hd : decode cc pc = .ok (.lookupswitch d ps, len)) (ht : axTr o ini rt pc (.lookupswitch d ps) len = some ent) (h1 : axOne ro E ent L S h K Q) (hK : ∀ pc' L' S' h', K pc' L' S' h' → axWW p l e R s m args below meth c b rb ca D QQ nL n0 s0 pc' L' S' h') : axWW p l e R s m args below meth c b rb ca D QQ nL n0 s0 pc L S h := by
  simp only [axTr] at ht
  split at ht
  · rename_i hq
    obtain ⟨q1, q2, q3⟩ := hq
    have ht := (Option.some.inj ht).symm
    subst ht
    obtain ⟨x, S', rfl, hk⟩ := h1
    obtain ⟨z1, z2⟩ := axSwL_ok q2 ps.toList x q3
    rw [z2] at hk
    intro g1 g2 H locs ls hI hL
    exact lv_lookup F.1 F.2.1 hd q1 rfl (Int.toNat_of_nonneg z1).symm (hK _ _ _ _ hk g1 g2 H locs ls hI hL)
  · cases ht
theorem sx_invokevirtual (i : Nat) (F : axFx p s m args meth c b rb ca D ro cc nL o) (hn : s.heap.size = b + n0) (hE : axHE E l dd b rb ca D ro) (hR : dd + 1 ≤ R.frames ∧ 32 * (dd + 1) ≤ R.locals) (hcap : ∀ pc' L' S' h', K pc' L' S' h' → h'.length - n0 ≤ R.cells ∧ axSl h' - s0 ≤ R.slots) (hd : decode cc pc = .ok (.invokevirtual i, len)) (ht : axTr o ini rt pc (.invokevirtual i) len = some ent) (h1 : axOne ro E ent L S h K Q) (hK : ∀ pc' L' S' h', K pc' L' S' h' → axWW p l e R s m args below meth c b rb ca D QQ nL n0 s0 pc' L' S' h') : axWW p l e R s m args below meth c b rb ca D QQ nL n0 s0 pc L S h := by
  rcases hq0 : axFnd o i axMlT with _ | ⟨kind, z, n, ci, w⟩
  · simp only [axTr, hq0] at ht
    cases ht
  · cases kind with
    | succ k => simp only [axTr, hq0] at ht; cases ht
    | zero =>
      simp only [axTr, hq0] at ht
      obtain ⟨rfl, rfl⟩ := axI_ok ht
      obtain ⟨ci', As, k0, rest, fs, r, h2, ea, rfl, hAs, hsum, hc, hEv, hk⟩ := h1
      cases ea
      obtain ⟨M, hM, w1, w2, w3, hcls, hpn, hci⟩ := axMlT_ok _ (axFnd_mem _ hq0)
      obtain ⟨⟨l1, l2⟩, hMet⟩ := hE _ _ _ _ _ hEv
      have hMM := hMet M hM
      have hG := axMs_ok M (List.mem_of_getElem? hM)
      have hG' := hG
      obtain ⟨-, G2, -, G4, -, G6, -, -⟩ := hG'
      have hcp := hcap _ _ _ _ hk
      
      intro g1 g2 H locs ls hI hL
      refine axW_call (r := r) (h2 := h2) (rest := rest) (ca := ca) (ro := ro) (D := D) F.2.2.2.2.2.2.2 l1 l2 g1 g2 hI.2.2 hL (va_runV (As := As.map (axCv b rb)) (C := M.1.cls) (b := b + k0) ⟨F.1, F.2.1, F.2.2.1, F.2.2.2.1, F.2.2.2.2.1⟩ hMM (cwV n F.2.2.2.2.1 (axGI hG ?_) rfl rfl rfl ⟨rfl, G6.1, G6.2, hpn⟩ ⟨by show dd + 1 ≤ R.frames; exact hR.1, by show 8 + (M.2.2.1 + 11) + 32 * dd ≤ R.locals; omega⟩) ⟨axBlind, ?_, fun U hU hW => ⟨rfl, axRep_at hW hU F.2.2.2.2.2.1 F.2.2.2.2.2.2.2 F.2.2.2.2.2.2.1 hI⟩⟩ rfl (by rw [List.length_map]; exact hAs) hL.2.1 (by simp [List.map_reverse, axCv]) (by show 2 * 0 + _ ≤ 8; rw [axCv_sum]; omega) hd ⟨by omega, by omega⟩) (hK _ _ _ _ hk)
      · intro w hw
        simp only [List.mem_cons, List.not_mem_nil, or_false] at hw
        rcases hw with rfl | rfl | rfl | rfl
        · exact ⟨w1, rfl⟩
        · exact ⟨w2, rfl⟩
        · exact ⟨w3, rfl⟩
        · exact ⟨G2, rfl⟩
      · have hz := va_recv F.2.2.2.2.2.1 hI.2.1 (axClOk ci hci) (axWs_at hc)
        rw [hcls]
        exact hz
theorem sx_invokestatic (i : Nat) (F : axFx p s m args meth c b rb ca D ro cc nL o) (hn : s.heap.size = b + n0) (hE : axHE E l dd b rb ca D ro) (hR : dd + 1 ≤ R.frames ∧ 32 * (dd + 1) ≤ R.locals) (hcap : ∀ pc' L' S' h', K pc' L' S' h' → h'.length - n0 ≤ R.cells ∧ axSl h' - s0 ≤ R.slots) (hd : decode cc pc = .ok (.invokestatic i, len)) (ht : axTr o ini rt pc (.invokestatic i) len = some ent) (h1 : axOne ro E ent L S h K Q) (hK : ∀ pc' L' S' h', K pc' L' S' h' → axWW p l e R s m args below meth c b rb ca D QQ nL n0 s0 pc' L' S' h') : axWW p l e R s m args below meth c b rb ca D QQ nL n0 s0 pc L S h := by
  rcases hq0 : axFnd o i axMlT with _ | ⟨kind, z, n, ci, w⟩
  · simp only [axTr, hq0] at ht
    cases ht
  · match kind, hq0 with
    | 1, hq0 =>
      simp only [axTr, hq0] at ht
      obtain ⟨rfl, rfl⟩ := axI_ok ht
      obtain ⟨As, rest, r, h2, rfl, hAs, hsum, hEv, hk⟩ := h1
      obtain ⟨M, hM, w1, w2, hcls, hpn⟩ := axMlT_ok _ (axFnd_mem _ hq0)
      obtain ⟨⟨l1, l2⟩, hMet⟩ := hE _ _ _ _ _ hEv
      have hMM := hMet M hM
      have hG := axMs_ok M (List.mem_of_getElem? hM)
      have hG' := hG
      obtain ⟨-, G2, -, G4, -, G6, -, -⟩ := hG'
      have hcp := hcap _ _ _ _ hk
      intro g1 g2 H locs ls hI hL
      refine axW_call (r := r) (h2 := h2) (rest := rest) (ca := ca) (ro := ro) (D := D) F.2.2.2.2.2.2.2 l1 l2 g1 g2 hI.2.2 hL (va_runS (As := As.map (axCv b rb)) ⟨F.1, F.2.1, F.2.2.1, F.2.2.2.1, F.2.2.2.2.1⟩ hMM (va_cwS n F.2.2.2.2.1 (axGI hG ?_) rfl rfl rfl ⟨G6.1, G6.2, hpn⟩ ⟨by show dd + 1 ≤ R.frames; exact hR.1, by show 8 + (M.2.2.1 + 11) + 32 * dd ≤ R.locals; omega⟩) ⟨axBlind, fun U hU hW => ⟨rfl, axRep_at hW hU F.2.2.2.2.2.1 F.2.2.2.2.2.2.2 F.2.2.2.2.2.2.1 hI⟩⟩ rfl (by rw [List.length_map]; exact hAs) hL.2.1 (by simp [List.map_reverse, axCv]) (by show 2 * 0 + _ ≤ 8; rw [axCv_sum]; omega) hd ⟨by omega, by omega⟩) (hK _ _ _ _ hk)
      intro w hw
      simp only [List.mem_cons, List.not_mem_nil, or_false] at hw
      rcases hw with rfl | rfl | rfl
      · exact ⟨w1, rfl⟩
      · exact ⟨w2, rfl⟩
      · exact ⟨G2, rfl⟩
    | 2, hq0 =>
      simp only [axTr, hq0] at ht
      obtain ⟨rfl, rfl⟩ := axI_ok ht
      obtain ⟨As, rest, r, h2, rfl, hAs, hsum, hEv, hk⟩ := h1
      obtain ⟨M, hM, w1, w2, hpn⟩ := axMlT_ok _ (axFnd_mem _ hq0)
      obtain ⟨⟨l1, l2⟩, hMet⟩ := hE _ _ _ _ _ hEv
      have hMM := hMet M hM
      have hG := axMs_ok M (List.mem_of_getElem? hM)
      have hG' := hG
      obtain ⟨-, G2, -, G4, -, G6, -, -⟩ := hG'
      have hcp := hcap _ _ _ _ hk
      have hnw := F.2.2.2.2.2.2.1.2.2.2.1 _ w1 rfl
      intro g1 g2 H locs ls hI hL
      exact axW_call (r := r) (h2 := h2) (rest := rest) (ca := ca) (ro := ro) (D := D) F.2.2.2.2.2.2.2 l1 l2 g1 g2 hI.2.2 hL (va_runSN (As := As.map (axCv b rb)) ⟨F.1, F.2.1, F.2.2.1, F.2.2.2.1, F.2.2.2.2.1⟩ hMM ⟨va_cnB n F.2.2.2.2.1 (axWM_good hG) rfl rfl rfl hnw (F.2.2.2.2.1 _ (axTW_mem G2 rfl)) ⟨G6.1, G6.2, hpn⟩ ⟨by show dd + 1 ≤ R.frames; exact hR.1, by show 8 + (M.2.2.1 + 11) + 32 * dd ≤ R.locals; omega⟩, F.2.2.2.2.1 _ (axTW_mem w2 rfl), trivial⟩ ⟨axBlind, fun U hU hW => ⟨rfl, axRep_at hW hU F.2.2.2.2.2.1 F.2.2.2.2.2.2.2 F.2.2.2.2.2.2.1 hI⟩⟩ rfl (by rw [List.length_map]; exact hAs) hL.2.1 (by simp [List.map_reverse, axCv]) (by show 2 * 0 + _ ≤ 8; rw [axCv_sum]; omega) hd ⟨by omega, by omega⟩) (hK _ _ _ _ hk)
    | 3, hq0 =>
      simp only [axTr, hq0] at ht
      obtain ⟨rfl, rfl⟩ := axI_ok ht
      obtain ⟨As, rest, r, h2, rfl, hAs, hsum, hEv, hk⟩ := h1
      obtain ⟨M, hM, w1, w2, hpn⟩ := axMlT_ok _ (axFnd_mem _ hq0)
      obtain ⟨⟨l1, l2⟩, hMet⟩ := hE _ _ _ _ _ hEv
      have hMM := hMet M hM
      have hG := axMs_ok M (List.mem_of_getElem? hM)
      have hG' := hG
      obtain ⟨-, G2, -, G4, -, G6, -, -⟩ := hG'
      have hcp := hcap _ _ _ _ hk
      intro g1 g2 H locs ls hI hL
      refine axW_call (r := r) (h2 := h2) (rest := rest) (ca := ca) (ro := ro) (D := D) F.2.2.2.2.2.2.2 l1 l2 g1 g2 hI.2.2 hL (va_runS (As := As.map (axCv b rb)) ⟨F.1, F.2.1, F.2.2.1, F.2.2.2.1, F.2.2.2.2.1⟩ hMM (va_cwS n F.2.2.2.2.1 (axGI hG ?_) rfl rfl rfl ⟨G6.1, G6.2, hpn⟩ ⟨by show dd + 1 ≤ R.frames; exact hR.1, by show 8 + (M.2.2.1 + 11) + 32 * dd ≤ R.locals; omega⟩) ⟨axBlind, fun U hU hW => ⟨rfl, axRep_at hW hU F.2.2.2.2.2.1 F.2.2.2.2.2.2.2 F.2.2.2.2.2.2.1 hI⟩⟩ rfl (by rw [List.length_map]; exact hAs) hL.2.1 (by simp [List.map_reverse, axCv]) (by show 2 * 0 + _ ≤ 8; rw [axCv_sum]; omega) hd ⟨by omega, by omega⟩) (hK _ _ _ _ hk)
      intro w hw
      simp only [List.mem_cons, List.not_mem_nil, or_false] at hw
      rcases hw with rfl | rfl | rfl
      · exact ⟨w1, rfl⟩
      · exact ⟨w2, rfl⟩
      · exact ⟨G2, rfl⟩
    | 4, hq0 =>
      simp only [axTr, hq0] at ht
      obtain ⟨rfl, rfl⟩ := axI_ok ht
      have w1 := axMlT_ok _ (axFnd_mem _ hq0)
      obtain ⟨n, dp, k1, sp, k0, rest, n0', n1, f, g, rfl, hc0, hc1, q1, q2, q3, q4, q5, hsum, hk⟩ := h1
      intro g1 g2 H locs ls hI hL
      refine va_copyi F.1 F.2.1 (F.2.2.1.trans hL.2.1.symm) F.2.2.2.1 (F.2.2.2.2.1 _ (axTW_mem w1 rfl)) (F.2.2.2.2.1 _ (axTW_mem axW_native rfl)) (F.2.2.2.2.1 _ (axTW_mem axW_statac rfl)) (F.2.2.2.2.1 _ (axTW_mem axW_sys rfl)) F.2.2.2.2.2.1 hI.2.1 (axWs_D h) hI.2.2 k0 k1 0 0 (axWs_at hc0) (axWs_at hc1) rfl rfl rfl q1 q2 q3 q4 q5 (fun _ _ => rfl) (by omega) (by rw [axCv_sum, show nativeFrameWords "java/lang/System" "arraycopy" 5 = 7 by decide +kernel]; omega) hd (fun H1 locs1 hP1 hD1 hS1 => ?_)
      refine axWW_set hn hc1 (x := .inl (0, n1, va_cpy f g sp.toNatClampNeg dp.toNatClampNeg n.toNatClampNeg)) rfl (hK _ _ _ _ hk) g1 g2 ?_ hS1 hL
      rw [axWs_set]
      exact hP1
    | 5, hq0 =>
      simp only [axTr, hq0] at ht
      obtain ⟨rfl, rfl⟩ := axI_ok ht
      have w1 := axMlT_ok _ (axFnd_mem _ hq0)
      obtain ⟨x, y, S', rfl, hsum, hk⟩ := h1
      have hcz := hcap _ _ _ _ hk
      intro g1 g2 H locs ls hI hL
      exact va_mmax F.1 F.2.1 (F.2.2.1.trans hL.2.1.symm) F.2.2.2.1 (F.2.2.2.2.1 _ (axTW_mem w1 rfl)) (F.2.2.2.2.1 _ (axTW_mem axW_stmax rfl)) (F.2.2.2.2.1 _ (axTW_mem axW_math rfl)) (F.2.2.2.2.1 _ (axTW_mem axW_cdmax rfl)) (by omega) (by rw [axCv_sum]; omega) hcz.1 hcz.2 hd (hK _ _ _ _ hk g1 g2 H locs ls hI hL)
    | 6, hq0 =>
      simp only [axTr, hq0] at ht
      obtain ⟨rfl, rfl⟩ := axI_ok ht
      have w1 := axMlT_ok _ (axFnd_mem _ hq0)
      obtain ⟨x, y, S', rfl, hsum, hk⟩ := h1
      have hcz := hcap _ _ _ _ hk
      intro g1 g2 H locs ls hI hL
      exact va_mmin F.1 F.2.1 (F.2.2.1.trans hL.2.1.symm) F.2.2.2.1 (F.2.2.2.2.1 _ (axTW_mem w1 rfl)) (F.2.2.2.2.1 _ (axTW_mem axW_stmin rfl)) (F.2.2.2.2.1 _ (axTW_mem axW_math rfl)) (F.2.2.2.2.1 _ (axTW_mem axW_cdmin rfl)) (by omega) (by rw [axCv_sum]; omega) hcz.1 hcz.2 hd (hK _ _ _ _ hk g1 g2 H locs ls hI hL)
    | 7, hq0 =>
      simp only [axTr, hq0] at ht
      obtain ⟨rfl, rfl⟩ := axI_ok ht
      have w1 := axMlT_ok _ (axFnd_mem _ hq0)
      obtain ⟨x, S', rfl, hsum, hk⟩ := h1
      have hcz := hcap _ _ _ _ hk
      intro g1 g2 H locs ls hI hL
      exact va_mabs F.1 F.2.1 (F.2.2.1.trans hL.2.1.symm) F.2.2.2.1 (F.2.2.2.2.1 _ (axTW_mem w1 rfl)) (F.2.2.2.2.1 _ (axTW_mem axW_stabs rfl)) (F.2.2.2.2.1 _ (axTW_mem axW_math rfl)) (F.2.2.2.2.1 _ (axTW_mem axW_cdabs rfl)) (by omega) (by rw [axCv_sum]; omega) hcz.1 hcz.2 hd (hK _ _ _ _ hk g1 g2 H locs ls hI hL)
    | 0, hq0 => simp only [axTr, hq0] at ht; cases ht
    | k + 8, hq0 => simp only [axTr, hq0] at ht; cases ht
theorem sx_invokespecial (i : Nat) (F : axFx p s m args meth c b rb ca D ro cc nL o) (hn : s.heap.size = b + n0) (hE : axHE E l dd b rb ca D ro) (hR : dd + 1 ≤ R.frames ∧ 32 * (dd + 1) ≤ R.locals) (hcap : ∀ pc' L' S' h', K pc' L' S' h' → h'.length - n0 ≤ R.cells ∧ axSl h' - s0 ≤ R.slots) (hd : decode cc pc = .ok (.invokespecial i, len)) (ht : axTr o ini rt pc (.invokespecial i) len = some ent) (h1 : axOne ro E ent L S h K Q) (hK : ∀ pc' L' S' h', K pc' L' S' h' → axWW p l e R s m args below meth c b rb ca D QQ nL n0 s0 pc' L' S' h') : axWW p l e R s m args below meth c b rb ca D QQ nL n0 s0 pc L S h := by
  rcases hq0 : axFnd o i axMlT with _ | ⟨kind, z, n, ci, w⟩
  · simp only [axTr, hq0] at ht
    cases ht
  · match kind, hq0 with
    | 8, hq0 =>
      simp only [axTr, hq0] at ht
      obtain ⟨rfl, rfl⟩ := axI_ok ht
      obtain ⟨As, k0, rest, r, h2, rfl, hAs, hsum, hEv, hk⟩ := h1
      obtain ⟨M, hM, w1, w2, hnm, hpn, hret⟩ := axMlT_ok _ (axFnd_mem _ hq0)
      obtain ⟨⟨l1, l2⟩, hMet⟩ := hE _ _ _ _ _ hEv
      have hMM := hMet M hM
      have hG := axMs_ok M (List.mem_of_getElem? hM)
      have hG' := hG
      obtain ⟨-, G2, -, G4, -, G6, -, -⟩ := hG'
      have hcp := hcap _ _ _ _ hk
      
      intro g1 g2 H locs ls hI hL
      exact axW_call (r := r) (h2 := h2) (rest := rest) (ca := ca) (ro := ro) (D := D) F.2.2.2.2.2.2.2 l1 l2 g1 g2 hI.2.2 hL (va_runI (As := As.map (axCv b rb)) (b := b + k0) ⟨F.1, F.2.1, F.2.2.1, F.2.2.2.1, F.2.2.2.2.1⟩ hMM (cwI n F.2.2.2.2.1 (axWM_good hG) (by unfold axWM; rw [hret]) rfl rfl (F.2.2.2.2.1 _ (axTW_mem G2 rfl)) (F.2.2.2.2.1 _ (axTW_mem w1 rfl)) (F.2.2.2.2.1 _ (axTW_mem w2 rfl)) hnm ⟨G6.1, G6.2, hpn⟩ ⟨by show dd + 1 ≤ R.frames; exact hR.1, by show 8 + (M.2.2.1 + 11) + 32 * dd ≤ R.locals; omega⟩) ⟨axBlind, fun U hU hW => ⟨rfl, axRep_at hW hU F.2.2.2.2.2.1 F.2.2.2.2.2.2.2 F.2.2.2.2.2.2.1 hI⟩⟩ rfl (by rw [List.length_map]; exact hAs) hL.2.1 (by simp [List.map_reverse, axCv]) (by show 2 * 0 + _ ≤ 8; rw [axCv_sum]; omega) hd ⟨by omega, by omega⟩) (hK _ _ _ _ hk)
    | 9, hq0 =>
      simp only [axTr, hq0] at ht
      obtain ⟨rfl, rfl⟩ := axI_ok ht
      obtain ⟨k0, rest, rfl, hsum, hk⟩ := h1
      have w1 := axMlT_ok _ (axFnd_mem _ hq0)
      intro g1 g2 H locs ls hI hL
      exact W.objInit F.1 F.2.1 F.2.2.2.1 (F.2.2.2.2.1 _ (axTW_mem w1 rfl)) (F.2.2.2.2.1 _ (axTW_mem axW_obj rfl)) (F.2.2.2.2.1 _ (axTW_mem axW_objc rfl)) rfl (hL.2.1.trans F.2.2.1.symm) rfl hd (by omega) (by show 2 * 0 + _ + 12 ≤ _; rw [axCv_sum]; omega) (hK _ _ _ _ hk g1 g2 H locs ls hI hL)
    | 0, hq0 => simp only [axTr, hq0] at ht; cases ht
    | 1, hq0 => simp only [axTr, hq0] at ht; cases ht
    | 2, hq0 => simp only [axTr, hq0] at ht; cases ht
    | 3, hq0 => simp only [axTr, hq0] at ht; cases ht
    | 4, hq0 => simp only [axTr, hq0] at ht; cases ht
    | 5, hq0 => simp only [axTr, hq0] at ht; cases ht
    | 6, hq0 => simp only [axTr, hq0] at ht; cases ht
    | 7, hq0 => simp only [axTr, hq0] at ht; cases ht
    | k + 10, hq0 => simp only [axTr, hq0] at ht; cases ht
end AX9
end
section
/-! SOUNDNESS 4: the whole body, and the contracts by the depth of the calls. Written by wip/whole/mk10.py. -/
section AX10
variable {p : Program} {l : Launch} {e : Env} {R : Room} {s : State} {m : MethodId} {args : Array Value} {below : List Frame} {meth : Method} {c : Code} {b : Nat} {rb : Nat → Nat} {ca : Nat → ClassId} {D : va_G} {ro : axRo} {QQ : State → Prop} {cc : ByteArray} {nL n0 s0 o : Nat} {pc : Nat} {L : axL} {S : List Value} {h : axH} {K : Nat → axL → List Value → axH → Prop} {Q : Option Value → axH → Prop} {E : axCall} {ent : axE} {ini : Bool} {rt len dd : Nat} {cd : List axE}

theorem sx_all (F : axFx p s m args meth c b rb ca D ro cc nL o) (hn : s.heap.size = b + n0) (hini : ini = true → meth.name = "<init>") (hE : axHE E l dd b rb ca D ro) (hR : dd + 1 ≤ R.frames ∧ 32 * (dd + 1) ≤ R.locals)
    (hri : ∀ (pc : Nat) (H : Heap) (locs : List Loc) (h : axH) (ls : Array Slot) (x : Int32), (∃ q ∈ cd, q.2.1 = 49) → decode cc pc = .ok (.ireturn, 1) → narrow (axEt rt) (.int x) = .int x → Q (some (.int x)) h → n0 ≤ h.length → s0 ≤ axSl h → axInv b rb ca D s h H locs → W p l e R s m args below meth c H locs (h.length - n0) (axSl h - s0) QQ (F0 m pc ls [.int x]))
    (hrv : ∀ (pc : Nat) (H : Heap) (locs : List Loc) (h : axH) (ls : Array Slot), (∃ q ∈ cd, q.2.1 = 50) → decode cc pc = .ok (.return_, 1) → Q none h → n0 ≤ h.length → s0 ≤ axSl h → axInv b rb ca D s h H locs → W p l e R s m args below meth c H locs (h.length - n0) (axSl h - s0) QQ (F0 m pc ls []))
    (hra : ∀ (pc : Nat) (H : Heap) (locs : List Loc) (h : axH) (ls : Array Slot) (k : Nat), (∃ q ∈ cd, q.2.1 = 51) → decode cc pc = .ok (.areturn, 1) → Q (some (.ref k)) h → n0 ≤ h.length → s0 ≤ axSl h → axInv b rb ca D s h H locs → W p l e R s m args below meth c H locs (h.length - n0) (axSl h - s0) QQ (F0 m pc ls [.ref (b + k)]))
    (hcap : ∀ pc' L' S' h', K pc' L' S' h' → h'.length - n0 ≤ R.cells ∧ axSl h' - s0 ≤ R.slots) (hmem : ent ∈ cd) (ins : Instr) (hd : decode cc pc = .ok (ins, len)) (ht : axTr o ini rt pc ins len = some ent) (h1 : axOne ro E ent L S h K Q) (hK : ∀ pc' L' S' h', K pc' L' S' h' → axWW p l e R s m args below meth c b rb ca D QQ nL n0 s0 pc' L' S' h') : axWW p l e R s m args below meth c b rb ca D QQ nL n0 s0 pc L S h := by
  have hR1 : 1 ≤ R.frames ∧ 32 ≤ R.locals := ⟨by omega, by omega⟩
  cases ins with
  | iconst n => exact sx_iconst n F hd ht h1 hK
  | bipush n => exact sx_bipush n F hd ht h1 hK
  | sipush n => exact sx_sipush n F hd ht h1 hK
  | lconst n => exact sx_lconst n F hd ht h1 hK
  | ldc_w i => exact sx_ldc_w i F hd ht h1 hK
  | ldc2_w i => exact sx_ldc2_w i F hd ht h1 hK
  | iload_n k => exact sx_iload_n k F hd ht h1 hK
  | iload k => exact sx_iload k F hd ht h1 hK
  | lload_n k => exact sx_lload_n k F hd ht h1 hK
  | lload k => exact sx_lload k F hd ht h1 hK
  | aload_n k => exact sx_aload_n k F hd ht h1 hK
  | aload k => exact sx_aload k F hd ht h1 hK
  | istore_n k => exact sx_istore_n k F hd ht h1 hK
  | istore k => exact sx_istore k F hd ht h1 hK
  | astore_n k => exact sx_astore_n k F hd ht h1 hK
  | astore k => exact sx_astore k F hd ht h1 hK
  | iinc i n => exact sx_iinc i n F hd ht h1 hK
  | dup => exact sx_dup  F hd ht h1 hK
  | pop => exact sx_pop  F hd ht h1 hK
  | dup2 => exact sx_dup2  F hd ht h1 hK
  | iadd => exact sx_iadd  F hd ht h1 hK
  | isub => exact sx_isub  F hd ht h1 hK
  | imul => exact sx_imul  F hd ht h1 hK
  | iand => exact sx_iand  F hd ht h1 hK
  | ior => exact sx_ior  F hd ht h1 hK
  | ixor => exact sx_ixor  F hd ht h1 hK
  | ishl => exact sx_ishl  F hd ht h1 hK
  | ishr => exact sx_ishr  F hd ht h1 hK
  | iushr => exact sx_iushr  F hd ht h1 hK
  | ineg => exact sx_ineg  F hd ht h1 hK
  | i2c => exact sx_i2c  F hd ht h1 hK
  | i2l => exact sx_i2l  F hd ht h1 hK
  | l2i => exact sx_l2i  F hd ht h1 hK
  | land => exact sx_land  F hd ht h1 hK
  | lor => exact sx_lor  F hd ht h1 hK
  | lshl => exact sx_lshl  F hd ht h1 hK
  | lshr => exact sx_lshr  F hd ht h1 hK
  | lushr => exact sx_lushr  F hd ht h1 hK
  | lcmp => exact sx_lcmp  F hd ht h1 hK
  | goto off => exact sx_goto off F hd ht h1 hK
  | if_icmp cd off => exact sx_if_icmp cd off F hd ht h1 hK
  | ifCond cd off => exact sx_ifCond cd off F hd ht h1 hK
  | ifnonnull off => exact sx_ifnonnull off F hd ht h1 hK
  | getfield i => exact sx_getfield i F hn hini hR1 hcap hd ht h1 hK
  | putfield i => exact sx_putfield i F hn hini hR1 hcap hd ht h1 hK
  | getstatic i => exact sx_getstatic i F hn hini hR1 hcap hd ht h1 hK
  | arraylength => exact sx_arraylength  F hn hini hR1 hcap hd ht h1 hK
  | iaload => exact sx_iaload  F hn hini hR1 hcap hd ht h1 hK
  | caload => exact sx_caload  F hn hini hR1 hcap hd ht h1 hK
  | baload => exact sx_baload  F hn hini hR1 hcap hd ht h1 hK
  | aaload => exact sx_aaload  F hn hini hR1 hcap hd ht h1 hK
  | iastore => exact sx_iastore  F hn hini hR1 hcap hd ht h1 hK
  | castore => exact sx_castore  F hn hini hR1 hcap hd ht h1 hK
  | bastore => exact sx_bastore  F hn hini hR1 hcap hd ht h1 hK
  | aastore => exact sx_aastore  F hn hini hR1 hcap hd ht h1 hK
  | newarray t => exact sx_newarray t F hn hini hR1 hcap hd ht h1 hK
  | anewarray i => exact sx_anewarray i F hn hini hR1 hcap hd ht h1 hK
  | new i => exact sx_new i F hn hini hR1 hcap hd ht h1 hK
  | idiv => exact sx_idiv  F hn hini hR1 hcap hd ht h1 hK
  | irem => exact sx_irem  F hn hini hR1 hcap hd ht h1 hK
  | tableswitch d lo hi offs => exact sx_tableswitch d lo hi offs F hn hE hR hcap hd ht h1 hK
  | lookupswitch d ps => exact sx_lookupswitch d ps F hn hE hR hcap hd ht h1 hK
  | invokevirtual i => exact sx_invokevirtual i F hn hE hR hcap hd ht h1 hK
  | invokestatic i => exact sx_invokestatic i F hn hE hR hcap hd ht h1 hK
  | invokespecial i => exact sx_invokespecial i F hn hE hR hcap hd ht h1 hK
  | ireturn =>
    obtain ⟨rfl, rfl⟩ := axI_ok ht
    obtain ⟨x, rfl, hnar, hq⟩ := h1
    exact fun g1 g2 H locs ls hI hL => hri pc H locs h ls x ⟨_, hmem, rfl⟩ hd hnar hq g1 g2 hI
  | return_ =>
    obtain ⟨rfl, rfl⟩ := axI_ok ht
    obtain ⟨rfl, hq⟩ := h1
    exact fun g1 g2 H locs ls hI hL => hrv pc H locs h ls ⟨_, hmem, rfl⟩ hd hq g1 g2 hI
  | areturn =>
    obtain ⟨rfl, rfl⟩ := axI_ok ht
    obtain ⟨k, rfl, hq⟩ := h1
    exact fun g1 g2 H locs ls hI hL => hra pc H locs h ls k ⟨_, hmem, rfl⟩ hd hq g1 g2 hI
  | _ => cases ht
theorem axOne_up (hE : ∀ z vs h r h1, E z vs h r h1 → h.length ≤ h1.length ∧ axSl h ≤ axSl h1) (h1 : axOne ro E ent L S h K Q) : (∃ r, Q r h) ∨ ∃ pc' L' S' h', K pc' L' S' h' ∧ h.length ≤ h'.length ∧ axSl h ≤ axSl h' := by
  obtain ⟨pc, op, a, b, c, tb, nx⟩ := ent
  have same : ∀ {pc' L' S'}, K pc' L' S' h → (∃ r, Q r h) ∨ ∃ pc' L' S' h', K pc' L' S' h' ∧ h.length ≤ h'.length ∧ axSl h ≤ axSl h' := fun hk => Or.inr ⟨_, _, _, _, hk, Nat.le_refl _, Nat.le_refl _⟩
  have setc : ∀ {pc' L' S' k x d}, h[k]? = some d → axCs x = axCs d → K pc' L' S' (h.set k x) → (∃ r, Q r h) ∨ ∃ pc' L' S' h', K pc' L' S' h' ∧ h.length ≤ h'.length ∧ axSl h ≤ axSl h' := fun hc hs hk => Or.inr ⟨_, _, _, _, hk, by rw [List.length_set]; exact Nat.le_refl _, by rw [axSl_set _ _ _ _ hc hs]; exact Nat.le_refl _⟩
  have app : ∀ {pc' L' S' x}, K pc' L' S' (h ++ [x]) → (∃ r, Q r h) ∨ ∃ pc' L' S' h', K pc' L' S' h' ∧ h.length ≤ h'.length ∧ axSl h ≤ axSl h' := fun hk => Or.inr ⟨_, _, _, _, hk, by simp, by rw [axSl_app]; omega⟩
  have call : ∀ {pc' L' S' z vs r h2}, E z vs h r h2 → K pc' L' S' h2 → (∃ r, Q r h) ∨ ∃ pc' L' S' h', K pc' L' S' h' ∧ h.length ≤ h'.length ∧ axSl h ≤ axSl h' := fun he hk => Or.inr ⟨_, _, _, _, hk, (hE _ _ _ _ _ he).1, (hE _ _ _ _ _ he).2⟩
  dsimp only [axOne] at h1
  split at h1
  · obtain ⟨x, y, S', rfl, h2, h3⟩ := h1
    by_cases q : axCnd b x y
    · exact same (h2 q)
    · exact same (h3 q)
  · obtain ⟨x, S', rfl, h2, h3⟩ := h1
    by_cases q : axCnd b x 0
    · exact same (h2 q)
    · exact same (h3 q)
  · rcases h1 with ⟨k, S', rfl, hk⟩ | ⟨S', rfl, hk⟩
    · exact same hk
    · exact same hk
  · obtain ⟨x, S', rfl, hk⟩ := h1
    exact same hk
  · obtain ⟨k, S', fs, v, rfl, hc, hv, hk⟩ := h1
    exact same hk
  · obtain ⟨v, k, S', fs, rfl, hc, hlt, hf, hk⟩ := h1
    exact setc hc (by simp [axCs]) hk
  · exact same h1
  · rcases h1 with ⟨k, S', ki, n, f, rfl, hc, hki, hk⟩ | ⟨k, S', n, f, rfl, hc, hk⟩ | ⟨i, S', rfl, hi, hk⟩
    · exact same hk
    · exact same hk
    · exact same hk
  · rcases h1 with ⟨k, i, S', n, f, rfl, hc, hin, hk⟩ | ⟨hb, j, i, S', rfl, hj, hin, hk⟩
    · exact same hk
    · exact same hk
  · obtain ⟨k, i, S', n, f, rfl, hc, hin, hk⟩ := h1
    exact same hk
  · obtain ⟨x, i, k, S', n, f, rfl, hc, hin, hnar, hk⟩ := h1
    exact setc hc (by rfl) hk
  · obtain ⟨v, i, k, S', n, f, fs, rfl, hc, hv, hin, hk⟩ := h1
    exact setc hc (by rfl) hk
  · obtain ⟨x, S', rfl, h0, hN, hk⟩ := h1
    exact app hk
  · obtain ⟨x, S', rfl, h0, hN, hk⟩ := h1
    exact app hk
  · exact app h1
  · obtain ⟨x, y, S', rfl, hy, hk⟩ := h1
    exact same hk
  · obtain ⟨x, y, S', rfl, hy, hk⟩ := h1
    exact same hk
  · obtain ⟨x, rfl, hnar, hq⟩ := h1
    exact Or.inl ⟨_, hq⟩
  · exact Or.inl ⟨_, h1.2⟩
  · obtain ⟨k, rfl, hq⟩ := h1
    exact Or.inl ⟨_, hq⟩
  · obtain ⟨ci, As, k0, rest, fs, r, h2, ea, rfl, hAs, hsum, hc, hEv, hk⟩ := h1
    exact call hEv hk
  · obtain ⟨As, rest, r, h2, rfl, hAs, hsum, hEv, hk⟩ := h1
    exact call hEv hk
  · obtain ⟨As, k0, rest, r, h2, rfl, hAs, hsum, hEv, hk⟩ := h1
    exact call hEv hk
  · obtain ⟨k, rest, rfl, hsum, hk⟩ := h1
    exact same hk
  · obtain ⟨n, dp, k1, sp, k0, rest, n0, n1, f, g, rfl, hc0, hc1, q1, q2, q3, q4, q5, hsum, hk⟩ := h1
    exact setc hc1 (by rfl) hk
  · obtain ⟨x, y, S', rfl, hsum, hk⟩ := h1
    exact same hk
  · obtain ⟨x, y, S', rfl, hsum, hk⟩ := h1
    exact same hk
  · obtain ⟨x, S', rfl, hsum, hk⟩ := h1
    exact same hk
  · obtain ⟨v, k, S', fs, rfl, hc, hlt, hf, hk⟩ := h1
    exact setc hc (by simp [axCs]) hk
  · obtain ⟨q, hq, hk⟩ := h1
    exact same hk
theorem axWn_up (hE : ∀ z vs h r h1, E z vs h r h1 → h.length ≤ h1.length ∧ axSl h ≤ axSl h1) : ∀ (n pc : Nat) (L : axL) (S : List Value) (h : axH), axWn ro E cd n pc L S h Q → ∃ r h', Q r h' ∧ h.length ≤ h'.length ∧ axSl h ≤ axSl h'
  | 0, _, _, _, _, h1 => h1.elim
  | n + 1, pc, L, S, h, h1 => by
    obtain ⟨ent, he, h1⟩ := h1
    rcases axOne_up hE h1 with ⟨r, hq⟩ | ⟨pc', L', S', h', hk, a1, a2⟩
    · exact ⟨r, h, hq, Nat.le_refl _, Nat.le_refl _⟩
    · obtain ⟨r, h2, hq, b1, b2⟩ := axWn_up hE n pc' L' S' h' hk
      exact ⟨r, h2, hq, Nat.le_trans a1 b1, Nat.le_trans a2 b2⟩
theorem axF_spec : ∀ (cd : List axE) (pc : Nat) {ent : axE}, axF cd pc = some ent → ent ∈ cd ∧ ent.1 = pc
  | [], pc, ent, h => by cases h
  | a :: r, pc, ent, h => by
    unfold axF at h
    cases hq : Nat.beq a.1 pc with
    | true =>
      rw [hq] at h
      have h := Option.some.inj h
      subst h
      exact ⟨List.mem_cons_self, Nat.eq_of_beq_eq_true hq⟩
    | false =>
      rw [hq] at h
      have z := axF_spec r pc h
      exact ⟨List.mem_cons_of_mem _ z.1, z.2⟩
theorem axWn_sound (F : axFx p s m args meth c b rb ca D ro cc nL o) (hn : s.heap.size = b + n0) (hini : ini = true → meth.name = "<init>") (hE : axHE E l dd b rb ca D ro) (hR : dd + 1 ≤ R.frames ∧ 32 * (dd + 1) ≤ R.locals)
    (hri : ∀ (pc : Nat) (H : Heap) (locs : List Loc) (h : axH) (ls : Array Slot) (x : Int32), (∃ q ∈ cd, q.2.1 = 49) → decode cc pc = .ok (.ireturn, 1) → narrow (axEt rt) (.int x) = .int x → Q (some (.int x)) h → n0 ≤ h.length → s0 ≤ axSl h → axInv b rb ca D s h H locs → W p l e R s m args below meth c H locs (h.length - n0) (axSl h - s0) QQ (F0 m pc ls [.int x]))
    (hrv : ∀ (pc : Nat) (H : Heap) (locs : List Loc) (h : axH) (ls : Array Slot), (∃ q ∈ cd, q.2.1 = 50) → decode cc pc = .ok (.return_, 1) → Q none h → n0 ≤ h.length → s0 ≤ axSl h → axInv b rb ca D s h H locs → W p l e R s m args below meth c H locs (h.length - n0) (axSl h - s0) QQ (F0 m pc ls []))
    (hra : ∀ (pc : Nat) (H : Heap) (locs : List Loc) (h : axH) (ls : Array Slot) (k : Nat), (∃ q ∈ cd, q.2.1 = 51) → decode cc pc = .ok (.areturn, 1) → Q (some (.ref k)) h → n0 ≤ h.length → s0 ≤ axSl h → axInv b rb ca D s h H locs → W p l e R s m args below meth c H locs (h.length - n0) (axSl h - s0) QQ (F0 m pc ls [.ref (b + k)]))
    (hQ : ∀ r h', Q r h' → h'.length - n0 ≤ R.cells ∧ axSl h' - s0 ≤ R.slots) (hck : axCk o ini rt cc cd = true) : ∀ (n pc : Nat) (L : axL) (S : List Value) (h : axH), axWn ro E cd n pc L S h Q → axWW p l e R s m args below meth c b rb ca D QQ nL n0 s0 pc L S h
  | 0, _, _, _, _, h1 => h1.elim
  | n + 1, pc, L, S, h, h1 => by
    obtain ⟨ent, he, h1⟩ := h1
    obtain ⟨hmem, hpc⟩ := axF_spec cd pc he
    have hz := List.all_eq_true.mp hck ent hmem
    rw [hpc] at hz
    split at hz
    · rename_i ins len hd
      have ht := axEqO_ok hz
      refine sx_all F hn hini hE hR hri hrv hra (fun pc' L' S' h' hk => ?_) hmem ins hd ht h1 (fun pc' L' S' h' hk => axWn_sound F hn hini hE hR hri hrv hra hQ hck n pc' L' S' h' hk)
      obtain ⟨r, h2, hq, b1, b2⟩ := axWn_up (fun z vs h r h1 q => (hE z vs h r h1 q).1) n pc' L' S' h' hk
      have := hQ r h2 hq
      exact ⟨by omega, by omega⟩
    · cases hz
end AX10
def axOkA : List Value → Bool
  | [] => true
  | .double _ :: _ => false
  | _ :: l => axOkA l
/-- METHOD z, CALLED WITH vs OVER h, comes with the answer r to the heap h1: calls at most d deep -/
def axEv (ro : axRo) : Nat → axCall
  | 0 => fun _ _ _ _ _ => False
  | d + 1 => fun z vs h r h1 => ∃ M, axMs[z]? = some M ∧ axOkA vs = true ∧ axSz vs ≤ M.2.2.1 ∧ axW ro (axEv ro d) M.2.2.2.2.2.2 0 (axIn vs M.2.2.1) [] h (fun r' h' => r' = r ∧ h' = h1)
theorem axIn_len : ∀ (vs : List Value) (n : Nat), axSz vs ≤ n → (axIn vs n).length = n
  | [], n, _ => by simp [axIn]
  | v :: l, n, h => by
    have hc : v.category + axSz l ≤ n := h
    cases v with
    | long x =>
      have hc : 2 + axSz l ≤ n := hc
      show (some (.long x) :: none :: axIn l (n - 2)).length = n
      rw [List.length_cons, List.length_cons, axIn_len l (n - 2) (by omega)]
      omega
    | double x =>
      have hc : 2 + axSz l ≤ n := hc
      show (some (.double x) :: axIn l (n - 1)).length = n
      rw [List.length_cons, axIn_len l (n - 1) (by omega)]
      omega
    | _ =>
      have hc : 1 + axSz l ≤ n := hc
      show (some _ :: axIn l (n - 1)).length = n
      rw [List.length_cons, axIn_len l (n - 1) (by omega)]
      omega
theorem axIn_mem {b : Nat} {rb : Nat → Nat} : ∀ (vs : List Value) (n k : Nat) (q : Nat × Value), axOkA vs = true → q ∈ axEn b rb k (axIn vs n) → q ∈ lv_args k (vs.map (axCv b rb))
  | [], n, k, q, _, h => by
    have : ∀ (n k : Nat), axEn b rb k (List.replicate n none) = [] := by
      intro n
      induction n with
      | zero => intro k; rfl
      | succ n ih => intro k; rw [List.replicate_succ]; exact ih (k + 1)
    rw [show axIn [] n = List.replicate n none from rfl, this] at h
    cases h
  | v :: l, n, k, q, ho, h => by
    have one : ∀ (w : Value), axCv b rb v = w → w.category = 1 → axOkA l = true → q ∈ (k, w) :: axEn b rb (k + 1) (axIn l (n - 1)) → q ∈ lv_args k ((v :: l).map (axCv b rb)) := by
      intro w hw hc hol hq
      show q ∈ (k, axCv b rb v) :: lv_args (if (axCv b rb v).category = 2 then k + 2 else k + 1) (l.map (axCv b rb))
      rw [hw, if_neg (by omega)]
      rcases List.mem_cons.mp hq with z | z
      · exact List.mem_cons.mpr (Or.inl z)
      · exact List.mem_cons_of_mem _ (axIn_mem l (n - 1) (k + 1) q hol z)
    cases v with
    | double x => cases ho
    | long x =>
      show q ∈ (k, .long x) :: lv_args (k + 2) (l.map (axCv b rb))
      have h : q ∈ (k, Value.long x) :: axEn b rb (k + 2) (axIn l (n - 2)) := h
      rcases List.mem_cons.mp h with z | z
      · exact List.mem_cons.mpr (Or.inl z)
      · exact List.mem_cons_of_mem _ (axIn_mem l (n - 2) (k + 2) q ho z)
    | _ => exact one _ rfl rfl ho h
theorem axSz_sl {b : Nat} {rb : Nat → Nat} : ∀ (vs : List Value), (lg_sl (vs.map (axCv b rb))).length = axSz vs
  | [] => rfl
  | v :: l => by
    have ih := axSz_sl (b := b) (rb := rb) l
    unfold lg_sl at *
    rw [List.map_cons, List.flatMap_cons, List.length_append, ih, axCv_cat]
    show _ = v.category + axSz l
    rcases lv_cat v with z | z <;> simp [z]
def axRetOk (M : axM) : Bool := M.2.2.2.2.2.2.all fun e => match e.2.1 with
  | 49 => match M.2.2.2.1 with
    | some .int => true
    | some .char => true
    | some .boolean => true
    | _ => false
  | 50 => match M.2.2.2.1 with
    | none => true
    | _ => false
  | 51 => match M.2.2.2.1 with
    | some (.object _) => true
    | _ => false
  | _ => true
set_option maxRecDepth 100000 in
theorem axRetAll : axMs.all axRetOk = true := by decide +kernel
theorem axRk_ok {r : Option FieldType} (h : (match r with | some .int => true | some .char => true | some .boolean => true | _ => false) = true) : r = some (axEt (axRk r)) := by
  split at h <;> first | rfl | cases h
theorem axEv_HE (l : Launch) (b : Nat) (rb : Nat → Nat) (ca : Nat → ClassId) (D : va_G) (ro : axRo) : ∀ dd, axHE (axEv ro dd) l dd b rb ca D ro
  | 0 => fun _ _ _ _ _ h => h.elim
  | dd + 1 => by
    intro z vs h r h1 hEv
    have hE := axEv_HE l b rb ca D ro dd
    obtain ⟨M, hM, hok, hsz, n, hn⟩ := hEv
    obtain ⟨r', h', ⟨rfl, rfl⟩, u1, u2⟩ := axWn_up (fun z vs h r h1 q => (hE z vs h r h1 q).1) n _ _ _ _ hn
    refine ⟨⟨u1, u2⟩, fun M' hM' => ?_⟩
    have hMM : M = M' := Option.some.inj (hM.symm.trans hM')
    subst hMM
    have hmem := List.mem_of_getElem? hM
    obtain ⟨G1, G2, G3, G4, G5, G6, G7, G8⟩ := axMs_ok M hmem
    have hret := List.all_eq_true.mp (List.all_eq_true.mp axRetAll M hmem)
    refine Met.ofW (cc := M.2.1) (maxL := M.2.2.1) (ret := M.2.2.2.1) G5 rfl ?_
    intro p e s m args below meth c s₁ B hml hv
    obtain ⟨rfl, hRep⟩ := hv
    have hr := B.returns
    have hts := atoms_spec (ws := axWM M) B.pre
    have hown : s.vm.findClass M.1.cls = some m.cls := findClass_of_methodNamed B.named
    have hlocks := B.notSynchronized
    have hname : meth.name = M.1.name := (name_of_methodNamed B.named B.method).1
    obtain ⟨R1, R2, R3, R4⟩ := hRep
    have F : axFx p s m (vs.map (axCv b rb)).toArray meth c b rb ca D ro M.2.1 M.2.2.1 M.2.2.2.2.1 := ⟨B.exec, B.bytes, hml, by rw [G3]; exact hown, fun w hw => hts w (List.mem_cons_of_mem _ hw), R3, R4, by omega⟩
    have hl := lv_entry (vs.map (axCv b rb)) (n := M.2.2.1) (by rw [axSz_sl]; exact hsz)
    rw [lg_entry_eq]
    generalize (lg_sl (vs.map (axCv b rb)) ++ List.replicate (M.2.2.1 - (lg_sl (vs.map (axCv b rb))).length) Slot.unset).toArray = ls at hl ⊢
    have hL : axLr b rb (axIn vs M.2.2.1) ls M.2.2.1 := ⟨axIn_len vs _ hsz, hl.1, hl.2.1, fun q hq => hl.2.2 q (axIn_mem vs _ 0 q hok hq)⟩
    have hq : ∀ (H : Heap) (locs : List Loc), axInv b rb ca D s h' H locs → ∀ t : State, t.heap = H → s.WarmedH t.vm → axQc b rb ca D ro r' h' (vs.map (axCv b rb)).toArray s (.returned (r'.map (axCv b rb))) t := fun H locs hI t ht hW => ⟨rfl, axRep_at hW ht R3 (by omega) R4 hI, hI.2.2.F ht⟩
    have hf : ∀ (H : Heap) (locs : List Loc), axInv b rb ca D s h' H locs → ∀ q ∈ locs, b ≤ q.base := fun H locs hI q hq => hI.2.2.2.2 q hq
    have key := axWn_sound (QQ := MQ below (axQc b rb ca D ro r' h') (vs.map (axCv b rb)).toArray s (h'.length - h.length) (axSl h' - axSl h) (fun q : Nat => b ≤ q)) (l := l) (R := axRm (dd + 1) (h'.length - h.length) (axSl h' - axSl h)) (e := e) (below := below) (n0 := h.length) (s0 := axSl h) (ini := M.2.2.2.2.2.1) (rt := axRk M.2.2.2.1) (cd := M.2.2.2.2.2.2) (Q := fun r1 h1 => r1 = r' ∧ h1 = h') F R1 (fun q => by rw [hname]; exact G8 q) hE ⟨Nat.le_refl _, Nat.le_refl _⟩ ?_ ?_ ?_ ?_ G7 n 0 (axIn vs M.2.2.1) [] h hn (Nat.le_refl _) (Nat.le_refl _) s.heap [] ls ⟨R1, R2, va_S.rf⟩ hL
    · rw [Nat.sub_self, Nat.sub_self] at key
      exact key
    · intro pc H locs h0 ls x hx hd hnar hq1 _ _ hI
      obtain ⟨e1, rfl⟩ := hq1
      subst e1
      obtain ⟨q, hq0, hq1⟩ := hx
      have hz := hret q hq0
      rw [hq1] at hz
      exact W.zret (ty := axEt (axRk M.2.2.2.1)) B.exec B.bytes (hr.trans (axRk_ok hz)) hnar (hq H locs hI) (hf H locs hI) hd hlocks
    · intro pc H locs h0 ls hx hd hq1 _ _ hI
      obtain ⟨e1, rfl⟩ := hq1
      subst e1
      obtain ⟨q, hq0, hq1⟩ := hx
      have hz := hret q hq0
      rw [hq1] at hz
      have hnone : M.2.2.2.1 = none := by
        cases hmr : M.2.2.2.1 with
        | none => rfl
        | some t => simp only [hmr] at hz; cases hz
      exact W.vret B.exec B.bytes (hr.trans hnone) (hq H locs hI) (hf H locs hI) hd hlocks
    · intro pc H locs h0 ls k hx hd hq1 _ _ hI
      obtain ⟨e1, rfl⟩ := hq1
      subst e1
      obtain ⟨q, hq0, hq1⟩ := hx
      have hz := hret q hq0
      rw [hq1] at hz
      have hobj : ∃ n, M.2.2.2.1 = some (.object n) := by
        cases hmr : M.2.2.2.1 with
        | none => simp only [hmr] at hz; cases hz
        | some t => cases t <;> simp only [hmr] at hz <;> first | exact ⟨_, rfl⟩ | cases hz
      obtain ⟨n1, hobj⟩ := hobj
      exact W.aret B.exec B.bytes (hr.trans hobj) (Or.inl ⟨_, rfl⟩) (Or.inr ⟨_, rfl⟩) (hq H locs hI) (hf H locs hI) hd hlocks
    · intro r1 h2 hq1
      rw [hq1.2]
      exact ⟨Nat.le_refl _, Nat.le_refl _⟩
end
section
/-! THE CLAIM OUT OF ONE WALK OF THE LAW'S BODY. Your part is whole_start (and what it stands on); all else here is the same for every law, but numbers. -/
def R_law : String := "BeatSlugsLaw"
def lw_P (b : Addr) (xs : List Int32) (args : Array Value) (s : State) : Prop := args = #[.ref b] ∧ s.IntsAt b xs ∧ xs.length ≤ 2048 ∧ (Jvm.Cond.and given_1 narrow_1).before args s = true
def lw_Q (_ : Array Value) (s : State) (o : Outcome) (t : State) : Prop := o = .returned (some (.int 1)) ∧ Framed s o t [] 600000 7302250
def lw_Z (below : List Frame) (a : Array Value) (s : State) : State → Prop := fun t => ∃ o, t.status = .running ∧ Ended t below o ∧ lw_Q a s o t
/-- the law's own end, with 1 on the stack, nothing written that was there before, its room as the claim has it -/
theorem lw_ret {p : Program} {l : Launch} {e : Env} {s : State} {m : MethodId} {below : List Frame} {meth : Method} {c : Code} {b : Nat} (hx : p.tables.exec = Jvm.exec) (hb : c.code = code) (hr : meth.sig.returnType = ret) (hlocks : meth.locks = false) {pc : Nat} {H : Heap} {ls : Array Slot} (hdg : decode code pc = .ok (.ireturn, 1)) : W p l e room_1 s m #[Value.ref b] below meth c H [] 600000 7302250 (lw_Z below #[Value.ref b] s) (F0 m pc ls [.int 1]) := by
  intro T hT X
  obtain ⟨fs, hret, hrun, hended, hW, hframe⟩ := X.leave (v := some (.int 1)) (hlocks := hlocks) (fun h => by rw [hr] at h; cases h)
  have hmeth' : T.vm.method? m = some meth := X.method'
  refine ⟨T.setFrames fs, ?_, .returned (some (.int 1)), hrun, hended, rfl, ⟨_, rfl⟩, hW, hframe⟩
  jvm_step X.here [X.here.top, hx, hb, hdg, hmeth', hr, ret, narrow_b1]
  (try refine ⟨rfl, ?_⟩); (try refine ⟨rfl, ?_⟩)
  first | (intro acts; rw [hret _ acts rfl rfl rfl]) | rw [hret _ _ rfl rfl rfl]
  exact Steps.refl _
/-- what holds at the law's entry: the machine, the code, the tables' words (any of lw_tbl by 'hts w (by decide +kernel)'), the script of L ints xs at the cell b, what the Statement gives of the start (any of its parts by flat_of_before) -/
def lw_At (p : Program) (s : State) (m : MethodId) (meth : Method) (c : Code) (b L : Nat) (xs : Nat → Int32) : Prop :=
  p.tables.exec = Jvm.exec ∧ c.code = code ∧ meth.sig.returnType = ret ∧ c.maxLocals = 4 ∧ s.vm.findClass R_law = some m.cls ∧ (∀ w ∈ lw_tbl, w.before #[Value.ref b] s = true) ∧ va_X b L xs s s.heap ∧ b < s.heap.size ∧ meth.locks = false ∧ (Jvm.Cond.and given_1 narrow_1).before #[Value.ref b] s = true
/-- the arrays that nobody writes: the script, LEAST_SETTING, MOST_SETTING -/
def axRoL (L : Nat) (xs : Nat → Int32) : axRo := fun i => match i with
  | 0 => (L, xs)
  | 1 => (3, fun j => if j = 0 then 4 else 0)
  | _ => (3, fun j => if j = 0 then 60 else if j = 1 then 20 else 90)
theorem axArr {s : State} {args : Array Value} {ty : FieldType} (hno : ∀ C, ty ≠ .object C) (h : (Cond.arrayClass ty).before args s = true) : ∃ cA, ArrOfT s cA ty ∧ va_RA s cA ty := by
  obtain ⟨cA, kA, comp, h1, h2, h3⟩ := Cond.arrayClass_spec h
  refine ⟨cA, fun n z => ⟨fun k h => (by cases h), kA, h2, comp, h3⟩, ?_⟩
  cases ty with
  | object C => exact absurd rfl (hno C)
  | _ => exact h1
theorem axStat3 {s : State} {args : Array Value} {n : String} {A : Nat → Prop} {f : Nat → Int32} (hl : (Cond.laysStatic "BeatSlugs" n "[I").before args s = true) (hi : (Cond.initialized "BeatSlugs").before args s = true) (ha : (Cond.arrayOf (.static "BeatSlugs" n "[I") .int).before args s = true) (hlen : (Cond.eq (.length (.static "BeatSlugs" n "[I")) (.int 3)).before args s = true)
    (h0 : (Cond.eq (.elem (.static "BeatSlugs" n "[I") (.int 0)) (.int (f 0))).before args s = true) (h1 : (Cond.eq (.elem (.static "BeatSlugs" n "[I") (.int 1)) (.int (f 1))).before args s = true) (h2 : (Cond.eq (.elem (.static "BeatSlugs" n "[I") (.int 2)) (.int (f 2))).before args s = true) (hA : ∀ a : Nat, a < s.heap.size → ¬ A a) :
    ∃ t : Nat, va_Z "BeatSlugs" n "[I" (.ref t) A s s.heap ∧ va_T .int t 3 (fun j => .int (f j)) A s s.heap := by
  obtain ⟨t, ht, hT⟩ := va_Tof (N := 3) (f := fun j => .int (f j)) (by omega) ha (va_eqt hlen) (fun j hj => by
    rcases (show j = 0 ∨ j = 1 ∨ j = 2 by omega) with rfl | rfl | rfl
    · exact va_eqt h0
    · exact va_eqt h1
    · exact va_eqt h2) hA
  exact ⟨t, va_Zref hl hi ht hA, hT⟩
set_option maxHeartbeats 4000000 in
/-- the law's walk, out of what the abstract machine computes of its body -/
theorem ax_law {p : Program} {e : Env} {s : State} {m : MethodId} {below : List Frame} {meth : Method} {c : Code} (l : Launch) {b L : Nat} {xs : Nat → Int32} (hL2 : L ≤ 2048) (C0 : lw_At p s m meth c b L xs)
    (hlaw : axW (axRoL L xs) (axEv (axRoL L xs) 10) cdL_law 0 [some (.retAddr 0), none, none, none] [] [] (fun r h => r = some (.int 1) ∧ h.length ≤ 600000 ∧ axSl h ≤ 7302250)) : W p l e room_1 s m #[Value.ref b] below meth c s.heap [] 0 0 (lw_Z below #[Value.ref b] s) (entryFrame m ([Value.ref b] : List Value).toArray 4) := by
  obtain ⟨hx, hb, hr, hml, hown, hts, hX, hbl, hlocks, hgv⟩ := id C0
  have hA : ∀ a : Nat, a < s.heap.size → ¬ (fun q : Nat => s.heap.size ≤ q) a := fun a h => Nat.not_le.mpr h
  have hfl := flat_of_before _ hgv
  obtain ⟨t1, Z1, T1⟩ := axStat3 (n := "LEAST_SETTING") (f := fun j => if j = 0 then 4 else 0) (hts _ axW_lsLEAST) (hts _ axW_ini4) (hfl _ (by decide +kernel)) (hfl _ (by decide +kernel)) (hfl _ (by decide +kernel)) (hfl _ (by decide +kernel)) (hfl _ (by decide +kernel)) hA
  obtain ⟨t2, Z2, T2⟩ := axStat3 (n := "MOST_SETTING") (f := fun j => if j = 0 then 60 else if j = 1 then 20 else 90) (hts _ axW_lsMOST) (hts _ axW_ini4) (hfl _ (by decide +kernel)) (hfl _ (by decide +kernel)) (hfl _ (by decide +kernel)) (hfl _ (by decide +kernel)) (hfl _ (by decide +kernel)) hA
  obtain ⟨c0, A0, B0⟩ := axArr (ty := .int) (fun C h => by cases h) (hts _ axW_ari)
  obtain ⟨c1, A1, B1⟩ := axArr (ty := .char) (fun C h => by cases h) (hts _ axW_arc)
  obtain ⟨c2, A2, B2⟩ := axArr (ty := .boolean) (fun C h => by cases h) (hts _ axW_arz)
  obtain ⟨comp, c3, k3, f1, f2, f3, f4, f5⟩ := Cond.arrayOver_spec (hts _ axW_ao)
  have hcls : ∀ k : Nat, ∃ q : ClassId × (Nat → Nat), k < 6 → u_Kn s (axCn k) (axT k) (axNf k) q.1 q.2 := by
    intro k
    by_cases hk : k < 6
    · obtain ⟨cC, iS, h⟩ := u_known (C := axCn k) (T := axT k) (N := axNf k) (ws := lw_tbl) (args := #[Value.ref b]) hts (fun w hw => (List.mem_filter.mp (axLay k hk w hw)).1) (hts _ (List.mem_filter.mp (axInsOk k hk)).1)
      exact ⟨(cC, iS), fun _ => h⟩
    · exact ⟨(0, fun _ => 0), fun h => absurd h hk⟩
  obtain ⟨D, hD⟩ : ∃ D : va_G, ∀ k, k < 6 → u_Kn s (axCn k) (axT k) (axNf k) (D.1 k) (D.2 k) := ⟨(fun k => (Classical.choose (hcls k)).1, fun k => (Classical.choose (hcls k)).2), fun k hk => Classical.choose_spec (hcls k) hk⟩
  let ca : Nat → ClassId := fun k => match k with
    | 0 => c0
    | 1 => c1
    | 2 => c2
    | _ => c3
  let rb : Nat → Nat := fun k => match k with
    | 0 => b
    | 1 => t1
    | _ => t2
  have hK : va_K D axCl (axTys ca) s := by
    refine ⟨fun k q hq => ?_, fun k q hq => ?_⟩
    · have hk := axCl_lt hq
      have := axClOk k hk
      rw [this] at hq
      cases hq
      exact hD k hk
    · match k, hq with
      | 0, hq => cases hq; exact ⟨A0, B0⟩
      | 1, hq => cases hq; exact ⟨A1, B1⟩
      | 2, hq => cases hq; exact ⟨A2, B2⟩
      | 3, hq => cases hq; exact ⟨fun n z => ⟨fun k h => (by cases h), k3, f3, comp, f4⟩, k3, comp, f3, f4, f1, f5⟩
      | k + 4, hq => simp [axTys] at hq
  have hSt : axSt s.heap.size rb (axRoL L xs) s s.heap := by
    refine ⟨fun i hi => ?_, Z1, Z2, fun w hw hn => ?_, va_AO.of (hts _ axW_ao)⟩
    · rcases (show i = 0 ∨ i = 1 ∨ i = 2 by omega) with rfl | rfl | rfl
      · refine ⟨hbl, ?_⟩
        obtain ⟨scr, q1, q2, q3, q4, q5⟩ := hX
        exact ⟨scr, q1, q2, q3, by rw [q4]; exact Nat.le_refl _, by rw [q4]; rfl, q5, Nat.not_le.mpr hbl⟩
      · have hT := T1
        obtain ⟨cell, q1, q2⟩ := T1
        exact ⟨(Array.getElem?_eq_some_iff.mp q1).1, hT⟩
      · have hT := T2
        obtain ⟨cell, q1, q2⟩ := T2
        exact ⟨(Array.getElem?_eq_some_iff.mp q1).1, hT⟩
    · have hon : w.onTables = true := by cases w <;> first | rfl | cases hn
      exact va_Nw.of hon (hts w hw)
  have F : axFx p s m #[Value.ref b] meth c s.heap.size rb ca D (axRoL L xs) code 4 6 := ⟨hx, hb, hml, hown, fun w hw => hts w (List.mem_filter.mp hw).1, hK, hSt, Nat.le_refl _⟩
  have hl := lv_entry ([.ref b]) (n := 4) (Nat.le_of_ble_eq_true rfl)
  rw [lg_entry_eq]
  generalize (lg_sl ([.ref b]) ++ List.replicate (4 - (lg_sl ([.ref b])).length) Slot.unset).toArray = ls at hl ⊢
  have hLr : axLr s.heap.size rb [some (.retAddr 0), none, none, none] ls 4 := ⟨rfl, hl⟩
  obtain ⟨n, hn⟩ := hlaw
  have key := axWn_sound (QQ := lw_Z below #[Value.ref b] s) (l := l) (R := room_1) (e := e) (below := below) (n0 := 0) (s0 := 0) (ini := false) (rt := 2) (cd := cdL_law) (dd := 10) (Q := fun r h => r = some (.int 1) ∧ h.length ≤ 600000 ∧ axSl h ≤ 7302250) F (by omega) (fun h => by cases h) (axEv_HE l s.heap.size rb ca D (axRoL L xs) 10) ⟨by decide, by decide⟩ ?_ ?_ ?_ ?_ ckL_law n 0 [some (.retAddr 0), none, none, none] [] [] hn (Nat.le_refl _) (Nat.le_refl _) s.heap [] ls ⟨by simp, fun k q h => by simp [axWs] at h, va_S.rf⟩ hLr
  · exact key
  · intro pc H locs h0 ls x _ hd _ hq _ _ hI
    obtain ⟨e1, e2, e3⟩ := hq
    cases e1
    refine va_forget (fun q hq => hI.2.2.2.2 q hq) ?_
    refine W.widen (k := 600000) (n := 7302250) (by omega) (by omega) ?_
    exact lw_ret hx hb hr hlocks hd
  · intro pc H locs h0 ls _ hd hq _ _ hI
    cases hq.1
  · intro pc H locs h0 ls k _ hd hq _ _ hI
    cases hq.1
  · intro r h' hq
    exact ⟨Nat.le_trans (Nat.sub_le _ _) hq.2.1, Nat.le_trans (Nat.sub_le _ _) hq.2.2⟩
end
section
/-! RULES of the abstract machine, for proofs: a run of simple steps at once (wp_run), then an instruction a rule. -/
def axS1 (cd : List axE) (pc : Nat) (L : axL) (S : List Value) (h : axH) : Option (Nat × axL × List Value) :=
  match axF cd pc with
  | some (_, op, a, b, c, _, nx) =>
    bif Nat.blt op 32 then
      match axStp op a b L S with
      | some (L', S') => some (nx, L', S')
      | none => none
    else match op with
      | 36 => match S with
        | .ref k :: S' => match h[k]? with
          | some (.inr (.inr (b', fs))) => bif Nat.beq b' b then
              match fs[c]? with
              | some v => some (nx, L, v :: S')
              | none => none
            else none
          | _ => none
        | _ => none
      | 38 => some (nx, L, .retAddr b :: S)
      | 39 => match S with
        | .ref k :: S' => match h[k]? with
          | some (.inl (ki, n, _)) => bif Nat.blt ki 3 then some (nx, L, .int (Int32.ofNat n) :: S') else none
          | some (.inr (.inl (n, _))) => some (nx, L, .int (Int32.ofNat n) :: S')
          | _ => none
        | _ => none
      | _ => none
  | none => none
/-- as many of these steps as there are, f at most -/
def axRn (cd : List axE) (h : axH) : Nat → Nat → axL → List Value → Nat × axL × List Value
  | 0, pc, L, S => (pc, L, S)
  | f + 1, pc, L, S => match axS1 cd pc L S h with
    | some (pc', L', S') => axRn cd h f pc' L' S'
    | none => (pc, L, S)
section AX12
variable {ro : axRo} {E : axCall} {cd : List axE} {pc : Nat} {L : axL} {S : List Value} {h h1 : axH} {Q : Option Value → axH → Prop} {p0 b c nx : Nat} {a : Value} {tb : List (Int32 × Nat)}
theorem wp_one {e : axE} (hf : axF cd pc = some e) (h1 : ∃ n, axOne ro E e L S h (fun pc' L' S' h' => axWn ro E cd n pc' L' S' h' Q) Q) : axW ro E cd pc L S h Q := by
  obtain ⟨n, h1⟩ := h1
  exact ⟨n + 1, e, hf, h1⟩
theorem axOne_simple {op : Nat} (h32 : op < 32) {K : Nat → axL → List Value → axH → Prop} {q : axL × List Value} (hq : axStp op a b L S = some q) (hk : K nx q.1 q.2 h) : axOne ro E (p0, op, a, b, c, tb, nx) L S h K Q := by
  dsimp only [axOne]
  split <;> first | (exfalso; omega) | exact ⟨q, hq, hk⟩
theorem axS1_ok {q : Nat × axL × List Value} (hs : axS1 cd pc L S h = some q) (k : axW ro E cd q.1 q.2.1 q.2.2 h Q) : axW ro E cd pc L S h Q := by
  obtain ⟨n, k⟩ := k
  unfold axS1 at hs
  cases hf : axF cd pc with
  | none => rw [hf] at hs; cases hs
  | some e =>
    obtain ⟨p0, op, a, b, c, tb, nx⟩ := e
    rw [hf] at hs
    dsimp only at hs
    refine wp_one hf ⟨n, ?_⟩
    cases h32 : Nat.blt op 32 with
    | true =>
      rw [h32, cond_true] at hs
      split at hs
      · rename_i L' S' hst
        cases hs
        exact axOne_simple (Nat.le_of_ble_eq_true h32) hst k
      · cases hs
    | false =>
      rw [h32, cond_false] at hs
      split at hs
      · split at hs
        · rename_i k0 S'
          split at hs
          · rename_i b' fs hh
            cases hb : Nat.beq b' b with
            | false => rw [hb] at hs; cases hs
            | true =>
              rw [hb, cond_true] at hs
              have e := Nat.eq_of_beq_eq_true hb
              subst e
              split at hs
              · rename_i v hv
                cases hs
                exact ⟨k0, S', fs, v, rfl, hh, hv, k⟩
              · cases hs
          · cases hs
        · cases hs
      · cases hs
        exact k
      · split at hs
        · rename_i k0 S'
          split at hs
          · rename_i ki n f hh
            cases hb : Nat.blt ki 3 with
            | false => rw [hb] at hs; cases hs
            | true =>
              rw [hb, cond_true] at hs
              cases hs
              exact Or.inl ⟨k0, S', ki, n, f, rfl, hh, Nat.le_of_ble_eq_true hb, k⟩
          · rename_i n f hh
            cases hs
            exact Or.inr (Or.inl ⟨k0, S', n, f, rfl, hh, k⟩)
          · cases hs
        · cases hs
      · cases hs
theorem axRn_ok : ∀ (f pc : Nat) (L : axL) (S : List Value), axW ro E cd (axRn cd h f pc L S).1 (axRn cd h f pc L S).2.1 (axRn cd h f pc L S).2.2 h Q → axW ro E cd pc L S h Q
  | 0, pc, L, S, k => k
  | f + 1, pc, L, S, k => by
    unfold axRn at k
    cases hs : axS1 cd pc L S h with
    | none => rw [hs] at k; exact k
    | some q =>
      obtain ⟨pc', L', S'⟩ := q
      rw [hs] at k
      exact axS1_ok hs (axRn_ok f pc' L' S' k)
theorem wp_run {pc' : Nat} {L' : axL} {S' : List Value} (hr : axRn cd h 40 pc L S = (pc', L', S')) (k : axW ro E cd pc' L' S' h Q) : axW ro E cd pc L S h Q := axRn_ok 40 pc L S (by rw [hr]; exact k)
theorem wp_iceq {x y : Int32} (hf : axF cd pc = some (p0, 32, a, 0, c, tb, nx)) (ht : x = y → axW ro E cd c L S h Q) (hn : ¬ (x = y) → axW ro E cd nx L S h Q) : axW ro E cd pc L (.int y :: .int x :: S) h Q := by
  by_cases q : x = y
  · obtain ⟨n, k⟩ := ht q
    exact wp_one hf ⟨n, ⟨x, y, S, rfl, fun _ => k, fun z => absurd q z⟩⟩
  · obtain ⟨n, k⟩ := hn q
    exact wp_one hf ⟨n, ⟨x, y, S, rfl, fun z => absurd z q, fun _ => k⟩⟩
theorem wp_ifeq {x : Int32} (hf : axF cd pc = some (p0, 33, a, 0, c, tb, nx)) (ht : x = 0 → axW ro E cd c L S h Q) (hn : ¬ (x = 0) → axW ro E cd nx L S h Q) : axW ro E cd pc L (.int x :: S) h Q := by
  by_cases q : x = 0
  · obtain ⟨n, k⟩ := ht q
    exact wp_one hf ⟨n, ⟨x, S, rfl, fun _ => k, fun z => absurd q z⟩⟩
  · obtain ⟨n, k⟩ := hn q
    exact wp_one hf ⟨n, ⟨x, S, rfl, fun z => absurd z q, fun _ => k⟩⟩
theorem wp_icne {x y : Int32} (hf : axF cd pc = some (p0, 32, a, 1, c, tb, nx)) (ht : ¬ x = y → axW ro E cd c L S h Q) (hn : ¬ (¬ x = y) → axW ro E cd nx L S h Q) : axW ro E cd pc L (.int y :: .int x :: S) h Q := by
  by_cases q : ¬ x = y
  · obtain ⟨n, k⟩ := ht q
    exact wp_one hf ⟨n, ⟨x, y, S, rfl, fun _ => k, fun z => absurd q z⟩⟩
  · obtain ⟨n, k⟩ := hn q
    exact wp_one hf ⟨n, ⟨x, y, S, rfl, fun z => absurd z q, fun _ => k⟩⟩
theorem wp_ifne {x : Int32} (hf : axF cd pc = some (p0, 33, a, 1, c, tb, nx)) (ht : ¬ x = 0 → axW ro E cd c L S h Q) (hn : ¬ (¬ x = 0) → axW ro E cd nx L S h Q) : axW ro E cd pc L (.int x :: S) h Q := by
  by_cases q : ¬ x = 0
  · obtain ⟨n, k⟩ := ht q
    exact wp_one hf ⟨n, ⟨x, S, rfl, fun _ => k, fun z => absurd q z⟩⟩
  · obtain ⟨n, k⟩ := hn q
    exact wp_one hf ⟨n, ⟨x, S, rfl, fun z => absurd z q, fun _ => k⟩⟩
theorem wp_iclt {x y : Int32} (hf : axF cd pc = some (p0, 32, a, 2, c, tb, nx)) (ht : x < y → axW ro E cd c L S h Q) (hn : ¬ (x < y) → axW ro E cd nx L S h Q) : axW ro E cd pc L (.int y :: .int x :: S) h Q := by
  by_cases q : x < y
  · obtain ⟨n, k⟩ := ht q
    exact wp_one hf ⟨n, ⟨x, y, S, rfl, fun _ => k, fun z => absurd q z⟩⟩
  · obtain ⟨n, k⟩ := hn q
    exact wp_one hf ⟨n, ⟨x, y, S, rfl, fun z => absurd z q, fun _ => k⟩⟩
theorem wp_iflt {x : Int32} (hf : axF cd pc = some (p0, 33, a, 2, c, tb, nx)) (ht : x < 0 → axW ro E cd c L S h Q) (hn : ¬ (x < 0) → axW ro E cd nx L S h Q) : axW ro E cd pc L (.int x :: S) h Q := by
  by_cases q : x < 0
  · obtain ⟨n, k⟩ := ht q
    exact wp_one hf ⟨n, ⟨x, S, rfl, fun _ => k, fun z => absurd q z⟩⟩
  · obtain ⟨n, k⟩ := hn q
    exact wp_one hf ⟨n, ⟨x, S, rfl, fun z => absurd z q, fun _ => k⟩⟩
theorem wp_icge {x y : Int32} (hf : axF cd pc = some (p0, 32, a, 3, c, tb, nx)) (ht : y ≤ x → axW ro E cd c L S h Q) (hn : ¬ (y ≤ x) → axW ro E cd nx L S h Q) : axW ro E cd pc L (.int y :: .int x :: S) h Q := by
  by_cases q : y ≤ x
  · obtain ⟨n, k⟩ := ht q
    exact wp_one hf ⟨n, ⟨x, y, S, rfl, fun _ => k, fun z => absurd q z⟩⟩
  · obtain ⟨n, k⟩ := hn q
    exact wp_one hf ⟨n, ⟨x, y, S, rfl, fun z => absurd z q, fun _ => k⟩⟩
theorem wp_ifge {x : Int32} (hf : axF cd pc = some (p0, 33, a, 3, c, tb, nx)) (ht : 0 ≤ x → axW ro E cd c L S h Q) (hn : ¬ (0 ≤ x) → axW ro E cd nx L S h Q) : axW ro E cd pc L (.int x :: S) h Q := by
  by_cases q : 0 ≤ x
  · obtain ⟨n, k⟩ := ht q
    exact wp_one hf ⟨n, ⟨x, S, rfl, fun _ => k, fun z => absurd q z⟩⟩
  · obtain ⟨n, k⟩ := hn q
    exact wp_one hf ⟨n, ⟨x, S, rfl, fun z => absurd z q, fun _ => k⟩⟩
theorem wp_icgt {x y : Int32} (hf : axF cd pc = some (p0, 32, a, 4, c, tb, nx)) (ht : y < x → axW ro E cd c L S h Q) (hn : ¬ (y < x) → axW ro E cd nx L S h Q) : axW ro E cd pc L (.int y :: .int x :: S) h Q := by
  by_cases q : y < x
  · obtain ⟨n, k⟩ := ht q
    exact wp_one hf ⟨n, ⟨x, y, S, rfl, fun _ => k, fun z => absurd q z⟩⟩
  · obtain ⟨n, k⟩ := hn q
    exact wp_one hf ⟨n, ⟨x, y, S, rfl, fun z => absurd z q, fun _ => k⟩⟩
theorem wp_ifgt {x : Int32} (hf : axF cd pc = some (p0, 33, a, 4, c, tb, nx)) (ht : 0 < x → axW ro E cd c L S h Q) (hn : ¬ (0 < x) → axW ro E cd nx L S h Q) : axW ro E cd pc L (.int x :: S) h Q := by
  by_cases q : 0 < x
  · obtain ⟨n, k⟩ := ht q
    exact wp_one hf ⟨n, ⟨x, S, rfl, fun _ => k, fun z => absurd q z⟩⟩
  · obtain ⟨n, k⟩ := hn q
    exact wp_one hf ⟨n, ⟨x, S, rfl, fun z => absurd z q, fun _ => k⟩⟩
theorem wp_icle {x y : Int32} (hf : axF cd pc = some (p0, 32, a, 5, c, tb, nx)) (ht : x ≤ y → axW ro E cd c L S h Q) (hn : ¬ (x ≤ y) → axW ro E cd nx L S h Q) : axW ro E cd pc L (.int y :: .int x :: S) h Q := by
  by_cases q : x ≤ y
  · obtain ⟨n, k⟩ := ht q
    exact wp_one hf ⟨n, ⟨x, y, S, rfl, fun _ => k, fun z => absurd q z⟩⟩
  · obtain ⟨n, k⟩ := hn q
    exact wp_one hf ⟨n, ⟨x, y, S, rfl, fun z => absurd z q, fun _ => k⟩⟩
theorem wp_ifle {x : Int32} (hf : axF cd pc = some (p0, 33, a, 5, c, tb, nx)) (ht : x ≤ 0 → axW ro E cd c L S h Q) (hn : ¬ (x ≤ 0) → axW ro E cd nx L S h Q) : axW ro E cd pc L (.int x :: S) h Q := by
  by_cases q : x ≤ 0
  · obtain ⟨n, k⟩ := ht q
    exact wp_one hf ⟨n, ⟨x, S, rfl, fun _ => k, fun z => absurd q z⟩⟩
  · obtain ⟨n, k⟩ := hn q
    exact wp_one hf ⟨n, ⟨x, S, rfl, fun z => absurd z q, fun _ => k⟩⟩
theorem wp_nn {k : Nat} (hf : axF cd pc = some (p0, 34, a, b, c, tb, nx)) (ht : axW ro E cd c L S h Q) : axW ro E cd pc L (.ref k :: S) h Q := by
  obtain ⟨n, ht⟩ := ht
  exact wp_one hf ⟨n, Or.inl ⟨k, S, rfl, ht⟩⟩
theorem wp_nnN (hf : axF cd pc = some (p0, 34, a, b, c, tb, nx)) (ht : axW ro E cd nx L S h Q) : axW ro E cd pc L (.null :: S) h Q := by
  obtain ⟨n, ht⟩ := ht
  exact wp_one hf ⟨n, Or.inr ⟨S, rfl, ht⟩⟩
theorem wp_sw {x : Int32} (hf : axF cd pc = some (p0, 35, a, b, c, tb, nx)) (k : axW ro E cd (axSw tb c x) L S h Q) : axW ro E cd pc L (.int x :: S) h Q := by
  obtain ⟨n, k⟩ := k
  exact wp_one hf ⟨n, ⟨x, S, rfl, k⟩⟩
theorem wp_putf {v : Value} {k : Nat} {fs : List Value} (hf : axF cd pc = some (p0, 37, a, b, c, tb, nx)) (hh : h[k]? = some (.inr (.inr (b, fs)))) (hl : c < fs.length) (hv : axFit b c v) (hs : h.set k (.inr (.inr (b, fs.set c v))) = h1) (kk : axW ro E cd nx L S h1 Q) : axW ro E cd pc L (v :: .ref k :: S) h Q := by
  obtain ⟨n, kk⟩ := kk
  subst hs
  exact wp_one hf ⟨n, ⟨v, k, S, fs, rfl, hh, hl, hv, kk⟩⟩
theorem wp_putF {v : Value} {k : Nat} {fs : List Value} (hf : axF cd pc = some (p0, 60, a, b, c, tb, nx)) (hh : h[k]? = some (.inr (.inr (b, fs)))) (hl : c < fs.length) (hv : axFit b c v) (hs : h.set k (.inr (.inr (b, fs.set c v))) = h1) (kk : axW ro E cd nx L S h1 Q) : axW ro E cd pc L (v :: .ref k :: S) h Q := by
  obtain ⟨n, kk⟩ := kk
  subst hs
  exact wp_one hf ⟨n, ⟨v, k, S, fs, rfl, hh, hl, hv, kk⟩⟩
theorem wp_ald {i v : Int32} {k n0 : Nat} {f : Nat → Int32} (hf : axF cd pc = some (p0, 40, a, b, c, tb, nx)) (hh : h[k]? = some (.inl (b, n0, f))) (hi : vp_in i n0) (hv : f i.toNatClampNeg = v) (kk : axW ro E cd nx L (.int v :: S) h Q) : axW ro E cd pc L (.int i :: .ref k :: S) h Q := by
  obtain ⟨n, kk⟩ := kk
  subst hv
  exact wp_one hf ⟨n, Or.inl ⟨k, i, S, n0, f, rfl, hh, hi, kk⟩⟩
theorem wp_aldR {i v : Int32} {j : Nat} (hf : axF cd pc = some (p0, 40, a, 0, c, tb, nx)) (hj : j < 3) (hi : vp_in i (ro j).1) (hv : (ro j).2 i.toNatClampNeg = v) (kk : axW ro E cd nx L (.int v :: S) h Q) : axW ro E cd pc L (.int i :: .retAddr j :: S) h Q := by
  obtain ⟨n, kk⟩ := kk
  subst hv
  exact wp_one hf ⟨n, Or.inr ⟨rfl, j, i, S, rfl, hj, hi, kk⟩⟩
theorem wp_lenR {j : Nat} (hf : axF cd pc = some (p0, 39, a, b, c, tb, nx)) (hj : j < 3) (kk : axW ro E cd nx L (.int (Int32.ofNat (ro j).1) :: S) h Q) : axW ro E cd pc L (.retAddr j :: S) h Q := by
  obtain ⟨n, kk⟩ := kk
  exact wp_one hf ⟨n, Or.inr (Or.inr ⟨j, S, rfl, hj, kk⟩)⟩
theorem wp_aald {i : Int32} {k n0 : Nat} {f : Nat → Option Nat} {v : Value} (hf : axF cd pc = some (p0, 41, a, b, c, tb, nx)) (hh : h[k]? = some (.inr (.inl (n0, f)))) (hi : vp_in i n0) (hv : va_rf (f i.toNatClampNeg) = v) (kk : axW ro E cd nx L (v :: S) h Q) : axW ro E cd pc L (.int i :: .ref k :: S) h Q := by
  obtain ⟨n, kk⟩ := kk
  subst hv
  exact wp_one hf ⟨n, ⟨k, i, S, n0, f, rfl, hh, hi, kk⟩⟩
theorem wp_ast {i x : Int32} {k n0 : Nat} {f : Nat → Int32} (hf : axF cd pc = some (p0, 42, a, b, c, tb, nx)) (hh : h[k]? = some (.inl (b, n0, f))) (hi : vp_in i n0) (hx : vp_nar (axEt b) x = x) (hs : h.set k (.inl (b, n0, upd f i.toNatClampNeg x)) = h1) (kk : axW ro E cd nx L S h1 Q) : axW ro E cd pc L (.int x :: .int i :: .ref k :: S) h Q := by
  obtain ⟨n, kk⟩ := kk
  subst hs
  exact wp_one hf ⟨n, ⟨x, i, k, S, n0, f, rfl, hh, hi, hx, kk⟩⟩
theorem wp_aast {i : Int32} {k n0 v : Nat} {f : Nat → Option Nat} {fs : List Value} (hf : axF cd pc = some (p0, 43, a, b, c, tb, nx)) (hh : h[k]? = some (.inr (.inl (n0, f)))) (hv : h[v]? = some (.inr (.inr (0, fs)))) (hi : vp_in i n0) (hs : h.set k (.inr (.inl (n0, va_up f i.toNatClampNeg (some v)))) = h1) (kk : axW ro E cd nx L S h1 Q) : axW ro E cd pc L (.ref v :: .int i :: .ref k :: S) h Q := by
  obtain ⟨n, kk⟩ := kk
  subst hs
  exact wp_one hf ⟨n, ⟨v, i, k, S, n0, f, fs, rfl, hh, hv, hi, kk⟩⟩
theorem wp_newa {x : Int32} {N q : Nat} (hf : axF cd pc = some (p0, 44, a, b, c, tb, nx)) (h0 : ¬ x < 0) (hx : x.toNatClampNeg = N) (hN : N ≤ 65536) (hq : h.length = q) (hs : h ++ [.inl (b, N, fun _ => 0)] = h1) (kk : axW ro E cd nx L (.ref q :: S) h1 Q) : axW ro E cd pc L (.int x :: S) h Q := by
  obtain ⟨n, kk⟩ := kk
  subst hs
  subst hx
  subst hq
  exact wp_one hf ⟨n, ⟨x, S, rfl, h0, hN, kk⟩⟩
theorem wp_newq {x : Int32} {N q : Nat} (hf : axF cd pc = some (p0, 45, a, b, c, tb, nx)) (h0 : ¬ x < 0) (hx : x.toNatClampNeg = N) (hN : N ≤ 65536) (hq : h.length = q) (hs : h ++ [.inr (.inl (N, fun _ => none))] = h1) (kk : axW ro E cd nx L (.ref q :: S) h1 Q) : axW ro E cd pc L (.int x :: S) h Q := by
  obtain ⟨n, kk⟩ := kk
  subst hs
  subst hx
  subst hq
  exact wp_one hf ⟨n, ⟨x, S, rfl, h0, hN, kk⟩⟩
theorem wp_new {q : Nat} (hf : axF cd pc = some (p0, 46, a, b, c, tb, nx)) (hq : h.length = q) (hs : h ++ [.inr (.inr (b, axDf b))] = h1) (kk : axW ro E cd nx L (.ref q :: S) h1 Q) : axW ro E cd pc L S h Q := by
  obtain ⟨n, kk⟩ := kk
  subst hs
  subst hq
  exact wp_one hf ⟨n, kk⟩
theorem wp_idiv {x y v : Int32} (hf : axF cd pc = some (p0, 47, a, b, c, tb, nx)) (hy : ¬ y = 0) (hv : x / y = v) (kk : axW ro E cd nx L (.int v :: S) h Q) : axW ro E cd pc L (.int y :: .int x :: S) h Q := by
  obtain ⟨n, kk⟩ := kk
  subst hv
  exact wp_one hf ⟨n, ⟨x, y, S, rfl, hy, kk⟩⟩
theorem wp_irem {x y v : Int32} (hf : axF cd pc = some (p0, 48, a, b, c, tb, nx)) (hy : ¬ y = 0) (hv : x - x / y * y = v) (kk : axW ro E cd nx L (.int v :: S) h Q) : axW ro E cd pc L (.int y :: .int x :: S) h Q := by
  obtain ⟨n, kk⟩ := kk
  subst hv
  exact wp_one hf ⟨n, ⟨x, y, S, rfl, hy, kk⟩⟩
theorem wp_ret {x : Int32} (hf : axF cd pc = some (p0, 49, a, b, c, tb, nx)) (hx : narrow (axEt b) (.int x) = .int x) (kk : Q (some (.int x)) h) : axW ro E cd pc L [.int x] h Q := by
  exact wp_one hf ⟨0, ⟨x, rfl, hx, kk⟩⟩
theorem wp_retv (hf : axF cd pc = some (p0, 50, a, b, c, tb, nx)) (kk : Q none h) : axW ro E cd pc L [] h Q := by
  exact wp_one hf ⟨0, ⟨rfl, kk⟩⟩
theorem wp_reta {k : Nat} (hf : axF cd pc = some (p0, 51, a, b, c, tb, nx)) (kk : Q (some (.ref k)) h) : axW ro E cd pc L [.ref k] h Q := by
  exact wp_one hf ⟨0, ⟨k, rfl, kk⟩⟩
theorem wp_v0 {w : Value} {k z ci : Nat} {fs : List Value} (hf : axF cd pc = some (p0, 52, .ref ci, z, 0, tb, nx)) (hh : h[k]? = some (.inr (.inr (ci, fs)))) (hs : axSum S ≤ 8) (he : E z (.ref k :: []) h (some w) h1) (kk : axW ro E cd nx L (w :: S) h1 Q) : axW ro E cd pc L (.ref k :: S) h Q := by
  obtain ⟨n, kk⟩ := kk
  exact wp_one hf ⟨n, ⟨ci, [], k, S, fs, _, h1, rfl, rfl, rfl, hs, hh, he, kk⟩⟩
theorem wp_s0 {w : Value} {z : Nat} (hf : axF cd pc = some (p0, 53, a, z, 0, tb, nx)) (hs : axSum S ≤ 8) (he : E z [] h (some w) h1) (kk : axW ro E cd nx L (w :: S) h1 Q) : axW ro E cd pc L (S) h Q := by
  obtain ⟨n, kk⟩ := kk
  exact wp_one hf ⟨n, ⟨[], S, _, h1, rfl, rfl, hs, he, kk⟩⟩
theorem wp_v0v {k z ci : Nat} {fs : List Value} (hf : axF cd pc = some (p0, 52, .ref ci, z, 0, tb, nx)) (hh : h[k]? = some (.inr (.inr (ci, fs)))) (hs : axSum S ≤ 8) (he : E z (.ref k :: []) h (none) h1) (kk : axW ro E cd nx L S h1 Q) : axW ro E cd pc L (.ref k :: S) h Q := by
  obtain ⟨n, kk⟩ := kk
  exact wp_one hf ⟨n, ⟨ci, [], k, S, fs, _, h1, rfl, rfl, rfl, hs, hh, he, kk⟩⟩
theorem wp_s0v {z : Nat} (hf : axF cd pc = some (p0, 53, a, z, 0, tb, nx)) (hs : axSum S ≤ 8) (he : E z [] h (none) h1) (kk : axW ro E cd nx L S h1 Q) : axW ro E cd pc L (S) h Q := by
  obtain ⟨n, kk⟩ := kk
  exact wp_one hf ⟨n, ⟨[], S, _, h1, rfl, rfl, hs, he, kk⟩⟩
theorem wp_v1 {v0 : Value} {w : Value} {k z ci : Nat} {fs : List Value} (hf : axF cd pc = some (p0, 52, .ref ci, z, 1, tb, nx)) (hh : h[k]? = some (.inr (.inr (ci, fs)))) (hs : axSum S ≤ 8) (he : E z (.ref k :: [v0]) h (some w) h1) (kk : axW ro E cd nx L (w :: S) h1 Q) : axW ro E cd pc L (v0 :: .ref k :: S) h Q := by
  obtain ⟨n, kk⟩ := kk
  exact wp_one hf ⟨n, ⟨ci, [v0], k, S, fs, _, h1, rfl, rfl, rfl, hs, hh, he, kk⟩⟩
theorem wp_s1 {v0 : Value} {w : Value} {z : Nat} (hf : axF cd pc = some (p0, 53, a, z, 1, tb, nx)) (hs : axSum S ≤ 8) (he : E z [v0] h (some w) h1) (kk : axW ro E cd nx L (w :: S) h1 Q) : axW ro E cd pc L (v0 :: S) h Q := by
  obtain ⟨n, kk⟩ := kk
  exact wp_one hf ⟨n, ⟨[v0], S, _, h1, rfl, rfl, hs, he, kk⟩⟩
theorem wp_v1v {v0 : Value} {k z ci : Nat} {fs : List Value} (hf : axF cd pc = some (p0, 52, .ref ci, z, 1, tb, nx)) (hh : h[k]? = some (.inr (.inr (ci, fs)))) (hs : axSum S ≤ 8) (he : E z (.ref k :: [v0]) h (none) h1) (kk : axW ro E cd nx L S h1 Q) : axW ro E cd pc L (v0 :: .ref k :: S) h Q := by
  obtain ⟨n, kk⟩ := kk
  exact wp_one hf ⟨n, ⟨ci, [v0], k, S, fs, _, h1, rfl, rfl, rfl, hs, hh, he, kk⟩⟩
theorem wp_s1v {v0 : Value} {z : Nat} (hf : axF cd pc = some (p0, 53, a, z, 1, tb, nx)) (hs : axSum S ≤ 8) (he : E z [v0] h (none) h1) (kk : axW ro E cd nx L S h1 Q) : axW ro E cd pc L (v0 :: S) h Q := by
  obtain ⟨n, kk⟩ := kk
  exact wp_one hf ⟨n, ⟨[v0], S, _, h1, rfl, rfl, hs, he, kk⟩⟩
theorem wp_v2 {v0 v1 : Value} {w : Value} {k z ci : Nat} {fs : List Value} (hf : axF cd pc = some (p0, 52, .ref ci, z, 2, tb, nx)) (hh : h[k]? = some (.inr (.inr (ci, fs)))) (hs : axSum S ≤ 8) (he : E z (.ref k :: [v0, v1]) h (some w) h1) (kk : axW ro E cd nx L (w :: S) h1 Q) : axW ro E cd pc L (v1 :: v0 :: .ref k :: S) h Q := by
  obtain ⟨n, kk⟩ := kk
  exact wp_one hf ⟨n, ⟨ci, [v0, v1], k, S, fs, _, h1, rfl, rfl, rfl, hs, hh, he, kk⟩⟩
theorem wp_s2 {v0 v1 : Value} {w : Value} {z : Nat} (hf : axF cd pc = some (p0, 53, a, z, 2, tb, nx)) (hs : axSum S ≤ 8) (he : E z [v0, v1] h (some w) h1) (kk : axW ro E cd nx L (w :: S) h1 Q) : axW ro E cd pc L (v1 :: v0 :: S) h Q := by
  obtain ⟨n, kk⟩ := kk
  exact wp_one hf ⟨n, ⟨[v0, v1], S, _, h1, rfl, rfl, hs, he, kk⟩⟩
theorem wp_v2v {v0 v1 : Value} {k z ci : Nat} {fs : List Value} (hf : axF cd pc = some (p0, 52, .ref ci, z, 2, tb, nx)) (hh : h[k]? = some (.inr (.inr (ci, fs)))) (hs : axSum S ≤ 8) (he : E z (.ref k :: [v0, v1]) h (none) h1) (kk : axW ro E cd nx L S h1 Q) : axW ro E cd pc L (v1 :: v0 :: .ref k :: S) h Q := by
  obtain ⟨n, kk⟩ := kk
  exact wp_one hf ⟨n, ⟨ci, [v0, v1], k, S, fs, _, h1, rfl, rfl, rfl, hs, hh, he, kk⟩⟩
theorem wp_s2v {v0 v1 : Value} {z : Nat} (hf : axF cd pc = some (p0, 53, a, z, 2, tb, nx)) (hs : axSum S ≤ 8) (he : E z [v0, v1] h (none) h1) (kk : axW ro E cd nx L S h1 Q) : axW ro E cd pc L (v1 :: v0 :: S) h Q := by
  obtain ⟨n, kk⟩ := kk
  exact wp_one hf ⟨n, ⟨[v0, v1], S, _, h1, rfl, rfl, hs, he, kk⟩⟩
theorem wp_v3 {v0 v1 v2 : Value} {w : Value} {k z ci : Nat} {fs : List Value} (hf : axF cd pc = some (p0, 52, .ref ci, z, 3, tb, nx)) (hh : h[k]? = some (.inr (.inr (ci, fs)))) (hs : axSum S ≤ 8) (he : E z (.ref k :: [v0, v1, v2]) h (some w) h1) (kk : axW ro E cd nx L (w :: S) h1 Q) : axW ro E cd pc L (v2 :: v1 :: v0 :: .ref k :: S) h Q := by
  obtain ⟨n, kk⟩ := kk
  exact wp_one hf ⟨n, ⟨ci, [v0, v1, v2], k, S, fs, _, h1, rfl, rfl, rfl, hs, hh, he, kk⟩⟩
theorem wp_s3 {v0 v1 v2 : Value} {w : Value} {z : Nat} (hf : axF cd pc = some (p0, 53, a, z, 3, tb, nx)) (hs : axSum S ≤ 8) (he : E z [v0, v1, v2] h (some w) h1) (kk : axW ro E cd nx L (w :: S) h1 Q) : axW ro E cd pc L (v2 :: v1 :: v0 :: S) h Q := by
  obtain ⟨n, kk⟩ := kk
  exact wp_one hf ⟨n, ⟨[v0, v1, v2], S, _, h1, rfl, rfl, hs, he, kk⟩⟩
theorem wp_v3v {v0 v1 v2 : Value} {k z ci : Nat} {fs : List Value} (hf : axF cd pc = some (p0, 52, .ref ci, z, 3, tb, nx)) (hh : h[k]? = some (.inr (.inr (ci, fs)))) (hs : axSum S ≤ 8) (he : E z (.ref k :: [v0, v1, v2]) h (none) h1) (kk : axW ro E cd nx L S h1 Q) : axW ro E cd pc L (v2 :: v1 :: v0 :: .ref k :: S) h Q := by
  obtain ⟨n, kk⟩ := kk
  exact wp_one hf ⟨n, ⟨ci, [v0, v1, v2], k, S, fs, _, h1, rfl, rfl, rfl, hs, hh, he, kk⟩⟩
theorem wp_s3v {v0 v1 v2 : Value} {z : Nat} (hf : axF cd pc = some (p0, 53, a, z, 3, tb, nx)) (hs : axSum S ≤ 8) (he : E z [v0, v1, v2] h (none) h1) (kk : axW ro E cd nx L S h1 Q) : axW ro E cd pc L (v2 :: v1 :: v0 :: S) h Q := by
  obtain ⟨n, kk⟩ := kk
  exact wp_one hf ⟨n, ⟨[v0, v1, v2], S, _, h1, rfl, rfl, hs, he, kk⟩⟩
theorem wp_s4v {v0 v1 v2 v3 : Value} {z : Nat} (hf : axF cd pc = some (p0, 53, a, z, 4, tb, nx)) (hs : axSum S ≤ 8) (he : E z [v0, v1, v2, v3] h none h1) (kk : axW ro E cd nx L S h1 Q) : axW ro E cd pc L (v3 :: v2 :: v1 :: v0 :: S) h Q := by
  obtain ⟨n, kk⟩ := kk
  exact wp_one hf ⟨n, ⟨[v0, v1, v2, v3], S, _, h1, rfl, rfl, hs, he, kk⟩⟩
theorem wp_i0 {k z : Nat} (hf : axF cd pc = some (p0, 54, a, z, 0, tb, nx)) (hs : axSum S ≤ 8) (he : E z [.ref k] h none h1) (kk : axW ro E cd nx L S h1 Q) : axW ro E cd pc L (.ref k :: S) h Q := by
  obtain ⟨n, kk⟩ := kk
  exact wp_one hf ⟨n, ⟨[], k, S, _, h1, rfl, rfl, hs, he, kk⟩⟩
theorem wp_obj {k : Nat} (hf : axF cd pc = some (p0, 55, a, b, c, tb, nx)) (hs : axSum S ≤ 8) (kk : axW ro E cd nx L S h Q) : axW ro E cd pc L (.ref k :: S) h Q := by
  obtain ⟨n, kk⟩ := kk
  exact wp_one hf ⟨n, ⟨k, S, rfl, hs, kk⟩⟩
theorem wp_cpy {n1 sp dp : Int32} {k0 k1 m0 m1 : Nat} {f g : Nat → Int32} (hf : axF cd pc = some (p0, 56, a, b, c, tb, nx)) (hh0 : h[k0]? = some (.inl (0, m0, f))) (hh1 : h[k1]? = some (.inl (0, m1, g))) (q1 : ¬ sp < 0) (q2 : ¬ dp < 0) (q3 : ¬ n1 < 0) (q4 : sp.toNatClampNeg + n1.toNatClampNeg ≤ m0) (q5 : dp.toNatClampNeg + n1.toNatClampNeg ≤ m1) (hs : axSum S ≤ 8) (he : h.set k1 (.inl (0, m1, va_cpy f g sp.toNatClampNeg dp.toNatClampNeg n1.toNatClampNeg)) = h1) (kk : axW ro E cd nx L S h1 Q) : axW ro E cd pc L (.int n1 :: .int dp :: .ref k1 :: .int sp :: .ref k0 :: S) h Q := by
  obtain ⟨n, kk⟩ := kk
  subst he
  exact wp_one hf ⟨n, ⟨n1, dp, k1, sp, k0, S, m0, m1, f, g, rfl, hh0, hh1, q1, q2, q3, q4, q5, hs, kk⟩⟩
theorem wp_max {x y v : Int32} (hf : axF cd pc = some (p0, 57, a, b, c, tb, nx)) (hs : axSum S ≤ 8) (hv : (if x < y then y else x) = v) (kk : axW ro E cd nx L (.int v :: S) h Q) : axW ro E cd pc L (.int y :: .int x :: S) h Q := by
  obtain ⟨n, kk⟩ := kk
  subst hv
  exact wp_one hf ⟨n, ⟨x, y, S, rfl, hs, kk⟩⟩
theorem wp_min {x y v : Int32} (hf : axF cd pc = some (p0, 58, a, b, c, tb, nx)) (hs : axSum S ≤ 8) (hv : (if y < x then y else x) = v) (kk : axW ro E cd nx L (.int v :: S) h Q) : axW ro E cd pc L (.int y :: .int x :: S) h Q := by
  obtain ⟨n, kk⟩ := kk
  subst hv
  exact wp_one hf ⟨n, ⟨x, y, S, rfl, hs, kk⟩⟩
theorem wp_abs {x v : Int32} (hf : axF cd pc = some (p0, 59, a, b, c, tb, nx)) (hs : axSum S ≤ 8) (hv : (if 0 ≤ x then x else 0 - x) = v) (kk : axW ro E cd nx L (.int v :: S) h Q) : axW ro E cd pc L (.int x :: S) h Q := by
  obtain ⟨n, kk⟩ := kk
  subst hv
  exact wp_one hf ⟨n, ⟨x, S, rfl, hs, kk⟩⟩
end AX12
theorem ev_in {ro : axRo} {d z : Nat} {vs : List Value} {h h1 : axH} {r : Option Value} {M : axM} (hM : axMs[z]? = some M) (ho : axOkA vs = true) (hs : axSz vs ≤ M.2.2.1) {L : axL} (hL : axIn vs M.2.2.1 = L) (hw : axW ro (axEv ro d) M.2.2.2.2.2.2 0 L [] h (fun r' h' => r' = r ∧ h' = h1)) : axEv ro (d + 1) z vs h r h1 := by
  subst hL
  exact ⟨M, hM, ho, hs, hw⟩
/-- what is proved over a loop: W at its head, by a measure that falls -/
theorem ax_ind {σ : Type} (P : σ → Prop) (μ : σ → Nat) (step : ∀ s, (∀ s', μ s' < μ s → P s') → P s) : ∀ s, P s := fun s => by
  have : ∀ n s, μ s < n → P s := by
    intro n
    induction n with
    | zero => intro s h; omega
    | succ n ih => intro s h; exact step s (fun s' h' => ih s' (by omega))
  exact this (μ s + 1) s (Nat.lt_succ_self _)
end
section
/-! The heap of the run: the class' cells 0 to 14, the reference's 15 to 21, behind them the boards that are made later. -/
abbrev axBD : Type := (Nat → Int32) × (Nat → Int32) × (Nat → Int32) × (Nat → Int32) × (Nat → Int32) × (Nat → Int32) × Int32 × Int32 × Int32
abbrev bSt (B : axBD) : Nat → Int32 := B.1
abbrev bTg (B : axBD) : Nat → Int32 := B.2.1
abbrev bRw (B : axBD) : Nat → Int32 := B.2.2.1
abbrev bWr (B : axBD) : Nat → Int32 := B.2.2.2.1
abbrev bBt (B : axBD) : Nat → Int32 := B.2.2.2.2.1
abbrev bNd (B : axBD) : Nat → Int32 := B.2.2.2.2.2.1
abbrev bSg (B : axBD) : Int32 := B.2.2.2.2.2.2.1
abbrev bTn (B : axBD) : Int32 := B.2.2.2.2.2.2.2.1
abbrev bSz (B : axBD) : Int32 := B.2.2.2.2.2.2.2.2
/-- states, next, kept -/
abbrev axYD : Type := (Nat → Option Nat) × Int32 × Int32
/-- signs, length, cursor, last, kind, first, second -/
abbrev axPD : Type := (Nat → Int32) × Int32 × Int32 × Int32 × Int32 × Int32 × Int32
/-- trial, lower, higher, least -/
abbrev axGD : Type := (Nat → Int32) × Int32 × Int32 × Int32
def axAi (n : Nat) (f : Nat → Int32) : axC := .inl (0, n, f)
def axBo (o : Nat) (B : axBD) : axC := .inr (.inr (0, [.ref (o + 1), .ref (o + 2), .ref (o + 3), .ref (o + 4), .ref (o + 5), .ref (o + 6), .int (bSg B), .int (bTn B), .int (bSz B)]))
def hX (B : axBD) (Y : axYD) (sl : Nat → Option Nat) (P : axPD) (G : axGD) (tl : axH) : axH :=
  .inr (.inr (4, [.ref 1, .ref 8, .ref 10, .ref 11, .ref 13])) ::
  .inr (.inr (0, [.ref 2, .ref 3, .ref 4, .ref 5, .ref 6, .ref 7, .int (bSg B), .int (bTn B), .int (bSz B)])) ::
  axAi 3 (bSt B) :: axAi 6 (bTg B) :: axAi 24 (bRw B) :: axAi 24 (bWr B) :: axAi 24 (bBt B) :: axAi 24 (bNd B) ::
  .inr (.inr (1, [.ref 9, .int Y.2.1, .int Y.2.2])) :: .inr (.inl (7, Y.1)) ::
  .inr (.inl (2, sl)) ::
  .inr (.inr (2, [.ref 12, .int P.2.1, .int P.2.2.1, .int P.2.2.2.1, .int P.2.2.2.2.1, .int P.2.2.2.2.2.1, .int P.2.2.2.2.2.2])) :: .inl (1, 80, P.1) ::
  .inr (.inr (3, [.ref 14, .int G.2.1, .int G.2.2.1, .int G.2.2.2])) :: axAi 24 G.1 :: tl
/-- s, history, kept, slots, isSaved, before, pad, length, place, letter, one, other, isTurn, done -/
abbrev axMD : Type := (Nat → Int32) × (Nat → Int32) × Int32 × (Nat → Int32) × (Nat → Int32) × (Nat → Int32) × (Nat → Int32) × Int32 × Int32 × Int32 × Int32 × Int32 × Int32 × Int32
abbrev mS (M : axMD) : Nat → Int32 := M.1
abbrev mHs (M : axMD) : Nat → Int32 := M.2.1
abbrev mKp (M : axMD) : Int32 := M.2.2.1
abbrev mSl (M : axMD) : Nat → Int32 := M.2.2.2.1
abbrev mSv (M : axMD) : Nat → Int32 := M.2.2.2.2.1
abbrev mBf (M : axMD) : Nat → Int32 := M.2.2.2.2.2.1
abbrev mPd (M : axMD) : Nat → Int32 := M.2.2.2.2.2.2.1
abbrev mLn (M : axMD) : Int32 := M.2.2.2.2.2.2.2.1
abbrev mPl (M : axMD) : Int32 := M.2.2.2.2.2.2.2.2.1
abbrev mLt (M : axMD) : Int32 := M.2.2.2.2.2.2.2.2.2.1
abbrev mOn (M : axMD) : Int32 := M.2.2.2.2.2.2.2.2.2.2.1
abbrev mOt (M : axMD) : Int32 := M.2.2.2.2.2.2.2.2.2.2.2.1
abbrev mIt (M : axMD) : Int32 := M.2.2.2.2.2.2.2.2.2.2.2.2.1
abbrev mDn (M : axMD) : Int32 := M.2.2.2.2.2.2.2.2.2.2.2.2.2
def axMO (M : axMD) : axC := .inr (.inr (5, [.ref 16, .ref 17, .int (mKp M), .ref 18, .ref 19, .ref 20, .ref 21, .int (mLn M), .int (mPl M), .int (mLt M), .int (mOn M), .int (mOt M), .int (mIt M), .int (mDn M)]))
def hM (c : Nat → axC) (M : axMD) (tl : axH) : axH :=
  c 0 :: c 1 :: c 2 :: c 3 :: c 4 :: c 5 :: c 6 :: c 7 :: c 8 :: c 9 :: c 10 :: c 11 :: c 12 :: c 13 :: c 14 ::
  .inr (.inr (5, [.ref 16, .ref 17, .int (mKp M), .ref 18, .ref 19, .ref 20, .ref 21, .int (mLn M), .int (mPl M), .int (mLt M), .int (mOn M), .int (mOt M), .int (mIt M), .int (mDn M)])) ::
  axAi 154 (mS M) :: axAi 924 (mHs M) :: axAi 308 (mSl M) :: .inl (2, 2, mSv M) :: axAi 154 (mBf M) :: axAi 80 (mPd M) :: tl
section AX13
variable {ro : axRo} {E : axCall} {cd : List axE} {pc : Nat} {L : axL} {S : List Value} {h h1 : axH} {Q : Option Value → axH → Prop} {p0 b c nx : Nat} {a : Value} {tb : List (Int32 × Nat)}
theorem wp_runk {pc' : Nat} {L' : axL} {S' : List Value} (k : Nat) (hr : axRn cd h k pc L S = (pc', L', S')) (kk : axW ro E cd pc' L' S' h Q) : axW ro E cd pc L S h Q := axRn_ok k pc L S (by rw [hr]; exact kk)
theorem wp_len {k n0 : Nat} {f : Nat → Int32} (hf : axF cd pc = some (p0, 39, a, b, c, tb, nx)) (hh : h[k]? = some (.inl (b, n0, f))) (hb : b < 3) (kk : axW ro E cd nx L (.int (Int32.ofNat n0) :: S) h Q) : axW ro E cd pc L (.ref k :: S) h Q := by
  obtain ⟨n, kk⟩ := kk
  exact wp_one hf ⟨n, Or.inl ⟨k, S, b, n0, f, rfl, hh, hb, kk⟩⟩
variable {d : Nat}
theorem x4_cell {k n0 j : Nat} {f : Nat → Int32} (hh : h[k]? = some (.inl (0, n0, f))) (hj : j < n0) (hn : n0 < 2 ^ 31) : axEv ro (d + 1) kX4_cell [.ref k, .int (nI j)] h (some (.int (f j))) h := by
  refine ev_in rfl rfl (Nat.le_of_ble_eq_true rfl) rfl ?_
  refine wp_runk 1 rfl ?_
  refine wp_iflt rfl (fun q => absurd q (nI_pos (by omega))) (fun _ => ?_)
  refine wp_runk 2 rfl ?_
  refine wp_len rfl hh (by decide) ?_
  refine wp_icge rfl (fun q => absurd q (nI_ge hj hn)) (fun _ => ?_)
  refine wp_runk 2 rfl ?_
  refine wp_ald rfl hh (vp_in_nI hj hn) (by rw [nI_clamp (by omega)]) ?_
  refine wp_runk 1 rfl ?_
  exact wp_ret rfl rfl ⟨rfl, rfl⟩
theorem x0_size0 {B Y sl P G tl} : axEv ro (d + 1) kX0_size [.ref 1] (hX B Y sl P G tl) (some (.int (bSz B))) (hX B Y sl P G tl) := by
  refine ev_in rfl rfl (Nat.le_of_ble_eq_true rfl) rfl ?_
  refine wp_run rfl ?_
  exact wp_ret rfl rfl ⟨rfl, rfl⟩
theorem x0_writtenOf0 {B Y sl P G tl} {j : Nat} (hj : j < 24) : axEv ro (d + 2) kX0_writtenOf [.ref 1, .int (nI j)] (hX B Y sl P G tl) (some (.int (bWr B j))) (hX B Y sl P G tl) := by
  refine ev_in rfl rfl (Nat.le_of_ble_eq_true rfl) rfl ?_
  refine wp_run rfl ?_
  refine wp_s2 rfl (by decide) (x4_cell rfl hj (by decide)) ?_
  refine wp_run rfl ?_
  exact wp_ret rfl rfl ⟨rfl, rfl⟩
end AX13
end
section
def bt (x : Int32) (i : Nat) : Bool := x.toBitVec.getLsbD i
theorem b_ext {x y : Int32} (h : ∀ i, i < 32 → bt x i = bt y i) : x = y := Int32.toBitVec_inj.mp (BitVec.eq_of_getLsbD_eq (fun i hi => h i hi))
theorem b_or (x y : Int32) (i : Nat) : bt (x ||| y) i = (bt x i || bt y i) := by unfold bt; rw [Int32.toBitVec_or, BitVec.getLsbD_or]
theorem b_and (x y : Int32) (i : Nat) : bt (x &&& y) i = (bt x i && bt y i) := by unfold bt; rw [Int32.toBitVec_and, BitVec.getLsbD_and]
theorem b_xor (x y : Int32) (i : Nat) : bt (x ^^^ y) i = (bt x i ^^ bt y i) := by unfold bt; rw [Int32.toBitVec_xor, BitVec.getLsbD_xor]
theorem b_big {x : Int32} {i : Nat} (h : 32 ≤ i) : bt x i = false := BitVec.getLsbD_of_ge _ _ h
theorem b_255 (i : Nat) : bt 255 i = decide (i < 8) := by
  rcases Nat.lt_or_ge i 32 with h | h
  · exact (by decide +kernel : ∀ i, i < 32 → bt 255 i = decide (i < 8)) i h
  · rw [b_big h, decide_eq_false (by omega)]
theorem b_65535 (i : Nat) : bt 65535 i = decide (i < 16) := by
  rcases Nat.lt_or_ge i 32 with h | h
  · exact (by decide +kernel : ∀ i, i < 32 → bt 65535 i = decide (i < 16)) i h
  · rw [b_big h, decide_eq_false (by omega)]
theorem b_m1 : ∀ i, i < 32 → bt (-1) i = true := by decide +kernel
theorem b_0 (i : Nat) : bt 0 i = false := BitVec.getLsbD_zero
theorem s_l : ∀ n, n < 32 → ((nI n &&& 31).toBitVec.smod 32).toNat = n := by decide +kernel
theorem s_u : ∀ n, n < 32 → (((nI n).toUInt32 &&& Int32.toUInt32 31).toBitVec % 32).toNat = n := by decide +kernel
theorem b_shl (n : Nat) (hn : n < 32) (x : Int32) {i : Nat} (hi : i < 32) : bt (x <<< (nI n &&& 31)) i = (decide (n ≤ i) && bt x (i - n)) := by
  unfold bt
  rw [Int32.toBitVec_shiftLeft]
  show (x.toBitVec <<< ((nI n &&& 31).toBitVec.smod 32).toNat).getLsbD i = _
  rw [s_l n hn, BitVec.getLsbD_shiftLeft]
  rcases Nat.lt_or_ge i n with h | h
  · simp [h, Nat.not_le.mpr h]
  · simp [hi, h, Nat.not_lt.mpr h]
theorem b_ushr (n : Nat) (hn : n < 32) (x : Int32) (i : Nat) : bt ((x.toUInt32 >>> ((nI n).toUInt32 &&& Int32.toUInt32 31)).toInt32) i = bt x (n + i) := by
  show (x.toUInt32 >>> ((nI n).toUInt32 &&& Int32.toUInt32 31)).toBitVec.getLsbD i = x.toUInt32.toBitVec.getLsbD (n + i)
  rw [UInt32.toBitVec_shiftRight]
  show (x.toUInt32.toBitVec >>> (((nI n).toUInt32 &&& Int32.toUInt32 31).toBitVec % 32).toNat).getLsbD i = _
  rw [s_u n hn, BitVec.getLsbD_ushiftRight]
theorem b_sshr (n : Nat) (hn : n < 32) (x : Int32) {i : Nat} (hi : i < 32) : bt (x >>> (nI n &&& 31)) i = if n + i < 32 then bt x (n + i) else bt x 31 := by
  unfold bt
  rw [Int32.toBitVec_shiftRight]
  show (x.toBitVec.sshiftRight ((nI n &&& 31).toBitVec.smod 32).toNat).getLsbD i = _
  rw [s_l n hn, BitVec.getLsbD_sshiftRight, BitVec.msb_eq_getLsbD_last]
  simp [hi]
/-! own rows on bits -/
def bi (k : Nat) : Int32 := (1 : Int32) <<< (nI k &&& 31)
theorem bt_1 (i : Nat) : bt 1 i = decide (i = 0) := by
  rcases Nat.lt_or_ge i 32 with h | h
  · exact (by decide +kernel : ∀ i, i < 32 → bt 1 i = decide (i = 0)) i h
  · rw [b_big h, decide_eq_false (by omega)]
theorem bt_bi {k : Nat} (hk : k < 32) (i : Nat) : bt (bi k) i = decide (i = k) := by
  rcases Nat.lt_or_ge i 32 with h | h
  · unfold bi
    rw [b_shl k hk 1 h, bt_1]
    by_cases e : i = k
    · subst e; simp
    · by_cases e2 : k ≤ i
      · have : ¬ i - k = 0 := by omega
        simp [e, this]
      · simp [e, e2]
  · rw [b_big h, decide_eq_false (by omega)]
theorem bt_has {x : Int32} {k : Nat} (hk : k < 32) : (x >>> (nI k &&& 31)) &&& 1 = if bt x k = true then 1 else 0 := by
  apply b_ext
  intro i hi
  rw [b_and, bt_1]
  by_cases e : i = 0
  · subst e
    rw [b_sshr k hk x hi, if_pos (by omega), Nat.add_zero]
    cases bt x k
    · simp [b_0]
    · simp [bt_1]
  · cases bt x k
    · simp [e, b_0]
    · simp [e, bt_1]
theorem bt_m1 (i : Nat) : bt (-1) i = decide (i < 32) := by
  rcases Nat.lt_or_ge i 32 with h | h
  · rw [b_m1 i h]; simp [h]
  · rw [b_big h, decide_eq_false (by omega)]
theorem bt_set {x : Int32} {k : Nat} (hk : k < 32) (i : Nat) : bt (x ||| bi k) i = (bt x i || decide (i = k)) := by rw [b_or, bt_bi hk]
theorem bt_clr {x : Int32} {k : Nat} (hk : k < 32) (i : Nat) : bt (x &&& (bi k ^^^ (-1))) i = (bt x i && !decide (i = k)) := by
  rw [b_and, b_xor, bt_bi hk, bt_m1]
  rcases Nat.lt_or_ge i 32 with h | h
  · simp [h]
  · rw [b_big h]; simp
theorem bt_flp {x : Int32} {k : Nat} (hk : k < 32) (i : Nat) : bt (x ^^^ bi k) i = (bt x i ^^ decide (i = k)) := by rw [b_xor, bt_bi hk]
theorem bt_ext {x y : Int32} (h : ∀ i, i < 32 → (bt x i = true ↔ bt y i = true)) : x = y := b_ext fun i hi => by
  have := h i hi
  cases hx : bt x i <;> cases hy : bt y i <;> simp_all
theorem nI_div {a b : Nat} (ha : a < 2 ^ 31) (h0 : 0 < b) (hb : b < 2 ^ 31) : nI a / nI b = nI (a / b) := pk_div ha h0 hb
theorem nI_max {a b : Nat} (ha : a < 2 ^ 31) (hb : b < 2 ^ 31) : (if nI a < nI b then nI b else nI a) = nI (max a b) := by
  by_cases h : a < b
  · rw [if_pos ((nI_ltI ha hb).mpr h), Nat.max_eq_right (Nat.le_of_lt h)]
  · rw [if_neg (fun q => h ((nI_ltI ha hb).mp q)), Nat.max_eq_left (by omega)]
theorem nI_min {a b : Nat} (ha : a < 2 ^ 31) (hb : b < 2 ^ 31) : (if nI b < nI a then nI b else nI a) = nI (min a b) := by
  by_cases h : b < a
  · rw [if_pos ((nI_ltI hb ha).mpr h), Nat.min_eq_right (Nat.le_of_lt h)]
  · rw [if_neg (fun q => h ((nI_ltI hb ha).mp q)), Nat.min_eq_left (by omega)]
/-- ints that are small integers -/
def zI (z : Int) : Int32 := Int32.ofInt z
theorem zI_toInt {z : Int} (h0 : -2147483648 ≤ z) (h1 : z < 2147483648) : (zI z).toInt = z := Int32.toInt_ofInt_of_le (by omega) (by omega)
theorem zI_nI (n : Nat) : zI (n : Int) = nI n := by
  unfold zI nI
  rfl
theorem zI_lt {a b : Int} (ha : -2147483648 ≤ a ∧ a < 2147483648) (hb : -2147483648 ≤ b ∧ b < 2147483648) : zI a < zI b ↔ a < b := by rw [Int32.lt_iff_toInt_lt, zI_toInt ha.1 ha.2, zI_toInt hb.1 hb.2]
theorem zI_le {a b : Int} (ha : -2147483648 ≤ a ∧ a < 2147483648) (hb : -2147483648 ≤ b ∧ b < 2147483648) : zI a ≤ zI b ↔ a ≤ b := by rw [Int32.le_iff_toInt_le, zI_toInt ha.1 ha.2, zI_toInt hb.1 hb.2]
theorem zI_add (a b : Int) : zI a + zI b = zI (a + b) := (Int32.ofInt_add a b).symm
theorem zI_sub (a b : Int) : zI a - zI b = zI (a - b) := (Int32.ofInt_sub a b).symm
theorem zI_neg (a : Int) : -zI a = zI (-a) := (Int32.ofInt_neg a).symm
theorem zI_0 : (0 : Int32) = zI 0 := rfl
theorem zI_abs {z : Int} (h0 : -2147483648 < z) (h1 : z < 2147483648) : (if 0 ≤ zI z then zI z else 0 - zI z) = nI z.natAbs := by
  have hle : (0 : Int32) ≤ zI z ↔ 0 ≤ z := by rw [zI_0, zI_le ⟨by omega, by omega⟩ ⟨by omega, h1⟩]
  rw [← zI_nI]
  by_cases h : 0 ≤ z
  · rw [if_pos (hle.mpr h)]; congr 1; omega
  · rw [if_neg (fun q => h (hle.mp q)), zI_0, zI_sub]; congr 1; omega
/-- how many of the first n hold -/
def bc (p : Nat → Bool) : Nat → Nat
  | 0 => 0
  | n + 1 => bc p n + (if p n = true then 1 else 0)
theorem bc_le (p : Nat → Bool) : ∀ n, bc p n ≤ n
  | 0 => Nat.le_refl _
  | n + 1 => by
    have := bc_le p n
    rw [bc]
    split <;> omega
theorem bc_cong {p q : Nat → Bool} : ∀ (n : Nat), (∀ i, i < n → p i = q i) → bc p n = bc q n
  | 0, _ => rfl
  | n + 1, h => by rw [bc, bc, bc_cong n (fun i hi => h i (by omega)), h n (by omega)]
theorem bc_add (p : Nat → Bool) (m : Nat) : ∀ n, bc p (m + n) = bc p m + bc (fun i => p (m + i)) n
  | 0 => by simp [bc]
  | n + 1 => by
    rw [show m + (n + 1) = (m + n) + 1 by omega, bc, bc, bc_add p m n]
    omega
/-- prefix sums -/
def aS (f : Nat → Nat) : Nat → Nat
  | 0 => 0
  | n + 1 => aS f n + f n
theorem aS_cong {f g : Nat → Nat} : ∀ (n : Nat), (∀ i, i < n → f i = g i) → aS f n = aS g n
  | 0, _ => rfl
  | n + 1, h => by rw [aS, aS, aS_cong n (fun i hi => h i (by omega)), h n (by omega)]
theorem aS_le {f : Nat → Nat} {c : Nat} : ∀ (n : Nat), (∀ i, i < n → f i ≤ c) → aS f n ≤ n * c
  | 0, _ => by simp [aS]
  | n + 1, h => by
    have h1 := aS_le n (fun i hi => h i (by omega))
    have h2 := h n (by omega)
    rw [aS, Nat.succ_mul]; omega
theorem aS_mono {f : Nat → Nat} {m : Nat} : ∀ {n : Nat}, m ≤ n → aS f m ≤ aS f n
  | 0, h => by rw [show m = 0 by omega]; exact Nat.le_refl _
  | n + 1, h => by
    by_cases e : m = n + 1
    · rw [e]; exact Nat.le_refl _
    · have := aS_mono (f := f) (show m ≤ n by omega)
      rw [aS]; omega
end
section
/-! The state of a board in plain numbers, and how the class' arrays and the reference's row hold it. -/
/-- slugs, the row, written, beats, needs (sets), turns, PAGE, SLACK, TRIM, targets -/
abbrev axAD : Type := Nat × (Nat → Nat) × (Nat → Nat) × (Nat → Nat) × (Nat → Int32) × (Nat → Bool) × Nat × Nat × Nat × (Nat → Nat)
abbrev aN (A : axAD) : Nat := A.1
abbrev aR (A : axAD) : Nat → Nat := A.2.1
abbrev aW (A : axAD) : Nat → Nat := A.2.2.1
abbrev aB (A : axAD) : Nat → Nat := A.2.2.2.1
abbrev aD (A : axAD) : Nat → Int32 := A.2.2.2.2.1
abbrev aT (A : axAD) : Nat → Bool := A.2.2.2.2.2.1
abbrev aPg (A : axAD) : Nat := A.2.2.2.2.2.2.1
abbrev aSl (A : axAD) : Nat := A.2.2.2.2.2.2.2.1
abbrev aTr (A : axAD) : Nat := A.2.2.2.2.2.2.2.2.1
abbrev aTg (A : axAD) : Nat → Nat := A.2.2.2.2.2.2.2.2.2
/-- the slug k is there -/
def aIn (A : axAD) (k : Nat) : Prop := ∃ i, i < aN A ∧ aR A i = k
/-- what holds of every board -/
def aOk (A : axAD) : Prop :=
  aN A ≤ 24 ∧ (∀ i, i < aN A → aR A i < 24) ∧ (∀ i j, i < aN A → j < aN A → aR A i = aR A j → i = j) ∧
  (∀ i, i < aN A → 1 ≤ aB A (aR A i) ∧ aB A (aR A i) ≤ aW A (aR A i) ∧ aW A (aR A i) ≤ 99) ∧
  (∀ i k, i < aN A → bt (aD A (aR A i)) k = true → ∃ j, j < i ∧ aR A j = k) ∧
  (4 ≤ aPg A ∧ aPg A ≤ 60) ∧ aSl A ≤ 20 ∧ aTr A ≤ 90 ∧ (∀ a, a < 6 → 1 ≤ aTg A a ∧ aTg A a ≤ 999)
/-- the class' arrays hold it -/
def CR (B : axBD) (A : axAD) : Prop :=
  bSz B = nI (aN A) ∧ (∀ i, i < aN A → bRw B i = nI (aR A i)) ∧
  (∀ i, i < aN A → bWr B (aR A i) = nI (aW A (aR A i)) ∧ bBt B (aR A i) = nI (aB A (aR A i)) ∧ bNd B (aR A i) = aD A (aR A i)) ∧
  (∀ k, bt (bSg B) k = true ↔ aIn A k) ∧ (∀ k, bt (bTn B) k = true ↔ (aIn A k ∧ aT A k = true)) ∧
  (bSt B 0 = nI (aPg A) ∧ bSt B 1 = nI (aSl A) ∧ bSt B 2 = nI (aTr A)) ∧ (∀ a, a < 6 → bTg B a = nI (aTg A a))
/-- the reference's row of numbers holds it -/
def MR (s : Nat → Int32) (A : axAD) : Prop :=
  s 0 = nI (aN A) ∧ (∀ i, i < aN A → s (10 + i) = nI (aR A i)) ∧
  (∀ i, i < aN A → s (35 + 5 * aR A i) = nI (aW A (aR A i)) ∧ s (36 + 5 * aR A i) = nI (aB A (aR A i)) ∧ s (37 + 5 * aR A i) = (if aT A (aR A i) = true then 1 else 0) ∧ s (38 + 5 * aR A i) = aD A (aR A i)) ∧
  (∀ k, k < 24 → (aIn A k → s (34 + 5 * k) = 1) ∧ (¬ aIn A k → s (34 + 5 * k) = 0)) ∧
  (s 1 = nI (aPg A) ∧ s 2 = nI (aSl A) ∧ s 3 = nI (aTr A)) ∧ (∀ a, a < 6 → s (4 + a) = nI (aTg A a))
section AX15
variable {A : axAD} {B : axBD}
theorem aOk.n (h : aOk A) : aN A ≤ 24 := h.1
theorem aOk.r (h : aOk A) {i : Nat} (hi : i < aN A) : aR A i < 24 := h.2.1 i hi
theorem aOk.inj (h : aOk A) {i j : Nat} (hi : i < aN A) (hj : j < aN A) (e : aR A i = aR A j) : i = j := h.2.2.1 i j hi hj e
theorem aOk.b (h : aOk A) {i : Nat} (hi : i < aN A) : 1 ≤ aB A (aR A i) ∧ aB A (aR A i) ≤ aW A (aR A i) ∧ aW A (aR A i) ≤ 99 := h.2.2.2.1 i hi
theorem aOk.d (h : aOk A) {i k : Nat} (hi : i < aN A) (hk : bt (aD A (aR A i)) k = true) : ∃ j, j < i ∧ aR A j = k := h.2.2.2.2.1 i k hi hk
theorem aOk.pg (h : aOk A) : 4 ≤ aPg A ∧ aPg A ≤ 60 := h.2.2.2.2.2.1
theorem aOk.sl (h : aOk A) : aSl A ≤ 20 := h.2.2.2.2.2.2.1
theorem aOk.tr (h : aOk A) : aTr A ≤ 90 := h.2.2.2.2.2.2.2.1
theorem aOk.tg (h : aOk A) {a : Nat} (ha : a < 6) : 1 ≤ aTg A a ∧ aTg A a ≤ 999 := h.2.2.2.2.2.2.2.2 a ha
theorem cr_sz (h : CR B A) : bSz B = nI (aN A) := h.1
theorem cr_rw (h : CR B A) {i : Nat} (hi : i < aN A) : bRw B i = nI (aR A i) := h.2.1 i hi
theorem cr_wr (h : CR B A) {i : Nat} (hi : i < aN A) : bWr B (aR A i) = nI (aW A (aR A i)) := (h.2.2.1 i hi).1
theorem cr_bt (h : CR B A) {i : Nat} (hi : i < aN A) : bBt B (aR A i) = nI (aB A (aR A i)) := (h.2.2.1 i hi).2.1
theorem cr_nd (h : CR B A) {i : Nat} (hi : i < aN A) : bNd B (aR A i) = aD A (aR A i) := (h.2.2.1 i hi).2.2
theorem cr_sg (h : CR B A) (k : Nat) : bt (bSg B) k = true ↔ aIn A k := h.2.2.2.1 k
theorem cr_tn (h : CR B A) (k : Nat) : bt (bTn B) k = true ↔ (aIn A k ∧ aT A k = true) := h.2.2.2.2.1 k
theorem cr_pg (h : CR B A) : bSt B 0 = nI (aPg A) := h.2.2.2.2.2.1.1
theorem cr_sl (h : CR B A) : bSt B 1 = nI (aSl A) := h.2.2.2.2.2.1.2.1
theorem cr_tr (h : CR B A) : bSt B 2 = nI (aTr A) := h.2.2.2.2.2.1.2.2
theorem cr_tg (h : CR B A) {a : Nat} (ha : a < 6) : bTg B a = nI (aTg A a) := h.2.2.2.2.2.2 a ha
theorem cr_tnr (h : CR B A) {i : Nat} (hi : i < aN A) : bt (bTn B) (aR A i) = aT A (aR A i) := by
  have := cr_tn h (aR A i)
  cases h1 : bt (bTn B) (aR A i) <;> cases h2 : aT A (aR A i) <;> rw [h1, h2] at this <;> simp at this
  all_goals first | rfl | exact absurd ⟨i, hi, rfl⟩ this
variable {s : Nat → Int32}
theorem mr_sz (h : MR s A) : s 0 = nI (aN A) := h.1
theorem mr_rw (h : MR s A) {i : Nat} (hi : i < aN A) : s (10 + i) = nI (aR A i) := h.2.1 i hi
theorem mr_wr (h : MR s A) {i : Nat} (hi : i < aN A) : s (35 + 5 * aR A i) = nI (aW A (aR A i)) := (h.2.2.1 i hi).1
theorem mr_bt (h : MR s A) {i : Nat} (hi : i < aN A) : s (36 + 5 * aR A i) = nI (aB A (aR A i)) := (h.2.2.1 i hi).2.1
theorem mr_tn (h : MR s A) {i : Nat} (hi : i < aN A) : s (37 + 5 * aR A i) = (if aT A (aR A i) = true then 1 else 0) := (h.2.2.1 i hi).2.2.1
theorem mr_nd (h : MR s A) {i : Nat} (hi : i < aN A) : s (38 + 5 * aR A i) = aD A (aR A i) := (h.2.2.1 i hi).2.2.2
theorem mr_in (h : MR s A) {k : Nat} (hk : k < 24) (hi : aIn A k) : s (34 + 5 * k) = 1 := (h.2.2.2.1 k hk).1 hi
theorem mr_out (h : MR s A) {k : Nat} (hk : k < 24) (hi : ¬ aIn A k) : s (34 + 5 * k) = 0 := (h.2.2.2.1 k hk).2 hi
theorem mr_pg (h : MR s A) : s 1 = nI (aPg A) := h.2.2.2.2.1.1
theorem mr_sl (h : MR s A) : s 2 = nI (aSl A) := h.2.2.2.2.1.2.1
theorem mr_tr (h : MR s A) : s 3 = nI (aTr A) := h.2.2.2.2.1.2.2
theorem mr_tg (h : MR s A) {a : Nat} (ha : a < 6) : s (4 + a) = nI (aTg A a) := h.2.2.2.2.2 a ha
end AX15
/-- beats ahead of a place; turns ahead of it; what can be trimmed of a slug; and of all ahead of a place -/
def aBeg (A : axAD) : Nat → Nat := aS (fun i => aB A (aR A i))
def aAct (A : axAD) : Nat → Nat := aS (fun i => if aT A (aR A i) = true then 1 else 0)
def aCan (A : axAD) (k : Nat) : Nat := aB A k - max 1 (aW A k - aW A k * aTr A / 100)
def aRm (A : axAD) : Nat → Nat := aS (fun i => aCan A (aR A i))
theorem aBeg_le {A : axAD} (h : aOk A) {p : Nat} (hp : p ≤ aN A) : aBeg A p ≤ p * 99 := aS_le p fun i hi => by have := h.b (show i < aN A by omega); omega
theorem aAct_le {A : axAD} (p : Nat) : aAct A p ≤ p := by
  have := aS_le (f := fun i => if aT A (aR A i) = true then 1 else 0) (c := 1) p (fun i _ => by split <;> omega)
  unfold aAct; omega
theorem aRm_le {A : axAD} (h : aOk A) {p : Nat} (hp : p ≤ aN A) : aRm A p ≤ p * 99 := aS_le p fun i hi => by have := h.b (show i < aN A by omega); unfold aCan; omega
end
section
/-! THE CLASS: helpers, and what only reads the board (1). -/
section AX16
variable {ro : axRo} {d : Nat} {h h1 : axH} {B : axBD} {Y : axYD} {sl : Nat → Option Nat} {P : axPD} {G : axGD} {tl : axH} {A : axAD}
theorem nlt24 {k : Nat} (h : k < 24) : ¬ (24 : Int32) ≤ nI k := nI_ge (b := 24) h (by omega)
theorem x4_cellR {j k : Nat} (hj : j < 3) (hk : k < (ro j).1) (hn : (ro j).1 < 2 ^ 31) : axEv ro (d + 1) kX4_cell [.retAddr j, .int (nI k)] h (some (.int ((ro j).2 k))) h := by
  refine ev_in rfl rfl (Nat.le_of_ble_eq_true rfl) rfl ?_
  refine wp_runk 1 rfl ?_
  refine wp_iflt rfl (fun hz_ => absurd hz_ (nI_pos (by omega))) (fun _ => ?_)
  refine wp_runk 2 rfl ?_
  refine wp_lenR rfl hj ?_
  refine wp_icge rfl (fun hz_ => absurd hz_ (nI_ge hk hn)) (fun _ => ?_)
  refine wp_runk 2 rfl ?_
  refine wp_aldR rfl hj (vp_in_nI hk hn) (by rw [nI_clamp (by omega)]) ?_
  refine wp_runk 1 rfl ?_
  exact wp_ret rfl rfl ⟨rfl, rfl⟩
theorem x4_store {k n0 j : Nat} {f : Nat → Int32} {v : Int32} (hh : h[k]? = some (.inl (0, n0, f))) (hj : j < n0) (hn : n0 < 2 ^ 31) (hs : h.set k (.inl (0, n0, upd f j v)) = h1) : axEv ro (d + 1) kX4_store [.ref k, .int (nI j), .int v] h none h1 := by
  refine ev_in rfl rfl (Nat.le_of_ble_eq_true rfl) rfl ?_
  refine wp_runk 1 rfl ?_
  refine wp_iflt rfl (fun hz_ => absurd hz_ (nI_pos (by omega))) (fun _ => ?_)
  refine wp_runk 2 rfl ?_
  refine wp_len rfl hh (by decide) ?_
  refine wp_icge rfl (fun hz_ => absurd hz_ (nI_ge hj hn)) (fun _ => ?_)
  refine wp_runk 3 rfl ?_
  refine wp_ast (h1 := h1) rfl hh (vp_in_nI hj hn) rfl (by rw [nI_clamp (by omega)]; exact hs) ?_
  exact wp_retv rfl ⟨rfl, rfl⟩
theorem x4_bit {k : Nat} (hk : k < 24) : axEv ro (d + 1) kX4_bit [.int (nI k)] h (some (.int (bi k))) h := by
  refine ev_in rfl rfl (Nat.le_of_ble_eq_true rfl) rfl ?_
  refine wp_run rfl ?_
  refine wp_iflt rfl (fun hz_ => absurd hz_ (nI_pos (by omega))) (fun _ => ?_)
  refine wp_run rfl ?_
  refine wp_run rfl ?_
  refine wp_icge rfl (fun hz_ => absurd hz_ (nlt24 hk)) (fun _ => ?_)
  refine wp_run rfl ?_
  refine wp_run rfl ?_
  exact wp_ret rfl rfl ⟨rfl, rfl⟩
theorem x4_contains_in {x : Int32} {k : Nat} (hk : k < 24) : axEv ro (d + 1) kX4_contains [.int x, .int (nI k)] h (some (.int (if bt x k = true then 1 else 0))) h := by
  refine ev_in rfl rfl (Nat.le_of_ble_eq_true rfl) rfl ?_
  refine wp_run rfl ?_
  refine wp_iflt rfl (fun hz_ => absurd hz_ (nI_pos (by omega))) (fun _ => ?_)
  refine wp_run rfl ?_
  refine wp_run rfl ?_
  refine wp_icge rfl (fun hz_ => absurd hz_ (nlt24 hk)) (fun _ => ?_)
  refine wp_run rfl ?_
  refine wp_run rfl ?_
  rw [bt_has (by omega)]
  by_cases hb : bt x k = true
  · rw [if_pos hb]
    refine wp_ifeq rfl (fun hz_ => absurd hz_ ((by decide : ¬ (1 : Int32) = 0))) (fun _ => ?_)
    refine wp_run rfl ?_
    refine wp_run rfl ?_
    exact wp_ret rfl rfl ⟨rfl, rfl⟩
  · rw [if_neg hb]
    refine wp_ifeq rfl (fun _ => ?_) (fun hz_ => absurd (rfl) hz_)
    refine wp_run rfl ?_
    refine wp_run rfl ?_
    exact wp_ret rfl rfl ⟨rfl, rfl⟩
theorem x4_contains_out {x y : Int32} (hy : y < 0 ∨ 24 ≤ y) : axEv ro (d + 1) kX4_contains [.int x, .int y] h (some (.int 0)) h := by
  refine ev_in rfl rfl (Nat.le_of_ble_eq_true rfl) rfl ?_
  refine wp_run rfl ?_
  refine wp_iflt rfl (fun q => ?_) (fun q => ?_)
  · refine wp_run rfl ?_
    exact wp_ret rfl rfl ⟨rfl, rfl⟩
  · refine wp_run rfl ?_
    refine wp_icge rfl (fun q2 => ?_) (fun q2 => ?_)
    · refine wp_run rfl ?_
      exact wp_ret rfl rfl ⟨rfl, rfl⟩
    · exact absurd hy (fun z => z.elim q q2)
/-! the board -/
theorem x0_has_in (hO : aOk A) (hC : CR B A) {i : Nat} (hi : i < aN A) : axEv ro (d + 2) kX0_has [.ref 1, .int (nI (aR A i))] (hX B Y sl P G tl) (some (.int 1)) (hX B Y sl P G tl) := by
  refine ev_in rfl rfl (Nat.le_of_ble_eq_true rfl) rfl ?_
  refine wp_run rfl ?_
  refine wp_s2 rfl (Nat.le_of_ble_eq_true rfl) (x4_contains_in (hO.r hi)) ?_
  refine wp_run rfl ?_
  rw [if_pos ((cr_sg hC _).mpr ⟨i, hi, rfl⟩)]
  exact wp_ret rfl rfl ⟨rfl, rfl⟩
theorem x0_has_out (hC : CR B A) {y : Int32} (hy : ∀ i, i < aN A → y ≠ nI (aR A i)) : axEv ro (d + 2) kX0_has [.ref 1, .int y] (hX B Y sl P G tl) (some (.int 0)) (hX B Y sl P G tl) := by
  rcases pk_ix y (show 24 < 2 ^ 31 by omega) with h | h | ⟨k, hk, rfl⟩
  · refine ev_in rfl rfl (Nat.le_of_ble_eq_true rfl) rfl ?_
    refine wp_run rfl ?_
    refine wp_s2 rfl (Nat.le_of_ble_eq_true rfl) (x4_contains_out (Or.inl h)) ?_
    refine wp_run rfl ?_
    exact wp_ret rfl rfl ⟨rfl, rfl⟩
  · refine ev_in rfl rfl (Nat.le_of_ble_eq_true rfl) rfl ?_
    refine wp_run rfl ?_
    refine wp_s2 rfl (Nat.le_of_ble_eq_true rfl) (x4_contains_out (Or.inr h)) ?_
    refine wp_run rfl ?_
    exact wp_ret rfl rfl ⟨rfl, rfl⟩
  · refine ev_in rfl rfl (Nat.le_of_ble_eq_true rfl) rfl ?_
    refine wp_run rfl ?_
    refine wp_s2 rfl (Nat.le_of_ble_eq_true rfl) (x4_contains_in hk) ?_
    refine wp_run rfl ?_
    rw [if_neg (fun q => by obtain ⟨i, hi, e⟩ := (cr_sg hC k).mp q; exact hy i hi (by rw [e]))]
    exact wp_ret rfl rfl ⟨rfl, rfl⟩
theorem x0_isTurn (hO : aOk A) (hC : CR B A) {i : Nat} (hi : i < aN A) : axEv ro (d + 2) kX0_isTurn [.ref 1, .int (nI (aR A i))] (hX B Y sl P G tl) (some (.int (if aT A (aR A i) = true then 1 else 0))) (hX B Y sl P G tl) := by
  refine ev_in rfl rfl (Nat.le_of_ble_eq_true rfl) rfl ?_
  refine wp_run rfl ?_
  refine wp_s2 rfl (Nat.le_of_ble_eq_true rfl) (x4_contains_in (hO.r hi)) ?_
  refine wp_run rfl ?_
  rw [cr_tnr hC hi]
  cases aT A (aR A i)
  · exact wp_ret rfl rfl ⟨rfl, rfl⟩
  · exact wp_ret rfl rfl ⟨rfl, rfl⟩
theorem x0_writtenOf (hO : aOk A) (hC : CR B A) {i : Nat} (hi : i < aN A) : axEv ro (d + 2) kX0_writtenOf [.ref 1, .int (nI (aR A i))] (hX B Y sl P G tl) (some (.int (nI (aW A (aR A i))))) (hX B Y sl P G tl) := by
  refine ev_in rfl rfl (Nat.le_of_ble_eq_true rfl) rfl ?_
  refine wp_run rfl ?_
  refine wp_s2 rfl (Nat.le_of_ble_eq_true rfl) (x4_cell rfl (hO.r hi) (by decide)) ?_
  refine wp_run rfl ?_
  exact wp_ret rfl rfl ⟨by rw [cr_wr hC hi], rfl⟩
theorem x0_beatsOf (hO : aOk A) (hC : CR B A) {i : Nat} (hi : i < aN A) : axEv ro (d + 2) kX0_beatsOf [.ref 1, .int (nI (aR A i))] (hX B Y sl P G tl) (some (.int (nI (aB A (aR A i))))) (hX B Y sl P G tl) := by
  refine ev_in rfl rfl (Nat.le_of_ble_eq_true rfl) rfl ?_
  refine wp_run rfl ?_
  refine wp_s2 rfl (Nat.le_of_ble_eq_true rfl) (x4_cell rfl (hO.r hi) (by decide)) ?_
  refine wp_run rfl ?_
  exact wp_ret rfl rfl ⟨by rw [cr_bt hC hi], rfl⟩
theorem x0_needsOf (hO : aOk A) (hC : CR B A) {i : Nat} (hi : i < aN A) : axEv ro (d + 2) kX0_needsOf [.ref 1, .int (nI (aR A i))] (hX B Y sl P G tl) (some (.int (aD A (aR A i)))) (hX B Y sl P G tl) := by
  refine ev_in rfl rfl (Nat.le_of_ble_eq_true rfl) rfl ?_
  refine wp_run rfl ?_
  refine wp_s2 rfl (Nat.le_of_ble_eq_true rfl) (x4_cell rfl (hO.r hi) (by decide)) ?_
  refine wp_run rfl ?_
  exact wp_ret rfl rfl ⟨by rw [cr_nd hC hi], rfl⟩
theorem x0_settingOf {j : Nat} (hj : j < 3) : axEv ro (d + 2) kX0_settingOf [.ref 1, .int (nI j)] (hX B Y sl P G tl) (some (.int (bSt B j))) (hX B Y sl P G tl) := by
  refine ev_in rfl rfl (Nat.le_of_ble_eq_true rfl) rfl ?_
  refine wp_run rfl ?_
  refine wp_s2 rfl (Nat.le_of_ble_eq_true rfl) (x4_cell rfl hj (by decide)) ?_
  refine wp_run rfl ?_
  exact wp_ret rfl rfl ⟨rfl, rfl⟩
theorem x0_pageBeats (hO : aOk A) (hC : CR B A) : axEv ro (d + 3) kX0_pageBeats [.ref 1] (hX B Y sl P G tl) (some (.int (nI (aPg A)))) (hX B Y sl P G tl) := by
  have := hO.pg
  refine ev_in rfl rfl (Nat.le_of_ble_eq_true rfl) rfl ?_
  refine wp_run rfl ?_
  refine wp_v1 rfl rfl (Nat.le_of_ble_eq_true rfl) (x0_settingOf (j := 0) (by omega)) ?_
  refine wp_run rfl ?_
  rw [cr_pg hC]
  refine wp_max rfl (Nat.le_of_ble_eq_true rfl) ((nI_max (a := 1) (by omega) (by omega))) ?_
  refine wp_run rfl ?_
  exact wp_ret rfl rfl ⟨by rw [Nat.max_eq_right (by omega)], rfl⟩
theorem x0_size (hC : CR B A) : axEv ro (d + 1) kX0_size [.ref 1] (hX B Y sl P G tl) (some (.int (nI (aN A)))) (hX B Y sl P G tl) := by
  refine ev_in rfl rfl (Nat.le_of_ble_eq_true rfl) rfl ?_
  refine wp_run rfl ?_
  exact wp_ret rfl rfl ⟨by rw [← cr_sz hC], rfl⟩
theorem x0_allSlugs : axEv ro (d + 1) kX0_allSlugs [.ref 1] (hX B Y sl P G tl) (some (.int (bSg B))) (hX B Y sl P G tl) := by
  refine ev_in rfl rfl (Nat.le_of_ble_eq_true rfl) rfl ?_
  refine wp_run rfl ?_
  exact wp_ret rfl rfl ⟨rfl, rfl⟩
theorem x0_allTurns : axEv ro (d + 1) kX0_allTurns [.ref 1] (hX B Y sl P G tl) (some (.int (bTn B))) (hX B Y sl P G tl) := by
  refine ev_in rfl rfl (Nat.le_of_ble_eq_true rfl) rfl ?_
  refine wp_run rfl ?_
  exact wp_ret rfl rfl ⟨rfl, rfl⟩
theorem x0_slugIn_in (hO : aOk A) (hC : CR B A) {i : Nat} (hi : i < aN A) : axEv ro (d + 2) kX0_slugIn [.ref 1, .int (nI i)] (hX B Y sl P G tl) (some (.int (nI (aR A i)))) (hX B Y sl P G tl) := by
  have := hO.n
  refine ev_in rfl rfl (Nat.le_of_ble_eq_true rfl) rfl ?_
  refine wp_run rfl ?_
  refine wp_iflt rfl (fun hz_ => absurd hz_ (nI_pos (by omega))) (fun _ => ?_)
  refine wp_run rfl ?_
  refine wp_run rfl ?_
  rw [cr_sz hC]
  refine wp_icge rfl (fun hz_ => absurd hz_ (nI_ge hi (by omega))) (fun _ => ?_)
  refine wp_run rfl ?_
  refine wp_run rfl ?_
  refine wp_s2 rfl (Nat.le_of_ble_eq_true rfl) (x4_cell rfl (show i < 24 by omega) (by decide)) ?_
  refine wp_run rfl ?_
  exact wp_ret rfl rfl ⟨by rw [cr_rw hC hi], rfl⟩
theorem x0_slugIn_out (hC : CR B A) {y : Int32} (hy : y < 0 ∨ nI (aN A) ≤ y) : axEv ro (d + 2) kX0_slugIn [.ref 1, .int y] (hX B Y sl P G tl) (some (.int (-1))) (hX B Y sl P G tl) := by
  refine ev_in rfl rfl (Nat.le_of_ble_eq_true rfl) rfl ?_
  refine wp_run rfl ?_
  refine wp_iflt rfl (fun q => ?_) (fun q => ?_)
  · refine wp_run rfl ?_
    exact wp_ret rfl rfl ⟨rfl, rfl⟩
  · refine wp_run rfl ?_
    rw [cr_sz hC]
    refine wp_icge rfl (fun q2 => ?_) (fun q2 => ?_)
    · refine wp_run rfl ?_
      exact wp_ret rfl rfl ⟨rfl, rfl⟩
    · exact absurd hy (fun z => z.elim q q2)
theorem x0_placeOf (hO : aOk A) (hC : CR B A) {p : Nat} (hp : p < aN A) : axEv ro (d + 2) kX0_placeOf [.ref 1, .int (nI (aR A p))] (hX B Y sl P G tl) (some (.int (nI p))) (hX B Y sl P G tl) := by
  have hn := hO.n
  have loop : ∀ m q, q + m = p → axW ro (axEv ro (d + 1)) cdX0_placeOf 7 [some (.ref 1), some (.int (nI (aR A p))), some (.int (nI q))] [.int (bSz B), .int (nI q)] (hX B Y sl P G tl) (fun r' h' => r' = some (.int (nI p)) ∧ h' = (hX B Y sl P G tl)) := by
    intro m
    induction m with
    | zero =>
      intro q e
      have e : q = p := by omega
      subst e
      rw [cr_sz hC]
      refine wp_icge rfl (fun hz_ => absurd hz_ (nI_ge hp (by omega))) (fun _ => ?_)
      refine wp_run rfl ?_
      refine wp_s2 rfl (Nat.le_of_ble_eq_true rfl) (x4_cell rfl (show q < 24 by omega) (by decide)) ?_
      refine wp_run rfl ?_
      rw [cr_rw hC hp]
      refine wp_icne rfl (fun hz_ => absurd hz_ (fun z => z rfl)) (fun _ => ?_)
      refine wp_run rfl ?_
      exact wp_ret rfl rfl ⟨rfl, rfl⟩
    | succ m ih =>
      intro q e
      have hq : q < aN A := by omega
      rw [cr_sz hC]
      refine wp_icge rfl (fun hz_ => absurd hz_ (nI_ge hq (by omega))) (fun _ => ?_)
      refine wp_run rfl ?_
      refine wp_s2 rfl (Nat.le_of_ble_eq_true rfl) (x4_cell rfl (show q < 24 by omega) (by decide)) ?_
      refine wp_run rfl ?_
      rw [cr_rw hC hq]
      refine wp_icne rfl (fun _ => ?_) (fun hz_ => absurd (fun z => by have := (nI_eq (by have := hO.r hq; omega) (by have := hO.r hp; omega)).mp z; have := hO.inj hq hp this; omega) hz_)
      refine wp_run rfl ?_
      rw [nI_1]
      exact ih (q + 1) (by omega)
  refine ev_in rfl rfl (Nat.le_of_ble_eq_true rfl) rfl ?_
  refine wp_run rfl ?_
  exact loop p 0 (by omega)
end AX16
end
section
/-! Integer.bitCount -/
theorem nx_and (a b : Nat) : nI a &&& nI b = nI (a &&& b) := by
  apply Int32.toBitVec_inj.1
  show BitVec.ofNat 32 a &&& BitVec.ofNat 32 b = BitVec.ofNat 32 (a &&& b)
  apply BitVec.eq_of_getLsbD_eq
  intro i hi
  simp [hi]
theorem pc_land {x u y v : Nat} (hy : y < 256) (hv : v < 256) : (256 * x + y) &&& (256 * u + v) = 256 * (x &&& u) + (y &&& v) := by
  have hyv : y &&& v < 2 ^ 8 := Nat.and_lt_two_pow y (by omega)
  apply Nat.eq_of_testBit_eq
  intro i
  rw [Nat.testBit_and, show 256 = 2 ^ 8 from rfl, Nat.testBit_two_pow_mul_add _ (show y < 2 ^ 8 by omega), Nat.testBit_two_pow_mul_add _ (show v < 2 ^ 8 by omega), Nat.testBit_two_pow_mul_add _ hyv]
  split <;> rw [Nat.testBit_and]
def pc8 (a : Nat) : Nat := bc (fun i => a.testBit i) 8
def pcT (a : Nat) : Nat := a / 2 &&& 85
def pc2 (a : Nat) : Nat := ((a - pcT a) &&& 51) + ((a - pcT a) / 4 &&& 51)
set_option maxRecDepth 100000 in
theorem pc_b1 : ∀ a, a < 256 → ∀ k, k < 2 → (a / 2 + 128 * k) &&& 85 = pcT a := by decide +kernel
theorem pc_b2 : ∀ a, a < 256 → pcT a ≤ a ∧ a / 2 &&& 85 = pcT a := by decide +kernel
set_option maxRecDepth 100000 in
theorem pc_b3 : ∀ a, a < 256 → ∀ k, k < 4 → (a / 4 + 64 * k) &&& 51 = a / 4 &&& 51 := by decide +kernel
set_option maxRecDepth 100000 in
theorem pc_b4 : ∀ a, a < 256 → ∀ r, r < 5 → (pc2 a + pc2 a / 16 + 16 * r) &&& 15 = pc8 a := by decide +kernel
theorem pc_b5 : ∀ a, a < 256 → pc2 a ≤ 68 ∧ pc2 a % 16 ≤ 4 ∧ pc8 a ≤ 8 ∧ pc2 a / 16 ≤ 4 := by decide +kernel
theorem pc_s1 {a b c e : Nat} (ha : a < 256) (hb : b < 256) (hc : c < 256) (he : e < 256) : (256 * (256 * (256 * e + c) + b) + a) / 2 &&& 1431655765 = 256 * (256 * (256 * pcT e + pcT c) + pcT b) + pcT a := by
  rw [show (256 * (256 * (256 * e + c) + b) + a) / 2 = 256 * (256 * (256 * (e / 2) + (c / 2 + 128 * (e % 2))) + (b / 2 + 128 * (c % 2))) + (a / 2 + 128 * (b % 2)) by omega,
    show 1431655765 = 256 * (256 * (256 * 85 + 85) + 85) + 85 from rfl, pc_land (by omega) (by omega), pc_land (by omega) (by omega), pc_land (by omega) (by omega),
    pc_b1 a ha _ (by omega), pc_b1 b hb _ (by omega), pc_b1 c hc _ (by omega), (pc_b2 e he).2]
theorem pc_s2 {a b c e : Nat} (ha : a < 256) (hb : b < 256) (hc : c < 256) (he : e < 256) : (256 * (256 * (256 * e + c) + b) + a) &&& 858993459 = 256 * (256 * (256 * (e &&& 51) + (c &&& 51)) + (b &&& 51)) + (a &&& 51) := by
  rw [show 858993459 = 256 * (256 * (256 * 51 + 51) + 51) + 51 from rfl, pc_land (by omega) (by omega), pc_land (by omega) (by omega), pc_land (by omega) (by omega)]
theorem pc_s3 {a b c e : Nat} (ha : a < 256) (hb : b < 256) (hc : c < 256) (he : e < 256) : (256 * (256 * (256 * e + c) + b) + a) / 4 &&& 858993459 = 256 * (256 * (256 * (e / 4 &&& 51) + (c / 4 &&& 51)) + (b / 4 &&& 51)) + (a / 4 &&& 51) := by
  rw [show (256 * (256 * (256 * e + c) + b) + a) / 4 = 256 * (256 * (256 * (e / 4) + (c / 4 + 64 * (e % 4))) + (b / 4 + 64 * (c % 4))) + (a / 4 + 64 * (b % 4)) by omega,
    show 858993459 = 256 * (256 * (256 * 51 + 51) + 51) + 51 from rfl, pc_land (by omega) (by omega), pc_land (by omega) (by omega), pc_land (by omega) (by omega),
    pc_b3 a ha _ (by omega), pc_b3 b hb _ (by omega), pc_b3 c hc _ (by omega)]
theorem pc_s4 {a b c e : Nat} (ha : a < 256) (hb : b < 256) (hc : c < 256) (he : e < 256) : ((256 * (256 * (256 * pc2 e + pc2 c) + pc2 b) + pc2 a) + (256 * (256 * (256 * pc2 e + pc2 c) + pc2 b) + pc2 a) / 16) &&& 252645135 = 256 * (256 * (256 * pc8 e + pc8 c) + pc8 b) + pc8 a := by
  have h1 := pc_b5 a ha
  have h2 := pc_b5 b hb
  have h3 := pc_b5 c hc
  have h4 := pc_b5 e he
  rw [show (256 * (256 * (256 * pc2 e + pc2 c) + pc2 b) + pc2 a) + (256 * (256 * (256 * pc2 e + pc2 c) + pc2 b) + pc2 a) / 16 = 256 * (256 * (256 * (pc2 e + pc2 e / 16 + 16 * 0) + (pc2 c + pc2 c / 16 + 16 * (pc2 e % 16))) + (pc2 b + pc2 b / 16 + 16 * (pc2 c % 16))) + (pc2 a + pc2 a / 16 + 16 * (pc2 b % 16)) by omega,
    show 252645135 = 256 * (256 * (256 * 15 + 15) + 15) + 15 from rfl, pc_land (by omega) (by omega), pc_land (by omega) (by omega), pc_land (by omega) (by omega),
    pc_b4 a ha _ (by omega), pc_b4 b hb _ (by omega), pc_b4 c hc _ (by omega), pc_b4 e he _ (by omega)]
/-- how many bits are set -/
def pcN (x : Int32) : Nat := bc (fun i => bt x i) 32
theorem pc_bits {m : Nat} (hm : m < 2 ^ 32) (i : Nat) (hi : i < 32) : bt (nI m) i = m.testBit i := by
  unfold bt
  show (BitVec.ofNat 32 m).getLsbD i = _
  rw [BitVec.getLsbD_ofNat]
  simp [hi]
theorem pc_split {a b c e : Nat} (ha : a < 256) (hb : b < 256) (hc : c < 256) (he : e < 256) : pcN (nI (256 * (256 * (256 * e + c) + b) + a)) = pc8 a + pc8 b + pc8 c + pc8 e := by
  unfold pcN
  rw [bc_cong 32 (fun i hi => pc_bits (by omega) i hi), show 32 = 8 + (8 + (8 + 8)) from rfl, bc_add, bc_add, bc_add]
  have k1 : bc (fun i => (256 * (256 * (256 * e + c) + b) + a).testBit i) 8 = pc8 a := bc_cong 8 fun i hi => by
    rw [show 256 = 2 ^ 8 from rfl, Nat.testBit_two_pow_mul_add _ (show a < 2 ^ 8 by omega), if_pos hi]
  have k2 : bc (fun i => (256 * (256 * (256 * e + c) + b) + a).testBit (8 + i)) 8 = pc8 b := bc_cong 8 fun i hi => by
    rw [show 256 = 2 ^ 8 from rfl, Nat.testBit_two_pow_mul_add _ (show a < 2 ^ 8 by omega), if_neg (by omega), Nat.testBit_two_pow_mul_add _ (show b < 2 ^ 8 by omega), if_pos (by omega), show 8 + i - 8 = i by omega]
  have k3 : bc (fun i => (256 * (256 * (256 * e + c) + b) + a).testBit (8 + (8 + i))) 8 = pc8 c := bc_cong 8 fun i hi => by
    rw [show 256 = 2 ^ 8 from rfl, Nat.testBit_two_pow_mul_add _ (show a < 2 ^ 8 by omega), if_neg (by omega), Nat.testBit_two_pow_mul_add _ (show b < 2 ^ 8 by omega), if_neg (by omega), Nat.testBit_two_pow_mul_add _ (show c < 2 ^ 8 by omega), if_pos (by omega), show 8 + (8 + i) - 8 - 8 = i by omega]
  have k4 : bc (fun i => (256 * (256 * (256 * e + c) + b) + a).testBit (8 + (8 + (8 + i)))) 8 = pc8 e := bc_cong 8 fun i hi => by
    rw [show 256 = 2 ^ 8 from rfl, Nat.testBit_two_pow_mul_add _ (show a < 2 ^ 8 by omega), if_neg (by omega), Nat.testBit_two_pow_mul_add _ (show b < 2 ^ 8 by omega), if_neg (by omega), Nat.testBit_two_pow_mul_add _ (show c < 2 ^ 8 by omega), if_neg (by omega), show 8 + (8 + (8 + i)) - 8 - 8 - 8 = i by omega]
  have z := Nat.add_assoc
  simp only [← Nat.add_assoc] at k1 k2 k3 k4 ⊢
  rw [k1, k2, k3, k4]
theorem pc_of (x : Int32) : ∃ a b c e, a < 256 ∧ b < 256 ∧ c < 256 ∧ e < 256 ∧ x = nI (256 * (256 * (256 * e + c) + b) + a) := by
  refine ⟨x.toBitVec.toNat % 256, x.toBitVec.toNat / 256 % 256, x.toBitVec.toNat / 65536 % 256, x.toBitVec.toNat / 16777216, by omega, by omega, by omega, by have := x.toBitVec.isLt; omega, ?_⟩
  have h := x.toBitVec.isLt
  rw [show 256 * (256 * (256 * (x.toBitVec.toNat / 16777216) + x.toBitVec.toNat / 65536 % 256) + x.toBitVec.toNat / 256 % 256) + x.toBitVec.toNat % 256 = x.toBitVec.toNat by omega]
  apply Int32.toBitVec_inj.mp
  show _ = BitVec.ofNat 32 x.toBitVec.toNat
  simp
theorem xJ_bitCount {ro : axRo} {d : Nat} {h : axH} (x : Int32) : axEv ro (d + 1) kJ_bitCount [.int x] h (some (.int (nI (pcN x)))) h := by
  obtain ⟨a, b, c, e, ha, hb, hc, he, rfl⟩ := pc_of x
  rw [pc_split ha hb hc he]
  have t1 := pc_b2 a ha
  have t2 := pc_b2 b hb
  have t3 := pc_b2 c hc
  have t4 := pc_b2 e he
  have u1 := pc_b5 a ha
  have u2 := pc_b5 b hb
  have u3 := pc_b5 c hc
  have u4 := pc_b5 e he
  refine ev_in rfl rfl (Nat.le_of_ble_eq_true rfl) rfl ?_
  -- the words step by step
  have s1 : nI (256 * (256 * (256 * e + c) + b) + a) - (((nI (256 * (256 * (256 * e + c) + b) + a)).toUInt32 >>> ((1 : Int32).toUInt32 &&& Int32.toUInt32 31)).toInt32 &&& 1431655765) = nI (256 * (256 * (256 * (e - pcT e) + (c - pcT c)) + (b - pcT b)) + (a - pcT a)) := by
    rw [pk_ushrN (by omega) 1 1 (by decide +kernel), show (1431655765 : Int32) = nI 1431655765 from rfl, nx_and, show (2 : Nat) ^ 1 = 2 from rfl, pc_s1 ha hb hc he, pk_sub (by omega)]
    congr 1
    omega
  have s2 : ∀ w, w = nI (256 * (256 * (256 * (e - pcT e) + (c - pcT c)) + (b - pcT b)) + (a - pcT a)) → (w &&& 858993459) + ((w.toUInt32 >>> ((2 : Int32).toUInt32 &&& Int32.toUInt32 31)).toInt32 &&& 858993459) = nI (256 * (256 * (256 * pc2 e + pc2 c) + pc2 b) + pc2 a) := by
    intro w hw
    rw [hw, pk_ushrN (by omega) 2 2 (by decide +kernel), show (858993459 : Int32) = nI 858993459 from rfl, nx_and, nx_and, show (2 : Nat) ^ 2 = 4 from rfl, pc_s2 (by omega) (by omega) (by omega) (by omega), pc_s3 (by omega) (by omega) (by omega) (by omega), nI_add]
    congr 1
    unfold pc2
    omega
  have s3 : ∀ w, w = nI (256 * (256 * (256 * pc2 e + pc2 c) + pc2 b) + pc2 a) → (w + (w.toUInt32 >>> ((4 : Int32).toUInt32 &&& Int32.toUInt32 31)).toInt32) &&& 252645135 = nI (256 * (256 * (256 * pc8 e + pc8 c) + pc8 b) + pc8 a) := by
    intro w hw
    rw [hw, pk_ushrN (by omega) 4 4 (by decide +kernel), show (252645135 : Int32) = nI 252645135 from rfl, nI_add, nx_and, show (2 : Nat) ^ 4 = 16 from rfl, pc_s4 ha hb hc he]
  have s4 : ∀ w, w = nI (256 * (256 * (256 * pc8 e + pc8 c) + pc8 b) + pc8 a) → w + (w.toUInt32 >>> ((8 : Int32).toUInt32 &&& Int32.toUInt32 31)).toInt32 = nI (256 * (256 * (256 * pc8 e + (pc8 c + pc8 e)) + (pc8 b + pc8 c)) + (pc8 a + pc8 b)) := by
    intro w hw
    rw [hw, pk_ushrN (by omega) 8 8 (by decide +kernel), nI_add]
    congr 1
    rw [show (2 : Nat) ^ 8 = 256 from rfl]
    omega
  have s5 : ∀ w, w = nI (256 * (256 * (256 * pc8 e + (pc8 c + pc8 e)) + (pc8 b + pc8 c)) + (pc8 a + pc8 b)) → (w + (w.toUInt32 >>> ((16 : Int32).toUInt32 &&& Int32.toUInt32 31)).toInt32) &&& 63 = nI (pc8 a + pc8 b + pc8 c + pc8 e) := by
    intro w hw
    rw [hw, pk_ushrN (by omega) 16 16 (by decide +kernel), nI_add, pk_andN (by omega) 6 (by decide +kernel)]
    congr 1
    have e1 : (256 * (256 * (256 * pc8 e + (pc8 c + pc8 e)) + (pc8 b + pc8 c)) + (pc8 a + pc8 b)) / 2 ^ 16 = 256 * pc8 e + (pc8 c + pc8 e) := by
      rw [show (2 : Nat) ^ 16 = 256 * 256 from rfl, ← Nat.div_div_eq_div_mul, show (256 * (256 * (256 * pc8 e + (pc8 c + pc8 e)) + (pc8 b + pc8 c)) + (pc8 a + pc8 b)) / 256 = 256 * (256 * pc8 e + (pc8 c + pc8 e)) + (pc8 b + pc8 c) by omega]
      omega
    rw [e1, show (2 : Nat) ^ 6 = 64 from rfl]
    generalize pc8 a = a' at *
    generalize pc8 b = b' at *
    generalize pc8 c = c' at *
    generalize pc8 e = e' at *
    omega
  refine wp_run rfl ?_
  refine wp_run rfl ?_
  exact wp_ret rfl rfl ⟨by rw [s5 _ (s4 _ (s3 _ (s2 _ s1)))], rfl⟩
end
section
/-! THE CLASS: what only reads the board (2): rooms, sums, needs, places. -/
section AX18
variable {ro : axRo} {d : Nat} {h h1 : axH} {B : axBD} {Y : axYD} {sl : Nat → Option Nat} {P : axPD} {G : axGD} {tl : axH} {A : axAD}
theorem aS_diff {f : Nat → Nat} {a q : Nat} (h : a ≤ q) : aS f q - aS f a + f q = aS f (q + 1) - aS f a := by
  have := aS_mono (f := f) h
  rw [aS]; omega
theorem aCan_min {A : axAD} (h : aOk A) {i : Nat} (hi : i < aN A) : aW A (aR A i) * aTr A ≤ 99 * 90 := Nat.mul_le_mul (h.b hi).2.2 h.tr
theorem x0_roomOf (hO : aOk A) (hC : CR B A) {i : Nat} (hi : i < aN A) : axEv ro (d + 2) kX0_roomOf [.ref 1, .int (nI (aR A i))] (hX B Y sl P G tl) (some (.int (nI (aCan A (aR A i))))) (hX B Y sl P G tl) := by
  have h1 := hO.b hi
  have h2 := aCan_min hO hi
  have h3 : aW A (aR A i) * aTr A ≤ aW A (aR A i) * 90 := Nat.mul_le_mul_left _ hO.tr
  refine ev_in rfl rfl (Nat.le_of_ble_eq_true rfl) rfl ?_
  refine wp_run rfl ?_
  refine wp_s2 rfl (Nat.le_of_ble_eq_true rfl) (x4_cell rfl (hO.r hi) (by decide)) ?_
  refine wp_run rfl ?_
  refine wp_s2 rfl (Nat.le_of_ble_eq_true rfl) (x4_cell (j := 2) rfl (by omega) (by decide)) ?_
  refine wp_run rfl ?_
  rw [cr_wr hC hi, cr_tr hC, pk_mul]
  refine wp_idiv rfl (by decide) (pk_div (d := 100) (by omega) (by omega) (by omega)) ?_
  refine wp_run rfl ?_
  rw [pk_sub (by omega)]
  refine wp_max rfl (Nat.le_of_ble_eq_true rfl) ((nI_max (a := 1) (by omega) (by omega))) ?_
  refine wp_run rfl ?_
  refine wp_s2 rfl (Nat.le_of_ble_eq_true rfl) (x4_cell rfl (hO.r hi) (by decide)) ?_
  refine wp_run rfl ?_
  rw [cr_bt hC hi]
  by_cases hle : max 1 (aW A (aR A i) - aW A (aR A i) * aTr A / 100) ≤ aB A (aR A i)
  · rw [pk_sub hle]
    refine wp_max rfl (Nat.le_of_ble_eq_true rfl) ((nI_max (a := 0) (by omega) (by omega))) ?_
    refine wp_run rfl ?_
    exact wp_ret rfl rfl ⟨by rw [Nat.max_eq_right (by omega)]; rfl, rfl⟩
  · rw [show nI (aB A (aR A i)) - nI (max 1 (aW A (aR A i) - aW A (aR A i) * aTr A / 100)) = zI ((aB A (aR A i) : Int) - (max 1 (aW A (aR A i) - aW A (aR A i) * aTr A / 100) : Nat)) by rw [← zI_nI, ← zI_nI, zI_sub]]
    refine wp_max rfl (Nat.le_of_ble_eq_true rfl) (if_neg (by rw [zI_0, zI_lt ⟨by omega, by omega⟩ ⟨by omega, by omega⟩]; omega)) ?_
    refine wp_run rfl ?_
    exact wp_ret rfl rfl ⟨by unfold aCan; rw [show aB A (aR A i) - max 1 (aW A (aR A i) - aW A (aR A i) * aTr A / 100) = 0 by omega]; rfl, rfl⟩
theorem x0_beatsIn (hO : aOk A) (hC : CR B A) {f t : Nat} (hf : f ≤ t) (ht : t ≤ aN A) : axEv ro (d + 2) kX0_beatsIn [.ref 1, .int (nI f), .int (nI t)] (hX B Y sl P G tl) (some (.int (nI (aBeg A t - aBeg A f)))) (hX B Y sl P G tl) := by
  have hn := hO.n
  have loop : ∀ m q, q + m = t → f ≤ q → axW ro (axEv ro (d + 1)) cdX0_beatsIn 8 [some (.ref 1), some (.int (nI f)), some (.int (nI t)), some (.int (nI (aBeg A q - aBeg A f))), some (.int (nI q))] [.int (nI t), .int (nI q)] (hX B Y sl P G tl) (fun r' h' => r' = some (.int (nI (aBeg A t - aBeg A f))) ∧ h' = (hX B Y sl P G tl)) := by
    intro m
    induction m with
    | zero =>
      intro q e _
      have e : q = t := by omega
      subst e
      refine wp_icge rfl (fun _ => ?_) (fun hz_ => absurd (nI_le (Nat.le_refl _) (by omega)) hz_)
      refine wp_run rfl ?_
      exact wp_ret rfl rfl ⟨rfl, rfl⟩
    | succ m ih =>
      intro q e hq
      have hqn : q < aN A := by omega
      refine wp_icge rfl (fun hz_ => absurd hz_ (nI_ge (show q < t by omega) (by omega))) (fun _ => ?_)
      refine wp_run rfl ?_
      refine wp_s2 rfl (Nat.le_of_ble_eq_true rfl) (x4_cell rfl (show q < 24 by omega) (by decide)) ?_
      refine wp_run rfl ?_
      rw [cr_rw hC hqn]
      refine wp_s2 rfl (Nat.le_of_ble_eq_true rfl) (x4_cell rfl (hO.r hqn) (by decide)) ?_
      refine wp_run rfl ?_
      rw [cr_bt hC hqn, nI_add, nI_1, show aBeg A q - aBeg A f + aB A (aR A q) = aBeg A (q + 1) - aBeg A f from aS_diff hq]
      exact ih (q + 1) (by omega) (by omega)
  refine ev_in rfl rfl (Nat.le_of_ble_eq_true rfl) rfl ?_
  refine wp_run rfl ?_
  have := loop (t - f) f (by omega) (Nat.le_refl _)
  rw [Nat.sub_self] at this
  exact this
theorem x0_roomIn (hO : aOk A) (hC : CR B A) {f t : Nat} (hf : f ≤ t) (ht : t ≤ aN A) : axEv ro (d + 3) kX0_roomIn [.ref 1, .int (nI f), .int (nI t)] (hX B Y sl P G tl) (some (.int (nI (aRm A t - aRm A f)))) (hX B Y sl P G tl) := by
  have hn := hO.n
  have loop : ∀ m q, q + m = t → f ≤ q → axW ro (axEv ro (d + 2)) cdX0_roomIn 8 [some (.ref 1), some (.int (nI f)), some (.int (nI t)), some (.int (nI (aRm A q - aRm A f))), some (.int (nI q))] [.int (nI t), .int (nI q)] (hX B Y sl P G tl) (fun r' h' => r' = some (.int (nI (aRm A t - aRm A f))) ∧ h' = (hX B Y sl P G tl)) := by
    intro m
    induction m with
    | zero =>
      intro q e _
      have e : q = t := by omega
      subst e
      refine wp_icge rfl (fun _ => ?_) (fun hz_ => absurd (nI_le (Nat.le_refl _) (by omega)) hz_)
      refine wp_run rfl ?_
      exact wp_ret rfl rfl ⟨rfl, rfl⟩
    | succ m ih =>
      intro q e hq
      have hqn : q < aN A := by omega
      refine wp_icge rfl (fun hz_ => absurd hz_ (nI_ge (show q < t by omega) (by omega))) (fun _ => ?_)
      refine wp_run rfl ?_
      refine wp_s2 rfl (Nat.le_of_ble_eq_true rfl) (x4_cell rfl (show q < 24 by omega) (by decide)) ?_
      refine wp_run rfl ?_
      rw [cr_rw hC hqn]
      refine wp_v1 rfl rfl (Nat.le_of_ble_eq_true rfl) (x0_roomOf hO hC hqn) ?_
      refine wp_run rfl ?_
      rw [nI_add, nI_1, show aRm A q - aRm A f + aCan A (aR A q) = aRm A (q + 1) - aRm A f from aS_diff hq]
      exact ih (q + 1) (by omega) (by omega)
  refine ev_in rfl rfl (Nat.le_of_ble_eq_true rfl) rfl ?_
  refine wp_run rfl ?_
  have := loop (t - f) f (by omega) (Nat.le_refl _)
  rw [Nat.sub_self] at this
  exact this
theorem x0_allBeats (hO : aOk A) (hC : CR B A) : axEv ro (d + 3) kX0_allBeats [.ref 1] (hX B Y sl P G tl) (some (.int (nI (aBeg A (aN A))))) (hX B Y sl P G tl) := by
  refine ev_in rfl rfl (Nat.le_of_ble_eq_true rfl) rfl ?_
  refine wp_run rfl ?_
  rw [cr_sz hC]
  refine wp_v2 rfl rfl (Nat.le_of_ble_eq_true rfl) (x0_beatsIn (f := 0) hO hC (Nat.zero_le _) (Nat.le_refl _)) ?_
  refine wp_run rfl ?_
  exact wp_ret rfl rfl ⟨rfl, rfl⟩
theorem x0_turnsAhead (hO : aOk A) (hC : CR B A) {t : Nat} (ht : t ≤ aN A) : axEv ro (d + 2) kX0_turnsAhead [.ref 1, .int (nI t)] (hX B Y sl P G tl) (some (.int (nI (aAct A t)))) (hX B Y sl P G tl) := by
  have hn := hO.n
  have loop : ∀ m q, q + m = t → axW ro (axEv ro (d + 1)) cdX0_turnsAhead 6 [some (.ref 1), some (.int (nI t)), some (.int (nI (aAct A q))), some (.int (nI q))] [.int (nI t), .int (nI q)] (hX B Y sl P G tl) (fun r' h' => r' = some (.int (nI (aAct A t))) ∧ h' = (hX B Y sl P G tl)) := by
    intro m
    induction m with
    | zero =>
      intro q e
      have e : q = t := by omega
      subst e
      refine wp_icge rfl (fun _ => ?_) (fun hz_ => absurd (nI_le (Nat.le_refl _) (by omega)) hz_)
      refine wp_run rfl ?_
      exact wp_ret rfl rfl ⟨rfl, rfl⟩
    | succ m ih =>
      intro q e
      have hqn : q < aN A := by omega
      refine wp_icge rfl (fun hz_ => absurd hz_ (nI_ge (show q < t by omega) (by omega))) (fun _ => ?_)
      refine wp_run rfl ?_
      refine wp_s2 rfl (Nat.le_of_ble_eq_true rfl) (x4_cell rfl (show q < 24 by omega) (by decide)) ?_
      refine wp_run rfl ?_
      rw [cr_rw hC hqn]
      refine wp_s2 rfl (Nat.le_of_ble_eq_true rfl) (x4_contains_in (hO.r hqn)) ?_
      refine wp_run rfl ?_
      rw [cr_tnr hC hqn]
      have e1 : aAct A (q + 1) = aAct A q + (if aT A (aR A q) = true then 1 else 0) := rfl
      cases ht : aT A (aR A q) with
      | true =>
        rw [ht] at e1
        refine wp_ifeq rfl (fun hz_ => absurd hz_ ((by decide : ¬ (1 : Int32) = 0))) (fun _ => ?_)
        refine wp_run rfl ?_
        rw [nI_1, nI_1, show aAct A q + 1 = aAct A (q + 1) by rw [e1]; rfl]
        exact ih (q + 1) (by omega)
      | false =>
        rw [ht] at e1
        refine wp_ifeq rfl (fun _ => ?_) (fun hz_ => absurd (rfl) hz_)
        refine wp_run rfl ?_
        rw [nI_1, show aAct A q = aAct A (q + 1) by rw [e1]; rfl]
        exact ih (q + 1) (by omega)
  refine ev_in rfl rfl (Nat.le_of_ble_eq_true rfl) rfl ?_
  refine wp_run rfl ?_
  exact loop t 0 (by omega)
/-- the slug that runs at a beat: the first place whose end is behind it -/
def aAtB (A : axAD) (x : Nat) : Nat := bc (fun p => decide (aBeg A (p + 1) ≤ x)) (aN A)
theorem bc_pre {p : Nat → Bool} : ∀ (n : Nat), (∀ q, q + 1 < n → p (q + 1) = true → p q = true) → ∀ q, q < bc p n ↔ (q < n ∧ p q = true)
  | 0, _, q => by simp [bc]
  | n + 1, h, q => by
    have ih := bc_pre n (fun q hq => h q (by omega))
    have hall : p n = true → ∀ j, j ≤ n → p (n - j) = true := by
      intro hn j
      induction j with
      | zero => intro _; exact hn
      | succ j ihj =>
        intro hj
        have := ihj (by omega)
        apply h (n - (j + 1)) (by omega)
        rw [show n - (j + 1) + 1 = n - j by omega]; exact this
    rw [bc]
    by_cases hn : p n = true
    · rw [if_pos hn]
      have e : bc p n = n := by
        rcases Nat.lt_or_ge (bc p n) n with z | z
        · have h1 := (ih (bc p n)).mpr ⟨z, by have := hall hn (n - bc p n) (by omega); rw [show n - (n - bc p n) = bc p n by omega] at this; exact this⟩
          omega
        · have := bc_le p n; omega
      rw [e]
      constructor
      · intro hq
        exact ⟨hq, by have := hall hn (n - q) (by omega); rw [show n - (n - q) = q by omega] at this; exact this⟩
      · intro hq; exact hq.1
    · rw [if_neg hn, Nat.add_zero]
      constructor
      · intro hq
        have := (ih q).mp hq
        exact ⟨by omega, this.2⟩
      · intro hq
        apply (ih q).mpr
        refine ⟨?_, hq.2⟩
        by_cases e : q = n
        · rw [e] at hq; exact absurd hq.2 hn
        · omega
theorem aAtB_lt (A : axAD) (x q : Nat) : q < aAtB A x ↔ (q < aN A ∧ aBeg A (q + 1) ≤ x) := by
  unfold aAtB
  rw [bc_pre (aN A) (fun q _ hq => by
    rw [decide_eq_true_eq] at *
    have : aBeg A (q + 1) ≤ aBeg A (q + 1 + 1) := aS_mono (by omega)
    omega) q, decide_eq_true_eq]
theorem aAtB_le (A : axAD) (x : Nat) : aAtB A x ≤ aN A := bc_le _ _
theorem x0_slugAtBeat (hO : aOk A) (hC : CR B A) {x : Nat} (hx : x < 2 ^ 31) : axEv ro (d + 3) kX0_slugAtBeat [.ref 1, .int (nI x)] (hX B Y sl P G tl) (some (.int (if aAtB A x < aN A then nI (aR A (aAtB A x)) else -6))) (hX B Y sl P G tl) := by
  have hn := hO.n
  have loop : ∀ m q, q + m = aAtB A x → ∀ v : Option Value, axW ro (axEv ro (d + 2)) cdX0_slugAtBeat 9 [some (.ref 1), some (.int (nI x)), some (.int (nI (aBeg A q))), some (.int (nI q)), v] [.int (bSz B), .int (nI q)] (hX B Y sl P G tl) (fun r' h' => r' = some (.int (if aAtB A x < aN A then nI (aR A (aAtB A x)) else -6)) ∧ h' = (hX B Y sl P G tl)) := by
    intro m
    induction m with
    | zero =>
      intro q e v
      have e : q = aAtB A x := by omega
      rw [cr_sz hC]
      by_cases hlt : q < aN A
      · refine wp_icge rfl (fun hz_ => absurd hz_ (nI_ge hlt (by omega))) (fun _ => ?_)
        refine wp_run rfl ?_
        refine wp_s2 rfl (Nat.le_of_ble_eq_true rfl) (x4_cell rfl (show q < 24 by omega) (by decide)) ?_
        refine wp_run rfl ?_
        rw [cr_rw hC hlt]
        refine wp_v1 rfl rfl (Nat.le_of_ble_eq_true rfl) (x0_beatsOf hO hC hlt) ?_
        refine wp_run rfl ?_
        have h3 : aBeg A (q + 1) = aBeg A q + aB A (aR A q) := rfl
        have h4 : ¬ aBeg A (q + 1) ≤ x := fun z => by have := (aAtB_lt A x q).mpr ⟨hlt, z⟩; omega
        have h5 := aBeg_le hO (show q + 1 ≤ aN A by omega)
        rw [nI_add, ← h3]
        refine wp_icge rfl (fun hz_ => absurd hz_ (nI_ge (show x < aBeg A (q + 1) by omega) (by omega))) (fun _ => ?_)
        refine wp_run rfl ?_
        exact wp_ret rfl rfl ⟨by rw [← e, if_pos hlt], rfl⟩
      · have := aAtB_le A x
        refine wp_icge rfl (fun _ => ?_) (fun hz_ => absurd (nI_le (show aN A ≤ q by omega) (by omega)) hz_)
        refine wp_run rfl ?_
        exact wp_ret rfl rfl ⟨by rw [← e, if_neg hlt], rfl⟩
    | succ m ih =>
      intro q e v
      obtain ⟨hlt, h4⟩ := (aAtB_lt A x q).mp (by omega)
      rw [cr_sz hC]
      refine wp_icge rfl (fun hz_ => absurd hz_ (nI_ge hlt (by omega))) (fun _ => ?_)
      refine wp_run rfl ?_
      refine wp_s2 rfl (Nat.le_of_ble_eq_true rfl) (x4_cell rfl (show q < 24 by omega) (by decide)) ?_
      refine wp_run rfl ?_
      rw [cr_rw hC hlt]
      refine wp_v1 rfl rfl (Nat.le_of_ble_eq_true rfl) (x0_beatsOf hO hC hlt) ?_
      refine wp_run rfl ?_
      have h3 : aBeg A (q + 1) = aBeg A q + aB A (aR A q) := rfl
      rw [nI_add, ← h3]
      refine wp_icge rfl (fun _ => ?_) (fun hz_ => absurd (nI_le h4 hx) hz_)
      refine wp_run rfl ?_
      rw [nI_1]
      exact ih (q + 1) (by omega) _
  refine ev_in rfl rfl (Nat.le_of_ble_eq_true rfl) rfl ?_
  refine wp_run rfl ?_
  exact loop (aAtB A x) 0 (by omega) _
end AX18
end
section
/-! THE CLASS: what only reads the board (3): needs, places, the longest slug. -/
/-- the first of the first n for which f holds, n if there is none -/
def aFst (f : Nat → Bool) : Nat → Nat
  | 0 => 0
  | n + 1 => if aFst f n < n then aFst f n else if f n = true then n else n + 1
theorem aFst_le (f : Nat → Bool) : ∀ n, aFst f n ≤ n
  | 0 => Nat.le_refl _
  | n + 1 => by
    have := aFst_le f n
    rw [aFst]
    split
    · omega
    · split <;> omega
theorem aFst_no (f : Nat → Bool) : ∀ n k, k < aFst f n → f k = false
  | 0, k, h => absurd h (Nat.not_lt_zero k)
  | n + 1, k, h => by
    have ih := aFst_no f n
    have hle := aFst_le f n
    rw [aFst] at h
    split at h
    · exact ih k h
    · split at h
      · exact ih k (by omega)
      · rename_i h1 h2
        by_cases e : k = n
        · rw [e]; simpa using h2
        · exact ih k (by omega)
theorem aFst_yes (f : Nat → Bool) : ∀ n, aFst f n < n → f (aFst f n) = true
  | 0, h => absurd h (Nat.not_lt_zero _)
  | n + 1, h => by
    have ih := aFst_yes f n
    have hle := aFst_le f n
    rw [aFst] at h ⊢
    split
    · rename_i h1
      exact ih h1
    · rename_i h1
      rw [if_neg h1] at h
      split
      · rename_i h2; exact h2
      · rename_i h2
        rw [if_neg h2] at h
        omega
theorem aFst_lt {f : Nat → Bool} {n k : Nat} (hk : k < n) (hf : f k = true) : aFst f n ≤ k := by
  rcases Nat.lt_or_ge k (aFst f n) with h | h
  · have := aFst_no f n k h; rw [hf] at this; cases this
  · exact h
theorem aFst_eq {f : Nat → Bool} {n k : Nat} (hk : k ≤ n) (h1 : ∀ j, j < k → f j = false) (h2 : k < n → f k = true) : aFst f n = k := by
  rcases Nat.lt_or_ge k n with h | h
  · have a := aFst_lt h (h2 h)
    rcases Nat.lt_or_ge (aFst f n) k with b | b
    · have := aFst_yes f n (by omega); rw [h1 _ b] at this; cases this
    · omega
  · have e : k = n := by omega
    have a := aFst_le f n
    rcases Nat.lt_or_ge (aFst f n) k with b | b
    · have := aFst_yes f n (by omega); rw [h1 _ b] at this; cases this
    · omega
/-- who needs the slug k -/
def aNdr (A : axAD) (k : Nat) : Nat → Int32
  | 0 => 0
  | p + 1 => if bt (aD A (aR A p)) k = true then aNdr A k p ||| bi (aR A p) else aNdr A k p
/-- all that is needed, and what these need, down from a place -/
def aClo (A : axAD) : Nat → Int32 → Int32
  | 0, x => x
  | p + 1, x => aClo A p (if bt x (aR A p) = true then x ||| aD A (aR A p) else x)
/-- the place behind the last slug of a set -/
def aLoF (A : axAD) (x : Int32) : Nat → Nat
  | 0 => 0
  | p + 1 => if bt x (aR A p) = true then p + 1 else aLoF A x p
theorem aLoF_le (A : axAD) (x : Int32) : ∀ p, aLoF A x p ≤ p
  | 0 => Nat.le_refl _
  | p + 1 => by
    have := aLoF_le A x p
    rw [aLoF]
    split <;> omega
def aLo (A : axAD) (i : Nat) : Nat := aLoF A (aD A (aR A i)) (aN A)
def aHi (A : axAD) (i : Nat) : Nat := aFst (fun p => bt (aD A (aR A p)) (aR A i)) (aN A)
/-- the longest slug, and how long it is -/
def aLng (A : axAD) : Nat → Int32 × Nat
  | 0 => (-6, 0)
  | p + 1 => if (aLng A p).2 < aB A (aR A p) then (nI (aR A p), aB A (aR A p)) else aLng A p
section AX19
variable {ro : axRo} {d : Nat} {h h1 : axH} {B : axBD} {Y : axYD} {sl : Nat → Option Nat} {P : axPD} {G : axGD} {tl : axH} {A : axAD}
theorem nI_p1 {a : Nat} (h : 1 ≤ a) : nI a - 1 = nI (a - 1) := pk_sub (b := 1) h
theorem aHi_pos (hO : aOk A) {i : Nat} (hi : i < aN A) : 1 ≤ aHi A i := by
  rcases Nat.eq_zero_or_pos (aHi A i) with h | h
  · have h2 := aFst_yes (fun p => bt (aD A (aR A p)) (aR A i)) (aN A) (by unfold aHi at h; omega)
    unfold aHi at h
    rw [h] at h2
    obtain ⟨j, hj, _⟩ := hO.d (show 0 < aN A by omega) h2
    omega
  · exact h
theorem x0_needersOf (hO : aOk A) (hC : CR B A) {k : Nat} (hk : k < 24) : axEv ro (d + 3) kX0_needersOf [.ref 1, .int (nI k)] (hX B Y sl P G tl) (some (.int (aNdr A k (aN A)))) (hX B Y sl P G tl) := by
  have hn := hO.n
  have loop : ∀ m q, q + m = aN A → ∀ v : Option Value, axW ro (axEv ro (d + 2)) cdX0_needersOf 9 [some (.ref 1), some (.int (nI k)), some (.int (aNdr A k q)), some (.int (nI q)), v] [.int (bSz B), .int (nI q)] (hX B Y sl P G tl) (fun r' h' => r' = some (.int (aNdr A k (aN A))) ∧ h' = (hX B Y sl P G tl)) := by
    intro m
    induction m with
    | zero =>
      intro q e v
      have e : q = aN A := by omega
      subst e
      rw [cr_sz hC]
      refine wp_icge rfl (fun _ => ?_) (fun hz_ => absurd (nI_le (Nat.le_refl _) (by omega)) hz_)
      refine wp_run rfl ?_
      exact wp_ret rfl rfl ⟨rfl, rfl⟩
    | succ m ih =>
      intro q e v
      have hq : q < aN A := by omega
      rw [cr_sz hC]
      refine wp_icge rfl (fun hz_ => absurd hz_ (nI_ge hq (by omega))) (fun _ => ?_)
      refine wp_run rfl ?_
      refine wp_s2 rfl (Nat.le_of_ble_eq_true rfl) (x4_cell rfl (show q < 24 by omega) (by decide)) ?_
      refine wp_run rfl ?_
      rw [cr_rw hC hq]
      refine wp_v1 rfl rfl (Nat.le_of_ble_eq_true rfl) (x0_needsOf hO hC hq) ?_
      refine wp_run rfl ?_
      refine wp_s2 rfl (Nat.le_of_ble_eq_true rfl) (x4_contains_in hk) ?_
      refine wp_run rfl ?_
      have e1 : aNdr A k (q + 1) = if bt (aD A (aR A q)) k = true then aNdr A k q ||| bi (aR A q) else aNdr A k q := rfl
      by_cases hb : bt (aD A (aR A q)) k = true
      · rw [if_pos hb]
        rw [if_pos hb] at e1
        refine wp_ifeq rfl (fun hz_ => absurd hz_ ((by decide : ¬ (1 : Int32) = 0))) (fun _ => ?_)
        refine wp_run rfl ?_
        refine wp_s1 rfl (Nat.le_of_ble_eq_true rfl) (x4_bit (hO.r hq)) ?_
        refine wp_run rfl ?_
        rw [← e1, nI_1]
        exact ih (q + 1) (by omega) _
      · rw [if_neg hb]
        rw [if_neg hb] at e1
        refine wp_ifeq rfl (fun _ => ?_) (fun hz_ => absurd (rfl) hz_)
        refine wp_run rfl ?_
        rw [← e1, nI_1]
        exact ih (q + 1) (by omega) _
  refine ev_in rfl rfl (Nat.le_of_ble_eq_true rfl) rfl ?_
  refine wp_run rfl ?_
  exact loop (aN A) 0 (by omega) _
theorem x0_allNeedsOf (hO : aOk A) (hC : CR B A) {i : Nat} (hi : i < aN A) : axEv ro (d + 3) kX0_allNeedsOf [.ref 1, .int (nI (aR A i))] (hX B Y sl P G tl) (some (.int (aClo A (aN A) (aD A (aR A i))))) (hX B Y sl P G tl) := by
  have hn := hO.n
  have loop : ∀ m, m ≤ aN A → ∀ (x : Int32) (v : Option Value), aClo A m x = aClo A (aN A) (aD A (aR A i)) → axW ro (axEv ro (d + 2)) cdX0_allNeedsOf 14 [some (.ref 1), some (.int (nI (aR A i))), some (.int x), some (.int (nI m - 1)), v] [.int (nI m - 1)] (hX B Y sl P G tl) (fun r' h' => r' = some (.int (aClo A (aN A) (aD A (aR A i)))) ∧ h' = (hX B Y sl P G tl)) := by
    intro m
    induction m with
    | zero =>
      intro _ x v hx
      refine wp_iflt rfl (fun _ => ?_) (fun hz_ => absurd ((by decide : nI 0 - 1 < 0)) hz_)
      refine wp_run rfl ?_
      exact wp_ret rfl rfl ⟨by rw [← hx]; rfl, rfl⟩
    | succ m ih =>
      intro hm x v hx
      have hq : m < aN A := by omega
      rw [show nI (m + 1) - 1 = nI m from nI_pred m]
      refine wp_iflt rfl (fun hz_ => absurd hz_ (nI_pos (by omega))) (fun _ => ?_)
      refine wp_run rfl ?_
      refine wp_s2 rfl (Nat.le_of_ble_eq_true rfl) (x4_cell rfl (show m < 24 by omega) (by decide)) ?_
      refine wp_run rfl ?_
      rw [cr_rw hC hq]
      refine wp_s2 rfl (Nat.le_of_ble_eq_true rfl) (x4_contains_in (hO.r hq)) ?_
      refine wp_run rfl ?_
      have e1 : aClo A (m + 1) x = aClo A m (if bt x (aR A m) = true then x ||| aD A (aR A m) else x) := rfl
      rw [e1] at hx
      by_cases hb : bt x (aR A m) = true
      · rw [if_pos hb]
        rw [if_pos hb] at hx
        refine wp_ifeq rfl (fun hz_ => absurd hz_ ((by decide : ¬ (1 : Int32) = 0))) (fun _ => ?_)
        refine wp_run rfl ?_
        refine wp_v1 rfl rfl (Nat.le_of_ble_eq_true rfl) (x0_needsOf hO hC hq) ?_
        refine wp_run rfl ?_
        rw [show nI m + (-1) = nI m - 1 by rw [Int32.sub_eq_add_neg]]
        exact ih (by omega) _ _ hx
      · rw [if_neg hb]
        rw [if_neg hb] at hx
        refine wp_ifeq rfl (fun _ => ?_) (fun hz_ => absurd (rfl) hz_)
        refine wp_run rfl ?_
        rw [show nI m + (-1) = nI m - 1 by rw [Int32.sub_eq_add_neg]]
        exact ih (by omega) _ _ hx
  refine ev_in rfl rfl (Nat.le_of_ble_eq_true rfl) rfl ?_
  refine wp_run rfl ?_
  refine wp_v1 rfl rfl (Nat.le_of_ble_eq_true rfl) (x0_needsOf hO hC hi) ?_
  refine wp_run rfl ?_
  rw [cr_sz hC]
  exact loop (aN A) (Nat.le_refl _) _ _ rfl
theorem x0_lowestPlace (hO : aOk A) (hC : CR B A) {i : Nat} (hi : i < aN A) : axEv ro (d + 3) kX0_lowestPlace [.ref 1, .int (nI (aR A i))] (hX B Y sl P G tl) (some (.int (nI (aLo A i)))) (hX B Y sl P G tl) := by
  have hn := hO.n
  have loop : ∀ m, m ≤ aN A → aLoF A (aD A (aR A i)) m = aLo A i → axW ro (axEv ro (d + 2)) cdX0_lowestPlace 14 [some (.ref 1), some (.int (nI (aR A i))), some (.int (aD A (aR A i))), some (.int (nI m - 1))] [.int (nI m - 1)] (hX B Y sl P G tl) (fun r' h' => r' = some (.int (nI (aLo A i))) ∧ h' = (hX B Y sl P G tl)) := by
    intro m
    induction m with
    | zero =>
      intro _ hx
      refine wp_iflt rfl (fun _ => ?_) (fun hz_ => absurd ((by decide : nI 0 - 1 < 0)) hz_)
      refine wp_run rfl ?_
      exact wp_ret rfl rfl ⟨by rw [← hx]; rfl, rfl⟩
    | succ m ih =>
      intro hm hx
      have hq : m < aN A := by omega
      rw [show nI (m + 1) - 1 = nI m from nI_pred m]
      refine wp_iflt rfl (fun hz_ => absurd hz_ (nI_pos (by omega))) (fun _ => ?_)
      refine wp_run rfl ?_
      refine wp_s2 rfl (Nat.le_of_ble_eq_true rfl) (x4_cell rfl (show m < 24 by omega) (by decide)) ?_
      refine wp_run rfl ?_
      rw [cr_rw hC hq]
      refine wp_s2 rfl (Nat.le_of_ble_eq_true rfl) (x4_contains_in (hO.r hq)) ?_
      refine wp_run rfl ?_
      have e1 : aLoF A (aD A (aR A i)) (m + 1) = if bt (aD A (aR A i)) (aR A m) = true then m + 1 else aLoF A (aD A (aR A i)) m := rfl
      rw [e1] at hx
      by_cases hb : bt (aD A (aR A i)) (aR A m) = true
      · rw [if_pos hb]
        rw [if_pos hb] at hx
        refine wp_ifeq rfl (fun hz_ => absurd hz_ ((by decide : ¬ (1 : Int32) = 0))) (fun _ => ?_)
        refine wp_run rfl ?_
        rw [nI_1, hx]
        exact wp_ret rfl rfl ⟨rfl, rfl⟩
      · rw [if_neg hb]
        rw [if_neg hb] at hx
        refine wp_ifeq rfl (fun _ => ?_) (fun hz_ => absurd (rfl) hz_)
        refine wp_run rfl ?_
        rw [show nI m + (-1) = nI m - 1 by rw [Int32.sub_eq_add_neg]]
        exact ih (by omega) hx
  refine ev_in rfl rfl (Nat.le_of_ble_eq_true rfl) rfl ?_
  refine wp_run rfl ?_
  refine wp_v1 rfl rfl (Nat.le_of_ble_eq_true rfl) (x0_needsOf hO hC hi) ?_
  refine wp_run rfl ?_
  rw [cr_sz hC]
  exact loop (aN A) (Nat.le_refl _) rfl
theorem x0_highestPlace (hO : aOk A) (hC : CR B A) {i : Nat} (hi : i < aN A) : axEv ro (d + 2) kX0_highestPlace [.ref 1, .int (nI (aR A i))] (hX B Y sl P G tl) (some (.int (nI (aHi A i - 1)))) (hX B Y sl P G tl) := by
  have hn := hO.n
  have hp := aHi_pos hO hi
  have hle : aHi A i ≤ aN A := aFst_le _ _
  have loop : ∀ m q, q + m = aHi A i → axW ro (axEv ro (d + 1)) cdX0_highestPlace 7 [some (.ref 1), some (.int (nI (aR A i))), some (.int (nI q))] [.int (bSz B), .int (nI q)] (hX B Y sl P G tl) (fun r' h' => r' = some (.int (nI (aHi A i - 1))) ∧ h' = (hX B Y sl P G tl)) := by
    intro m
    induction m with
    | zero =>
      intro q e
      have e : q = aHi A i := by omega
      subst e
      rw [cr_sz hC]
      by_cases hq : aHi A i < aN A
      · refine wp_icge rfl (fun hz_ => absurd hz_ (nI_ge hq (by omega))) (fun _ => ?_)
        refine wp_run rfl ?_
        refine wp_s2 rfl (Nat.le_of_ble_eq_true rfl) (x4_cell rfl (show aHi A i < 24 by omega) (by decide)) ?_
        refine wp_run rfl ?_
        rw [cr_rw hC hq]
        refine wp_s2 rfl (Nat.le_of_ble_eq_true rfl) (x4_cell rfl (hO.r hq) (by decide)) ?_
        refine wp_run rfl ?_
        rw [cr_nd hC hq]
        refine wp_s2 rfl (Nat.le_of_ble_eq_true rfl) (x4_contains_in (hO.r hi)) ?_
        refine wp_run rfl ?_
        rw [if_pos (show bt (aD A (aR A (aHi A i))) (aR A i) = true from aFst_yes (fun p => bt (aD A (aR A p)) (aR A i)) (aN A) hq)]
        refine wp_ifeq rfl (fun hz_ => absurd hz_ ((by decide : ¬ (1 : Int32) = 0))) (fun _ => ?_)
        refine wp_run rfl ?_
        rw [nI_p1 hp]
        exact wp_ret rfl rfl ⟨rfl, rfl⟩
      · refine wp_icge rfl (fun _ => ?_) (fun hz_ => absurd (nI_le (show aN A ≤ aHi A i by omega) (by omega)) hz_)
        refine wp_run rfl ?_
        rw [cr_sz hC, nI_p1 (a := aN A) (by omega), show aN A - 1 = aHi A i - 1 by omega]
        exact wp_ret rfl rfl ⟨rfl, rfl⟩
    | succ m ih =>
      intro q e
      have hq : q < aN A := by omega
      rw [cr_sz hC]
      refine wp_icge rfl (fun hz_ => absurd hz_ (nI_ge hq (by omega))) (fun _ => ?_)
      refine wp_run rfl ?_
      refine wp_s2 rfl (Nat.le_of_ble_eq_true rfl) (x4_cell rfl (show q < 24 by omega) (by decide)) ?_
      refine wp_run rfl ?_
      rw [cr_rw hC hq]
      refine wp_s2 rfl (Nat.le_of_ble_eq_true rfl) (x4_cell rfl (hO.r hq) (by decide)) ?_
      refine wp_run rfl ?_
      rw [cr_nd hC hq]
      refine wp_s2 rfl (Nat.le_of_ble_eq_true rfl) (x4_contains_in (hO.r hi)) ?_
      refine wp_run rfl ?_
      have h3 : bt (aD A (aR A q)) (aR A i) = false := aFst_no (fun p => bt (aD A (aR A p)) (aR A i)) (aN A) q (by unfold aHi at e; omega)
      rw [if_neg (by rw [h3]; decide)]
      refine wp_ifeq rfl (fun _ => ?_) (fun hz_ => absurd (rfl) hz_)
      refine wp_run rfl ?_
      rw [nI_1]
      exact ih (q + 1) (by omega)
  refine ev_in rfl rfl (Nat.le_of_ble_eq_true rfl) rfl ?_
  refine wp_run rfl ?_
  exact loop (aHi A i) 0 (by omega)
theorem x0_mayStandIn (hO : aOk A) (hC : CR B A) {i q : Nat} (hi : i < aN A) (hq : q < aN A) : axEv ro (d + 4) kX0_mayStandIn [.ref 1, .int (nI (aR A i)), .int (nI q)] (hX B Y sl P G tl) (some (.int (if aLo A i ≤ q ∧ q < aHi A i then 1 else 0))) (hX B Y sl P G tl) := by
  have hn := hO.n
  have hp := aHi_pos hO hi
  have hle : aHi A i ≤ aN A := aFst_le _ _
  have hl : aLo A i ≤ aN A := aLoF_le _ _ _
  refine ev_in rfl rfl (Nat.le_of_ble_eq_true rfl) rfl ?_
  refine wp_run rfl ?_
  refine wp_v1 rfl rfl (Nat.le_of_ble_eq_true rfl) (x0_lowestPlace hO hC hi) ?_
  refine wp_run rfl ?_
  by_cases h1 : aLo A i ≤ q
  · refine wp_iclt rfl (fun hz_ => absurd hz_ (nI_nlt h1 (by omega))) (fun _ => ?_)
    refine wp_run rfl ?_
    refine wp_v1 rfl rfl (Nat.le_of_ble_eq_true rfl) (x0_highestPlace hO hC hi) ?_
    refine wp_run rfl ?_
    by_cases h2 : q < aHi A i
    · rw [if_pos ⟨h1, h2⟩]
      refine wp_icgt rfl (fun hz_ => absurd hz_ (nI_nlt (show q ≤ aHi A i - 1 by omega) (by omega))) (fun _ => ?_)
      refine wp_run rfl ?_
      exact wp_ret rfl rfl ⟨rfl, rfl⟩
    · rw [if_neg (fun z => h2 z.2)]
      refine wp_icgt rfl (fun _ => ?_) (fun hz_ => absurd (nI_lt (show aHi A i - 1 < q by omega) (by omega)) hz_)
      refine wp_run rfl ?_
      exact wp_ret rfl rfl ⟨rfl, rfl⟩
  · rw [if_neg (fun z => h1 z.1)]
    refine wp_iclt rfl (fun _ => ?_) (fun hz_ => absurd (nI_lt (show q < aLo A i by omega) (by omega)) hz_)
    refine wp_run rfl ?_
    exact wp_ret rfl rfl ⟨rfl, rfl⟩
theorem aLng_le (hO : aOk A) : ∀ p, p ≤ aN A → (aLng A p).2 ≤ 99
  | 0, _ => by simp [aLng]
  | p + 1, h => by
    have ih := aLng_le hO p (by omega)
    have := hO.b (show p < aN A by omega)
    rw [aLng]
    split
    · show aB A (aR A p) ≤ 99; omega
    · exact ih
theorem x0_longestSlug (hO : aOk A) (hC : CR B A) : axEv ro (d + 3) kX0_longestSlug [.ref 1] (hX B Y sl P G tl) (some (.int (aLng A (aN A)).1)) (hX B Y sl P G tl) := by
  have hn := hO.n
  have loop : ∀ m q, q + m = aN A → ∀ v : Option Value, axW ro (axEv ro (d + 2)) cdX0_longestSlug 12 [some (.ref 1), some (.int (aLng A q).1), some (.int (nI (aLng A q).2)), some (.int (nI q)), v] [.int (bSz B), .int (nI q)] (hX B Y sl P G tl) (fun r' h' => r' = some (.int ((aLng A (aN A)).1)) ∧ h' = (hX B Y sl P G tl)) := by
    intro m
    induction m with
    | zero =>
      intro q e v
      have e : q = aN A := by omega
      subst e
      rw [cr_sz hC]
      refine wp_icge rfl (fun _ => ?_) (fun hz_ => absurd (nI_le (Nat.le_refl _) (by omega)) hz_)
      refine wp_run rfl ?_
      exact wp_ret rfl rfl ⟨rfl, rfl⟩
    | succ m ih =>
      intro q e v
      have hq : q < aN A := by omega
      have hm := aLng_le hO q (by omega)
      have hb := hO.b hq
      rw [cr_sz hC]
      refine wp_icge rfl (fun hz_ => absurd hz_ (nI_ge hq (by omega))) (fun _ => ?_)
      refine wp_run rfl ?_
      refine wp_s2 rfl (Nat.le_of_ble_eq_true rfl) (x4_cell rfl (show q < 24 by omega) (by decide)) ?_
      refine wp_run rfl ?_
      rw [cr_rw hC hq]
      refine wp_v1 rfl rfl (Nat.le_of_ble_eq_true rfl) (x0_beatsOf hO hC hq) ?_
      refine wp_run rfl ?_
      have e1 : aLng A (q + 1) = if (aLng A q).2 < aB A (aR A q) then (nI (aR A q), aB A (aR A q)) else aLng A q := rfl
      by_cases h2 : (aLng A q).2 < aB A (aR A q)
      · rw [if_pos h2] at e1
        refine wp_icle rfl (fun hz_ => absurd hz_ (nI_ge h2 (by omega))) (fun _ => ?_)
        refine wp_run rfl ?_
        refine wp_v1 rfl rfl (Nat.le_of_ble_eq_true rfl) (x0_beatsOf hO hC hq) ?_
        refine wp_run rfl ?_
        rw [nI_1]
        have := ih (q + 1) (by omega) (some (.int (nI (aR A q))))
        rw [e1] at this
        exact this
      · rw [if_neg h2] at e1
        refine wp_icle rfl (fun _ => ?_) (fun hz_ => absurd (nI_le (show aB A (aR A q) ≤ (aLng A q).2 by omega) (by omega)) hz_)
        refine wp_run rfl ?_
        rw [nI_1]
        have := ih (q + 1) (by omega) (some (.int (nI (aR A q))))
        rw [e1] at this
        exact this
  refine ev_in rfl rfl (Nat.le_of_ble_eq_true rfl) rfl ?_
  refine wp_run rfl ?_
  exact loop (aN A) 0 (by omega) _
end AX19
end
section
/-! THE CLASS: acts. -/
/-- how many acts; where an act begins; its target; by how much it is off; is it open; does it fit -/
def aActs (A : axAD) : Nat := if aN A = 0 then 0 else aAct A (aN A - 1) + 1
def aSt (A : axAD) (a : Nat) : Nat := bc (fun q => decide (aAct A q < a)) (aN A)
def aTgt (A : axAD) (a : Nat) : Nat := aTg A (min a 5)
def aOff (A : axAD) (a : Nat) : Int := ((aBeg A (aSt A (a + 1)) - aBeg A (aSt A a) : Nat) : Int) - (aTgt A a : Int)
theorem aSt_lt (A : axAD) (a q : Nat) : q < aSt A a ↔ (q < aN A ∧ aAct A q < a) := by
  unfold aSt
  rw [bc_pre (aN A) (fun q _ hq => by
    rw [decide_eq_true_eq] at *
    have : aAct A q ≤ aAct A (q + 1) := aS_mono (by omega)
    omega) q, decide_eq_true_eq]
theorem aSt_le (A : axAD) (a : Nat) : aSt A a ≤ aN A := bc_le _ _
theorem aSt_mono (A : axAD) {a b : Nat} (h : a ≤ b) : aSt A a ≤ aSt A b := by
  rcases Nat.lt_or_ge (aSt A b) (aSt A a) with z | z
  · have h1 := (aSt_lt A a (aSt A b)).mp z
    have h2 := (aSt_lt A b (aSt A b)).mpr ⟨h1.1, by omega⟩
    omega
  · exact z
theorem aTgt_le {A : axAD} (h : aOk A) (a : Nat) : 1 ≤ aTgt A a ∧ aTgt A a ≤ 999 := h.tg (by omega)
theorem aActs_le (A : axAD) : aActs A ≤ aN A := by
  unfold aActs
  split
  · omega
  · have := aAct_le (A := A) (aN A - 1); omega
theorem aOff_b {A : axAD} (h : aOk A) (a : Nat) : -999 ≤ aOff A a ∧ aOff A a ≤ 2376 := by
  have h1 := aTgt_le h a
  have h2 := aBeg_le h (aSt_le A (a + 1))
  have h3 := aSt_le A (a + 1)
  have h4 := h.n
  unfold aOff
  omega
theorem bc_point {f : Nat → Bool} {a : Nat} {c : Bool} (hf : f a = false) : ∀ N, bc (fun k => f k || (decide (k = a) && c)) N = bc f N + (if a < N ∧ c = true then 1 else 0)
  | 0 => by simp [bc]
  | N + 1 => by
    rw [bc, bc, bc_point hf N]
    by_cases e : N = a
    · subst e
      rw [hf]
      cases c
      · simp
      · simp
    · have : decide (N = a) = false := decide_eq_false e
      rw [this]
      simp only [Bool.false_and, Bool.or_false]
      by_cases h1 : a < N
      · have : a < N + 1 := by omega
        simp only [h1, this, true_and]; omega
      · have : ¬ a < N + 1 := by omega
        simp only [h1, this, false_and, if_false, Nat.add_zero]
theorem bc_row {r : Nat → Nat} {t : Nat → Bool} {n N : Nat} (hr : ∀ i, i < n → r i < N) (inj : ∀ i j, i < n → j < n → r i = r j → i = j) : ∀ p, p ≤ n → ∀ f : Nat → Bool, (∀ k, f k = true ↔ ∃ i, i < p ∧ r i = k ∧ t k = true) → bc f N = aS (fun i => if t (r i) = true then 1 else 0) p
  | 0, _, f, hf => by
    have : ∀ k, k < N → f k = (fun _ => false) k := fun k _ => by
      cases h : f k with
      | false => rfl
      | true => obtain ⟨i, hi, _⟩ := (hf k).mp h; omega
    rw [bc_cong N this]
    have z : ∀ N, bc (fun _ => false) N = 0 := by
      intro N
      induction N with
      | zero => rfl
      | succ N ih => rw [bc, ih]; rfl
    rw [z]; rfl
  | p + 1, hp, f, hf => by
    have ih := bc_row (t := t) hr inj p (by omega)
    obtain ⟨g, hg⟩ : ∃ g : Nat → Bool, ∀ k, g k = true ↔ ∃ i, i < p ∧ r i = k ∧ t k = true := ⟨fun k => @decide _ (Classical.propDecidable (∃ i, i < p ∧ r i = k ∧ t k = true)), fun k => by simp⟩
    have hgp : g (r p) = false := by
      cases h : g (r p) with
      | false => rfl
      | true =>
        obtain ⟨i, hi, e, _⟩ := (hg (r p)).mp h
        have := inj i p (by omega) (by omega) e
        omega
    have e : ∀ k, k < N → f k = (fun k => g k || (decide (k = r p) && t (r p))) k := by
      intro k _
      have h1 := hf k
      have h2 := hg k
      show f k = (g k || (decide (k = r p) && t (r p)))
      cases hfk : f k
      · cases hgk : g k
        · by_cases ek : k = r p
          · subst ek
            cases ht : t (r p)
            · simp
            · exact absurd (h1.mpr ⟨p, by omega, rfl, ht⟩) (by rw [hfk]; decide)
          · simp [ek]
        · obtain ⟨i, hi, q1, q2⟩ := h2.mp hgk
          exact absurd (h1.mpr ⟨i, by omega, q1, q2⟩) (by rw [hfk]; decide)
      · obtain ⟨i, hi, q1, q2⟩ := h1.mp hfk
        by_cases ei : i = p
        · subst ei
          subst q1
          simp [q2]
        · have := h2.mpr ⟨i, by omega, q1, q2⟩
          rw [this]; rfl
    rw [bc_cong N e, bc_point hgp, ih g hg, aS]
    congr 1
    have := hr p (by omega)
    cases t (r p)
    · simp
    · simp [this]
section AX20
variable {ro : axRo} {d : Nat} {h h1 : axH} {B : axBD} {Y : axYD} {sl : Nat → Option Nat} {P : axPD} {G : axGD} {tl : axH} {A : axAD}
theorem aTurns (hO : aOk A) (hC : CR B A) : pcN (bTn B) = aAct A (aN A) := by
  unfold pcN aAct
  refine bc_row (r := aR A) (t := aT A) (n := aN A) (fun i hi => by have := hO.r hi; omega) (fun i j hi hj e => hO.inj hi hj e) (aN A) (Nat.le_refl _) _ (fun k => ?_)
  rw [cr_tn hC k]
  constructor
  · rintro ⟨⟨i, hi, e⟩, ht⟩
    exact ⟨i, hi, e, ht⟩
  · rintro ⟨i, hi, e, ht⟩
    exact ⟨⟨i, hi, e⟩, ht⟩
theorem x0_actCount (hO : aOk A) (hC : CR B A) : axEv ro (d + 2) kX0_actCount [.ref 1] (hX B Y sl P G tl) (some (.int (nI (aActs A)))) (hX B Y sl P G tl) := by
  have hn := hO.n
  have ha := aAct_le (A := A) (aN A)
  have ht := aTurns hO hC
  refine ev_in rfl rfl (Nat.le_of_ble_eq_true rfl) rfl ?_
  refine wp_run rfl ?_
  rw [cr_sz hC]
  by_cases h0 : aN A = 0
  · refine wp_ifle rfl (fun _ => ?_) (fun hz_ => absurd (by rw [h0]; decide) hz_)
    refine wp_run rfl ?_
    refine wp_s1 rfl (Nat.le_of_ble_eq_true rfl) (xJ_bitCount _) ?_
    refine wp_run rfl ?_
    refine wp_ifeq rfl (fun _ => ?_) (fun hz_ => absurd (rfl) hz_)
    refine wp_run rfl ?_
    rw [ht, show aAct A (aN A) = 0 by omega]
    exact wp_ret rfl rfl ⟨by unfold aActs; rw [if_pos h0]; rfl, rfl⟩
  · have hp : aN A - 1 < aN A := by omega
    refine wp_ifle rfl (fun hz_ => absurd hz_ (nI_nle (by omega) (by omega))) (fun _ => ?_)
    refine wp_run rfl ?_
    rw [cr_sz hC, nI_p1 (by omega)]
    refine wp_s2 rfl (Nat.le_of_ble_eq_true rfl) (x4_cell rfl (show aN A - 1 < 24 by omega) (by decide)) ?_
    refine wp_run rfl ?_
    rw [cr_rw hC hp]
    refine wp_s2 rfl (Nat.le_of_ble_eq_true rfl) (x4_contains_in (hO.r hp)) ?_
    refine wp_run rfl ?_
    rw [cr_tnr hC hp]
    have e1 : aAct A (aN A - 1 + 1) = aAct A (aN A - 1) + (if aT A (aR A (aN A - 1)) = true then 1 else 0) := rfl
    rw [show aN A - 1 + 1 = aN A by omega] at e1
    cases hb : aT A (aR A (aN A - 1)) with
    | true =>
      rw [hb] at e1
      refine wp_ifne rfl (fun _ => ?_) (fun hz_ => absurd ((by decide : ¬ (1 : Int32) = 0)) hz_)
      refine wp_run rfl ?_
      refine wp_s1 rfl (Nat.le_of_ble_eq_true rfl) (xJ_bitCount _) ?_
      refine wp_run rfl ?_
      refine wp_ifeq rfl (fun _ => ?_) (fun hz_ => absurd (rfl) hz_)
      refine wp_run rfl ?_
      rw [ht, e1]
      exact wp_ret rfl rfl ⟨by unfold aActs; rw [if_neg h0]; exact congrArg (fun z => some (Value.int z)) (Int32.add_zero _), rfl⟩
    | false =>
      rw [hb] at e1
      refine wp_ifne rfl (fun hz_ => absurd hz_ (fun z => z rfl)) (fun _ => ?_)
      refine wp_run rfl ?_
      refine wp_s1 rfl (Nat.le_of_ble_eq_true rfl) (xJ_bitCount _) ?_
      refine wp_run rfl ?_
      refine wp_ifeq rfl (fun hz_ => absurd hz_ ((by decide : ¬ (1 : Int32) = 0))) (fun _ => ?_)
      refine wp_run rfl ?_
      rw [ht, e1, nI_1]
      exact wp_ret rfl rfl ⟨by unfold aActs; rw [if_neg h0]; rfl, rfl⟩
theorem x0_hasAct_in (hO : aOk A) (hC : CR B A) {a : Nat} (ha : a < aActs A) : axEv ro (d + 3) kX0_hasAct [.ref 1, .int (nI a)] (hX B Y sl P G tl) (some (.int 1)) (hX B Y sl P G tl) := by
  have hn := hO.n
  have hl := aActs_le A
  refine ev_in rfl rfl (Nat.le_of_ble_eq_true rfl) rfl ?_
  refine wp_run rfl ?_
  refine wp_iflt rfl (fun hz_ => absurd hz_ (nI_pos (by omega))) (fun _ => ?_)
  refine wp_run rfl ?_
  refine wp_v0 rfl rfl (Nat.le_of_ble_eq_true rfl) (x0_actCount hO hC) ?_
  refine wp_run rfl ?_
  refine wp_icge rfl (fun hz_ => absurd hz_ (nI_ge ha (by omega))) (fun _ => ?_)
  refine wp_run rfl ?_
  exact wp_ret rfl rfl ⟨rfl, rfl⟩
theorem x0_hasAct_out (hO : aOk A) (hC : CR B A) {y : Int32} (hy : y < 0 ∨ nI (aActs A) ≤ y) : axEv ro (d + 3) kX0_hasAct [.ref 1, .int y] (hX B Y sl P G tl) (some (.int 0)) (hX B Y sl P G tl) := by
  refine ev_in rfl rfl (Nat.le_of_ble_eq_true rfl) rfl ?_
  refine wp_run rfl ?_
  refine wp_iflt rfl (fun q => ?_) (fun q => ?_)
  · refine wp_run rfl ?_
    exact wp_ret rfl rfl ⟨rfl, rfl⟩
  · refine wp_run rfl ?_
    refine wp_v0 rfl rfl (Nat.le_of_ble_eq_true rfl) (x0_actCount hO hC) ?_
    refine wp_run rfl ?_
    refine wp_icge rfl (fun q2 => ?_) (fun q2 => ?_)
    · refine wp_run rfl ?_
      exact wp_ret rfl rfl ⟨rfl, rfl⟩
    · exact absurd hy (fun z => z.elim q q2)
theorem x0_startOf (hO : aOk A) (hC : CR B A) {a : Nat} (ha : a < 2 ^ 31) : axEv ro (d + 2) kX0_startOf [.ref 1, .int (nI a)] (hX B Y sl P G tl) (some (.int (nI (aSt A a)))) (hX B Y sl P G tl) := by
  have hn := hO.n
  have hl := aSt_le A a
  have loop : ∀ m q, q + m = aSt A a → axW ro (axEv ro (d + 1)) cdX0_startOf 9 [some (.ref 1), some (.int (nI a)), some (.int (nI q)), some (.int (nI (a - aAct A q)))] [.int (bSz B), .int (nI q)] (hX B Y sl P G tl) (fun r' h' => r' = some (.int (nI (aSt A a))) ∧ h' = (hX B Y sl P G tl)) := by
    intro m
    induction m with
    | zero =>
      intro q e
      have e : q = aSt A a := by omega
      subst e
      rw [cr_sz hC]
      by_cases hq : aSt A a < aN A
      · have h1 : ¬ aAct A (aSt A a) < a := fun z => by have := (aSt_lt A a (aSt A a)).mpr ⟨hq, z⟩; omega
        refine wp_icge rfl (fun hz_ => absurd hz_ (nI_ge hq (by omega))) (fun _ => ?_)
        refine wp_run rfl ?_
        refine wp_ifle rfl (fun _ => ?_) (fun hz_ => absurd (by rw [show a - aAct A (aSt A a) = 0 by omega]; decide) hz_)
        refine wp_run rfl ?_
        exact wp_ret rfl rfl ⟨rfl, rfl⟩
      · refine wp_icge rfl (fun _ => ?_) (fun hz_ => absurd (nI_le (show aN A ≤ aSt A a by omega) (by omega)) hz_)
        refine wp_run rfl ?_
        exact wp_ret rfl rfl ⟨rfl, rfl⟩
    | succ m ih =>
      intro q e
      obtain ⟨hq, h1⟩ := (aSt_lt A a q).mp (by omega)
      rw [cr_sz hC]
      refine wp_icge rfl (fun hz_ => absurd hz_ (nI_ge hq (by omega))) (fun _ => ?_)
      refine wp_run rfl ?_
      refine wp_ifle rfl (fun hz_ => absurd hz_ (nI_nle (show 0 < a - aAct A q by omega) (by omega))) (fun _ => ?_)
      refine wp_run rfl ?_
      refine wp_s2 rfl (Nat.le_of_ble_eq_true rfl) (x4_cell rfl (show q < 24 by omega) (by decide)) ?_
      refine wp_run rfl ?_
      rw [cr_rw hC hq]
      refine wp_s2 rfl (Nat.le_of_ble_eq_true rfl) (x4_contains_in (hO.r hq)) ?_
      refine wp_run rfl ?_
      rw [cr_tnr hC hq]
      have e1 : aAct A (q + 1) = aAct A q + (if aT A (aR A q) = true then 1 else 0) := rfl
      cases hb : aT A (aR A q) with
      | true =>
        rw [hb] at e1
        refine wp_ifeq rfl (fun hz_ => absurd hz_ ((by decide : ¬ (1 : Int32) = 0))) (fun _ => ?_)
        refine wp_run rfl ?_
        have e2 : nI (a - aAct A q) + (-1) = nI (a - aAct A (q + 1)) := by
          rw [e1, show a - aAct A q = (a - (aAct A q + if true = true then 1 else 0)) + 1 by simp; omega, pk_m1]
        rw [e2, nI_1]
        exact ih (q + 1) (by omega)
      | false =>
        rw [hb] at e1
        refine wp_ifeq rfl (fun _ => ?_) (fun hz_ => absurd (rfl) hz_)
        refine wp_run rfl ?_
        rw [nI_1, show aAct A q = aAct A (q + 1) by rw [e1]; rfl]
        exact ih (q + 1) (by omega)
  refine ev_in rfl rfl (Nat.le_of_ble_eq_true rfl) rfl ?_
  refine wp_run rfl ?_
  exact loop (aSt A a) 0 (by omega)
theorem x0_targetOf (hO : aOk A) (hC : CR B A) {a : Nat} (ha : a < 2 ^ 31) : axEv ro (d + 2) kX0_targetOf [.ref 1, .int (nI a)] (hX B Y sl P G tl) (some (.int (nI (aTgt A a)))) (hX B Y sl P G tl) := by
  refine ev_in rfl rfl (Nat.le_of_ble_eq_true rfl) rfl ?_
  refine wp_run rfl ?_
  refine wp_min rfl (Nat.le_of_ble_eq_true rfl) ((nI_min (b := 5) ha (by omega))) ?_
  refine wp_run rfl ?_
  refine wp_s2 rfl (Nat.le_of_ble_eq_true rfl) (x4_cell rfl (show min a 5 < 6 by omega) (by decide)) ?_
  refine wp_run rfl ?_
  rw [cr_tg hC (show min a 5 < 6 by omega)]
  exact wp_ret rfl rfl ⟨rfl, rfl⟩
theorem x0_offOf (hO : aOk A) (hC : CR B A) {a : Nat} (ha : a < 2 ^ 30) : axEv ro (d + 3) kX0_offOf [.ref 1, .int (nI a)] (hX B Y sl P G tl) (some (.int (zI (aOff A a)))) (hX B Y sl P G tl) := by
  refine ev_in rfl rfl (Nat.le_of_ble_eq_true rfl) rfl ?_
  refine wp_run rfl ?_
  refine wp_v1 rfl rfl (Nat.le_of_ble_eq_true rfl) (x0_startOf hO hC (by omega)) ?_
  refine wp_run rfl ?_
  rw [nI_1]
  refine wp_v1 rfl rfl (Nat.le_of_ble_eq_true rfl) (x0_startOf hO hC (by omega)) ?_
  refine wp_run rfl ?_
  refine wp_v2 rfl rfl (Nat.le_of_ble_eq_true rfl) (x0_beatsIn hO hC (aSt_mono A (by omega)) (aSt_le A _)) ?_
  refine wp_run rfl ?_
  refine wp_v1 rfl rfl (Nat.le_of_ble_eq_true rfl) (x0_targetOf hO hC (by omega)) ?_
  refine wp_run rfl ?_
  rw [show nI (aBeg A (aSt A (a + 1)) - aBeg A (aSt A a)) - nI (aTgt A a) = zI (aOff A a) by unfold aOff; rw [← zI_nI, ← zI_nI, zI_sub]]
  exact wp_ret rfl rfl ⟨rfl, rfl⟩
theorem x0_isOpen (hO : aOk A) (hC : CR B A) {a : Nat} (ha : a < 2 ^ 31) : axEv ro (d + 2) kX0_isOpen [.ref 1, .int (nI a)] (hX B Y sl P G tl) (some (.int (if aAct A (aN A) ≤ a then 1 else 0))) (hX B Y sl P G tl) := by
  have hl := aAct_le (A := A) (aN A)
  have hn := hO.n
  refine ev_in rfl rfl (Nat.le_of_ble_eq_true rfl) rfl ?_
  refine wp_run rfl ?_
  refine wp_s1 rfl (Nat.le_of_ble_eq_true rfl) (xJ_bitCount _) ?_
  refine wp_run rfl ?_
  rw [aTurns hO hC]
  by_cases h : aAct A (aN A) ≤ a
  · rw [if_pos h]
    refine wp_iclt rfl (fun hz_ => absurd hz_ (nI_nlt h (by omega))) (fun _ => ?_)
    refine wp_run rfl ?_
    exact wp_ret rfl rfl ⟨rfl, rfl⟩
  · rw [if_neg h]
    refine wp_iclt rfl (fun _ => ?_) (fun hz_ => absurd (nI_lt (show a < aAct A (aN A) by omega) (by omega)) hz_)
    refine wp_run rfl ?_
    exact wp_ret rfl rfl ⟨rfl, rfl⟩
theorem x0_isFitting (hO : aOk A) (hC : CR B A) {a : Nat} (ha : a < 2 ^ 30) : axEv ro (d + 4) kX0_isFitting [.ref 1, .int (nI a)] (hX B Y sl P G tl) (some (.int (if a < aAct A (aN A) ∧ (aOff A a).natAbs ≤ aSl A then 1 else 0))) (hX B Y sl P G tl) := by
  have hb := aOff_b hO a
  have hs := hO.sl
  refine ev_in rfl rfl (Nat.le_of_ble_eq_true rfl) rfl ?_
  refine wp_run rfl ?_
  refine wp_v1 rfl rfl (Nat.le_of_ble_eq_true rfl) (x0_isOpen hO hC (by omega)) ?_
  refine wp_run rfl ?_
  by_cases h : aAct A (aN A) ≤ a
  · rw [if_pos h, if_neg (fun z => by omega)]
    refine wp_ifne rfl (fun _ => ?_) (fun hz_ => absurd ((by decide : ¬ (1 : Int32) = 0)) hz_)
    refine wp_run rfl ?_
    exact wp_ret rfl rfl ⟨rfl, rfl⟩
  · rw [if_neg h]
    refine wp_ifne rfl (fun hz_ => absurd hz_ (fun z => z rfl)) (fun _ => ?_)
    refine wp_run rfl ?_
    refine wp_v1 rfl rfl (Nat.le_of_ble_eq_true rfl) (x0_offOf hO hC ha) ?_
    refine wp_run rfl ?_
    refine wp_abs rfl (Nat.le_of_ble_eq_true rfl) ((zI_abs (by omega) (by omega))) ?_
    refine wp_run rfl ?_
    refine wp_v1 rfl rfl (Nat.le_of_ble_eq_true rfl) (x0_settingOf (j := 1) (by omega)) ?_
    refine wp_run rfl ?_
    rw [cr_sl hC]
    by_cases h2 : (aOff A a).natAbs ≤ aSl A
    · rw [if_pos ⟨by omega, h2⟩]
      refine wp_icgt rfl (fun hz_ => absurd hz_ (nI_nlt h2 (by omega))) (fun _ => ?_)
      refine wp_run rfl ?_
      exact wp_ret rfl rfl ⟨rfl, rfl⟩
    · rw [if_neg (fun z => h2 z.2)]
      refine wp_icgt rfl (fun _ => ?_) (fun hz_ => absurd (nI_lt (show aSl A < (aOff A a).natAbs by omega) (by omega)) hz_)
      refine wp_run rfl ?_
      exact wp_ret rfl rfl ⟨rfl, rfl⟩
theorem x0_fittingActs (hO : aOk A) (hC : CR B A) : axEv ro (d + 5) kX0_fittingActs [.ref 1] (hX B Y sl P G tl) (some (.int (nI (bc (fun a => decide (a < aAct A (aN A) ∧ (aOff A a).natAbs ≤ aSl A)) (aActs A))))) (hX B Y sl P G tl) := by
  have hl := aActs_le A
  have hn := hO.n
  have loop : ∀ m q, q + m = aActs A → axW ro (axEv ro (d + 4)) cdX0_fittingActs 11 [some (.ref 1), some (.int (nI (bc (fun a => decide (a < aAct A (aN A) ∧ (aOff A a).natAbs ≤ aSl A)) q))), some (.int (nI (aActs A))), some (.int (nI q))] [.int (nI (aActs A)), .int (nI q)] (hX B Y sl P G tl) (fun r' h' => r' = some (.int (nI (bc (fun a => decide (a < aAct A (aN A) ∧ (aOff A a).natAbs ≤ aSl A)) (aActs A)))) ∧ h' = (hX B Y sl P G tl)) := by
    intro m
    induction m with
    | zero =>
      intro q e
      have e : q = aActs A := by omega
      subst e
      refine wp_icge rfl (fun _ => ?_) (fun hz_ => absurd (nI_le (Nat.le_refl _) (by omega)) hz_)
      refine wp_run rfl ?_
      exact wp_ret rfl rfl ⟨rfl, rfl⟩
    | succ m ih =>
      intro q e
      refine wp_icge rfl (fun hz_ => absurd hz_ (nI_ge (show q < aActs A by omega) (by omega))) (fun _ => ?_)
      refine wp_run rfl ?_
      refine wp_v1 rfl rfl (Nat.le_of_ble_eq_true rfl) (x0_isFitting hO hC (show q < 2 ^ 30 by omega)) ?_
      refine wp_run rfl ?_
      have ih := ih (q + 1) (by omega)
      rw [bc] at ih
      by_cases h2 : q < aAct A (aN A) ∧ (aOff A q).natAbs ≤ aSl A
      · rw [if_pos h2]
        rw [if_pos (decide_eq_true h2)] at ih
        refine wp_ifeq rfl (fun hz_ => absurd hz_ ((by decide : ¬ (1 : Int32) = 0))) (fun _ => ?_)
        refine wp_run rfl ?_
        rw [nI_1, nI_1]
        exact ih
      · rw [if_neg h2]
        rw [if_neg (by rw [decide_eq_false h2]; decide), Nat.add_zero] at ih
        refine wp_ifeq rfl (fun _ => ?_) (fun hz_ => absurd (rfl) hz_)
        refine wp_run rfl ?_
        rw [nI_1]
        exact ih
  refine ev_in rfl rfl (Nat.le_of_ble_eq_true rfl) rfl ?_
  refine wp_run rfl ?_
  refine wp_v0 rfl rfl (Nat.le_of_ble_eq_true rfl) (x0_actCount hO hC) ?_
  refine wp_run rfl ?_
  exact loop (aActs A) 0 (by omega)
/-- what fit() would trim of an act -/
def aCut (A : axAD) (a : Nat) : Nat := min (aOff A a).toNat (aRm A (aSt A (a + 1)) - aRm A (aSt A a))
theorem x0_cutOf_out (hO : aOk A) (hC : CR B A) {y : Int32} (hy : y < 0 ∨ nI (aActs A) ≤ y) : axEv ro (d + 4) kX0_cutOf [.ref 1, .int y] (hX B Y sl P G tl) (some (.int (-1))) (hX B Y sl P G tl) := by
  refine ev_in rfl rfl (Nat.le_of_ble_eq_true rfl) rfl ?_
  refine wp_run rfl ?_
  refine wp_v1 rfl rfl (Nat.le_of_ble_eq_true rfl) (x0_hasAct_out hO hC hy) ?_
  refine wp_run rfl ?_
  refine wp_ifne rfl (fun hz_ => absurd hz_ (fun z => z rfl)) (fun _ => ?_)
  refine wp_run rfl ?_
  exact wp_ret rfl rfl ⟨rfl, rfl⟩
theorem x0_cutOf_in (hO : aOk A) (hC : CR B A) {a : Nat} (ha : a < aActs A) : axEv ro (d + 4) kX0_cutOf [.ref 1, .int (nI a)] (hX B Y sl P G tl) (some (.int (if (aOff A a).toNat - aCut A a ≤ aSl A then nI (aCut A a) else -5))) (hX B Y sl P G tl) := by
  have hl := aActs_le A
  have hn := hO.n
  have hb := aOff_b hO a
  have hr := aRm_le hO (aSt_le A (a + 1))
  have hq := aSt_le A (a + 1)
  have hs := hO.sl
  refine ev_in rfl rfl (Nat.le_of_ble_eq_true rfl) rfl ?_
  refine wp_run rfl ?_
  refine wp_v1 rfl rfl (Nat.le_of_ble_eq_true rfl) (x0_hasAct_in hO hC ha) ?_
  refine wp_run rfl ?_
  refine wp_ifne rfl (fun _ => ?_) (fun hz_ => absurd ((by decide : ¬ (1 : Int32) = 0)) hz_)
  refine wp_run rfl ?_
  refine wp_v1 rfl rfl (Nat.le_of_ble_eq_true rfl) (x0_offOf hO hC (by omega)) ?_
  refine wp_run rfl ?_
  have e0 : (if (0 : Int32) < zI (aOff A a) then zI (aOff A a) else 0) = nI (aOff A a).toNat := by
    have e : (0 : Int32) < zI (aOff A a) ↔ 0 < aOff A a := by rw [zI_0, zI_lt ⟨by omega, by omega⟩ ⟨by omega, by omega⟩]
    by_cases h : 0 < aOff A a
    · rw [if_pos (e.mpr h), ← zI_nI]; congr 1; omega
    · rw [if_neg (fun z => h (e.mp z)), show (aOff A a).toNat = 0 by omega]; rfl
  refine wp_max rfl (Nat.le_of_ble_eq_true rfl) (e0) ?_
  refine wp_run rfl ?_
  refine wp_v1 rfl rfl (Nat.le_of_ble_eq_true rfl) (x0_startOf hO hC (by omega)) ?_
  refine wp_run rfl ?_
  rw [nI_1]
  refine wp_v1 rfl rfl (Nat.le_of_ble_eq_true rfl) (x0_startOf hO hC (by omega)) ?_
  refine wp_run rfl ?_
  refine wp_v2 rfl rfl (Nat.le_of_ble_eq_true rfl) (x0_roomIn hO hC (aSt_mono A (by omega)) (aSt_le A _)) ?_
  refine wp_run rfl ?_
  refine wp_min rfl (Nat.le_of_ble_eq_true rfl) ((nI_min (by omega) (by omega))) ?_
  refine wp_run rfl ?_
  have hm : min (aOff A a).toNat (aRm A (aSt A (a + 1)) - aRm A (aSt A a)) ≤ (aOff A a).toNat := Nat.min_le_left _ _
  rw [pk_sub hm]
  refine wp_v1 rfl rfl (Nat.le_of_ble_eq_true rfl) (x0_settingOf (j := 1) (by omega)) ?_
  refine wp_run rfl ?_
  rw [cr_sl hC]
  by_cases h2 : (aOff A a).toNat - aCut A a ≤ aSl A
  · rw [if_pos h2]
    refine wp_icle rfl (fun _ => ?_) (fun hz_ => absurd (nI_le h2 (by omega)) hz_)
    refine wp_run rfl ?_
    exact wp_ret rfl rfl ⟨rfl, rfl⟩
  · rw [if_neg h2]
    refine wp_icle rfl (fun hz_ => absurd hz_ (nI_ge (show aSl A < (aOff A a).toNat - aCut A a by omega) (by have : aCut A a = min (aOff A a).toNat (aRm A (aSt A (a + 1)) - aRm A (aSt A a)) := rfl; omega))) (fun _ => ?_)
    refine wp_run rfl ?_
    exact wp_ret rfl rfl ⟨rfl, rfl⟩
end AX20
end
section
/-! THE CLASS: how far all acts are off. -/
/-- over the row: all that ended acts are off, the act, its beats so far, is it open -/
def aFo (A : axAD) : Nat → Nat × Nat × Nat × Bool
  | 0 => (0, 0, 0, false)
  | p + 1 => if aT A (aR A p) = true then ((aFo A p).1 + (((aFo A p).2.2.1 + aB A (aR A p) : Nat) - (aTgt A (aFo A p).2.1 : Int) : Int).natAbs, (aFo A p).2.1 + 1, 0, false) else ((aFo A p).1, (aFo A p).2.1, (aFo A p).2.2.1 + aB A (aR A p), true)
def aAll (A : axAD) : Nat := if (aFo A (aN A)).2.2.2 = true then (aFo A (aN A)).1 + (((aFo A (aN A)).2.2.1 : Int) - (aTgt A (aFo A (aN A)).2.1 : Int)).natAbs else (aFo A (aN A)).1
theorem aFo_le {A : axAD} (hn : aN A ≤ 24) (hb : ∀ i, i < aN A → aB A (aR A i) ≤ 99) (ht : ∀ a, a < 6 → aTg A a ≤ 999) : ∀ p, p ≤ aN A → (aFo A p).1 ≤ p * 2400 ∧ (aFo A p).2.1 ≤ p ∧ (aFo A p).2.2.1 ≤ p * 99
  | 0, _ => by simp [aFo]
  | p + 1, h => by
    obtain ⟨h1, h2, h3⟩ := aFo_le hn hb ht p (by omega)
    have h4 := hb p (by omega)
    have h5 : aTgt A (aFo A p).2.1 ≤ 999 := ht (min (aFo A p).2.1 5) (by omega)
    rw [aFo]
    generalize aFo A p = q at *
    generalize aTgt A q.2.1 = t at *
    generalize aB A (aR A p) = x at *
    have h6 : (((q.2.2.1 + x : Nat) : Int) - (t : Int)).natAbs ≤ 2400 := by omega
    have h7 : (p + 1) * 2400 = p * 2400 + 2400 := Nat.succ_mul p 2400
    split
    · refine ⟨?_, ?_, ?_⟩
      · rw [h7]
        exact Nat.add_le_add h1 h6
      · show q.2.1 + 1 ≤ p + 1
        omega
      · show 0 ≤ _
        omega
    · refine ⟨?_, ?_, ?_⟩
      · rw [h7]
        exact Nat.le_trans h1 (Nat.le_add_right _ _)
      · show q.2.1 ≤ p + 1
        omega
      · show q.2.2.1 + x ≤ _
        omega
section AX21
variable {ro : axRo} {d : Nat} {h h1 : axH} {B : axBD} {Y : axYD} {sl : Nat → Option Nat} {P : axPD} {G : axGD} {tl : axH} {A A' : axAD}
theorem x0_offOfRow (hO : aOk A) (hC : CR B A) {rr : Nat} {ord : Nat → Int32} {ts : Int32} (hrr : ((hX B Y sl P G tl))[rr]? = some (axAi 24 ord)) (hn' : aN A' = aN A) (hb' : aB A' = aB A) (htg : aTg A' = aTg A) (hpm : ∀ i, i < aN A → ∃ j, j < aN A ∧ aR A' i = aR A j) (ho : ∀ i, i < aN A → ord i = nI (aR A' i)) (hts : ∀ i, i < aN A → bt ts (aR A' i) = aT A' (aR A' i)) : axEv ro (d + 3) kX0_offOfRow [.ref 1, .ref rr, .int ts] (hX B Y sl P G tl) (some (.int (nI (aAll A')))) (hX B Y sl P G tl) := by
  have hn := hO.n
  have hB : ∀ i, i < aN A' → aB A' (aR A' i) ≤ 99 := fun i hi => by
    obtain ⟨j, hj, e⟩ := hpm i (by omega)
    rw [e, hb']
    have := hO.b hj; omega
  have hT : ∀ a, a < 6 → aTg A' a ≤ 999 := fun a ha => by rw [htg]; exact (hO.tg ha).2
  have tg : ∀ {a : Nat}, a < 2 ^ 31 → axEv ro (d + 2) kX0_targetOf [.ref 1, .int (nI a)] (hX B Y sl P G tl) (some (.int (nI (aTgt A' a)))) (hX B Y sl P G tl) := fun ha => by
    have := x0_targetOf (ro := ro) (d := d) (Y := Y) (sl := sl) (P := P) (G := G) (tl := tl) hO hC ha
    unfold aTgt at *
    rw [htg]; exact this
  have ab : ∀ q : Nat, ∀ x : Nat, x ≤ 2400 → ((if 0 ≤ nI x - nI (aTgt A' (aFo A' q).2.1) then nI x - nI (aTgt A' (aFo A' q).2.1) else 0 - (nI x - nI (aTgt A' (aFo A' q).2.1))) : Int32) = nI ((x : Int) - (aTgt A' (aFo A' q).2.1 : Int)).natAbs := by
    intro q x hx
    have h5 : aTgt A' (aFo A' q).2.1 ≤ 999 := hT (min (aFo A' q).2.1 5) (by omega)
    rw [← zI_nI x, ← zI_nI (aTgt A' (aFo A' q).2.1), zI_sub]
    exact zI_abs (by omega) (by omega)
  have loop : ∀ m q, q + m = aN A → ∀ v : Option Value, axW ro (axEv ro (d + 2)) cdX0_offOfRow 20 [some (.ref 1), some (.ref rr), some (.int ts), some (.int (nI (aFo A' q).1)), some (.int (nI (aFo A' q).2.1)), some (.int (nI (aFo A' q).2.2.1)), some (.int (if (aFo A' q).2.2.2 = true then 1 else 0)), some (.int (nI q)), v] [.int (bSz B), .int (nI q)] (hX B Y sl P G tl) (fun r' h' => r' = some (.int (nI (aAll A'))) ∧ h' = (hX B Y sl P G tl)) := by
    intro m
    induction m with
    | zero =>
      intro q e v
      have e : q = aN A := by omega
      subst e
      obtain ⟨f1, f2, f3⟩ := aFo_le (by omega) hB hT (aN A) (by omega)
      rw [cr_sz hC]
      refine wp_icge rfl (fun _ => ?_) (fun hz_ => absurd (nI_le (Nat.le_refl _) (by omega)) hz_)
      refine wp_run rfl ?_
      by_cases ho : (aFo A' (aN A)).2.2.2 = true
      · rw [if_pos ho]
        refine wp_ifeq rfl (fun hz_ => absurd hz_ ((by decide : ¬ (1 : Int32) = 0))) (fun _ => ?_)
        refine wp_run rfl ?_
        refine wp_v1 rfl rfl (Nat.le_of_ble_eq_true rfl) (tg (by omega)) ?_
        refine wp_run rfl ?_
        refine wp_abs rfl (Nat.le_of_ble_eq_true rfl) (ab (aN A) _ (by omega)) ?_
        refine wp_run rfl ?_
        rw [nI_add]
        exact wp_ret rfl rfl ⟨by unfold aAll; rw [hn', if_pos ho], rfl⟩
      · rw [if_neg ho]
        refine wp_ifeq rfl (fun _ => ?_) (fun hz_ => absurd (rfl) hz_)
        refine wp_run rfl ?_
        exact wp_ret rfl rfl ⟨by unfold aAll; rw [hn', if_neg ho], rfl⟩
    | succ m ih =>
      intro q e v
      have hq : q < aN A := by omega
      obtain ⟨f1, f2, f3⟩ := aFo_le (by omega) hB hT q (by omega)
      obtain ⟨j, hj, ej⟩ := hpm q hq
      have hb := hB q (by omega)
      rw [cr_sz hC]
      refine wp_icge rfl (fun hz_ => absurd hz_ (nI_ge hq (by omega))) (fun _ => ?_)
      refine wp_run rfl ?_
      refine wp_s2 rfl (Nat.le_of_ble_eq_true rfl) (x4_cell hrr (show q < 24 by omega) (by decide)) ?_
      refine wp_run rfl ?_
      rw [ho q hq, ej]
      refine wp_s2 rfl (Nat.le_of_ble_eq_true rfl) (x4_cell rfl (hO.r hj) (by decide)) ?_
      refine wp_run rfl ?_
      rw [cr_bt hC hj, nI_add]
      refine wp_s2 rfl (Nat.le_of_ble_eq_true rfl) (x4_contains_in (hO.r hj)) ?_
      refine wp_run rfl ?_
      have ih := ih (q + 1) (by omega) (some (.int (nI (aR A j))))
      have eB : aB A' (aR A' q) = aB A (aR A j) := by rw [hb', ej]
      have hb2 : aB A (aR A j) ≤ 99 := by rw [← eB]; exact hb
      rw [aFo, eB] at ih
      rw [← ej, hts q hq, ej]
      rw [ej] at ih
      cases ht : aT A' (aR A j) with
      | true =>
        rw [ht, if_pos rfl] at ih
        refine wp_ifne rfl (fun _ => ?_) (fun hz_ => absurd ((by decide : ¬ (1 : Int32) = 0)) hz_)
        refine wp_run rfl ?_
        refine wp_ifne rfl (fun hz_ => absurd hz_ (fun z => z rfl)) (fun _ => ?_)
        refine wp_run rfl ?_
        refine wp_v1 rfl rfl (Nat.le_of_ble_eq_true rfl) (tg (by omega)) ?_
        refine wp_run rfl ?_
        refine wp_abs rfl (Nat.le_of_ble_eq_true rfl) (ab q _ (by omega)) ?_
        refine wp_run rfl ?_
        rw [nI_add, nI_1, nI_1]
        exact ih
      | false =>
        rw [ht, if_neg (by decide)] at ih
        refine wp_ifne rfl (fun hz_ => absurd hz_ (fun z => z rfl)) (fun _ => ?_)
        refine wp_run rfl ?_
        refine wp_ifne rfl (fun _ => ?_) (fun hz_ => absurd ((by decide : ¬ (1 : Int32) = 0)) hz_)
        refine wp_run rfl ?_
        rw [nI_1]
        exact ih
  refine ev_in rfl rfl (Nat.le_of_ble_eq_true rfl) rfl ?_
  refine wp_run rfl ?_
  exact loop (aN A) 0 (by omega) _
theorem x0_offTogether (hO : aOk A) (hC : CR B A) : axEv ro (d + 4) kX0_offTogether [.ref 1] (hX B Y sl P G tl) (some (.int (nI (aAll A)))) (hX B Y sl P G tl) := by
  refine ev_in rfl rfl (Nat.le_of_ble_eq_true rfl) rfl ?_
  refine wp_run rfl ?_
  refine wp_v2 rfl rfl (Nat.le_of_ble_eq_true rfl) (x0_offOfRow hO hC (rr := 4) (A' := A) rfl rfl rfl rfl (fun i hi => ⟨i, hi, rfl⟩) (fun i hi => cr_rw hC hi) (fun i hi => cr_tnr hC hi)) ?_
  refine wp_run rfl ?_
  exact wp_ret rfl rfl ⟨rfl, rfl⟩
/-- a board with one slug's turn flipped -/
def aFlip (A : axAD) (k : Nat) : axAD := (aN A, aR A, aW A, aB A, aD A, fun j => if j = k then !aT A j else aT A j, aPg A, aSl A, aTr A, aTg A)
theorem x0_offIfTurned (hO : aOk A) (hC : CR B A) {i : Nat} (hi : i < aN A) : axEv ro (d + 4) kX0_offIfTurned [.ref 1, .int (nI (aR A i))] (hX B Y sl P G tl) (some (.int (nI (aAll (aFlip A (aR A i)))))) (hX B Y sl P G tl) := by
  have ht : ∀ j, j < aN A → bt (bTn B ^^^ bi (aR A i)) (aR A j) = aT (aFlip A (aR A i)) (aR A j) := fun j hj => by
    show bt (bTn B ^^^ bi (aR A i)) (aR A j) = if aR A j = aR A i then !aT A (aR A j) else aT A (aR A j)
    rw [bt_flp (by have := hO.r hi; omega), cr_tnr hC hj]
    by_cases e : aR A j = aR A i
    · rw [if_pos e, decide_eq_true e]; cases aT A (aR A j) <;> rfl
    · rw [if_neg e, decide_eq_false e]; cases aT A (aR A j) <;> rfl
  refine ev_in rfl rfl (Nat.le_of_ble_eq_true rfl) rfl ?_
  refine wp_run rfl ?_
  refine wp_s1 rfl (Nat.le_of_ble_eq_true rfl) (x4_bit (hO.r hi)) ?_
  refine wp_run rfl ?_
  refine wp_v2 rfl rfl (Nat.le_of_ble_eq_true rfl) (x0_offOfRow hO hC (rr := 4) (A' := aFlip A (aR A i)) rfl rfl rfl rfl (fun i hi => ⟨i, hi, rfl⟩) (fun i hi => cr_rw hC hi) ht) ?_
  refine wp_run rfl ?_
  exact wp_ret rfl rfl ⟨rfl, rfl⟩
end AX21
end
section
/-! THE CLASS: changes of the board (1): settings, targets, turns, needs, trims. -/
def bSt_ (B : axBD) (f : Nat → Int32) : axBD := (f, bTg B, bRw B, bWr B, bBt B, bNd B, bSg B, bTn B, bSz B)
def bTg_ (B : axBD) (f : Nat → Int32) : axBD := (bSt B, f, bRw B, bWr B, bBt B, bNd B, bSg B, bTn B, bSz B)
def bRw_ (B : axBD) (f : Nat → Int32) : axBD := (bSt B, bTg B, f, bWr B, bBt B, bNd B, bSg B, bTn B, bSz B)
def bWr_ (B : axBD) (f : Nat → Int32) : axBD := (bSt B, bTg B, bRw B, f, bBt B, bNd B, bSg B, bTn B, bSz B)
def bBt_ (B : axBD) (f : Nat → Int32) : axBD := (bSt B, bTg B, bRw B, bWr B, f, bNd B, bSg B, bTn B, bSz B)
def bNd_ (B : axBD) (f : Nat → Int32) : axBD := (bSt B, bTg B, bRw B, bWr B, bBt B, f, bSg B, bTn B, bSz B)
def bSg_ (B : axBD) (x : Int32) : axBD := (bSt B, bTg B, bRw B, bWr B, bBt B, bNd B, x, bTn B, bSz B)
def bTn_ (B : axBD) (x : Int32) : axBD := (bSt B, bTg B, bRw B, bWr B, bBt B, bNd B, bSg B, x, bSz B)
def bSz_ (B : axBD) (x : Int32) : axBD := (bSt B, bTg B, bRw B, bWr B, bBt B, bNd B, bSg B, bTn B, x)
/-- the least and the most of a setting -/
def aLs (j : Nat) : Nat := if j = 0 then 4 else 0
def aMs (j : Nat) : Nat := if j = 0 then 60 else if j = 1 then 20 else 90
def aSetV (A : axAD) (j : Nat) : Nat := if j = 0 then aPg A else if j = 1 then aSl A else aTr A
def aSetS (A : axAD) (j v : Nat) : axAD := (aN A, aR A, aW A, aB A, aD A, aT A, if j = 0 then v else aPg A, if j = 1 then v else aSl A, if j = 2 then v else aTr A, aTg A)
def aSetT (A : axAD) (a v : Nat) : axAD := (aN A, aR A, aW A, aB A, aD A, aT A, aPg A, aSl A, aTr A, va_up (aTg A) a v)
def aNeed (A : axAD) (k o : Nat) : axAD := (aN A, aR A, aW A, aB A, va_up (aD A) k (aD A k ^^^ bi o), aT A, aPg A, aSl A, aTr A, aTg A)
def aBts (A : axAD) (k v : Nat) : axAD := (aN A, aR A, aW A, va_up (aB A) k v, aD A, aT A, aPg A, aSl A, aTr A, aTg A)
theorem upd_up {f : Nat → Int32} {k j : Nat} {v : Int32} : upd f k v j = if j = k then v else f j := rfl
section AX22
variable {ro : axRo} {d : Nat} {h h1 : axH} {B : axBD} {Y : axYD} {sl : Nat → Option Nat} {P : axPD} {G : axGD} {tl : axH} {A : axAD} {LL : Nat} {xs : Nat → Int32}
theorem cr_set (hC : CR B A) {j v : Nat} (hj : j < 3) : CR (bSt_ B (upd (bSt B) j (nI v))) (aSetS A j v) := by
  obtain ⟨c1, c2, c3, c4, c5, ⟨c6, c7, c8⟩, c9⟩ := hC
  refine ⟨c1, c2, c3, c4, c5, ⟨?_, ?_, ?_⟩, c9⟩
  · show upd (bSt B) j (nI v) 0 = nI (if j = 0 then v else aPg A)
    rw [upd_up]
    by_cases e : j = 0
    · rw [if_pos e.symm, if_pos e]
    · rw [if_neg (fun q => e q.symm), if_neg e, c6]
  · show upd (bSt B) j (nI v) 1 = nI (if j = 1 then v else aSl A)
    rw [upd_up]
    by_cases e : j = 1
    · rw [if_pos e.symm, if_pos e]
    · rw [if_neg (fun q => e q.symm), if_neg e, c7]
  · show upd (bSt B) j (nI v) 2 = nI (if j = 2 then v else aTr A)
    rw [upd_up]
    by_cases e : j = 2
    · rw [if_pos e.symm, if_pos e]
    · rw [if_neg (fun q => e q.symm), if_neg e, c8]
theorem cr_stv (hC : CR B A) {j : Nat} (hj : j < 3) : bSt B j = nI (aSetV A j) := by
  unfold aSetV
  rcases (show j = 0 ∨ j = 1 ∨ j = 2 by omega) with rfl | rfl | rfl
  · exact cr_pg hC
  · exact cr_sl hC
  · exact cr_tr hC
theorem roL_1 {j : Nat} (hj : j < 3) : (axRoL LL xs 1).2 j = nI (aLs j) := by
  rcases (show j = 0 ∨ j = 1 ∨ j = 2 by omega) with rfl | rfl | rfl <;> rfl
theorem roL_2 {j : Nat} (hj : j < 3) : (axRoL LL xs 2).2 j = nI (aMs j) := by
  rcases (show j = 0 ∨ j = 1 ∨ j = 2 by omega) with rfl | rfl | rfl <;> rfl
theorem aMs_le (j : Nat) : aMs j ≤ 90 := by unfold aMs; split <;> (try split) <;> omega
theorem aLs_le (j : Nat) : aLs j ≤ 4 := by unfold aLs; split <;> omega
theorem x0_changeSetting_in (hC : CR B A) {j v : Nat} (hj : j < 3) (h1 : aLs j ≤ v) (h2 : v ≤ aMs j) : axEv (axRoL LL xs) (d + 2) kX0_changeSetting [.ref 1, .int (nI j), .int (nI v)] (hX B Y sl P G tl) (some (.int (nI (aSetV A j)))) (hX (bSt_ B (upd (bSt B) j (nI v))) Y sl P G tl) := by
  have h3 := aMs_le j
  have h4 := aLs_le j
  refine ev_in rfl rfl (Nat.le_of_ble_eq_true rfl) rfl ?_
  refine wp_run rfl ?_
  refine wp_iflt rfl (fun hz_ => absurd hz_ (nI_pos (by omega))) (fun _ => ?_)
  refine wp_run rfl ?_
  refine wp_iclt rfl (fun _ => ?_) (fun hz_ => absurd (nI_lt (b := 3) hj (by omega)) hz_)
  refine wp_run rfl ?_
  refine wp_s2 rfl (Nat.le_of_ble_eq_true rfl) (x4_cellR (by decide) (show j < (axRoL LL xs 1).1 from hj) (show 3 < 2 ^ 31 by decide)) ?_
  refine wp_run rfl ?_
  rw [roL_1 hj]
  refine wp_iclt rfl (fun hz_ => absurd hz_ (nI_nlt h1 (by omega))) (fun _ => ?_)
  refine wp_run rfl ?_
  refine wp_s2 rfl (Nat.le_of_ble_eq_true rfl) (x4_cellR (by decide) (show j < (axRoL LL xs 2).1 from hj) (show 3 < 2 ^ 31 by decide)) ?_
  refine wp_run rfl ?_
  rw [roL_2 hj]
  refine wp_icle rfl (fun _ => ?_) (fun hz_ => absurd (nI_le h2 (by omega)) hz_)
  refine wp_run rfl ?_
  refine wp_ald rfl rfl (vp_in_nI (hj) (by decide)) (by rw [nI_clamp (by omega)]) ?_
  refine wp_run rfl ?_
  refine wp_ast (h1 := hX (bSt_ B (upd (bSt B) j (nI v))) Y sl P G tl) rfl rfl (vp_in_nI (hj) (by decide)) rfl (by rw [nI_clamp (by omega)]; rfl) ?_
  refine wp_run rfl ?_
  exact wp_ret rfl rfl ⟨by rw [cr_stv hC hj], rfl⟩
theorem x0_changeSetting_out {x y : Int32} (hv : ∀ j v, j < 3 → x = nI j → y = nI v → aLs j ≤ v → ¬ v ≤ aMs j) : axEv (axRoL LL xs) (d + 2) kX0_changeSetting [.ref 1, .int x, .int y] (hX B Y sl P G tl) (some (.int (-2))) (hX B Y sl P G tl) := by
  refine ev_in rfl rfl (Nat.le_of_ble_eq_true rfl) rfl ?_
  refine wp_run rfl ?_
  rcases pk_ix x (show 3 < 2 ^ 31 by omega) with h | h | ⟨j, hj, rfl⟩
  · refine wp_iflt rfl (fun _ => ?_) (fun hz_ => absurd (h) hz_)
    refine wp_run rfl ?_
    exact wp_ret rfl rfl ⟨rfl, rfl⟩
  · refine wp_iflt rfl (fun q => ?_) (fun q => ?_)
    · refine wp_run rfl ?_
      exact wp_ret rfl rfl ⟨rfl, rfl⟩
    · refine wp_run rfl ?_
      refine wp_iclt rfl (fun hz_ => absurd hz_ (fun z => absurd h (Int32.not_le.mpr z))) (fun _ => ?_)
      refine wp_run rfl ?_
      exact wp_ret rfl rfl ⟨rfl, rfl⟩
  · have h3 := aMs_le j
    have h4 := aLs_le j
    refine wp_iflt rfl (fun hz_ => absurd hz_ (nI_pos (by omega))) (fun _ => ?_)
    refine wp_run rfl ?_
    refine wp_iclt rfl (fun _ => ?_) (fun hz_ => absurd (nI_lt (b := 3) hj (by omega)) hz_)
    refine wp_run rfl ?_
    refine wp_s2 rfl (Nat.le_of_ble_eq_true rfl) (x4_cellR (by decide) (show j < (axRoL LL xs 1).1 from hj) (show 3 < 2 ^ 31 by decide)) ?_
    refine wp_run rfl ?_
    rw [roL_1 hj]
    by_cases c1 : y < nI (aLs j)
    · refine wp_iclt rfl (fun _ => ?_) (fun hz_ => absurd (c1) hz_)
      refine wp_run rfl ?_
      exact wp_ret rfl rfl ⟨rfl, rfl⟩
    · refine wp_iclt rfl (fun hz_ => absurd hz_ (c1)) (fun _ => ?_)
      refine wp_run rfl ?_
      refine wp_s2 rfl (Nat.le_of_ble_eq_true rfl) (x4_cellR (by decide) (show j < (axRoL LL xs 2).1 from hj) (show 3 < 2 ^ 31 by decide)) ?_
      refine wp_run rfl ?_
      rw [roL_2 hj]
      by_cases c2 : y ≤ nI (aMs j)
      · have h0 : ¬ y < 0 := fun z => c1 (Int32.lt_of_lt_of_le z (nI_pos' (by omega)))
        obtain ⟨v, hv1, rfl⟩ := nI_of h0
        have e1 := (nI_leI (by omega) (by omega)).mp c2
        have e2 : ¬ v < aLs j := fun z => c1 (nI_lt z (by omega))
        exact absurd e1 (hv j v hj rfl rfl (by omega))
      · refine wp_icle rfl (fun hz_ => absurd hz_ (c2)) (fun _ => ?_)
        refine wp_run rfl ?_
        exact wp_ret rfl rfl ⟨rfl, rfl⟩
theorem cr_tgt (hC : CR B A) {a v : Nat} (ha : a < 6) : CR (bTg_ B (upd (bTg B) a (nI v))) (aSetT A a v) := by
  obtain ⟨c1, c2, c3, c4, c5, c6, c9⟩ := hC
  refine ⟨c1, c2, c3, c4, c5, c6, fun b hb => ?_⟩
  show upd (bTg B) a (nI v) b = nI (va_up (aTg A) a v b)
  rw [upd_up]
  unfold va_up
  by_cases e : b = a
  · rw [if_pos e, if_pos e]
  · rw [if_neg e, if_neg e, c9 b hb]
theorem x0_changeTarget_in (hC : CR B A) {a v : Nat} (ha : a < 6) (h1 : 1 ≤ v) (h2 : v ≤ 999) : axEv ro (d + 2) kX0_changeTarget [.ref 1, .int (nI a), .int (nI v)] (hX B Y sl P G tl) (some (.int (nI (aTg A a)))) (hX (bTg_ B (upd (bTg B) a (nI v))) Y sl P G tl) := by
  refine ev_in rfl rfl (Nat.le_of_ble_eq_true rfl) rfl ?_
  refine wp_run rfl ?_
  refine wp_iflt rfl (fun hz_ => absurd hz_ (nI_pos (by omega))) (fun _ => ?_)
  refine wp_run rfl ?_
  refine wp_iclt rfl (fun _ => ?_) (fun hz_ => absurd (nI_lt (b := 6) ha (by omega)) hz_)
  refine wp_run rfl ?_
  refine wp_iclt rfl (fun hz_ => absurd hz_ (nI_nlt (b := 1) h1 (by omega))) (fun _ => ?_)
  refine wp_run rfl ?_
  refine wp_icle rfl (fun _ => ?_) (fun hz_ => absurd (nI_le (b := 999) h2 (by omega)) hz_)
  refine wp_run rfl ?_
  refine wp_ald rfl rfl (vp_in_nI (ha) (by decide)) (by rw [nI_clamp (by omega)]) ?_
  refine wp_run rfl ?_
  refine wp_ast (h1 := hX (bTg_ B (upd (bTg B) a (nI v))) Y sl P G tl) rfl rfl (vp_in_nI (ha) (by decide)) rfl (by rw [nI_clamp (by omega)]; rfl) ?_
  refine wp_run rfl ?_
  exact wp_ret rfl rfl ⟨by rw [cr_tg hC ha], rfl⟩
theorem x0_changeTarget_ns {x y : Int32} (hx : x < 0 ∨ nI 6 ≤ x) : axEv ro (d + 2) kX0_changeTarget [.ref 1, .int x, .int y] (hX B Y sl P G tl) (some (.int (-1))) (hX B Y sl P G tl) := by
  refine ev_in rfl rfl (Nat.le_of_ble_eq_true rfl) rfl ?_
  refine wp_run rfl ?_
  refine wp_iflt rfl (fun q => ?_) (fun q => ?_)
  · refine wp_run rfl ?_
    exact wp_ret rfl rfl ⟨rfl, rfl⟩
  · refine wp_run rfl ?_
    refine wp_iclt rfl (fun hz_ => absurd hz_ (fun z => hx.elim q (fun w => absurd w (Int32.not_le.mpr z)))) (fun _ => ?_)
    refine wp_run rfl ?_
    exact wp_ret rfl rfl ⟨rfl, rfl⟩
theorem x0_changeTarget_bv {a : Nat} {y : Int32} (ha : a < 6) (hy : y < nI 1 ∨ ¬ y ≤ nI 999) : axEv ro (d + 2) kX0_changeTarget [.ref 1, .int (nI a), .int y] (hX B Y sl P G tl) (some (.int (-2))) (hX B Y sl P G tl) := by
  refine ev_in rfl rfl (Nat.le_of_ble_eq_true rfl) rfl ?_
  refine wp_run rfl ?_
  refine wp_iflt rfl (fun hz_ => absurd hz_ (nI_pos (by omega))) (fun _ => ?_)
  refine wp_run rfl ?_
  refine wp_iclt rfl (fun _ => ?_) (fun hz_ => absurd (nI_lt (b := 6) ha (by omega)) hz_)
  refine wp_run rfl ?_
  refine wp_iclt rfl (fun q => ?_) (fun q => ?_)
  · refine wp_run rfl ?_
    exact wp_ret rfl rfl ⟨rfl, rfl⟩
  · refine wp_run rfl ?_
    refine wp_icle rfl (fun hz_ => absurd hz_ (hy.elim (fun w => absurd w q) id)) (fun _ => ?_)
    refine wp_run rfl ?_
    exact wp_ret rfl rfl ⟨rfl, rfl⟩
theorem cr_flip (hO : aOk A) (hC : CR B A) {i : Nat} (hi : i < aN A) : CR (bTn_ B (bTn B ^^^ bi (aR A i))) (aFlip A (aR A i)) := by
  obtain ⟨c1, c2, c3, c4, c5, c6, c9⟩ := hC
  refine ⟨c1, c2, c3, c4, fun k => ?_, c6, c9⟩
  show bt (bTn B ^^^ bi (aR A i)) k = true ↔ (aIn A k ∧ (if k = aR A i then !aT A k else aT A k) = true)
  rw [bt_flp (by have := hO.r hi; omega)]
  have := c5 k
  by_cases e : k = aR A i
  · subst e
    have hin : aIn A (aR A i) := ⟨i, hi, rfl⟩
    rw [if_pos rfl]
    cases h1 : bt (bTn B) (aR A i) <;> cases h2 : aT A (aR A i) <;> simp_all
  · rw [if_neg e, decide_eq_false e, Bool.xor_false]; exact this
theorem x0_flipTurn_out (hC : CR B A) {y : Int32} (hy : ∀ i, i < aN A → y ≠ nI (aR A i)) : axEv ro (d + 3) kX0_flipTurn [.ref 1, .int y] (hX B Y sl P G tl) (some (.int (-1))) (hX B Y sl P G tl) := by
  refine ev_in rfl rfl (Nat.le_of_ble_eq_true rfl) rfl ?_
  refine wp_run rfl ?_
  refine wp_v1 rfl rfl (Nat.le_of_ble_eq_true rfl) (x0_has_out hC hy) ?_
  refine wp_run rfl ?_
  refine wp_ifne rfl (fun hz_ => absurd hz_ (fun z => z rfl)) (fun _ => ?_)
  refine wp_run rfl ?_
  exact wp_ret rfl rfl ⟨rfl, rfl⟩
theorem x0_flipTurn_in (hO : aOk A) (hC : CR B A) {i : Nat} (hi : i < aN A) : axEv ro (d + 3) kX0_flipTurn [.ref 1, .int (nI (aR A i))] (hX B Y sl P G tl) (some (.int (if aT A (aR A i) = true then 0 else 1))) (hX (bTn_ B (bTn B ^^^ bi (aR A i))) Y sl P G tl) := by
  refine ev_in rfl rfl (Nat.le_of_ble_eq_true rfl) rfl ?_
  refine wp_run rfl ?_
  refine wp_v1 rfl rfl (Nat.le_of_ble_eq_true rfl) (x0_has_in hO hC hi) ?_
  refine wp_run rfl ?_
  refine wp_ifne rfl (fun _ => ?_) (fun hz_ => absurd ((by decide : ¬ (1 : Int32) = 0)) hz_)
  refine wp_run rfl ?_
  refine wp_s1 rfl (Nat.le_of_ble_eq_true rfl) (x4_bit (hO.r hi)) ?_
  refine wp_run rfl ?_
  refine wp_putf (h1 := hX (bTn_ B (bTn B ^^^ bi (aR A i))) Y sl P G tl) rfl rfl (Nat.le_of_ble_eq_true rfl) ⟨rfl, rfl, fun _ hz_ => by cases hz_⟩ rfl ?_
  refine wp_run rfl ?_
  refine wp_v1 rfl rfl (Nat.le_of_ble_eq_true rfl) (x0_isTurn (A := aFlip A (aR A i)) (by exact hO) (cr_flip hO hC hi) hi) ?_
  refine wp_run rfl ?_
  have e : aT (aFlip A (aR A i)) (aR (aFlip A (aR A i)) i) = !aT A (aR A i) := if_pos rfl
  rw [e]
  cases aT A (aR A i)
  · refine wp_ifeq rfl (fun hz_ => absurd hz_ ((by decide : ¬ (1 : Int32) = 0))) (fun _ => ?_)
    refine wp_run rfl ?_
    exact wp_ret rfl rfl ⟨rfl, rfl⟩
  · refine wp_ifeq rfl (fun _ => ?_) (fun hz_ => absurd (rfl) hz_)
    refine wp_run rfl ?_
    exact wp_ret rfl rfl ⟨rfl, rfl⟩
end AX22
end
section
/-! THE CLASS: changes of the board (2): needs, trims; slugs that go out of the row and come in. -/
def aSetD (A : axAD) (k : Nat) (x : Int32) : axAD := (aN A, aR A, aW A, aB A, va_up (aD A) k x, aT A, aPg A, aSl A, aTr A, aTg A)
section AX23
variable {ro : axRo} {d : Nat} {h h1 : axH} {B : axBD} {Y : axYD} {sl : Nat → Option Nat} {P : axPD} {G : axGD} {tl : axH} {A : axAD}
theorem cr_setD (hC : CR B A) {k : Nat} {x : Int32} : CR (bNd_ B (upd (bNd B) k x)) (aSetD A k x) := by
  obtain ⟨c1, c2, c3, c4, c5, c6, c9⟩ := hC
  refine ⟨c1, c2, fun j hj => ⟨(c3 j hj).1, (c3 j hj).2.1, ?_⟩, c4, c5, c6, c9⟩
  show upd (bNd B) k x (aR A j) = va_up (aD A) k x (aR A j)
  rw [upd_up]
  unfold va_up
  by_cases e : aR A j = k
  · rw [if_pos e, if_pos e]
  · rw [if_neg e, if_neg e]
    exact (c3 j hj).2.2
theorem cr_bts (hC : CR B A) {k v : Nat} : CR (bBt_ B (upd (bBt B) k (nI v))) (aBts A k v) := by
  obtain ⟨c1, c2, c3, c4, c5, c6, c9⟩ := hC
  refine ⟨c1, c2, fun j hj => ⟨(c3 j hj).1, ?_, (c3 j hj).2.2⟩, c4, c5, c6, c9⟩
  show upd (bBt B) k (nI v) (aR A j) = nI (va_up (aB A) k v (aR A j))
  rw [upd_up]
  unfold va_up
  by_cases e : aR A j = k
  · rw [if_pos e, if_pos e]
  · rw [if_neg e, if_neg e]
    exact (c3 j hj).2.1
theorem x0_needsOf0 {j : Nat} (hj : j < 24) : axEv ro (d + 2) kX0_needsOf [.ref 1, .int (nI j)] (hX B Y sl P G tl) (some (.int (bNd B j))) (hX B Y sl P G tl) := by
  refine ev_in rfl rfl (Nat.le_of_ble_eq_true rfl) rfl ?_
  refine wp_run rfl ?_
  refine wp_s2 rfl (Nat.le_of_ble_eq_true rfl) (x4_cell rfl hj (by decide)) ?_
  refine wp_run rfl ?_
  exact wp_ret rfl rfl ⟨rfl, rfl⟩
theorem x0_beatsOf0 {j : Nat} (hj : j < 24) : axEv ro (d + 2) kX0_beatsOf [.ref 1, .int (nI j)] (hX B Y sl P G tl) (some (.int (bBt B j))) (hX B Y sl P G tl) := by
  refine ev_in rfl rfl (Nat.le_of_ble_eq_true rfl) rfl ?_
  refine wp_run rfl ?_
  refine wp_s2 rfl (Nat.le_of_ble_eq_true rfl) (x4_cell rfl hj (by decide)) ?_
  refine wp_run rfl ?_
  exact wp_ret rfl rfl ⟨rfl, rfl⟩
theorem x0_flipNeed_ns1 (hC : CR B A) {x y : Int32} (hx : ∀ i, i < aN A → x ≠ nI (aR A i)) : axEv ro (d + 3) kX0_flipNeed [.ref 1, .int x, .int y] (hX B Y sl P G tl) (some (.int (-1))) (hX B Y sl P G tl) := by
  refine ev_in rfl rfl (Nat.le_of_ble_eq_true rfl) rfl ?_
  refine wp_run rfl ?_
  refine wp_v1 rfl rfl (Nat.le_of_ble_eq_true rfl) (x0_has_out hC hx) ?_
  refine wp_run rfl ?_
  refine wp_ifeq rfl (fun _ => ?_) (fun hz_ => absurd (rfl) hz_)
  refine wp_run rfl ?_
  exact wp_ret rfl rfl ⟨rfl, rfl⟩
theorem x0_flipNeed_ns2 (hO : aOk A) (hC : CR B A) {i : Nat} (hi : i < aN A) {y : Int32} (hy : ∀ i, i < aN A → y ≠ nI (aR A i)) : axEv ro (d + 3) kX0_flipNeed [.ref 1, .int (nI (aR A i)), .int y] (hX B Y sl P G tl) (some (.int (-1))) (hX B Y sl P G tl) := by
  refine ev_in rfl rfl (Nat.le_of_ble_eq_true rfl) rfl ?_
  refine wp_run rfl ?_
  refine wp_v1 rfl rfl (Nat.le_of_ble_eq_true rfl) (x0_has_in hO hC hi) ?_
  refine wp_run rfl ?_
  refine wp_ifeq rfl (fun hz_ => absurd hz_ ((by decide : ¬ (1 : Int32) = 0))) (fun _ => ?_)
  refine wp_run rfl ?_
  refine wp_v1 rfl rfl (Nat.le_of_ble_eq_true rfl) (x0_has_out hC hy) ?_
  refine wp_run rfl ?_
  refine wp_ifne rfl (fun hz_ => absurd hz_ (fun z => z rfl)) (fun _ => ?_)
  refine wp_run rfl ?_
  exact wp_ret rfl rfl ⟨rfl, rfl⟩
theorem x0_flipNeed_bv (hO : aOk A) (hC : CR B A) {i : Nat} (hi : i < aN A) : axEv ro (d + 3) kX0_flipNeed [.ref 1, .int (nI (aR A i)), .int (nI (aR A i))] (hX B Y sl P G tl) (some (.int (-2))) (hX B Y sl P G tl) := by
  refine ev_in rfl rfl (Nat.le_of_ble_eq_true rfl) rfl ?_
  refine wp_run rfl ?_
  refine wp_v1 rfl rfl (Nat.le_of_ble_eq_true rfl) (x0_has_in hO hC hi) ?_
  refine wp_run rfl ?_
  refine wp_ifeq rfl (fun hz_ => absurd hz_ ((by decide : ¬ (1 : Int32) = 0))) (fun _ => ?_)
  refine wp_run rfl ?_
  refine wp_v1 rfl rfl (Nat.le_of_ble_eq_true rfl) (x0_has_in hO hC hi) ?_
  refine wp_run rfl ?_
  refine wp_ifne rfl (fun _ => ?_) (fun hz_ => absurd ((by decide : ¬ (1 : Int32) = 0)) hz_)
  refine wp_run rfl ?_
  refine wp_icne rfl (fun hz_ => absurd hz_ (fun z => z rfl)) (fun _ => ?_)
  refine wp_run rfl ?_
  exact wp_ret rfl rfl ⟨rfl, rfl⟩
theorem aR_ne (hO : aOk A) {i j : Nat} (hi : i < aN A) (hj : j < aN A) (hij : i ≠ j) : nI (aR A i) ≠ nI (aR A j) := fun z => hij (hO.inj hi hj ((nI_eq (by have := hO.r hi; omega) (by have := hO.r hj; omega)).mp z))
theorem x0_flipNeed_np (hO : aOk A) (hC : CR B A) {i j : Nat} (hi : i < aN A) (hj : j < aN A) (hij : i < j) (hb : bt (aD A (aR A i)) (aR A j) = false) : axEv ro (d + 3) kX0_flipNeed [.ref 1, .int (nI (aR A i)), .int (nI (aR A j))] (hX B Y sl P G tl) (some (.int (-5))) (hX B Y sl P G tl) := by
  have hn := hO.n
  refine ev_in rfl rfl (Nat.le_of_ble_eq_true rfl) rfl ?_
  refine wp_run rfl ?_
  refine wp_v1 rfl rfl (Nat.le_of_ble_eq_true rfl) (x0_has_in hO hC hi) ?_
  refine wp_run rfl ?_
  refine wp_ifeq rfl (fun hz_ => absurd hz_ ((by decide : ¬ (1 : Int32) = 0))) (fun _ => ?_)
  refine wp_run rfl ?_
  refine wp_v1 rfl rfl (Nat.le_of_ble_eq_true rfl) (x0_has_in hO hC hj) ?_
  refine wp_run rfl ?_
  refine wp_ifne rfl (fun _ => ?_) (fun hz_ => absurd ((by decide : ¬ (1 : Int32) = 0)) hz_)
  refine wp_run rfl ?_
  refine wp_icne rfl (fun _ => ?_) (fun hz_ => absurd (aR_ne hO hi hj (by omega)) hz_)
  refine wp_run rfl ?_
  refine wp_v1 rfl rfl (Nat.le_of_ble_eq_true rfl) (x0_needsOf hO hC hi) ?_
  refine wp_run rfl ?_
  refine wp_s2 rfl (Nat.le_of_ble_eq_true rfl) (x4_contains_in (hO.r hj)) ?_
  refine wp_run rfl ?_
  rw [if_neg (by rw [hb]; decide)]
  refine wp_ifne rfl (fun hz_ => absurd hz_ (fun z => z rfl)) (fun _ => ?_)
  refine wp_run rfl ?_
  refine wp_v1 rfl rfl (Nat.le_of_ble_eq_true rfl) (x0_placeOf hO hC hj) ?_
  refine wp_run rfl ?_
  refine wp_v1 rfl rfl (Nat.le_of_ble_eq_true rfl) (x0_placeOf hO hC hi) ?_
  refine wp_run rfl ?_
  refine wp_icle rfl (fun hz_ => absurd hz_ (nI_ge hij (by omega))) (fun _ => ?_)
  refine wp_run rfl ?_
  exact wp_ret rfl rfl ⟨rfl, rfl⟩
theorem x0_flipNeed_ok (hO : aOk A) (hC : CR B A) {i j : Nat} (hi : i < aN A) (hj : j < aN A) (hij : i ≠ j) (hb : bt (aD A (aR A i)) (aR A j) = true ∨ j < i) : axEv ro (d + 3) kX0_flipNeed [.ref 1, .int (nI (aR A i)), .int (nI (aR A j))] (hX B Y sl P G tl) (some (.int (nI (pcN (aD A (aR A i) ^^^ bi (aR A j)))))) (hX (bNd_ B (upd (bNd B) (aR A i) (aD A (aR A i) ^^^ bi (aR A j)))) Y sl P G tl) := by
  have hn := hO.n
  have fin : axW ro (axEv ro (d + 2)) cdX0_flipNeed 54 [some (.ref 1), some (.int (nI (aR A i))), some (.int (nI (aR A j)))] [] (hX B Y sl P G tl) (fun r' h' => r' = some (.int (nI (pcN (aD A (aR A i) ^^^ bi (aR A j))))) ∧ h' = hX (bNd_ B (upd (bNd B) (aR A i) (aD A (aR A i) ^^^ bi (aR A j)))) Y sl P G tl) := by
    refine wp_run rfl ?_
    refine wp_v1 rfl rfl (Nat.le_of_ble_eq_true rfl) (x0_needsOf hO hC hi) ?_
    refine wp_run rfl ?_
    refine wp_s1 rfl (Nat.le_of_ble_eq_true rfl) (x4_bit (hO.r hj)) ?_
    refine wp_run rfl ?_
    refine wp_s3v rfl (Nat.le_of_ble_eq_true rfl) (x4_store (h1 := hX (bNd_ B (upd (bNd B) (aR A i) (aD A (aR A i) ^^^ bi (aR A j)))) Y sl P G tl) rfl (hO.r hi) (by decide) rfl) ?_
    refine wp_run rfl ?_
    refine wp_v1 rfl rfl (Nat.le_of_ble_eq_true rfl) (x0_needsOf0 (hO.r hi)) ?_
    refine wp_run rfl ?_
    rw [show bNd (bNd_ B (upd (bNd B) (aR A i) (aD A (aR A i) ^^^ bi (aR A j)))) (aR A i) = aD A (aR A i) ^^^ bi (aR A j) from pk_us]
    refine wp_s1 rfl (Nat.le_of_ble_eq_true rfl) (xJ_bitCount _) ?_
    refine wp_run rfl ?_
    exact wp_ret rfl rfl ⟨rfl, rfl⟩
  refine ev_in rfl rfl (Nat.le_of_ble_eq_true rfl) rfl ?_
  refine wp_run rfl ?_
  refine wp_v1 rfl rfl (Nat.le_of_ble_eq_true rfl) (x0_has_in hO hC hi) ?_
  refine wp_run rfl ?_
  refine wp_ifeq rfl (fun hz_ => absurd hz_ ((by decide : ¬ (1 : Int32) = 0))) (fun _ => ?_)
  refine wp_run rfl ?_
  refine wp_v1 rfl rfl (Nat.le_of_ble_eq_true rfl) (x0_has_in hO hC hj) ?_
  refine wp_run rfl ?_
  refine wp_ifne rfl (fun _ => ?_) (fun hz_ => absurd ((by decide : ¬ (1 : Int32) = 0)) hz_)
  refine wp_run rfl ?_
  refine wp_icne rfl (fun _ => ?_) (fun hz_ => absurd (aR_ne hO hi hj hij) hz_)
  refine wp_run rfl ?_
  refine wp_v1 rfl rfl (Nat.le_of_ble_eq_true rfl) (x0_needsOf hO hC hi) ?_
  refine wp_run rfl ?_
  refine wp_s2 rfl (Nat.le_of_ble_eq_true rfl) (x4_contains_in (hO.r hj)) ?_
  refine wp_run rfl ?_
  by_cases h2 : bt (aD A (aR A i)) (aR A j) = true
  · rw [if_pos h2]
    refine wp_ifne rfl (fun _ => ?_) (fun hz_ => absurd ((by decide : ¬ (1 : Int32) = 0)) hz_)
    exact fin
  · rw [if_neg h2]
    refine wp_ifne rfl (fun hz_ => absurd hz_ (fun z => z rfl)) (fun _ => ?_)
    refine wp_run rfl ?_
    refine wp_v1 rfl rfl (Nat.le_of_ble_eq_true rfl) (x0_placeOf hO hC hj) ?_
    refine wp_run rfl ?_
    refine wp_v1 rfl rfl (Nat.le_of_ble_eq_true rfl) (x0_placeOf hO hC hi) ?_
    refine wp_run rfl ?_
    refine wp_icle rfl (fun _ => ?_) (fun hz_ => absurd (nI_le (show j ≤ i by have := hb.resolve_left h2; omega) (by omega)) hz_)
    exact fin
theorem x0_trimSlug_ns (hC : CR B A) {x y : Int32} (hx : ∀ i, i < aN A → x ≠ nI (aR A i)) : axEv ro (d + 3) kX0_trimSlug [.ref 1, .int x, .int y] (hX B Y sl P G tl) (some (.int (-1))) (hX B Y sl P G tl) := by
  refine ev_in rfl rfl (Nat.le_of_ble_eq_true rfl) rfl ?_
  refine wp_run rfl ?_
  refine wp_v1 rfl rfl (Nat.le_of_ble_eq_true rfl) (x0_has_out hC hx) ?_
  refine wp_run rfl ?_
  refine wp_ifne rfl (fun hz_ => absurd hz_ (fun z => z rfl)) (fun _ => ?_)
  refine wp_run rfl ?_
  exact wp_ret rfl rfl ⟨rfl, rfl⟩
theorem x0_trimSlug_bv (hO : aOk A) (hC : CR B A) {i : Nat} (hi : i < aN A) {y : Int32} (hy : y < nI 1 ∨ ¬ y ≤ nI 98) : axEv ro (d + 3) kX0_trimSlug [.ref 1, .int (nI (aR A i)), .int y] (hX B Y sl P G tl) (some (.int (-2))) (hX B Y sl P G tl) := by
  refine ev_in rfl rfl (Nat.le_of_ble_eq_true rfl) rfl ?_
  refine wp_run rfl ?_
  refine wp_v1 rfl rfl (Nat.le_of_ble_eq_true rfl) (x0_has_in hO hC hi) ?_
  refine wp_run rfl ?_
  refine wp_ifne rfl (fun _ => ?_) (fun hz_ => absurd ((by decide : ¬ (1 : Int32) = 0)) hz_)
  refine wp_run rfl ?_
  refine wp_iclt rfl (fun q => ?_) (fun q => ?_)
  · refine wp_run rfl ?_
    exact wp_ret rfl rfl ⟨rfl, rfl⟩
  · refine wp_run rfl ?_
    refine wp_icle rfl (fun hz_ => absurd hz_ (hy.elim (fun w => absurd w q) id)) (fun _ => ?_)
    refine wp_run rfl ?_
    exact wp_ret rfl rfl ⟨rfl, rfl⟩
theorem x0_trimSlug_np (hO : aOk A) (hC : CR B A) {i : Nat} (hi : i < aN A) {v : Nat} (h1 : 1 ≤ v) (h2 : v ≤ 98) (h3 : aCan A (aR A i) < v) : axEv ro (d + 3) kX0_trimSlug [.ref 1, .int (nI (aR A i)), .int (nI v)] (hX B Y sl P G tl) (some (.int (-5))) (hX B Y sl P G tl) := by
  refine ev_in rfl rfl (Nat.le_of_ble_eq_true rfl) rfl ?_
  refine wp_run rfl ?_
  refine wp_v1 rfl rfl (Nat.le_of_ble_eq_true rfl) (x0_has_in hO hC hi) ?_
  refine wp_run rfl ?_
  refine wp_ifne rfl (fun _ => ?_) (fun hz_ => absurd ((by decide : ¬ (1 : Int32) = 0)) hz_)
  refine wp_run rfl ?_
  refine wp_iclt rfl (fun hz_ => absurd hz_ (nI_nlt (b := 1) h1 (by omega))) (fun _ => ?_)
  refine wp_run rfl ?_
  refine wp_icle rfl (fun _ => ?_) (fun hz_ => absurd (nI_le (b := 98) h2 (by omega)) hz_)
  refine wp_run rfl ?_
  refine wp_v1 rfl rfl (Nat.le_of_ble_eq_true rfl) (x0_roomOf hO hC hi) ?_
  refine wp_run rfl ?_
  refine wp_icle rfl (fun hz_ => absurd hz_ (nI_ge h3 (by omega))) (fun _ => ?_)
  refine wp_run rfl ?_
  exact wp_ret rfl rfl ⟨rfl, rfl⟩
theorem x0_trimSlug_ok (hO : aOk A) (hC : CR B A) {i : Nat} (hi : i < aN A) {v : Nat} (h1 : 1 ≤ v) (h2 : v ≤ 98) (h3 : v ≤ aCan A (aR A i)) : axEv ro (d + 3) kX0_trimSlug [.ref 1, .int (nI (aR A i)), .int (nI v)] (hX B Y sl P G tl) (some (.int (nI (aB A (aR A i) - v)))) (hX (bBt_ B (upd (bBt B) (aR A i) (nI (aB A (aR A i) - v)))) Y sl P G tl) := by
  have hc : aCan A (aR A i) ≤ aB A (aR A i) := Nat.sub_le _ _
  have hb := hO.b hi
  refine ev_in rfl rfl (Nat.le_of_ble_eq_true rfl) rfl ?_
  refine wp_run rfl ?_
  refine wp_v1 rfl rfl (Nat.le_of_ble_eq_true rfl) (x0_has_in hO hC hi) ?_
  refine wp_run rfl ?_
  refine wp_ifne rfl (fun _ => ?_) (fun hz_ => absurd ((by decide : ¬ (1 : Int32) = 0)) hz_)
  refine wp_run rfl ?_
  refine wp_iclt rfl (fun hz_ => absurd hz_ (nI_nlt (b := 1) h1 (by omega))) (fun _ => ?_)
  refine wp_run rfl ?_
  refine wp_icle rfl (fun _ => ?_) (fun hz_ => absurd (nI_le (b := 98) h2 (by omega)) hz_)
  refine wp_run rfl ?_
  refine wp_v1 rfl rfl (Nat.le_of_ble_eq_true rfl) (x0_roomOf hO hC hi) ?_
  refine wp_run rfl ?_
  refine wp_icle rfl (fun _ => ?_) (fun hz_ => absurd (nI_le h3 (by omega)) hz_)
  refine wp_run rfl ?_
  refine wp_v1 rfl rfl (Nat.le_of_ble_eq_true rfl) (x0_beatsOf hO hC hi) ?_
  refine wp_run rfl ?_
  rw [pk_sub (by omega)]
  refine wp_s3v rfl (Nat.le_of_ble_eq_true rfl) (x4_store (h1 := hX (bBt_ B (upd (bBt B) (aR A i) (nI (aB A (aR A i) - v)))) Y sl P G tl) rfl (hO.r hi) (by decide) rfl) ?_
  refine wp_run rfl ?_
  refine wp_v1 rfl rfl (Nat.le_of_ble_eq_true rfl) (x0_beatsOf0 (hO.r hi)) ?_
  refine wp_run rfl ?_
  rw [show bBt (bBt_ B (upd (bBt B) (aR A i) (nI (aB A (aR A i) - v)))) (aR A i) = nI (aB A (aR A i) - v) from pk_us]
  exact wp_ret rfl rfl ⟨rfl, rfl⟩
theorem x0_giveBack_out (hC : CR B A) {x : Int32} (hx : ∀ i, i < aN A → x ≠ nI (aR A i)) : axEv ro (d + 3) kX0_giveBack [.ref 1, .int x] (hX B Y sl P G tl) (some (.int (-1))) (hX B Y sl P G tl) := by
  refine ev_in rfl rfl (Nat.le_of_ble_eq_true rfl) rfl ?_
  refine wp_run rfl ?_
  refine wp_v1 rfl rfl (Nat.le_of_ble_eq_true rfl) (x0_has_out hC hx) ?_
  refine wp_run rfl ?_
  refine wp_ifne rfl (fun hz_ => absurd hz_ (fun z => z rfl)) (fun _ => ?_)
  refine wp_run rfl ?_
  exact wp_ret rfl rfl ⟨rfl, rfl⟩
theorem x0_giveBack_in (hO : aOk A) (hC : CR B A) {i : Nat} (hi : i < aN A) : axEv ro (d + 3) kX0_giveBack [.ref 1, .int (nI (aR A i))] (hX B Y sl P G tl) (some (.int (nI (aW A (aR A i) - aB A (aR A i))))) (hX (bBt_ B (upd (bBt B) (aR A i) (nI (aW A (aR A i))))) Y sl P G tl) := by
  have hb := hO.b hi
  refine ev_in rfl rfl (Nat.le_of_ble_eq_true rfl) rfl ?_
  refine wp_run rfl ?_
  refine wp_v1 rfl rfl (Nat.le_of_ble_eq_true rfl) (x0_has_in hO hC hi) ?_
  refine wp_run rfl ?_
  refine wp_ifne rfl (fun _ => ?_) (fun hz_ => absurd ((by decide : ¬ (1 : Int32) = 0)) hz_)
  refine wp_run rfl ?_
  refine wp_v1 rfl rfl (Nat.le_of_ble_eq_true rfl) (x0_writtenOf hO hC hi) ?_
  refine wp_run rfl ?_
  refine wp_v1 rfl rfl (Nat.le_of_ble_eq_true rfl) (x0_beatsOf hO hC hi) ?_
  refine wp_run rfl ?_
  rw [pk_sub (by omega)]
  refine wp_v1 rfl rfl (Nat.le_of_ble_eq_true rfl) (x0_writtenOf hO hC hi) ?_
  refine wp_run rfl ?_
  refine wp_s3v rfl (Nat.le_of_ble_eq_true rfl) (x4_store (h1 := hX (bBt_ B (upd (bBt B) (aR A i) (nI (aW A (aR A i))))) Y sl P G tl) rfl (hO.r hi) (by decide) rfl) ?_
  refine wp_run rfl ?_
  exact wp_ret rfl rfl ⟨rfl, rfl⟩
/-- the row without the slug at p (what stands behind the end stays) -/
def tkF (f : Nat → Int32) (p q : Nat) : Nat → Int32 := fun i => if p ≤ i ∧ i + 1 < q then f (i + 1) else f i
theorem tkF_0 (f : Nat → Int32) (p : Nat) : tkF f p (p + 1) = f := by
  funext i
  unfold tkF
  rw [if_neg (by omega)]
theorem tkF_s (f : Nat → Int32) {p q : Nat} (h : p < q) : upd (tkF f p q) (q - 1) (f q) = tkF f p (q + 1) := by
  funext i
  rw [upd_up]
  unfold tkF
  by_cases e : i = q - 1
  · subst e
    rw [if_pos rfl, if_pos (by omega), show q - 1 + 1 = q by omega]
  · rw [if_neg e]
    by_cases e2 : p ≤ i ∧ i + 1 < q
    · rw [if_pos e2, if_pos (by omega)]
    · rw [if_neg e2, if_neg (by omega)]
theorem x0_takeOut {n p : Nat} (hs : bSz B = nI n) (hn : n ≤ 24) (hp : p < n) : axEv ro (d + 2) kX0_takeOut [.ref 1, .int (nI p)] (hX B Y sl P G tl) none (hX (bSz_ (bRw_ B (tkF (bRw B) p n)) (nI (n - 1))) Y sl P G tl) := by
  have loop : ∀ m q, q + m = n → p < q → axW ro (axEv ro (d + 1)) cdX0_takeOut 9 [some (.ref 1), some (.int (nI p)), some (.int (nI q))] [.int (bSz B), .int (nI q)] (hX (bRw_ B (tkF (bRw B) p q)) Y sl P G tl) (fun r' h' => r' = none ∧ h' = hX (bSz_ (bRw_ B (tkF (bRw B) p n)) (nI (n - 1))) Y sl P G tl) := by
    intro m
    induction m with
    | zero =>
      intro q e hq
      have e : q = n := by omega
      subst e
      rw [hs]
      refine wp_icge rfl (fun _ => ?_) (fun hz_ => absurd (nI_le (Nat.le_refl _) (by omega)) hz_)
      refine wp_run rfl ?_
      rw [show bSz (bRw_ B (tkF (bRw B) p q)) = nI q from hs, nI_p1 (by omega)]
      refine wp_putf (h1 := hX (bSz_ (bRw_ B (tkF (bRw B) p q)) (nI (q - 1))) Y sl P G tl) rfl rfl (Nat.le_of_ble_eq_true rfl) ⟨rfl, rfl, fun _ hz_ => by cases hz_⟩ rfl ?_
      refine wp_run rfl ?_
      exact wp_retv rfl ⟨rfl, rfl⟩
    | succ m ih =>
      intro q e hq
      rw [hs]
      refine wp_icge rfl (fun hz_ => absurd hz_ (nI_ge (show q < n by omega) (by omega))) (fun _ => ?_)
      refine wp_run rfl ?_
      rw [nI_p1 (by omega)]
      refine wp_s2 rfl (Nat.le_of_ble_eq_true rfl) (x4_cell rfl (show q < 24 by omega) (by decide)) ?_
      refine wp_run rfl ?_
      rw [show bRw (bRw_ B (tkF (bRw B) p q)) q = bRw B q from if_neg (by omega)]
      refine wp_s3v rfl (Nat.le_of_ble_eq_true rfl) (x4_store (h1 := hX (bRw_ B (upd (tkF (bRw B) p q) (q - 1) (bRw B q))) Y sl P G tl) rfl (show q - 1 < 24 by omega) (by decide) rfl) ?_
      refine wp_run rfl ?_
      rw [tkF_s _ hq, nI_1]
      exact ih (q + 1) (by omega) (by omega)
  refine ev_in rfl rfl (Nat.le_of_ble_eq_true rfl) rfl ?_
  refine wp_run rfl ?_
  have := loop (n - (p + 1)) (p + 1) (by omega) (by omega)
  rw [tkF_0] at this
  rw [nI_1]
  exact this
/-- the row, behind p each a place further -/
def pnF (f : Nat → Int32) (q n : Nat) : Nat → Int32 := fun i => if q < i ∧ i ≤ n then f (i - 1) else f i
theorem pnF_0 (f : Nat → Int32) (n : Nat) : pnF f n n = f := by
  funext i
  unfold pnF
  rw [if_neg (by omega)]
theorem pnF_s (f : Nat → Int32) {q n : Nat} (h : q + 1 ≤ n) : upd (pnF f (q + 1) n) (q + 1) (f q) = pnF f q n := by
  funext i
  rw [upd_up]
  unfold pnF
  by_cases e : i = q + 1
  · subst e
    rw [if_pos rfl, if_pos (by omega), show q + 1 - 1 = q by omega]
  · rw [if_neg e]
    by_cases e2 : q < i ∧ i ≤ n
    · rw [if_pos e2, if_pos (by omega)]
    · rw [if_neg e2, if_neg (by omega)]
theorem x0_putIn {n p k : Nat} (hs : bSz B = nI n) (hn : n < 24) (hp : p ≤ n) : axEv ro (d + 2) kX0_putIn [.ref 1, .int (nI p), .int (nI k)] (hX B Y sl P G tl) none (hX (bSz_ (bRw_ B (upd (pnF (bRw B) p n) p (nI k))) (nI (n + 1))) Y sl P G tl) := by
  have loop : ∀ m q, q = p + m → q ≤ n → axW ro (axEv ro (d + 1)) cdX0_putIn 7 [some (.ref 1), some (.int (nI p)), some (.int (nI k)), some (.int (nI q))] [.int (nI p), .int (nI q)] (hX (bRw_ B (pnF (bRw B) q n)) Y sl P G tl) (fun r' h' => r' = none ∧ h' = hX (bSz_ (bRw_ B (upd (pnF (bRw B) p n) p (nI k))) (nI (n + 1))) Y sl P G tl) := by
    intro m
    induction m with
    | zero =>
      intro q e hq
      have e : q = p := by omega
      subst e
      refine wp_icle rfl (fun _ => ?_) (fun hz_ => absurd (nI_le (Nat.le_refl _) (by omega)) hz_)
      refine wp_run rfl ?_
      refine wp_s3v rfl (Nat.le_of_ble_eq_true rfl) (x4_store (h1 := hX (bRw_ B (upd (pnF (bRw B) q n) q (nI k))) Y sl P G tl) rfl (show q < 24 by omega) (by decide) rfl) ?_
      refine wp_run rfl ?_
      rw [show bSz (bRw_ B (upd (pnF (bRw B) q n) q (nI k))) = nI n from hs, nI_1]
      refine wp_putf (h1 := hX (bSz_ (bRw_ B (upd (pnF (bRw B) q n) q (nI k))) (nI (n + 1))) Y sl P G tl) rfl rfl (Nat.le_of_ble_eq_true rfl) ⟨rfl, rfl, fun _ hz_ => by cases hz_⟩ rfl ?_
      refine wp_run rfl ?_
      exact wp_retv rfl ⟨rfl, rfl⟩
    | succ m ih =>
      intro q e hq
      obtain ⟨q', rfl⟩ : ∃ q', q = q' + 1 := ⟨q - 1, by omega⟩
      refine wp_icle rfl (fun hz_ => absurd hz_ (nI_ge (show p < q' + 1 by omega) (by omega))) (fun _ => ?_)
      refine wp_run rfl ?_
      rw [nI_pred]
      refine wp_s2 rfl (Nat.le_of_ble_eq_true rfl) (x4_cell rfl (show q' < 24 by omega) (by decide)) ?_
      refine wp_run rfl ?_
      rw [show bRw (bRw_ B (pnF (bRw B) (q' + 1) n)) q' = bRw B q' from if_neg (by omega)]
      refine wp_s3v rfl (Nat.le_of_ble_eq_true rfl) (x4_store (h1 := hX (bRw_ B (upd (pnF (bRw B) (q' + 1) n) (q' + 1) (bRw B q'))) Y sl P G tl) rfl (show q' + 1 < 24 by omega) (by decide) rfl) ?_
      refine wp_run rfl ?_
      rw [pnF_s _ (by omega), pk_m1]
      exact ih q' (by omega) (by omega)
  refine ev_in rfl rfl (Nat.le_of_ble_eq_true rfl) rfl ?_
  refine wp_run rfl ?_
  have := loop (n - p) n (by omega) (Nat.le_refl _)
  rw [pnF_0] at this
  rw [hs]
  exact this
end AX23
end
section
/-! THE CLASS: changes of the board (3): slugs go, come, are moved, are swapped. -/
def aIns (r : Nat → Nat) (p k : Nat) : Nat → Nat := fun i => if i < p then r i else if i = p then k else r (i - 1)
def aDel (r : Nat → Nat) (p : Nat) : Nat → Nat := fun i => if i < p then r i else r (i + 1)
theorem aDel_is (r : Nat → Nat) {p i n : Nat} (hi : i < n - 1) (hp : p < n) : ∃ j, j < n ∧ j ≠ p ∧ aDel r p i = r j := by
  unfold aDel
  by_cases h : i < p
  · exact ⟨i, by omega, by omega, by rw [if_pos h]⟩
  · exact ⟨i + 1, by omega, by omega, by rw [if_neg h]⟩
theorem aDel_has (r : Nat → Nat) {p j n : Nat} (hj : j < n) (hjp : j ≠ p) (hp : p < n) : ∃ i, i < n - 1 ∧ aDel r p i = r j := by
  unfold aDel
  by_cases h : j < p
  · exact ⟨j, by omega, by rw [if_pos h]⟩
  · exact ⟨j - 1, by omega, by rw [if_neg (by omega), show j - 1 + 1 = j by omega]⟩
theorem aIns_is (r : Nat → Nat) {p k i n : Nat} (hi : i < n + 1) (hp : p ≤ n) : (i = p ∧ aIns r p k i = k) ∨ ∃ j, j < n ∧ aIns r p k i = r j := by
  unfold aIns
  by_cases h : i < p
  · exact Or.inr ⟨i, by omega, by rw [if_pos h]⟩
  · by_cases h2 : i = p
    · exact Or.inl ⟨h2, by rw [if_neg h, if_pos h2]⟩
    · exact Or.inr ⟨i - 1, by omega, by rw [if_neg h, if_neg h2]⟩
theorem aIns_at (r : Nat → Nat) (p k : Nat) : aIns r p k p = k := by unfold aIns; rw [if_neg (by omega), if_pos rfl]
theorem aIns_has (r : Nat → Nat) {p k j n : Nat} (hj : j < n) (hp : p ≤ n) : ∃ i, i < n + 1 ∧ i ≠ p ∧ aIns r p k i = r j := by
  unfold aIns
  by_cases h : j < p
  · exact ⟨j, by omega, by omega, by rw [if_pos h]⟩
  · exact ⟨j + 1, by omega, by omega, by rw [if_neg (by omega), if_neg (by omega), Nat.add_sub_cancel]⟩
def aDrop (A : axAD) (p : Nat) : axAD := (aN A - 1, aDel (aR A) p, aW A, aB A, fun k => aD A k &&& (bi (aR A p) ^^^ (-1)), aT A, aPg A, aSl A, aTr A, aTg A)
def aAdd (A : axAD) (p v k : Nat) (t : Bool) : axAD := (aN A + 1, aIns (aR A) p k, va_up (aW A) k v, va_up (aB A) k v, va_up (aD A) k 0, va_up (aT A) k t, aPg A, aSl A, aTr A, aTg A)
def aRow (A : axAD) (r : Nat → Nat) : axAD := (aN A, r, aW A, aB A, aD A, aT A, aPg A, aSl A, aTr A, aTg A)
def aMove (A : axAD) (p q : Nat) : axAD := aRow A (aIns (aDel (aR A) p) q (aR A p))
def aSwp (A : axAD) (p q : Nat) : axAD := aRow A (fun i => if i = p then aR A q else if i = q then aR A p else aR A i)
/-- is it there; the lowest number that is free -/
def aPr (A : axAD) (k : Nat) : Bool := decide (aFst (fun i => decide (aR A i = k)) (aN A) < aN A)
def aFr (A : axAD) : Nat := aFst (fun k => !aPr A k) 24
theorem aPr_iff (A : axAD) (k : Nat) : aPr A k = true ↔ aIn A k := by
  unfold aPr aIn
  rw [decide_eq_true_eq]
  constructor
  · intro h
    exact ⟨_, h, of_decide_eq_true (aFst_yes (fun i => decide (aR A i = k)) (aN A) h)⟩
  · rintro ⟨i, hi, e⟩
    have := aFst_lt (f := fun i => decide (aR A i = k)) hi (decide_eq_true e)
    omega
section AX24
variable {ro : axRo} {d : Nat} {h h1 : axH} {B : axBD} {Y : axYD} {sl : Nat → Option Nat} {P : axPD} {G : axGD} {tl : axH} {A : axAD}
theorem aFr_lt (hO : aOk A) (hn : aN A < 24) : aFr A < 24 := by
  rcases Nat.lt_or_ge (aFr A) 24 with h | h
  · exact h
  · have hle : aFr A ≤ 24 := aFst_le _ _
    have all : ∀ k, k < 24 → aPr A k = true := fun k hk => by
      have := aFst_no (fun k => !aPr A k) 24 k (by unfold aFr at h; omega)
      simpa using this
    have h1 := bc_row (r := aR A) (t := fun _ => true) (N := 24) (fun i hi => hO.r hi) (fun i j hi hj e => hO.inj hi hj e) (aN A) (Nat.le_refl _) (fun k => aPr A k) (fun k => by
      rw [aPr_iff]
      constructor
      · rintro ⟨i, hi, e⟩; exact ⟨i, hi, e, rfl⟩
      · rintro ⟨i, hi, e, _⟩; exact ⟨i, hi, e⟩)
    have h2 : bc (fun k => aPr A k) 24 = 24 := by
      have : ∀ N, N ≤ 24 → bc (fun k => aPr A k) N = N := by
        intro N
        induction N with
        | zero => intro _; rfl
        | succ N ih => intro hN; rw [bc, ih (by omega), if_pos (all N (by omega))]
      exact this 24 (Nat.le_refl _)
    have h3 : aS (fun i => if (fun _ : Nat => true) (aR A i) = true then 1 else 0) (aN A) ≤ aN A * 1 := aS_le _ (fun i _ => by simp)
    rw [h1] at h2
    have h4 := Nat.le_trans (Nat.le_of_eq h2.symm) h3
    omega
theorem aFr_free (hO : aOk A) (hn : aN A < 24) : ¬ aIn A (aFr A) := by
  have := aFst_yes (fun k => !aPr A k) 24 (aFr_lt hO hn)
  intro h
  have h2 := (aPr_iff A (aFr A)).mpr h
  unfold aFr at h2
  simp only [h2] at this
  cases this
theorem cr_pr (hC : CR B A) (k : Nat) : bt (bSg B) k = aPr A k := by
  have h1 := cr_sg hC k
  have h2 := aPr_iff A k
  cases h3 : bt (bSg B) k <;> cases h4 : aPr A k <;> simp_all
theorem x0_lowestFree (hO : aOk A) (hC : CR B A) (hn : aN A < 24) : axEv ro (d + 2) kX0_lowestFree [.ref 1] (hX B Y sl P G tl) (some (.int (nI (aFr A)))) (hX B Y sl P G tl) := by
  have hlt := aFr_lt hO hn
  have loop : ∀ m q, q + m = aFr A → axW ro (axEv ro (d + 1)) cdX0_lowestFree 5 [some (.ref 1), some (.int (nI q))] [.int 24, .int (nI q)] (hX B Y sl P G tl) (fun r' h' => r' = some (.int (nI (aFr A))) ∧ h' = (hX B Y sl P G tl)) := by
    intro m
    induction m with
    | zero =>
      intro q e
      have e : q = aFr A := by omega
      refine wp_icge rfl (fun hz_ => absurd hz_ (nlt24 (show q < 24 by omega))) (fun _ => ?_)
      refine wp_run rfl ?_
      refine wp_s2 rfl (Nat.le_of_ble_eq_true rfl) (x4_contains_in (show q < 24 by omega)) ?_
      refine wp_run rfl ?_
      have h2 : aPr A q = false := by
        have := aFst_yes (fun k => !aPr A k) 24 hlt
        rw [e]; simpa [aFr] using this
      rw [if_neg (by rw [cr_pr hC, h2]; decide)]
      refine wp_ifne rfl (fun hz_ => absurd hz_ (fun z => z rfl)) (fun _ => ?_)
      refine wp_run rfl ?_
      rw [e]
      exact wp_ret rfl rfl ⟨rfl, rfl⟩
    | succ m ih =>
      intro q e
      refine wp_icge rfl (fun hz_ => absurd hz_ (nlt24 (show q < 24 by omega))) (fun _ => ?_)
      refine wp_run rfl ?_
      refine wp_s2 rfl (Nat.le_of_ble_eq_true rfl) (x4_contains_in (show q < 24 by omega)) ?_
      refine wp_run rfl ?_
      have h2 : aPr A q = true := by
        have := aFst_no (fun k => !aPr A k) 24 q (by unfold aFr at e; omega)
        simpa using this
      rw [if_pos (by rw [cr_pr hC, h2])]
      refine wp_ifne rfl (fun _ => ?_) (fun hz_ => absurd ((by decide : ¬ (1 : Int32) = 0)) hz_)
      refine wp_run rfl ?_
      rw [nI_1]
      exact ih (q + 1) (by omega)
  refine ev_in rfl rfl (Nat.le_of_ble_eq_true rfl) rfl ?_
  refine wp_run rfl ?_
  exact loop (aFr A) 0 (by omega)
/-- a new slug's arrays, the row included -/
def bAdd (B : axBD) (n p v k : Nat) : axBD := (bSt B, bTg B, upd (pnF (bRw B) p n) p (nI k), upd (bWr B) k (nI v), upd (bBt B) k (nI v), upd (bNd B) k 0, bSg B ||| bi k, bTn B, nI (n + 1))
theorem x0_makeSlug (hO : aOk A) (hC : CR B A) {p v : Nat} (hn : aN A < 24) (hp : p ≤ aN A) : axEv ro (d + 3) kX0_makeSlug [.ref 1, .int (nI p), .int (nI v)] (hX B Y sl P G tl) (some (.int (nI (aFr A)))) (hX (bAdd B (aN A) p v (aFr A)) Y sl P G tl) := by
  have hlt := aFr_lt hO hn
  have hz := cr_sz hC
  refine ev_in rfl rfl (Nat.le_of_ble_eq_true rfl) rfl ?_
  refine wp_run rfl ?_
  refine wp_v0 rfl rfl (Nat.le_of_ble_eq_true rfl) (x0_lowestFree hO hC hn) ?_
  refine wp_run rfl ?_
  refine wp_s1 rfl (Nat.le_of_ble_eq_true rfl) (x4_bit hlt) ?_
  refine wp_run rfl ?_
  refine wp_putf (h1 := hX (bSg_ B (bSg B ||| bi (aFr A))) Y sl P G tl) rfl rfl (Nat.le_of_ble_eq_true rfl) ⟨rfl, rfl, fun _ hz_ => by cases hz_⟩ rfl ?_
  refine wp_run rfl ?_
  refine wp_s3v rfl (Nat.le_of_ble_eq_true rfl) (x4_store (h1 := hX (bWr_ (bSg_ B (bSg B ||| bi (aFr A))) (upd (bWr B) (aFr A) (nI v))) Y sl P G tl) rfl hlt (by decide) rfl) ?_
  refine wp_run rfl ?_
  refine wp_s3v rfl (Nat.le_of_ble_eq_true rfl) (x4_store (h1 := hX (bBt_ (bWr_ (bSg_ B (bSg B ||| bi (aFr A))) (upd (bWr B) (aFr A) (nI v))) (upd (bBt B) (aFr A) (nI v))) Y sl P G tl) rfl hlt (by decide) rfl) ?_
  refine wp_run rfl ?_
  refine wp_s3v rfl (Nat.le_of_ble_eq_true rfl) (x4_store (h1 := hX (bNd_ (bBt_ (bWr_ (bSg_ B (bSg B ||| bi (aFr A))) (upd (bWr B) (aFr A) (nI v))) (upd (bBt B) (aFr A) (nI v))) (upd (bNd B) (aFr A) 0)) Y sl P G tl) rfl hlt (by decide) rfl) ?_
  refine wp_run rfl ?_
  refine wp_v2v rfl rfl (Nat.le_of_ble_eq_true rfl) (x0_putIn (n := aN A) hz hn hp) ?_
  refine wp_run rfl ?_
  exact wp_ret rfl rfl ⟨rfl, rfl⟩
theorem va_is {α : Type} {f : Nat → α} {k : Nat} {v : α} : va_up f k v k = v := if_pos rfl
theorem va_no {α : Type} {f : Nat → α} {k j : Nat} {v : α} (h : j ≠ k) : va_up f k v j = f j := if_neg h
theorem pn_row {f : Nat → Int32} {r : Nat → Nat} {n p k : Nat} (hf : ∀ i, i < n → f i = nI (r i)) (hp : p ≤ n) {i : Nat} (hi : i < n + 1) : upd (pnF f p n) p (nI k) i = nI (aIns r p k i) := by
  rw [upd_up]
  unfold pnF aIns
  by_cases e : i = p
  · rw [if_pos e, if_neg (by omega), if_pos e]
  · rw [if_neg e]
    by_cases e2 : i < p
    · rw [if_neg (by omega), if_pos e2, hf i (by omega)]
    · rw [if_pos (by omega), if_neg e2, if_neg e, hf (i - 1) (by omega)]
theorem tk_row {f : Nat → Int32} {r : Nat → Nat} {n p : Nat} (hf : ∀ i, i < n → f i = nI (r i)) {i : Nat} (hi : i < n - 1) : tkF f p n i = nI (aDel r p i) := by
  unfold tkF aDel
  by_cases e : i < p
  · rw [if_neg (by omega), if_pos e, hf i (by omega)]
  · rw [if_pos (by omega), if_neg e, hf (i + 1) (by omega)]
theorem cr_add (hC : CR B A) {p v z0 : Nat} (hlt : z0 < 24) (hfr : ¬ aIn A z0) (hp : p ≤ aN A) : CR (bAdd B (aN A) p v z0) (aAdd A p v z0 false) := by
  obtain ⟨c1, c2, c3, c4, c5, c6, c9⟩ := hC
  have hin : ∀ k, aIn (aAdd A p v z0 false) k ↔ (aIn A k ∨ k = z0) := by
    intro k
    constructor
    · rintro ⟨i, hi, e⟩
      rcases aIns_is (aR A) (p := p) (k := z0) hi hp with ⟨-, e2⟩ | ⟨j, hj, e2⟩
      · exact Or.inr (e.symm.trans e2)
      · exact Or.inl ⟨j, hj, e2.symm.trans e⟩
    · rintro (⟨j, hj, e⟩ | e)
      · obtain ⟨i, hi, -, e2⟩ := aIns_has (aR A) (p := p) (k := z0) hj hp
        exact ⟨i, hi, e2.trans e⟩
      · exact ⟨p, by show p < aN A + 1; omega, (aIns_at (aR A) p z0).trans e.symm⟩
  have hne : ∀ j, j < aN A → aR A j ≠ z0 := fun j hj e => hfr ⟨j, hj, e⟩
  refine ⟨rfl, fun i hi => pn_row c2 hp hi, fun i hi => ?_, fun k => ?_, fun k => ?_, c6, c9⟩
  · have key : ∀ z, aIns (aR A) p z0 i = z → upd (bWr B) z0 (nI v) z = nI (va_up (aW A) z0 v z) ∧ upd (bBt B) z0 (nI v) z = nI (va_up (aB A) z0 v z) ∧ upd (bNd B) z0 0 z = va_up (aD A) z0 0 z := by
      intro z hz
      rcases aIns_is (aR A) (p := p) (k := z0) hi hp with ⟨-, e2⟩ | ⟨j, hj, e2⟩
      · rw [← hz, e2, pk_us, pk_us, pk_us, va_is, va_is, va_is]
        exact ⟨rfl, rfl, rfl⟩
      · have hj2 := hne j hj
        rw [← hz, e2, pk_un hj2, pk_un hj2, pk_un hj2, va_no hj2, va_no hj2, va_no hj2]
        exact c3 j hj
    exact key _ rfl
  · rw [hin k, ← c4 k]
    show bt (bSg B ||| bi z0) k = true ↔ _
    rw [bt_set (by omega), Bool.or_eq_true, decide_eq_true_eq]
  · rw [hin k]
    show bt (bTn B) k = true ↔ (_ ∧ va_up (aT A) z0 false k = true)
    rw [c5 k]
    by_cases e : k = z0
    · subst e
      rw [va_is]
      constructor
      · intro h; exact absurd h.1 hfr
      · intro h; cases h.2
    · rw [va_no e]
      constructor
      · intro h; exact ⟨Or.inl h.1, h.2⟩
      · intro h; exact ⟨h.1.resolve_right e, h.2⟩
theorem cr_turnOn (hC : CR B A) {k : Nat} (hk : k < 24) (hin : aIn A k) (hf : aT A k = false) : CR (bTn_ B (bTn B ||| bi k)) (aFlip A k) := by
  obtain ⟨c1, c2, c3, c4, c5, c6, c9⟩ := hC
  refine ⟨c1, c2, c3, c4, fun j => ?_, c6, c9⟩
  show bt (bTn B ||| bi k) j = true ↔ (aIn A j ∧ (if j = k then !aT A j else aT A j) = true)
  rw [bt_set (by omega), Bool.or_eq_true, decide_eq_true_eq, c5 j]
  by_cases e : j = k
  · subst e
    rw [if_pos rfl, hf]
    simp [hin]
  · rw [if_neg e]
    simp [e]
theorem x0_addSlug_ns (hC : CR B A) {x y z : Int32} (hx : x < 0 ∨ ¬ x ≤ nI (aN A)) : axEv ro (d + 4) kX0_addSlug [.ref 1, .int x, .int y, .int z] (hX B Y sl P G tl) (some (.int (-1))) (hX B Y sl P G tl) := by
  refine ev_in rfl rfl (Nat.le_of_ble_eq_true rfl) rfl ?_
  refine wp_run rfl ?_
  refine wp_iflt rfl (fun q => ?_) (fun q => ?_)
  · refine wp_run rfl ?_
    exact wp_ret rfl rfl ⟨rfl, rfl⟩
  · refine wp_run rfl ?_
    rw [cr_sz hC]
    refine wp_icle rfl (fun hz_ => absurd hz_ (hx.elim (fun w => absurd w q) id)) (fun _ => ?_)
    refine wp_run rfl ?_
    exact wp_ret rfl rfl ⟨rfl, rfl⟩
theorem x0_addSlug_bv (hO : aOk A) (hC : CR B A) {p : Nat} {y z : Int32} (hp : p ≤ aN A) (hv : y < 1 ∨ 99 < y ∨ z < 0 ∨ ¬ z ≤ 1) : axEv ro (d + 4) kX0_addSlug [.ref 1, .int (nI p), .int y, .int z] (hX B Y sl P G tl) (some (.int (-2))) (hX B Y sl P G tl) := by
  have hn := hO.n
  refine ev_in rfl rfl (Nat.le_of_ble_eq_true rfl) rfl ?_
  refine wp_run rfl ?_
  refine wp_iflt rfl (fun hz_ => absurd hz_ (nI_pos (by omega))) (fun _ => ?_)
  refine wp_run rfl ?_
  rw [cr_sz hC]
  refine wp_icle rfl (fun _ => ?_) (fun hz_ => absurd (nI_le hp (by omega)) hz_)
  refine wp_run rfl ?_
  refine wp_iclt rfl (fun q1 => ?_) (fun q1 => ?_)
  · refine wp_run rfl ?_
    exact wp_ret rfl rfl ⟨rfl, rfl⟩
  · refine wp_run rfl ?_
    refine wp_icgt rfl (fun q2 => ?_) (fun q2 => ?_)
    · refine wp_run rfl ?_
      exact wp_ret rfl rfl ⟨rfl, rfl⟩
    · refine wp_run rfl ?_
      refine wp_iflt rfl (fun q3 => ?_) (fun q3 => ?_)
      · refine wp_run rfl ?_
        exact wp_ret rfl rfl ⟨rfl, rfl⟩
      · refine wp_run rfl ?_
        refine wp_icle rfl (fun hz_ => absurd hz_ (fun q4 => hv.elim q1 (fun w => w.elim q2 (fun w => w.elim q3 (fun w => w q4))))) (fun _ => ?_)
        refine wp_run rfl ?_
        exact wp_ret rfl rfl ⟨rfl, rfl⟩
theorem x0_addSlug_tm (hO : aOk A) (hC : CR B A) {p v t : Nat} (hp : p ≤ aN A) (h1 : 1 ≤ v) (h2 : v ≤ 99) (h3 : t ≤ 1) (hn : aN A = 24) : axEv ro (d + 4) kX0_addSlug [.ref 1, .int (nI p), .int (nI v), .int (nI t)] (hX B Y sl P G tl) (some (.int (-4))) (hX B Y sl P G tl) := by
  refine ev_in rfl rfl (Nat.le_of_ble_eq_true rfl) rfl ?_
  refine wp_run rfl ?_
  refine wp_iflt rfl (fun hz_ => absurd hz_ (nI_pos (by omega))) (fun _ => ?_)
  refine wp_run rfl ?_
  rw [cr_sz hC]
  refine wp_icle rfl (fun _ => ?_) (fun hz_ => absurd (nI_le hp (by omega)) hz_)
  refine wp_run rfl ?_
  refine wp_iclt rfl (fun hz_ => absurd hz_ (nI_nlt (b := 1) h1 (by omega))) (fun _ => ?_)
  refine wp_run rfl ?_
  refine wp_icgt rfl (fun hz_ => absurd hz_ (nI_nlt (a := 99) h2 (by omega))) (fun _ => ?_)
  refine wp_run rfl ?_
  refine wp_iflt rfl (fun hz_ => absurd hz_ (nI_pos (by omega))) (fun _ => ?_)
  refine wp_run rfl ?_
  refine wp_icle rfl (fun _ => ?_) (fun hz_ => absurd (nI_le (b := 1) h3 (by omega)) hz_)
  refine wp_run rfl ?_
  rw [cr_sz hC, hn]
  refine wp_iclt rfl (fun hz_ => absurd hz_ ((by decide : ¬ nI 24 < 24))) (fun _ => ?_)
  refine wp_run rfl ?_
  exact wp_ret rfl rfl ⟨rfl, rfl⟩
theorem x0_addSlug_ok (hO : aOk A) (hC : CR B A) {p v t : Nat} (hp : p ≤ aN A) (h1 : 1 ≤ v) (h2 : v ≤ 99) (h3 : t ≤ 1) (hn : aN A < 24) : ∃ B', axEv ro (d + 4) kX0_addSlug [.ref 1, .int (nI p), .int (nI v), .int (nI t)] (hX B Y sl P G tl) (some (.int (nI (aFr A)))) (hX (B') Y sl P G tl) ∧ CR B' (aAdd A p v (aFr A) (decide (t = 1))) := by
  have hlt := aFr_lt hO hn
  have hfr := aFr_free hO hn
  have hc := cr_add (v := v) hC hlt hfr hp
  have hm := x0_makeSlug (ro := ro) (d := d) (Y := Y) (sl := sl) (P := P) (G := G) (tl := tl) (v := v) hO hC hn hp
  generalize aFr A = k at *
  rcases (show t = 0 ∨ t = 1 by omega) with rfl | rfl
  · refine ⟨_, ?_, hc⟩
    refine ev_in rfl rfl (Nat.le_of_ble_eq_true rfl) rfl ?_
    refine wp_run rfl ?_
    refine wp_iflt rfl (fun hz_ => absurd hz_ (nI_pos (by omega))) (fun _ => ?_)
    refine wp_run rfl ?_
    rw [cr_sz hC]
    refine wp_icle rfl (fun _ => ?_) (fun hz_ => absurd (nI_le hp (by omega)) hz_)
    refine wp_run rfl ?_
    refine wp_iclt rfl (fun hz_ => absurd hz_ (nI_nlt (b := 1) h1 (by omega))) (fun _ => ?_)
    refine wp_run rfl ?_
    refine wp_icgt rfl (fun hz_ => absurd hz_ (nI_nlt (a := 99) h2 (by omega))) (fun _ => ?_)
    refine wp_run rfl ?_
    refine wp_iflt rfl (fun hz_ => absurd hz_ (nI_pos (by omega))) (fun _ => ?_)
    refine wp_run rfl ?_
    refine wp_icle rfl (fun _ => ?_) (fun hz_ => absurd (nI_le (b := 1) h3 (by omega)) hz_)
    refine wp_run rfl ?_
    rw [cr_sz hC]
    refine wp_iclt rfl (fun _ => ?_) (fun hz_ => absurd (nI_lt (b := 24) hn (by omega)) hz_)
    refine wp_run rfl ?_
    refine wp_v2 rfl rfl (Nat.le_of_ble_eq_true rfl) (hm) ?_
    refine wp_run rfl ?_
    refine wp_icne rfl (fun _ => ?_) (fun hz_ => absurd ((by decide : ¬ nI 0 = 1)) hz_)
    refine wp_run rfl ?_
    exact wp_ret rfl rfl ⟨rfl, rfl⟩
  · have hc2 := cr_turnOn hc hlt ⟨p, by show p < aN A + 1; omega, aIns_at (aR A) p k⟩ va_is
    refine ⟨bTn_ (bAdd B (aN A) p v k) (bTn B ||| bi k), ?_, ?_⟩
    · refine ev_in rfl rfl (Nat.le_of_ble_eq_true rfl) rfl ?_
      refine wp_run rfl ?_
      refine wp_iflt rfl (fun hz_ => absurd hz_ (nI_pos (by omega))) (fun _ => ?_)
      refine wp_run rfl ?_
      rw [cr_sz hC]
      refine wp_icle rfl (fun _ => ?_) (fun hz_ => absurd (nI_le hp (by omega)) hz_)
      refine wp_run rfl ?_
      refine wp_iclt rfl (fun hz_ => absurd hz_ (nI_nlt (b := 1) h1 (by omega))) (fun _ => ?_)
      refine wp_run rfl ?_
      refine wp_icgt rfl (fun hz_ => absurd hz_ (nI_nlt (a := 99) h2 (by omega))) (fun _ => ?_)
      refine wp_run rfl ?_
      refine wp_iflt rfl (fun hz_ => absurd hz_ (nI_pos (by omega))) (fun _ => ?_)
      refine wp_run rfl ?_
      refine wp_icle rfl (fun _ => ?_) (fun hz_ => absurd (nI_le (b := 1) h3 (by omega)) hz_)
      refine wp_run rfl ?_
      rw [cr_sz hC]
      refine wp_iclt rfl (fun _ => ?_) (fun hz_ => absurd (nI_lt (b := 24) hn (by omega)) hz_)
      refine wp_run rfl ?_
      refine wp_v2 rfl rfl (Nat.le_of_ble_eq_true rfl) (hm) ?_
      refine wp_run rfl ?_
      refine wp_icne rfl (fun hz_ => absurd hz_ (fun z => z rfl)) (fun _ => ?_)
      refine wp_run rfl ?_
      refine wp_s1 rfl (Nat.le_of_ble_eq_true rfl) (x4_bit hlt) ?_
      refine wp_run rfl ?_
      refine wp_putf (h1 := hX (bTn_ (bAdd B (aN A) p v k) (bTn B ||| bi k)) Y sl P G tl) rfl rfl (Nat.le_of_ble_eq_true rfl) ⟨rfl, rfl, fun _ hz_ => by cases hz_⟩ rfl ?_
      refine wp_run rfl ?_
      exact wp_ret rfl rfl ⟨rfl, rfl⟩
    · have e : aFlip (aAdd A p v k false) k = aAdd A p v k (decide (1 = 1)) := by
        have e2 : (fun j => if j = k then !(va_up (aT A) k false j) else va_up (aT A) k false j) = va_up (aT A) k true := by
          funext j
          unfold va_up
          by_cases e : j = k
          · rw [if_pos e, if_pos e, if_pos e]; rfl
          · rw [if_neg e, if_neg e, if_neg e]
        show (_, _, _, _, _, (fun j => if j = k then !(va_up (aT A) k false j) else va_up (aT A) k false j), _) = (_, _, _, _, _, va_up (aT A) k true, _)
        rw [e2]
        rfl
      rw [← e]
      exact hc2
end AX24
end
section
/-! THE CLASS: changes of the board (4): drop, move, swap. -/
/-- the sets without one slug, of the first q -/
def clF (f : Nat → Int32) (k q : Nat) : Nat → Int32 := fun i => if i < q then f i &&& (bi k ^^^ (-1)) else f i
theorem clF_s (f : Nat → Int32) (k q : Nat) : upd (clF f k q) q (f q &&& (bi k ^^^ (-1))) = clF f k (q + 1) := by
  funext i
  rw [upd_up]
  unfold clF
  by_cases e : i = q
  · subst e
    rw [if_pos rfl, if_pos (by omega)]
  · rw [if_neg e]
    by_cases e2 : i < q
    · rw [if_pos e2, if_pos (by omega)]
    · rw [if_neg e2, if_neg (by omega)]
def bDrop (B : axBD) (n p k : Nat) : axBD := (bSt B, bTg B, tkF (bRw B) p n, bWr B, bBt B, clF (bNd B) k 24, bSg B &&& (bi k ^^^ (-1)), bTn B &&& (bi k ^^^ (-1)), nI (n - 1))
section AX25
variable {ro : axRo} {d : Nat} {h h1 : axH} {B : axBD} {Y : axYD} {sl : Nat → Option Nat} {P : axPD} {G : axGD} {tl : axH} {A : axAD}
theorem cr_row (hC : CR B A) {r : Nat → Nat} {f : Nat → Int32} (hf : ∀ i, i < aN A → f i = nI (r i)) (h1 : ∀ i, i < aN A → ∃ j, j < aN A ∧ r i = aR A j) (h2 : ∀ j, j < aN A → ∃ i, i < aN A ∧ r i = aR A j) : CR (bRw_ B f) (aRow A r) := by
  obtain ⟨c1, c2, c3, c4, c5, c6, c9⟩ := hC
  have hin : ∀ k, aIn (aRow A r) k ↔ aIn A k := by
    intro k
    constructor
    · rintro ⟨i, hi, e⟩
      obtain ⟨j, hj, e2⟩ := h1 i hi
      exact ⟨j, hj, e2.symm.trans e⟩
    · rintro ⟨j, hj, e⟩
      obtain ⟨i, hi, e2⟩ := h2 j hj
      exact ⟨i, hi, e2.trans e⟩
  refine ⟨c1, hf, fun i hi => ?_, fun k => (c4 k).trans (hin k).symm, fun k => ?_, c6, c9⟩
  · obtain ⟨j, hj, e⟩ := h1 i hi
    have key : ∀ z, r i = z → bWr B z = nI (aW A z) ∧ bBt B z = nI (aB A z) ∧ bNd B z = aD A z := fun z hz => by rw [← hz, e]; exact c3 j hj
    exact key _ rfl
  · rw [hin k]; exact c5 k
theorem aMove_is (hn : 0 < aN A) {p q i : Nat} (hp : p < aN A) (hq : q < aN A) (hi : i < aN A) : ∃ j, j < aN A ∧ aIns (aDel (aR A) p) q (aR A p) i = aR A j := by
  rcases aIns_is (aDel (aR A) p) (k := aR A p) (n := aN A - 1) (p := q) (i := i) (by omega) (by omega) with ⟨-, e⟩ | ⟨j, hj, e⟩
  · exact ⟨p, hp, e⟩
  · obtain ⟨j2, h1, -, h2⟩ := aDel_is (aR A) hj hp
    exact ⟨j2, h1, e.trans h2⟩
theorem aMove_has (hn : 0 < aN A) {p q j : Nat} (hp : p < aN A) (hq : q < aN A) (hj : j < aN A) : ∃ i, i < aN A ∧ aIns (aDel (aR A) p) q (aR A p) i = aR A j := by
  by_cases e : j = p
  · exact ⟨q, hq, by rw [aIns_at, e]⟩
  · obtain ⟨i, hi, e2⟩ := aDel_has (aR A) hj e hp
    obtain ⟨i2, h1, -, h2⟩ := aIns_has (aDel (aR A) p) (p := q) (k := aR A p) hi (by omega)
    exact ⟨i2, by omega, h2.trans e2⟩
theorem cr_move (hC : CR B A) {p q : Nat} (hp : p < aN A) (hq : q < aN A) : CR (bRw_ B (upd (pnF (tkF (bRw B) p (aN A)) q (aN A - 1)) q (nI (aR A p)))) (aMove A p q) :=
  cr_row hC (fun i hi => pn_row (fun i hi => tk_row (fun i hi => cr_rw hC hi) hi) (by omega) (by omega)) (fun i hi => aMove_is (by omega) hp hq hi) (fun j hj => aMove_has (by omega) hp hq hj)
theorem cr_swp (hC : CR B A) {p q : Nat} (hp : p < aN A) (hq : q < aN A) : CR (bRw_ B (upd (upd (bRw B) p (nI (aR A q))) q (nI (aR A p)))) (aSwp A p q) := by
  refine cr_row hC (fun i hi => ?_) (fun i hi => ?_) (fun j hj => ?_)
  · rw [upd_up, upd_up]
    by_cases e : i = q
    · rw [if_pos e]
      by_cases e2 : i = p
      · rw [if_pos e2, ← e2, e]
      · rw [if_neg e2, if_pos e]
    · rw [if_neg e]
      by_cases e2 : i = p
      · rw [if_pos e2, if_pos e2]
      · rw [if_neg e2, if_neg e2, if_neg e, cr_rw hC hi]
  · show ∃ j, j < aN A ∧ (if i = p then aR A q else if i = q then aR A p else aR A i) = aR A j
    by_cases e2 : i = p
    · exact ⟨q, hq, by rw [if_pos e2]⟩
    · by_cases e : i = q
      · exact ⟨p, hp, by rw [if_neg e2, if_pos e]⟩
      · exact ⟨i, hi, by rw [if_neg e2, if_neg e]⟩
  · show ∃ i, i < aN A ∧ (if i = p then aR A q else if i = q then aR A p else aR A i) = aR A j
    by_cases e2 : j = p
    · exact ⟨q, hq, by
        by_cases e : q = p
        · rw [if_pos e, e2, e]
        · rw [if_neg e, if_pos rfl, e2]⟩
    · by_cases e : j = q
      · exact ⟨p, hp, by rw [if_pos rfl, e]⟩
      · exact ⟨j, hj, by rw [if_neg e2, if_neg e]⟩
theorem cr_drop (hO : aOk A) (hC : CR B A) {p : Nat} (hp : p < aN A) : CR (bDrop B (aN A) p (aR A p)) (aDrop A p) := by
  have hk := hO.r hp
  have inj : ∀ j, j < aN A → j ≠ p → aR A j ≠ aR A p := fun j hj hne e => hne (hO.inj hj hp e)
  have hrow : ∀ {i : Nat}, i < aN A → aR A i < 24 := fun h => hO.r h
  obtain ⟨c1, c2, c3, c4, c5, c6, c9⟩ := hC
  have hin : ∀ k, aIn (aDrop A p) k ↔ (aIn A k ∧ k ≠ aR A p) := by
    intro k
    constructor
    · rintro ⟨i, hi, e⟩
      obtain ⟨j, hj, hjp, e2⟩ := aDel_is (aR A) hi hp
      have e3 : aR A j = k := e2.symm.trans e
      exact ⟨⟨j, hj, e3⟩, by rw [← e3]; exact inj j hj hjp⟩
    · rintro ⟨⟨j, hj, e⟩, hne⟩
      obtain ⟨i, hi, e2⟩ := aDel_has (aR A) hj (fun z => hne (by rw [← e, z])) hp
      exact ⟨i, hi, e2.trans e⟩
  refine ⟨rfl, fun i hi => tk_row c2 hi, fun i hi => ?_, fun k => ?_, fun k => ?_, c6, c9⟩
  · obtain ⟨j, hj, hjp, e2⟩ := aDel_is (aR A) hi hp
    have key : ∀ z, aDel (aR A) p i = z → bWr B z = nI (aW A z) ∧ bBt B z = nI (aB A z) ∧ clF (bNd B) (aR A p) 24 z = aD A z &&& (bi (aR A p) ^^^ (-1)) := by
      intro z hz
      rw [← hz, e2]
      refine ⟨(c3 j hj).1, (c3 j hj).2.1, ?_⟩
      unfold clF
      rw [if_pos (hrow hj), (c3 j hj).2.2]
    exact key _ rfl
  · rw [hin k, ← c4 k]
    show bt (bSg B &&& (bi (aR A p) ^^^ (-1))) k = true ↔ _
    rw [bt_clr (by omega)]
    by_cases e : k = aR A p <;> simp [e]
  · rw [hin k]
    show bt (bTn B &&& (bi (aR A p) ^^^ (-1))) k = true ↔ (_ ∧ aT A k = true)
    rw [bt_clr (by omega), Bool.and_eq_true, c5 k]
    by_cases e : k = aR A p <;> simp [e]
theorem x0_dropSlug_out (hC : CR B A) {x : Int32} (hx : ∀ i, i < aN A → x ≠ nI (aR A i)) : axEv ro (d + 3) kX0_dropSlug [.ref 1, .int x] (hX B Y sl P G tl) (some (.int (-1))) (hX B Y sl P G tl) := by
  refine ev_in rfl rfl (Nat.le_of_ble_eq_true rfl) rfl ?_
  refine wp_run rfl ?_
  refine wp_v1 rfl rfl (Nat.le_of_ble_eq_true rfl) (x0_has_out hC hx) ?_
  refine wp_run rfl ?_
  refine wp_ifne rfl (fun hz_ => absurd hz_ (fun z => z rfl)) (fun _ => ?_)
  refine wp_run rfl ?_
  exact wp_ret rfl rfl ⟨rfl, rfl⟩
theorem x0_dropSlug_in (hO : aOk A) (hC : CR B A) {p : Nat} (hp : p < aN A) : axEv ro (d + 3) kX0_dropSlug [.ref 1, .int (nI (aR A p))] (hX B Y sl P G tl) (some (.int (nI (aN A - 1)))) (hX (bDrop B (aN A) p (aR A p)) Y sl P G tl) := by
  have hn := hO.n
  have hk := hO.r hp
  have hz := cr_sz hC
  have hhas := x0_has_in (ro := ro) (d := d) (Y := Y) (sl := sl) (P := P) (G := G) (tl := tl) hO hC hp
  have hpl := x0_placeOf (ro := ro) (d := d) (Y := Y) (sl := sl) (P := P) (G := G) (tl := tl) hO hC hp
  generalize aR A p = k at *
  have loop : ∀ m q, q + m = 24 → axW ro (axEv ro (d + 2)) cdX0_dropSlug 57 [some (.ref 1), some (.int (nI k)), some (.int (nI q))] [.int 24, .int (nI q)] (hX ((bSt B, bTg B, tkF (bRw B) p (aN A), bWr B, bBt B, clF (bNd B) k q, bSg B &&& (bi k ^^^ (-1)), bTn B &&& (bi k ^^^ (-1)), nI (aN A - 1))) Y sl P G tl) (fun r' h' => r' = some (.int (nI (aN A - 1))) ∧ h' = hX (bDrop B (aN A) p k) Y sl P G tl) := by
    intro m
    induction m with
    | zero =>
      intro q e
      have e : q = 24 := by omega
      subst e
      refine wp_icge rfl (fun _ => ?_) (fun hz_ => absurd ((by decide : (24 : Int32) ≤ nI 24)) hz_)
      refine wp_run rfl ?_
      exact wp_ret rfl rfl ⟨rfl, rfl⟩
    | succ m ih =>
      intro q e
      refine wp_icge rfl (fun hz_ => absurd hz_ (nlt24 (show q < 24 by omega))) (fun _ => ?_)
      refine wp_run rfl ?_
      refine wp_ald rfl rfl (vp_in_nI ((show q < 24 by omega)) (by decide)) (by rw [nI_clamp (by omega)]) ?_
      refine wp_run rfl ?_
      rw [show bNd (bSt B, bTg B, tkF (bRw B) p (aN A), bWr B, bBt B, clF (bNd B) k q, bSg B &&& (bi k ^^^ (-1)), bTn B &&& (bi k ^^^ (-1)), nI (aN A - 1)) q = bNd B q from if_neg (by omega)]
      refine wp_s1 rfl (Nat.le_of_ble_eq_true rfl) (x4_bit hk) ?_
      refine wp_run rfl ?_
      refine wp_ast (h1 := hX ((bSt B, bTg B, tkF (bRw B) p (aN A), bWr B, bBt B, upd (clF (bNd B) k q) q (bNd B q &&& (bi k ^^^ (-1))), bSg B &&& (bi k ^^^ (-1)), bTn B &&& (bi k ^^^ (-1)), nI (aN A - 1))) Y sl P G tl) rfl rfl (vp_in_nI (show q < 24 by omega) (by decide)) rfl (by rw [nI_clamp (by omega)]; rfl) ?_
      refine wp_run rfl ?_
      rw [clF_s, nI_1]
      exact ih (q + 1) (by omega)
  refine ev_in rfl rfl (Nat.le_of_ble_eq_true rfl) rfl ?_
  refine wp_run rfl ?_
  refine wp_v1 rfl rfl (Nat.le_of_ble_eq_true rfl) (hhas) ?_
  refine wp_run rfl ?_
  refine wp_ifne rfl (fun _ => ?_) (fun hz_ => absurd ((by decide : ¬ (1 : Int32) = 0)) hz_)
  refine wp_run rfl ?_
  refine wp_v1 rfl rfl (Nat.le_of_ble_eq_true rfl) (hpl) ?_
  refine wp_run rfl ?_
  refine wp_v1v rfl rfl (Nat.le_of_ble_eq_true rfl) (x0_takeOut hz hn hp) ?_
  refine wp_run rfl ?_
  refine wp_s1 rfl (Nat.le_of_ble_eq_true rfl) (x4_bit hk) ?_
  refine wp_run rfl ?_
  refine wp_putf (h1 := hX ((bSt B, bTg B, tkF (bRw B) p (aN A), bWr B, bBt B, bNd B, bSg B &&& (bi k ^^^ (-1)), bTn B, nI (aN A - 1))) Y sl P G tl) rfl rfl (Nat.le_of_ble_eq_true rfl) ⟨rfl, rfl, fun _ hz_ => by cases hz_⟩ rfl ?_
  refine wp_run rfl ?_
  refine wp_s1 rfl (Nat.le_of_ble_eq_true rfl) (x4_bit hk) ?_
  refine wp_run rfl ?_
  refine wp_putf (h1 := hX ((bSt B, bTg B, tkF (bRw B) p (aN A), bWr B, bBt B, bNd B, bSg B &&& (bi k ^^^ (-1)), bTn B &&& (bi k ^^^ (-1)), nI (aN A - 1))) Y sl P G tl) rfl rfl (Nat.le_of_ble_eq_true rfl) ⟨rfl, rfl, fun _ hz_ => by cases hz_⟩ rfl ?_
  refine wp_run rfl ?_
  have := loop 24 0 (by omega)
  rw [show clF (bNd B) k 0 = bNd B from rfl] at this
  exact this
theorem x0_moveSlug_ns1 (hC : CR B A) {x y : Int32} (hx : ∀ i, i < aN A → x ≠ nI (aR A i)) : axEv ro (d + 5) kX0_moveSlug [.ref 1, .int x, .int y] (hX B Y sl P G tl) (some (.int (-1))) (hX B Y sl P G tl) := by
  refine ev_in rfl rfl (Nat.le_of_ble_eq_true rfl) rfl ?_
  refine wp_run rfl ?_
  refine wp_v1 rfl rfl (Nat.le_of_ble_eq_true rfl) (x0_has_out hC hx) ?_
  refine wp_run rfl ?_
  refine wp_ifeq rfl (fun _ => ?_) (fun hz_ => absurd (rfl) hz_)
  refine wp_run rfl ?_
  exact wp_ret rfl rfl ⟨rfl, rfl⟩
theorem x0_moveSlug_ns2 (hO : aOk A) (hC : CR B A) {p : Nat} (hp : p < aN A) {y : Int32} (hy : y < 0 ∨ nI (aN A) ≤ y) : axEv ro (d + 5) kX0_moveSlug [.ref 1, .int (nI (aR A p)), .int y] (hX B Y sl P G tl) (some (.int (-1))) (hX B Y sl P G tl) := by
  refine ev_in rfl rfl (Nat.le_of_ble_eq_true rfl) rfl ?_
  refine wp_run rfl ?_
  refine wp_v1 rfl rfl (Nat.le_of_ble_eq_true rfl) (x0_has_in hO hC hp) ?_
  refine wp_run rfl ?_
  refine wp_ifeq rfl (fun hz_ => absurd hz_ ((by decide : ¬ (1 : Int32) = 0))) (fun _ => ?_)
  refine wp_run rfl ?_
  refine wp_iflt rfl (fun q => ?_) (fun q => ?_)
  · refine wp_run rfl ?_
    exact wp_ret rfl rfl ⟨rfl, rfl⟩
  · refine wp_run rfl ?_
    rw [cr_sz hC]
    refine wp_iclt rfl (fun hz_ => absurd hz_ (fun z => hy.elim q (fun w => absurd w (Int32.not_le.mpr z)))) (fun _ => ?_)
    refine wp_run rfl ?_
    exact wp_ret rfl rfl ⟨rfl, rfl⟩
theorem x0_moveSlug_np (hO : aOk A) (hC : CR B A) {p q : Nat} (hp : p < aN A) (hq : q < aN A) (hm : ¬ (aLo A p ≤ q ∧ q < aHi A p)) : axEv ro (d + 5) kX0_moveSlug [.ref 1, .int (nI (aR A p)), .int (nI q)] (hX B Y sl P G tl) (some (.int (-5))) (hX B Y sl P G tl) := by
  have hn := hO.n
  refine ev_in rfl rfl (Nat.le_of_ble_eq_true rfl) rfl ?_
  refine wp_run rfl ?_
  refine wp_v1 rfl rfl (Nat.le_of_ble_eq_true rfl) (x0_has_in hO hC hp) ?_
  refine wp_run rfl ?_
  refine wp_ifeq rfl (fun hz_ => absurd hz_ ((by decide : ¬ (1 : Int32) = 0))) (fun _ => ?_)
  refine wp_run rfl ?_
  refine wp_iflt rfl (fun hz_ => absurd hz_ (nI_pos (by omega))) (fun _ => ?_)
  refine wp_run rfl ?_
  rw [cr_sz hC]
  refine wp_iclt rfl (fun _ => ?_) (fun hz_ => absurd (nI_lt hq (by omega)) hz_)
  refine wp_run rfl ?_
  refine wp_v2 rfl rfl (Nat.le_of_ble_eq_true rfl) (x0_mayStandIn hO hC hp hq) ?_
  refine wp_run rfl ?_
  rw [if_neg hm]
  refine wp_ifne rfl (fun hz_ => absurd hz_ (fun z => z rfl)) (fun _ => ?_)
  refine wp_run rfl ?_
  exact wp_ret rfl rfl ⟨rfl, rfl⟩
theorem x0_moveSlug_ok (hO : aOk A) (hC : CR B A) {p q : Nat} (hp : p < aN A) (hq : q < aN A) (hm : aLo A p ≤ q ∧ q < aHi A p) : axEv ro (d + 5) kX0_moveSlug [.ref 1, .int (nI (aR A p)), .int (nI q)] (hX B Y sl P G tl) (some (.int (nI p))) (hX (bSz_ (bRw_ B (upd (pnF (tkF (bRw B) p (aN A)) q (aN A - 1)) q (nI (aR A p)))) (nI (aN A - 1 + 1))) Y sl P G tl) := by
  have hn := hO.n
  have hz := cr_sz hC
  refine ev_in rfl rfl (Nat.le_of_ble_eq_true rfl) rfl ?_
  refine wp_run rfl ?_
  refine wp_v1 rfl rfl (Nat.le_of_ble_eq_true rfl) (x0_has_in hO hC hp) ?_
  refine wp_run rfl ?_
  refine wp_ifeq rfl (fun hz_ => absurd hz_ ((by decide : ¬ (1 : Int32) = 0))) (fun _ => ?_)
  refine wp_run rfl ?_
  refine wp_iflt rfl (fun hz_ => absurd hz_ (nI_pos (by omega))) (fun _ => ?_)
  refine wp_run rfl ?_
  rw [cr_sz hC]
  refine wp_iclt rfl (fun _ => ?_) (fun hz_ => absurd (nI_lt hq (by omega)) hz_)
  refine wp_run rfl ?_
  refine wp_v2 rfl rfl (Nat.le_of_ble_eq_true rfl) (x0_mayStandIn hO hC hp hq) ?_
  refine wp_run rfl ?_
  rw [if_pos hm]
  refine wp_ifne rfl (fun _ => ?_) (fun hz_ => absurd ((by decide : ¬ (1 : Int32) = 0)) hz_)
  refine wp_run rfl ?_
  refine wp_v1 rfl rfl (Nat.le_of_ble_eq_true rfl) (x0_placeOf hO hC hp) ?_
  refine wp_run rfl ?_
  refine wp_v1v rfl rfl (Nat.le_of_ble_eq_true rfl) (x0_takeOut hz hn hp) ?_
  refine wp_run rfl ?_
  refine wp_v2v rfl rfl (Nat.le_of_ble_eq_true rfl) (x0_putIn (n := aN A - 1) (B := bSz_ (bRw_ B (tkF (bRw B) p (aN A))) (nI (aN A - 1))) rfl (by omega) (by omega)) ?_
  refine wp_run rfl ?_
  exact wp_ret rfl rfl ⟨rfl, rfl⟩
theorem cr_szs (hC : CR B A) {f : Nat → Int32} {A' : axAD} (hn : 0 < aN A) (h : CR (bRw_ B f) A') : CR (bSz_ (bRw_ B f) (nI (aN A - 1 + 1))) A' := by
  rw [show aN A - 1 + 1 = aN A by omega, ← cr_sz hC]
  exact h
theorem x0_swapSlugs_ns1 (hC : CR B A) {x y : Int32} (hx : ∀ i, i < aN A → x ≠ nI (aR A i)) : axEv ro (d + 5) kX0_swapSlugs [.ref 1, .int x, .int y] (hX B Y sl P G tl) (some (.int (-1))) (hX B Y sl P G tl) := by
  refine ev_in rfl rfl (Nat.le_of_ble_eq_true rfl) rfl ?_
  refine wp_run rfl ?_
  refine wp_v1 rfl rfl (Nat.le_of_ble_eq_true rfl) (x0_has_out hC hx) ?_
  refine wp_run rfl ?_
  refine wp_ifeq rfl (fun _ => ?_) (fun hz_ => absurd (rfl) hz_)
  refine wp_run rfl ?_
  exact wp_ret rfl rfl ⟨rfl, rfl⟩
theorem x0_swapSlugs_ns2 (hO : aOk A) (hC : CR B A) {p : Nat} (hp : p < aN A) {y : Int32} (hy : ∀ i, i < aN A → y ≠ nI (aR A i)) : axEv ro (d + 5) kX0_swapSlugs [.ref 1, .int (nI (aR A p)), .int y] (hX B Y sl P G tl) (some (.int (-1))) (hX B Y sl P G tl) := by
  refine ev_in rfl rfl (Nat.le_of_ble_eq_true rfl) rfl ?_
  refine wp_run rfl ?_
  refine wp_v1 rfl rfl (Nat.le_of_ble_eq_true rfl) (x0_has_in hO hC hp) ?_
  refine wp_run rfl ?_
  refine wp_ifeq rfl (fun hz_ => absurd hz_ ((by decide : ¬ (1 : Int32) = 0))) (fun _ => ?_)
  refine wp_run rfl ?_
  refine wp_v1 rfl rfl (Nat.le_of_ble_eq_true rfl) (x0_has_out hC hy) ?_
  refine wp_run rfl ?_
  refine wp_ifne rfl (fun hz_ => absurd hz_ (fun z => z rfl)) (fun _ => ?_)
  refine wp_run rfl ?_
  exact wp_ret rfl rfl ⟨rfl, rfl⟩
theorem x0_swapSlugs_bv (hO : aOk A) (hC : CR B A) {p : Nat} (hp : p < aN A) : axEv ro (d + 5) kX0_swapSlugs [.ref 1, .int (nI (aR A p)), .int (nI (aR A p))] (hX B Y sl P G tl) (some (.int (-2))) (hX B Y sl P G tl) := by
  refine ev_in rfl rfl (Nat.le_of_ble_eq_true rfl) rfl ?_
  refine wp_run rfl ?_
  refine wp_v1 rfl rfl (Nat.le_of_ble_eq_true rfl) (x0_has_in hO hC hp) ?_
  refine wp_run rfl ?_
  refine wp_ifeq rfl (fun hz_ => absurd hz_ ((by decide : ¬ (1 : Int32) = 0))) (fun _ => ?_)
  refine wp_run rfl ?_
  refine wp_v1 rfl rfl (Nat.le_of_ble_eq_true rfl) (x0_has_in hO hC hp) ?_
  refine wp_run rfl ?_
  refine wp_ifne rfl (fun _ => ?_) (fun hz_ => absurd ((by decide : ¬ (1 : Int32) = 0)) hz_)
  refine wp_run rfl ?_
  refine wp_icne rfl (fun hz_ => absurd hz_ (fun z => z rfl)) (fun _ => ?_)
  refine wp_run rfl ?_
  exact wp_ret rfl rfl ⟨rfl, rfl⟩
/-- may two slugs be swapped -/
def aMay (A : axAD) (p q : Nat) : Prop := (aLo A p ≤ q ∧ q < aHi A p) ∧ (aLo A q ≤ p ∧ p < aHi A q)
theorem x0_swapSlugs_np (hO : aOk A) (hC : CR B A) {p q : Nat} (hp : p < aN A) (hq : q < aN A) (hpq : p ≠ q) (hm : ¬ aMay A p q) : axEv ro (d + 5) kX0_swapSlugs [.ref 1, .int (nI (aR A p)), .int (nI (aR A q))] (hX B Y sl P G tl) (some (.int (-5))) (hX B Y sl P G tl) := by
  refine ev_in rfl rfl (Nat.le_of_ble_eq_true rfl) rfl ?_
  refine wp_run rfl ?_
  refine wp_v1 rfl rfl (Nat.le_of_ble_eq_true rfl) (x0_has_in hO hC hp) ?_
  refine wp_run rfl ?_
  refine wp_ifeq rfl (fun hz_ => absurd hz_ ((by decide : ¬ (1 : Int32) = 0))) (fun _ => ?_)
  refine wp_run rfl ?_
  refine wp_v1 rfl rfl (Nat.le_of_ble_eq_true rfl) (x0_has_in hO hC hq) ?_
  refine wp_run rfl ?_
  refine wp_ifne rfl (fun _ => ?_) (fun hz_ => absurd ((by decide : ¬ (1 : Int32) = 0)) hz_)
  refine wp_run rfl ?_
  refine wp_icne rfl (fun _ => ?_) (fun hz_ => absurd (aR_ne hO hp hq hpq) hz_)
  refine wp_run rfl ?_
  refine wp_v1 rfl rfl (Nat.le_of_ble_eq_true rfl) (x0_placeOf hO hC hp) ?_
  refine wp_run rfl ?_
  refine wp_v1 rfl rfl (Nat.le_of_ble_eq_true rfl) (x0_placeOf hO hC hq) ?_
  refine wp_run rfl ?_
  refine wp_v2 rfl rfl (Nat.le_of_ble_eq_true rfl) (x0_mayStandIn hO hC hp hq) ?_
  refine wp_run rfl ?_
  by_cases h1 : aLo A p ≤ q ∧ q < aHi A p
  · rw [if_pos h1]
    refine wp_ifeq rfl (fun hz_ => absurd hz_ ((by decide : ¬ (1 : Int32) = 0))) (fun _ => ?_)
    refine wp_run rfl ?_
    refine wp_v2 rfl rfl (Nat.le_of_ble_eq_true rfl) (x0_mayStandIn hO hC hq hp) ?_
    refine wp_run rfl ?_
    rw [if_neg (fun z => hm ⟨h1, z⟩)]
    refine wp_ifne rfl (fun hz_ => absurd hz_ (fun z => z rfl)) (fun _ => ?_)
    refine wp_run rfl ?_
    exact wp_ret rfl rfl ⟨rfl, rfl⟩
  · rw [if_neg h1]
    refine wp_ifeq rfl (fun _ => ?_) (fun hz_ => absurd (rfl) hz_)
    refine wp_run rfl ?_
    exact wp_ret rfl rfl ⟨rfl, rfl⟩
theorem x0_swapSlugs_ok (hO : aOk A) (hC : CR B A) {p q : Nat} (hp : p < aN A) (hq : q < aN A) (hpq : p ≠ q) (hm : aMay A p q) : axEv ro (d + 5) kX0_swapSlugs [.ref 1, .int (nI (aR A p)), .int (nI (aR A q))] (hX B Y sl P G tl) (some (.int (nI (((p : Int) - q).natAbs - 1)))) (hX (bRw_ B (upd (upd (bRw B) p (nI (aR A q))) q (nI (aR A p)))) Y sl P G tl) := by
  have hn := hO.n
  refine ev_in rfl rfl (Nat.le_of_ble_eq_true rfl) rfl ?_
  refine wp_run rfl ?_
  refine wp_v1 rfl rfl (Nat.le_of_ble_eq_true rfl) (x0_has_in hO hC hp) ?_
  refine wp_run rfl ?_
  refine wp_ifeq rfl (fun hz_ => absurd hz_ ((by decide : ¬ (1 : Int32) = 0))) (fun _ => ?_)
  refine wp_run rfl ?_
  refine wp_v1 rfl rfl (Nat.le_of_ble_eq_true rfl) (x0_has_in hO hC hq) ?_
  refine wp_run rfl ?_
  refine wp_ifne rfl (fun _ => ?_) (fun hz_ => absurd ((by decide : ¬ (1 : Int32) = 0)) hz_)
  refine wp_run rfl ?_
  refine wp_icne rfl (fun _ => ?_) (fun hz_ => absurd (aR_ne hO hp hq hpq) hz_)
  refine wp_run rfl ?_
  refine wp_v1 rfl rfl (Nat.le_of_ble_eq_true rfl) (x0_placeOf hO hC hp) ?_
  refine wp_run rfl ?_
  refine wp_v1 rfl rfl (Nat.le_of_ble_eq_true rfl) (x0_placeOf hO hC hq) ?_
  refine wp_run rfl ?_
  refine wp_v2 rfl rfl (Nat.le_of_ble_eq_true rfl) (x0_mayStandIn hO hC hp hq) ?_
  refine wp_run rfl ?_
  rw [if_pos hm.1]
  refine wp_ifeq rfl (fun hz_ => absurd hz_ ((by decide : ¬ (1 : Int32) = 0))) (fun _ => ?_)
  refine wp_run rfl ?_
  refine wp_v2 rfl rfl (Nat.le_of_ble_eq_true rfl) (x0_mayStandIn hO hC hq hp) ?_
  refine wp_run rfl ?_
  rw [if_pos hm.2]
  refine wp_ifne rfl (fun _ => ?_) (fun hz_ => absurd ((by decide : ¬ (1 : Int32) = 0)) hz_)
  refine wp_run rfl ?_
  refine wp_s3v rfl (Nat.le_of_ble_eq_true rfl) (x4_store (h1 := hX (bRw_ B (upd (bRw B) p (nI (aR A q)))) Y sl P G tl) rfl (show p < 24 by omega) (by decide) rfl) ?_
  refine wp_run rfl ?_
  refine wp_s3v rfl (Nat.le_of_ble_eq_true rfl) (x4_store (h1 := hX (bRw_ B (upd (upd (bRw B) p (nI (aR A q))) q (nI (aR A p)))) Y sl P G tl) rfl (show q < 24 by omega) (by decide) rfl) ?_
  refine wp_run rfl ?_
  rw [show nI p - nI q = zI ((p : Int) - q) by rw [← zI_nI, ← zI_nI, zI_sub]]
  refine wp_abs rfl (Nat.le_of_ble_eq_true rfl) ((zI_abs (by omega) (by omega))) ?_
  refine wp_run rfl ?_
  rw [nI_p1 (by omega)]
  exact wp_ret rfl rfl ⟨rfl, rfl⟩
end AX25
end
section
/-! THE CLASS: changes of the board (5): split, fit. -/
def aWrs (A : axAD) (k v : Nat) : axAD := (aN A, aR A, va_up (aW A) k v, aB A, aD A, aT A, aPg A, aSl A, aTr A, aTg A)
def aNdF (A : axAD) (g : Nat → Int32) : axAD := (aN A, aR A, aW A, aB A, g, aT A, aPg A, aSl A, aTr A, aTg A)
/-- the sets in which the slug k is, of the first q, with the slug z too -/
def hoF (f : Nat → Int32) (k z q : Nat) : Nat → Int32 := fun i => if i < q ∧ bt (f i) k = true then f i ||| bi z else f i
theorem hoF_s (f : Nat → Int32) (k z q : Nat) : (bt (f q) k = true → upd (hoF f k z q) q (f q ||| bi z) = hoF f k z (q + 1)) ∧ (bt (f q) k = false → hoF f k z q = hoF f k z (q + 1)) := by
  constructor
  · intro h
    funext i
    rw [upd_up]
    unfold hoF
    by_cases e : i = q
    · subst e
      rw [if_pos rfl, if_pos ⟨by omega, h⟩]
    · rw [if_neg e]
      by_cases e2 : i < q ∧ bt (f i) k = true
      · rw [if_pos e2, if_pos ⟨by omega, e2.2⟩]
      · rw [if_neg e2, if_neg (fun w => e2 ⟨by omega, w.2⟩)]
  · intro h
    funext i
    unfold hoF
    by_cases e2 : i < q ∧ bt (f i) k = true
    · rw [if_pos e2, if_pos ⟨by omega, e2.2⟩]
    · rw [if_neg e2, if_neg (fun w => e2 ⟨by
        by_cases e : i = q
        · subst e; rw [h] at w; cases w.2
        · omega, w.2⟩)]
section AX26
variable {ro : axRo} {d : Nat} {h h1 : axH} {B : axBD} {Y : axYD} {sl : Nat → Option Nat} {P : axPD} {G : axGD} {tl : axH} {A : axAD}
theorem cr_wrs (hC : CR B A) {k v : Nat} : CR (bWr_ B (upd (bWr B) k (nI v))) (aWrs A k v) := by
  obtain ⟨c1, c2, c3, c4, c5, c6, c9⟩ := hC
  refine ⟨c1, c2, fun j hj => ⟨?_, (c3 j hj).2⟩, c4, c5, c6, c9⟩
  show upd (bWr B) k (nI v) (aR A j) = nI (va_up (aW A) k v (aR A j))
  rw [upd_up]
  unfold va_up
  by_cases e : aR A j = k
  · rw [if_pos e, if_pos e]
  · rw [if_neg e, if_neg e]
    exact (c3 j hj).1
theorem cr_ndF (hC : CR B A) {f g : Nat → Int32} (h : ∀ i, i < aN A → f (aR A i) = g (aR A i)) : CR (bNd_ B f) (aNdF A g) := by
  obtain ⟨c1, c2, c3, c4, c5, c6, c9⟩ := hC
  exact ⟨c1, c2, fun j hj => ⟨(c3 j hj).1, (c3 j hj).2.1, h j hj⟩, c4, c5, c6, c9⟩
theorem cr_turnOff (hC : CR B A) {k : Nat} (hk : k < 24) (hf : aT A k = true) : CR (bTn_ B (bTn B &&& (bi k ^^^ (-1)))) (aFlip A k) := by
  obtain ⟨c1, c2, c3, c4, c5, c6, c9⟩ := hC
  refine ⟨c1, c2, c3, c4, fun j => ?_, c6, c9⟩
  show bt (bTn B &&& (bi k ^^^ (-1))) j = true ↔ (aIn A j ∧ (if j = k then !aT A j else aT A j) = true)
  rw [bt_clr (by omega), Bool.and_eq_true, c5 j]
  by_cases e : j = k
  · subst e
    rw [if_pos rfl, hf]
    simp
  · rw [if_neg e]
    simp [e]
theorem x0_isTurn0 {k : Nat} (hk : k < 24) : axEv ro (d + 2) kX0_isTurn [.ref 1, .int (nI k)] (hX B Y sl P G tl) (some (.int (if bt (bTn B) k = true then 1 else 0))) (hX B Y sl P G tl) := by
  refine ev_in rfl rfl (Nat.le_of_ble_eq_true rfl) rfl ?_
  refine wp_run rfl ?_
  refine wp_s2 rfl (Nat.le_of_ble_eq_true rfl) (x4_contains_in hk) ?_
  refine wp_run rfl ?_
  by_cases h : bt (bTn B) k = true
  · rw [if_pos h]
    exact wp_ret rfl rfl ⟨rfl, rfl⟩
  · rw [if_neg h]
    exact wp_ret rfl rfl ⟨rfl, rfl⟩
theorem x0_handOverNeeds {k z : Nat} (hk : k < 24) (hz : z < 24) : axEv ro (d + 2) kX0_handOverNeeds [.ref 1, .int (nI k), .int (nI z)] (hX B Y sl P G tl) none (hX (bNd_ B (upd (hoF (bNd B) k z 24) z (bi k))) Y sl P G tl) := by
  have loop : ∀ m q, q + m = 24 → axW ro (axEv ro (d + 1)) cdX0_handOverNeeds 8 [some (.ref 1), some (.int (nI k)), some (.int (nI z)), some (.int (nI q))] [.int 24, .int (nI q)] (hX (bNd_ B (hoF (bNd B) k z q)) Y sl P G tl) (fun r' h' => r' = none ∧ h' = hX (bNd_ B (upd (hoF (bNd B) k z 24) z (bi k))) Y sl P G tl) := by
    intro m
    induction m with
    | zero =>
      intro q e
      have e : q = 24 := by omega
      subst e
      refine wp_icge rfl (fun _ => ?_) (fun hz_ => absurd ((by decide : (24 : Int32) ≤ nI 24)) hz_)
      refine wp_run rfl ?_
      refine wp_s1 rfl (Nat.le_of_ble_eq_true rfl) (x4_bit hk) ?_
      refine wp_run rfl ?_
      refine wp_s3v rfl (Nat.le_of_ble_eq_true rfl) (x4_store (h1 := hX (bNd_ B (upd (hoF (bNd B) k z 24) z (bi k))) Y sl P G tl) rfl hz (by decide) rfl) ?_
      refine wp_run rfl ?_
      exact wp_retv rfl ⟨rfl, rfl⟩
    | succ m ih =>
      intro q e
      have hq : q < 24 := by omega
      have eq : bNd (bNd_ B (hoF (bNd B) k z q)) q = bNd B q := if_neg (fun w => by omega)
      refine wp_icge rfl (fun hz_ => absurd hz_ (nlt24 hq)) (fun _ => ?_)
      refine wp_run rfl ?_
      refine wp_ald rfl rfl (vp_in_nI (hq) (by decide)) (by rw [nI_clamp (by omega)]) ?_
      refine wp_run rfl ?_
      rw [eq]
      refine wp_s2 rfl (Nat.le_of_ble_eq_true rfl) (x4_contains_in hk) ?_
      refine wp_run rfl ?_
      by_cases hb : bt (bNd B q) k = true
      · rw [if_pos hb]
        refine wp_ifeq rfl (fun hz_ => absurd hz_ ((by decide : ¬ (1 : Int32) = 0))) (fun _ => ?_)
        refine wp_run rfl ?_
        refine wp_ald rfl rfl (vp_in_nI (hq) (by decide)) (by rw [nI_clamp (by omega)]) ?_
        refine wp_run rfl ?_
        rw [eq]
        refine wp_s1 rfl (Nat.le_of_ble_eq_true rfl) (x4_bit hz) ?_
        refine wp_run rfl ?_
        refine wp_ast (h1 := hX (bNd_ B (upd (hoF (bNd B) k z q) q (bNd B q ||| bi z))) Y sl P G tl) rfl rfl (vp_in_nI (hq) (by decide)) rfl (by rw [nI_clamp (by omega)]; rfl) ?_
        refine wp_run rfl ?_
        rw [(hoF_s (bNd B) k z q).1 hb, nI_1]
        exact ih (q + 1) (by omega)
      · rw [if_neg hb]
        refine wp_ifeq rfl (fun _ => ?_) (fun hz_ => absurd (rfl) hz_)
        refine wp_run rfl ?_
        rw [(hoF_s (bNd B) k z q).2 (by simpa using hb), nI_1]
        exact ih (q + 1) (by omega)
  refine ev_in rfl rfl (Nat.le_of_ble_eq_true rfl) rfl ?_
  refine wp_run rfl ?_
  exact loop 24 0 (by omega)
theorem x0_handOverTurn_no {k z : Nat} (hk : k < 24) (hb : bt (bTn B) k = false) : axEv ro (d + 3) kX0_handOverTurn [.ref 1, .int (nI k), .int (nI z)] (hX B Y sl P G tl) none (hX B Y sl P G tl) := by
  refine ev_in rfl rfl (Nat.le_of_ble_eq_true rfl) rfl ?_
  refine wp_run rfl ?_
  refine wp_v1 rfl rfl (Nat.le_of_ble_eq_true rfl) (x0_isTurn0 hk) ?_
  refine wp_run rfl ?_
  rw [if_neg (by rw [hb]; decide)]
  refine wp_ifeq rfl (fun _ => ?_) (fun hz_ => absurd (rfl) hz_)
  refine wp_run rfl ?_
  exact wp_retv rfl ⟨rfl, rfl⟩
theorem x0_handOverTurn_yes {k z : Nat} (hk : k < 24) (hz : z < 24) (hb : bt (bTn B) k = true) : axEv ro (d + 3) kX0_handOverTurn [.ref 1, .int (nI k), .int (nI z)] (hX B Y sl P G tl) none (hX (bTn_ B ((bTn B &&& (bi k ^^^ (-1))) ||| bi z)) Y sl P G tl) := by
  refine ev_in rfl rfl (Nat.le_of_ble_eq_true rfl) rfl ?_
  refine wp_run rfl ?_
  refine wp_v1 rfl rfl (Nat.le_of_ble_eq_true rfl) (x0_isTurn0 hk) ?_
  refine wp_run rfl ?_
  rw [if_pos hb]
  refine wp_ifeq rfl (fun hz_ => absurd hz_ ((by decide : ¬ (1 : Int32) = 0))) (fun _ => ?_)
  refine wp_run rfl ?_
  refine wp_s1 rfl (Nat.le_of_ble_eq_true rfl) (x4_bit hk) ?_
  refine wp_run rfl ?_
  refine wp_putf (h1 := hX (bTn_ B (bTn B &&& (bi k ^^^ (-1)))) Y sl P G tl) rfl rfl (Nat.le_of_ble_eq_true rfl) ⟨rfl, rfl, fun _ hz_ => by cases hz_⟩ rfl ?_
  refine wp_run rfl ?_
  refine wp_s1 rfl (Nat.le_of_ble_eq_true rfl) (x4_bit hz) ?_
  refine wp_run rfl ?_
  refine wp_putf (h1 := hX (bTn_ B ((bTn B &&& (bi k ^^^ (-1))) ||| bi z)) Y sl P G tl) rfl rfl (Nat.le_of_ble_eq_true rfl) ⟨rfl, rfl, fun _ hz_ => by cases hz_⟩ rfl ?_
  refine wp_run rfl ?_
  exact wp_retv rfl ⟨rfl, rfl⟩
/-- the slug in place p split at a beat, z the new one's number -/
def aSplN (A : axAD) (k z : Nat) : Nat → Int32 := fun j => if j = z then bi k else if bt (aD A j) k = true then aD A j ||| bi z else aD A j
def aSpl0 (A : axAD) (p v k z : Nat) : axAD := aNdF (aBts (aWrs (aBts (aAdd A (p + 1) (aW A k - v) z false) z (aB A k - v)) k v) k v) (aSplN A k z)
def aSplit (A : axAD) (p v k z : Nat) : axAD := if aT A k = true then aFlip (aFlip (aSpl0 A p v k z) k) z else aSpl0 A p v k z
theorem x0_splitSlug_ns (hC : CR B A) {x y : Int32} (hx : ∀ i, i < aN A → x ≠ nI (aR A i)) : axEv ro (d + 4) kX0_splitSlug [.ref 1, .int x, .int y] (hX B Y sl P G tl) (some (.int (-1))) (hX B Y sl P G tl) := by
  refine ev_in rfl rfl (Nat.le_of_ble_eq_true rfl) rfl ?_
  refine wp_run rfl ?_
  refine wp_v1 rfl rfl (Nat.le_of_ble_eq_true rfl) (x0_has_out hC hx) ?_
  refine wp_run rfl ?_
  refine wp_ifne rfl (fun hz_ => absurd hz_ (fun z => z rfl)) (fun _ => ?_)
  refine wp_run rfl ?_
  exact wp_ret rfl rfl ⟨rfl, rfl⟩
theorem x0_splitSlug_bv (hO : aOk A) (hC : CR B A) {i : Nat} (hi : i < aN A) {y : Int32} (hy : y < nI 1 ∨ ¬ y ≤ nI 98) : axEv ro (d + 4) kX0_splitSlug [.ref 1, .int (nI (aR A i)), .int y] (hX B Y sl P G tl) (some (.int (-2))) (hX B Y sl P G tl) := by
  refine ev_in rfl rfl (Nat.le_of_ble_eq_true rfl) rfl ?_
  refine wp_run rfl ?_
  refine wp_v1 rfl rfl (Nat.le_of_ble_eq_true rfl) (x0_has_in hO hC hi) ?_
  refine wp_run rfl ?_
  refine wp_ifne rfl (fun _ => ?_) (fun hz_ => absurd ((by decide : ¬ (1 : Int32) = 0)) hz_)
  refine wp_run rfl ?_
  refine wp_iclt rfl (fun q => ?_) (fun q => ?_)
  · refine wp_run rfl ?_
    exact wp_ret rfl rfl ⟨rfl, rfl⟩
  · refine wp_run rfl ?_
    refine wp_icle rfl (fun hz_ => absurd hz_ (hy.elim (fun w => absurd w q) id)) (fun _ => ?_)
    refine wp_run rfl ?_
    exact wp_ret rfl rfl ⟨rfl, rfl⟩
theorem x0_splitSlug_np (hO : aOk A) (hC : CR B A) {i : Nat} (hi : i < aN A) {v : Nat} (h1 : 1 ≤ v) (h2 : v ≤ 98) (h3 : aB A (aR A i) ≤ v) : axEv ro (d + 4) kX0_splitSlug [.ref 1, .int (nI (aR A i)), .int (nI v)] (hX B Y sl P G tl) (some (.int (-5))) (hX B Y sl P G tl) := by
  have hb := hO.b hi
  refine ev_in rfl rfl (Nat.le_of_ble_eq_true rfl) rfl ?_
  refine wp_run rfl ?_
  refine wp_v1 rfl rfl (Nat.le_of_ble_eq_true rfl) (x0_has_in hO hC hi) ?_
  refine wp_run rfl ?_
  refine wp_ifne rfl (fun _ => ?_) (fun hz_ => absurd ((by decide : ¬ (1 : Int32) = 0)) hz_)
  refine wp_run rfl ?_
  refine wp_iclt rfl (fun hz_ => absurd hz_ (nI_nlt (b := 1) h1 (by omega))) (fun _ => ?_)
  refine wp_run rfl ?_
  refine wp_icle rfl (fun _ => ?_) (fun hz_ => absurd (nI_le (b := 98) h2 (by omega)) hz_)
  refine wp_run rfl ?_
  refine wp_v1 rfl rfl (Nat.le_of_ble_eq_true rfl) (x0_beatsOf hO hC hi) ?_
  refine wp_run rfl ?_
  refine wp_icgt rfl (fun hz_ => absurd hz_ (nI_nlt h3 (by omega))) (fun _ => ?_)
  refine wp_run rfl ?_
  exact wp_ret rfl rfl ⟨rfl, rfl⟩
theorem x0_splitSlug_tm (hO : aOk A) (hC : CR B A) {i : Nat} (hi : i < aN A) {v : Nat} (h1 : 1 ≤ v) (h2 : v ≤ 98) (h3 : v < aB A (aR A i)) (hn : aN A = 24) : axEv ro (d + 4) kX0_splitSlug [.ref 1, .int (nI (aR A i)), .int (nI v)] (hX B Y sl P G tl) (some (.int (-4))) (hX B Y sl P G tl) := by
  have hb := hO.b hi
  refine ev_in rfl rfl (Nat.le_of_ble_eq_true rfl) rfl ?_
  refine wp_run rfl ?_
  refine wp_v1 rfl rfl (Nat.le_of_ble_eq_true rfl) (x0_has_in hO hC hi) ?_
  refine wp_run rfl ?_
  refine wp_ifne rfl (fun _ => ?_) (fun hz_ => absurd ((by decide : ¬ (1 : Int32) = 0)) hz_)
  refine wp_run rfl ?_
  refine wp_iclt rfl (fun hz_ => absurd hz_ (nI_nlt (b := 1) h1 (by omega))) (fun _ => ?_)
  refine wp_run rfl ?_
  refine wp_icle rfl (fun _ => ?_) (fun hz_ => absurd (nI_le (b := 98) h2 (by omega)) hz_)
  refine wp_run rfl ?_
  refine wp_v1 rfl rfl (Nat.le_of_ble_eq_true rfl) (x0_beatsOf hO hC hi) ?_
  refine wp_run rfl ?_
  refine wp_icgt rfl (fun _ => ?_) (fun hz_ => absurd (nI_lt h3 (by omega)) hz_)
  refine wp_run rfl ?_
  rw [cr_sz hC, hn]
  refine wp_iclt rfl (fun hz_ => absurd hz_ ((by decide : ¬ nI 24 < 24))) (fun _ => ?_)
  refine wp_run rfl ?_
  exact wp_ret rfl rfl ⟨rfl, rfl⟩
theorem x0_splitSlug_ok (hO : aOk A) (hC : CR B A) {i : Nat} (hi : i < aN A) {v : Nat} (h1 : 1 ≤ v) (h2 : v ≤ 98) (h3 : v < aB A (aR A i)) (hn : aN A < 24) : ∃ B', axEv ro (d + 4) kX0_splitSlug [.ref 1, .int (nI (aR A i)), .int (nI v)] (hX B Y sl P G tl) (some (.int (nI (aFr A)))) (hX (B') Y sl P G tl) ∧ CR B' (aSplit A i v (aR A i) (aFr A)) := by
  have hb := hO.b hi
  have hk := hO.r hi
  have hz := aFr_lt hO hn
  have hfr := aFr_free hO hn
  have hin : aIn A (aR A i) := ⟨i, hi, rfl⟩
  have c1 := cr_add (p := i + 1) (v := aW A (aR A i) - v) hC hz hfr (by omega)
  have hm := x0_makeSlug (ro := ro) (d := d) (Y := Y) (sl := sl) (P := P) (G := G) (tl := tl) (p := i + 1) (v := aW A (aR A i) - v) hO hC hn (by omega)
  have hhas := x0_has_in (ro := ro) (d := d + 1) (Y := Y) (sl := sl) (P := P) (G := G) (tl := tl) hO hC hi
  have hpl := x0_placeOf (ro := ro) (d := d + 1) (Y := Y) (sl := sl) (P := P) (G := G) (tl := tl) hO hC hi
  have hbt := x0_beatsOf (ro := ro) (d := d + 1) (Y := Y) (sl := sl) (P := P) (G := G) (tl := tl) hO hC hi
  have hwr := x0_writtenOf (ro := ro) (d := d + 1) (Y := Y) (sl := sl) (P := P) (G := G) (tl := tl) hO hC hi
  have ebt := cr_bt hC hi
  have etn := cr_tnr hC hi
  have hrows := fun j (hj : j < aN A) => cr_nd hC hj
  have hkz : aR A i ≠ aFr A := fun e => hfr (by rw [← e]; exact hin)
  have hne : ∀ j, j < aN A → aR A j ≠ aFr A := fun j hj e => hfr ⟨j, hj, e⟩
  generalize aFr A = z at *
  generalize hke : aR A i = k at *
  have c2 := cr_bts (k := z) (v := aB A k - v) c1
  have c3 := cr_wrs (k := k) (v := v) c2
  have c4 := cr_bts (k := k) (v := v) c3
  have c5 := cr_ndF (f := upd (hoF (upd (bNd B) z 0) k z 24) z (bi k)) (g := aSplN A k z) c4 (fun j hj => by
    have key : ∀ w, aIns (aR A) (i + 1) z j = w → upd (hoF (upd (bNd B) z 0) k z 24) z (bi k) w = aSplN A k z w := by
      intro w hw
      rcases aIns_is (aR A) (p := i + 1) (k := z) hj (by omega) with ⟨-, e2⟩ | ⟨j2, hj2, e2⟩
      · rw [← hw, e2, pk_us]
        unfold aSplN
        rw [if_pos rfl]
      · have hjz := hne j2 hj2
        have e3 := hrows j2 hj2
        have hr := hO.r hj2
        rw [← hw, e2, pk_un hjz]
        unfold aSplN hoF
        rw [pk_un hjz, e3, if_neg hjz]
        by_cases hb : bt (aD A (aR A j2)) k = true
        · rw [if_pos hb, if_pos ⟨hr, hb⟩]
        · rw [if_neg hb, if_neg (fun w => hb w.2)]
    exact key _ rfl)
  have pre : ∀ Bf r2, axEv ro (d + 3) kX0_handOverTurn [.ref 1, .int (nI k), .int (nI z)] (hX (bNd_ (bBt_ (bWr_ (bBt_ (bAdd B (aN A) (i + 1) (aW A k - v) z) (upd (upd (bBt B) z (nI (aW A k - v))) z (nI (aB A k - v)))) (upd (upd (bWr B) z (nI (aW A k - v))) k (nI v))) (upd (upd (upd (bBt B) z (nI (aW A k - v))) z (nI (aB A k - v))) k (nI v))) (upd (hoF (upd (bNd B) z 0) k z 24) z (bi k))) Y sl P G tl) none (hX (Bf) Y sl P G tl) → r2 = nI z → axEv ro (d + 4) kX0_splitSlug [.ref 1, .int (nI k), .int (nI v)] (hX B Y sl P G tl) (some (.int r2)) (hX (Bf) Y sl P G tl) := by
    intro Bf r2 ht hr2
    subst hr2
    refine ev_in rfl rfl (Nat.le_of_ble_eq_true rfl) rfl ?_
    refine wp_run rfl ?_
    refine wp_v1 rfl rfl (Nat.le_of_ble_eq_true rfl) (hhas) ?_
    refine wp_run rfl ?_
    refine wp_ifne rfl (fun _ => ?_) (fun hz_ => absurd ((by decide : ¬ (1 : Int32) = 0)) hz_)
    refine wp_run rfl ?_
    refine wp_iclt rfl (fun hz_ => absurd hz_ (nI_nlt (b := 1) h1 (by omega))) (fun _ => ?_)
    refine wp_run rfl ?_
    refine wp_icle rfl (fun _ => ?_) (fun hz_ => absurd (nI_le (b := 98) h2 (by omega)) hz_)
    refine wp_run rfl ?_
    refine wp_v1 rfl rfl (Nat.le_of_ble_eq_true rfl) (hbt) ?_
    refine wp_run rfl ?_
    refine wp_icgt rfl (fun _ => ?_) (fun hz_ => absurd (nI_lt h3 (by omega)) hz_)
    refine wp_run rfl ?_
    rw [cr_sz hC]
    refine wp_iclt rfl (fun _ => ?_) (fun hz_ => absurd (nI_lt (b := 24) hn (by omega)) hz_)
    refine wp_run rfl ?_
    refine wp_v1 rfl rfl (Nat.le_of_ble_eq_true rfl) (hpl) ?_
    refine wp_run rfl ?_
    refine wp_v1 rfl rfl (Nat.le_of_ble_eq_true rfl) (hwr) ?_
    refine wp_run rfl ?_
    rw [nI_1, pk_sub (by omega)]
    refine wp_v2 rfl rfl (Nat.le_of_ble_eq_true rfl) (hm) ?_
    refine wp_run rfl ?_
    refine wp_v1 rfl rfl (Nat.le_of_ble_eq_true rfl) (x0_beatsOf0 hk) ?_
    refine wp_run rfl ?_
    rw [show bBt (bAdd B (aN A) (i + 1) (aW A k - v) z) k = nI (aB A k) from (pk_un hkz).trans ebt, pk_sub (by omega)]
    refine wp_s3v rfl (Nat.le_of_ble_eq_true rfl) (x4_store (h1 := hX (bBt_ (bAdd B (aN A) (i + 1) (aW A k - v) z) (upd (upd (bBt B) z (nI (aW A k - v))) z (nI (aB A k - v)))) Y sl P G tl) rfl hz (by decide) rfl) ?_
    refine wp_run rfl ?_
    refine wp_s3v rfl (Nat.le_of_ble_eq_true rfl) (x4_store (h1 := hX (bWr_ (bBt_ (bAdd B (aN A) (i + 1) (aW A k - v) z) (upd (upd (bBt B) z (nI (aW A k - v))) z (nI (aB A k - v)))) (upd (upd (bWr B) z (nI (aW A k - v))) k (nI v))) Y sl P G tl) rfl hk (by decide) rfl) ?_
    refine wp_run rfl ?_
    refine wp_s3v rfl (Nat.le_of_ble_eq_true rfl) (x4_store (h1 := hX (bBt_ (bWr_ (bBt_ (bAdd B (aN A) (i + 1) (aW A k - v) z) (upd (upd (bBt B) z (nI (aW A k - v))) z (nI (aB A k - v)))) (upd (upd (bWr B) z (nI (aW A k - v))) k (nI v))) (upd (upd (upd (bBt B) z (nI (aW A k - v))) z (nI (aB A k - v))) k (nI v))) Y sl P G tl) rfl hk (by decide) rfl) ?_
    refine wp_run rfl ?_
    refine wp_v2v rfl rfl (Nat.le_of_ble_eq_true rfl) (x0_handOverNeeds hk hz) ?_
    refine wp_run rfl ?_
    refine wp_v2v rfl rfl (Nat.le_of_ble_eq_true rfl) (ht) ?_
    refine wp_run rfl ?_
    exact wp_ret rfl rfl ⟨rfl, rfl⟩
  cases htk : aT A k with
  | false =>
    rw [htk] at etn
    refine ⟨_, pre _ _ (x0_handOverTurn_no hk etn) rfl, ?_⟩
    unfold aSplit
    rw [if_neg (by rw [htk]; decide)]
    exact c5
  | true =>
    rw [htk] at etn
    refine ⟨_, pre _ _ (x0_handOverTurn_yes hk hz etn) rfl, ?_⟩
    unfold aSplit
    rw [if_pos htk]
    have c6 := cr_turnOff c5 hk (show va_up (aT A) z false k = true by rw [va_no hkz]; exact htk)
    have c7 := cr_turnOn (k := z) c6 hz ⟨i + 1, by show i + 1 < aN A + 1; omega, aIns_at (aR A) (i + 1) z⟩ (show (if z = k then _ else va_up (aT A) z false z) = false by rw [if_neg (fun e => hkz e.symm), va_is])
    exact c7
end AX26
end
section
/-! THE CLASS: changes of the board (6): fit. -/
/-- trimming from the place lo + m - 1 down to lo, while something is left to trim -/
def aFt (lo : Nat) : Nat → Nat → axAD → axAD
  | 0, _, A => A
  | m + 1, left, A => if left = 0 then A else aFt lo m (left - min left (aCan A (aR A (lo + m)))) (aBts A (aR A (lo + m)) (aB A (aR A (lo + m)) - min left (aCan A (aR A (lo + m)))))
def aFit (A : axAD) (a : Nat) : axAD := aFt (aSt A a) (aSt A (a + 1) - aSt A a) (aCut A a) A
theorem aOk_bts {A : axAD} (hO : aOk A) {i v : Nat} (hi : i < aN A) (h1 : 1 ≤ v) (h2 : v ≤ aW A (aR A i)) : aOk (aBts A (aR A i) v) := by
  obtain ⟨o1, o2, o3, o4, o5⟩ := hO
  refine ⟨o1, o2, o3, fun j hj => ?_, o5⟩
  show 1 ≤ va_up (aB A) (aR A i) v (aR A j) ∧ va_up (aB A) (aR A i) v (aR A j) ≤ aW A (aR A j) ∧ aW A (aR A j) ≤ 99
  have := o4 j hj
  by_cases e : aR A j = aR A i
  · rw [e, va_is]
    have h3 := o4 i hi
    exact ⟨h1, h2, h3.2.2⟩
  · rw [va_no e]; exact this
theorem aCan_lt {A : axAD} (hO : aOk A) {i : Nat} (hi : i < aN A) : aCan A (aR A i) < aB A (aR A i) := by
  have := hO.b hi
  unfold aCan
  omega
section AX27
variable {ro : axRo} {d : Nat} {h h1 : axH} {B : axBD} {Y : axYD} {sl : Nat → Option Nat} {P : axPD} {G : axGD} {tl : axH} {A : axAD}
theorem x0_fitAct_bad {y : Int32} {e : Int32} (he : e < 0) (hc : axEv ro (d + 4) kX0_cutOf [.ref 1, .int y] (hX B Y sl P G tl) (some (.int e)) (hX B Y sl P G tl)) : axEv ro (d + 5) kX0_fitAct [.ref 1, .int y] (hX B Y sl P G tl) (some (.int e)) (hX B Y sl P G tl) := by
  refine ev_in rfl rfl (Nat.le_of_ble_eq_true rfl) rfl ?_
  refine wp_run rfl ?_
  refine wp_v1 rfl rfl (Nat.le_of_ble_eq_true rfl) (hc) ?_
  refine wp_run rfl ?_
  refine wp_ifge rfl (fun hz_ => absurd hz_ (Int32.not_le.mpr he)) (fun _ => ?_)
  refine wp_run rfl ?_
  exact wp_ret rfl rfl ⟨rfl, rfl⟩
theorem x0_fitAct_ok (hO : aOk A) (hC : CR B A) {a : Nat} (ha : a < aActs A) (hf : (aOff A a).toNat - aCut A a ≤ aSl A) : ∃ B', axEv ro (d + 5) kX0_fitAct [.ref 1, .int (nI a)] (hX B Y sl P G tl) (some (.int (nI (aCut A a)))) (hX (B') Y sl P G tl) ∧ CR B' (aFit A a) ∧ aOk (aFit A a) := by
  have hl := aActs_le A
  have hn := hO.n
  have hb := aOff_b hO a
  have hcut : aCut A a ≤ 2376 := by
    have : aCut A a ≤ (aOff A a).toNat := Nat.min_le_left _ _
    omega
  have hmono := aSt_mono A (show a ≤ a + 1 by omega)
  have hse := aSt_le A (a + 1)
  have hcv := x0_cutOf_in (ro := ro) (d := d) (Y := Y) (sl := sl) (P := P) (G := G) (tl := tl) hO hC ha
  rw [if_pos hf] at hcv
  have loop : ∀ m, aSt A a + m ≤ aN A → ∀ (left : Nat) (B1 : axBD) (A1 : axAD) (v6 v7 : Option Value), left ≤ 2376 → aOk A1 → CR B1 A1 → aN A1 = aN A → ∃ B', axW ro (axEv ro (d + 4)) cdX0_fitAct 35 [some (.ref 1), some (.int (nI a)), some (.int (nI (aCut A a))), some (.int (nI (aSt A a))), some (.int (nI left)), some (.int (nI (aSt A a + m) - 1)), v6, v7] [.int (nI (aSt A a)), .int (nI (aSt A a + m) - 1)] (hX (B1) Y sl P G tl) (fun r' h' => r' = some (.int (nI (aCut A a))) ∧ h' = hX (B') Y sl P G tl) ∧ CR B' (aFt (aSt A a) m left A1) ∧ aOk (aFt (aSt A a) m left A1) := by
    intro m
    induction m with
    | zero =>
      intro hm left B1 A1 v6 v7 hleft hO1 hC1 hn1
      refine ⟨B1, ?_, hC1, hO1⟩
      have e : nI (aSt A a + 0) - 1 < nI (aSt A a) := by
        rw [Nat.add_zero, Int32.lt_iff_toInt_lt]
        rcases Nat.eq_zero_or_pos (aSt A a) with z | z
        · rw [z]; decide
        · rw [nI_p1 z, nI_toInt (by omega), nI_toInt (by omega)]; omega
      refine wp_iclt rfl (fun _ => ?_) (fun hz_ => absurd (e) hz_)
      refine wp_run rfl ?_
      exact wp_ret rfl rfl ⟨rfl, rfl⟩
    | succ m ih =>
      intro hm left B1 A1 v6 v7 hleft hO1 hC1 hn1
      have hp : aSt A a + m < aN A1 := by omega
      rw [show nI (aSt A a + (m + 1)) - 1 = nI (aSt A a + m) from nI_pred (aSt A a + m)]
      by_cases hz : left = 0
      · refine ⟨B1, ?_, ?_, ?_⟩
        · refine wp_iclt rfl (fun hz_ => absurd hz_ (nI_nlt (show aSt A a ≤ aSt A a + m by omega) (by omega))) (fun _ => ?_)
          refine wp_run rfl ?_
          refine wp_ifle rfl (fun _ => ?_) (fun hz_ => absurd (by rw [hz]; decide) hz_)
          refine wp_run rfl ?_
          exact wp_ret rfl rfl ⟨rfl, rfl⟩
        · rw [aFt, if_pos hz]; exact hC1
        · rw [aFt, if_pos hz]; exact hO1
      · have hlt := aCan_lt hO1 hp
        have hbb := hO1.b hp
        have hO2 := aOk_bts hO1 hp (v := aB A1 (aR A1 (aSt A a + m)) - min left (aCan A1 (aR A1 (aSt A a + m)))) (by omega) (by omega)
        have hC2 := cr_bts (k := aR A1 (aSt A a + m)) (v := aB A1 (aR A1 (aSt A a + m)) - min left (aCan A1 (aR A1 (aSt A a + m)))) hC1
        obtain ⟨B', hw, hC3, hO3⟩ := ih (by omega) (left - min left (aCan A1 (aR A1 (aSt A a + m)))) _ _ (some (.int (nI (aR A1 (aSt A a + m))))) (some (.int (nI (min left (aCan A1 (aR A1 (aSt A a + m))))))) (by omega) hO2 hC2 hn1
        refine ⟨B', ?_, ?_, ?_⟩
        · refine wp_iclt rfl (fun hz_ => absurd hz_ (nI_nlt (show aSt A a ≤ aSt A a + m by omega) (by omega))) (fun _ => ?_)
          refine wp_run rfl ?_
          refine wp_ifle rfl (fun hz_ => absurd hz_ (nI_nle (show 0 < left by omega) (by omega))) (fun _ => ?_)
          refine wp_run rfl ?_
          refine wp_s2 rfl (Nat.le_of_ble_eq_true rfl) (x4_cell rfl (show aSt A a + m < 24 by omega) (by decide)) ?_
          refine wp_run rfl ?_
          rw [cr_rw hC1 hp]
          refine wp_v1 rfl rfl (Nat.le_of_ble_eq_true rfl) (x0_roomOf hO1 hC1 hp) ?_
          refine wp_run rfl ?_
          refine wp_min rfl (Nat.le_of_ble_eq_true rfl) ((nI_min (by omega) (by omega))) ?_
          refine wp_run rfl ?_
          refine wp_v1 rfl rfl (Nat.le_of_ble_eq_true rfl) (x0_beatsOf hO1 hC1 hp) ?_
          refine wp_run rfl ?_
          rw [pk_sub (show min left (aCan A1 (aR A1 (aSt A a + m))) ≤ aB A1 (aR A1 (aSt A a + m)) by omega)]
          refine wp_s3v rfl (Nat.le_of_ble_eq_true rfl) (x4_store (h1 := hX (bBt_ B1 (upd (bBt B1) (aR A1 (aSt A a + m)) (nI (aB A1 (aR A1 (aSt A a + m)) - min left (aCan A1 (aR A1 (aSt A a + m))))))) Y sl P G tl) rfl (hO1.r hp) (by decide) rfl) ?_
          refine wp_run rfl ?_
          rw [pk_sub (show min left (aCan A1 (aR A1 (aSt A a + m))) ≤ left by omega), show nI (aSt A a + m) + (-1) = nI (aSt A a + m) - 1 by rw [Int32.sub_eq_add_neg]]
          exact hw
        · rw [aFt, if_neg hz]; exact hC3
        · rw [aFt, if_neg hz]; exact hO3
  obtain ⟨B', hw, hC3, hO3⟩ := loop (aSt A (a + 1) - aSt A a) (by omega) (aCut A a) B A none none hcut hO hC rfl
  rw [show aSt A a + (aSt A (a + 1) - aSt A a) = aSt A (a + 1) by omega] at hw
  refine ⟨B', ?_, hC3, hO3⟩
  refine ev_in rfl rfl (Nat.le_of_ble_eq_true rfl) rfl ?_
  refine wp_run rfl ?_
  refine wp_v1 rfl rfl (Nat.le_of_ble_eq_true rfl) (hcv) ?_
  refine wp_run rfl ?_
  refine wp_ifge rfl (fun _ => ?_) (fun hz_ => absurd (nI_pos' (by omega)) hz_)
  refine wp_run rfl ?_
  refine wp_v1 rfl rfl (Nat.le_of_ble_eq_true rfl) (x0_startOf hO hC (by omega)) ?_
  refine wp_run rfl ?_
  rw [nI_1]
  refine wp_v1 rfl rfl (Nat.le_of_ble_eq_true rfl) (x0_startOf hO hC (by omega)) ?_
  refine wp_run rfl ?_
  exact hw
end AX27
end
section
/-! THE CLASS: boards anywhere in the heap: made, copied. -/
/-- a board of its own at o -/
def HBd (h : axH) (o : Nat) (B : axBD) : Prop := h[o]? = some (axBo o B) ∧ h[o + 1]? = some (axAi 3 (bSt B)) ∧ h[o + 2]? = some (axAi 6 (bTg B)) ∧ h[o + 3]? = some (axAi 24 (bRw B)) ∧ h[o + 4]? = some (axAi 24 (bWr B)) ∧ h[o + 5]? = some (axAi 24 (bBt B)) ∧ h[o + 6]? = some (axAi 24 (bNd B))
/-- what one board takes over of another -/
def bCp (B C : axBD) : axBD := (va_cpy (bSt B) (bSt C) 0 0 3, va_cpy (bTg B) (bTg C) 0 0 6, va_cpy (bRw B) (bRw C) 0 0 24, va_cpy (bWr B) (bWr C) 0 0 24, va_cpy (bBt B) (bBt C) 0 0 24, va_cpy (bNd B) (bNd C) 0 0 24, bSg B, bTn B, bSz B)
theorem va_cpy0 {α : Type} {f g : Nat → α} {n i : Nat} (h : i < n) : va_cpy f g 0 0 n i = f i := by
  unfold va_cpy
  rw [if_pos ⟨by omega, by omega⟩, Nat.sub_zero, Nat.zero_add]
theorem cr_cp {A : axAD} {B C : axBD} (hO : aOk A) (h : CR B A) : CR (bCp B C) A := by
  have hn := hO.n
  have hr := fun i (hi : i < aN A) => hO.r hi
  obtain ⟨c1, c2, c3, c4, c5, ⟨c6, c7, c8⟩, c9⟩ := h
  refine ⟨c1, fun i hi => ?_, fun i hi => ⟨?_, ?_, ?_⟩, c4, c5, ⟨?_, ?_, ?_⟩, fun a ha => ?_⟩
  · exact (va_cpy0 (show i < 24 by omega)).trans (c2 i hi)
  · exact (va_cpy0 (hr i hi)).trans (c3 i hi).1
  · exact (va_cpy0 (hr i hi)).trans (c3 i hi).2.1
  · exact (va_cpy0 (hr i hi)).trans (c3 i hi).2.2
  · exact (va_cpy0 (f := bSt B) (g := bSt C) (show 0 < 3 by omega)).trans c6
  · exact (va_cpy0 (f := bSt B) (g := bSt C) (show 1 < 3 by omega)).trans c7
  · exact (va_cpy0 (f := bSt B) (g := bSt C) (show 2 < 3 by omega)).trans c8
  · exact (va_cpy0 ha).trans (c9 a ha)
section AX28
variable {ro : axRo} {E : axCall} {cd : List axE} {pc : Nat} {L : axL} {S : List Value} {h h1 : axH} {Q : Option Value → axH → Prop} {p0 b c nx : Nat} {a : Value} {tb : List (Int32 × Nat)}
theorem wp_getf {k : Nat} {fs : List Value} {v : Value} (hf : axF cd pc = some (p0, 36, a, b, c, tb, nx)) (hh : h[k]? = some (.inr (.inr (b, fs)))) (hv : fs[c]? = some v) (kk : axW ro E cd nx L (v :: S) h Q) : axW ro E cd pc L (.ref k :: S) h Q := by
  obtain ⟨n, kk⟩ := kk
  exact wp_one hf ⟨n, ⟨k, S, fs, v, rfl, hh, hv, kk⟩⟩
variable {d : Nat}
theorem gset_ne {i j : Nat} {x : axC} (hij : i ≠ j) : (h.set i x)[j]? = h[j]? := List.getElem?_set_ne hij
theorem gset_eq {i : Nat} {x y : axC} (hi : h[i]? = some y) : (h.set i x)[i]? = some x := by
  rw [List.getElem?_set_self (List.getElem?_eq_some_iff.mp hi).1]
theorem x0_takeOver {o q : Nat} {B C : axBD} (hB : HBd h q B) (hC : HBd h o C) (hd : o + 7 ≤ q ∨ q + 7 ≤ o) : ∃ h', axEv ro (d + 1) kX0_takeOver [.ref o, .ref q] h none h' ∧ HBd h' o (bCp B C) ∧ (∀ k, k < o ∨ o + 7 ≤ k → h'[k]? = h[k]?) ∧ h'.length = h.length ∧ axSl h' = axSl h := by
  obtain ⟨b0, b1, b2, b3, b4, b5, b6⟩ := hB
  obtain ⟨c0, c1, c2, c3, c4, c5, c6⟩ := hC
  generalize e1 : h.set (o + 1) (axAi 3 (va_cpy (bSt B) (bSt C) 0 0 3)) = h1
  have g1 : ∀ k, k ≠ o + 1 → h1[k]? = h[k]? := fun k hk => by rw [← e1, gset_ne (Ne.symm hk)]
  have f1 : h1[o + 1]? = some (axAi 3 (va_cpy (bSt B) (bSt C) 0 0 3)) := by rw [← e1]; exact gset_eq c1
  generalize e2 : h1.set (o + 2) (axAi 6 (va_cpy (bTg B) (bTg C) 0 0 6)) = h2
  have g2 : ∀ k, k ≠ o + 2 → h2[k]? = h1[k]? := fun k hk => by rw [← e2, gset_ne (Ne.symm hk)]
  have f2 : h2[o + 2]? = some (axAi 6 (va_cpy (bTg B) (bTg C) 0 0 6)) := by rw [← e2]; exact gset_eq (by rw [g1 _ (by omega)]; exact c2)
  generalize e3 : h2.set (o + 3) (axAi 24 (va_cpy (bRw B) (bRw C) 0 0 24)) = h3
  have g3 : ∀ k, k ≠ o + 3 → h3[k]? = h2[k]? := fun k hk => by rw [← e3, gset_ne (Ne.symm hk)]
  have f3 : h3[o + 3]? = some (axAi 24 (va_cpy (bRw B) (bRw C) 0 0 24)) := by rw [← e3]; exact gset_eq (by rw [g2 _ (by omega), g1 _ (by omega)]; exact c3)
  generalize e4 : h3.set (o + 4) (axAi 24 (va_cpy (bWr B) (bWr C) 0 0 24)) = h4
  have g4 : ∀ k, k ≠ o + 4 → h4[k]? = h3[k]? := fun k hk => by rw [← e4, gset_ne (Ne.symm hk)]
  have f4 : h4[o + 4]? = some (axAi 24 (va_cpy (bWr B) (bWr C) 0 0 24)) := by rw [← e4]; exact gset_eq (by rw [g3 _ (by omega), g2 _ (by omega), g1 _ (by omega)]; exact c4)
  generalize e5 : h4.set (o + 5) (axAi 24 (va_cpy (bBt B) (bBt C) 0 0 24)) = h5
  have g5 : ∀ k, k ≠ o + 5 → h5[k]? = h4[k]? := fun k hk => by rw [← e5, gset_ne (Ne.symm hk)]
  have f5 : h5[o + 5]? = some (axAi 24 (va_cpy (bBt B) (bBt C) 0 0 24)) := by rw [← e5]; exact gset_eq (by rw [g4 _ (by omega), g3 _ (by omega), g2 _ (by omega), g1 _ (by omega)]; exact c5)
  generalize e6 : h5.set (o + 6) (axAi 24 (va_cpy (bNd B) (bNd C) 0 0 24)) = h6
  have g6 : ∀ k, k ≠ o + 6 → h6[k]? = h5[k]? := fun k hk => by rw [← e6, gset_ne (Ne.symm hk)]
  have f6 : h6[o + 6]? = some (axAi 24 (va_cpy (bNd B) (bNd C) 0 0 24)) := by rw [← e6]; exact gset_eq (by rw [g5 _ (by omega), g4 _ (by omega), g3 _ (by omega), g2 _ (by omega), g1 _ (by omega)]; exact c6)
  have ob : ∀ k, (k < o + 1 ∨ o + 7 ≤ k) → h6[k]? = h[k]? ∧ h5[k]? = h[k]? ∧ h4[k]? = h[k]? ∧ h3[k]? = h[k]? ∧ h2[k]? = h[k]? ∧ h1[k]? = h[k]? := fun k hk => by
    have a1 := g1 k (by omega)
    have a2 := (g2 k (by omega)).trans a1
    have a3 := (g3 k (by omega)).trans a2
    have a4 := (g4 k (by omega)).trans a3
    have a5 := (g5 k (by omega)).trans a4
    have a6 := (g6 k (by omega)).trans a5
    exact ⟨a6, a5, a4, a3, a2, a1⟩
  generalize e7 : h6.set o (.inr (.inr (0, [.ref (o + 1), .ref (o + 2), .ref (o + 3), .ref (o + 4), .ref (o + 5), .ref (o + 6), .int (bSg B), .int (bTn C), .int (bSz C)]))) = h7
  have c06 : h6[o]? = some (axBo o C) := (ob o (by omega)).1.trans c0
  have f7 : h7[o]? = some (.inr (.inr (0, [.ref (o + 1), .ref (o + 2), .ref (o + 3), .ref (o + 4), .ref (o + 5), .ref (o + 6), .int (bSg B), .int (bTn C), .int (bSz C)]))) := by rw [← e7]; exact gset_eq c06
  have g7 : ∀ k, k ≠ o → h7[k]? = h6[k]? := fun k hk => by rw [← e7, gset_ne (Ne.symm hk)]
  generalize e8 : h7.set o (.inr (.inr (0, [.ref (o + 1), .ref (o + 2), .ref (o + 3), .ref (o + 4), .ref (o + 5), .ref (o + 6), .int (bSg B), .int (bTn B), .int (bSz C)]))) = h8
  have f8 : h8[o]? = some (.inr (.inr (0, [.ref (o + 1), .ref (o + 2), .ref (o + 3), .ref (o + 4), .ref (o + 5), .ref (o + 6), .int (bSg B), .int (bTn B), .int (bSz C)]))) := by rw [← e8]; exact gset_eq f7
  have g8 : ∀ k, k ≠ o → h8[k]? = h7[k]? := fun k hk => by rw [← e8, gset_ne (Ne.symm hk)]
  generalize e9 : h8.set o (axBo o (bCp B C)) = h9
  have f9 : h9[o]? = some (axBo o (bCp B C)) := by rw [← e9]; exact gset_eq f8
  have g9 : ∀ k, k ≠ o → h9[k]? = h6[k]? := fun k hk => by rw [← e9, gset_ne (Ne.symm hk), g8 k hk, g7 k hk]
  have qb : q < o + 1 ∨ o + 7 ≤ q := by omega
  have qn : q ≠ o := by omega
  refine ⟨h9, ?_, ⟨f9, ?_, ?_, ?_, ?_, ?_, ?_⟩, fun k hk => by rw [g9 k (by omega)]; exact (ob k (by omega)).1, ?_, ?_⟩
  · refine ev_in rfl rfl (Nat.le_of_ble_eq_true rfl) rfl ?_
    refine wp_runk 1 rfl ?_
    refine wp_getf rfl b0 rfl ?_
    refine wp_runk 2 rfl ?_
    refine wp_getf rfl c0 rfl ?_
    refine wp_runk 2 rfl ?_
    refine wp_getf rfl c0 rfl ?_
    refine wp_len rfl c1 (by decide) ?_
    refine wp_cpy (h1 := h1) rfl b1 c1 (by decide) (by decide) (by decide) (by decide) (by decide) (Nat.le_of_ble_eq_true rfl) e1 ?_
    refine wp_runk 1 rfl ?_
    refine wp_getf rfl ((ob q qb).2.2.2.2.2.trans b0) rfl ?_
    refine wp_runk 2 rfl ?_
    refine wp_getf rfl ((ob o (by omega)).2.2.2.2.2.trans c0) rfl ?_
    refine wp_runk 2 rfl ?_
    refine wp_getf rfl ((ob o (by omega)).2.2.2.2.2.trans c0) rfl ?_
    refine wp_len rfl ((g1 _ (by omega)).trans c2) (by decide) ?_
    refine wp_cpy (h1 := h2) rfl ((g1 _ (by omega)).trans b2) ((g1 _ (by omega)).trans c2) (by decide) (by decide) (by decide) (by decide) (by decide) (Nat.le_of_ble_eq_true rfl) e2 ?_
    refine wp_runk 1 rfl ?_
    refine wp_getf rfl ((ob q qb).2.2.2.2.1.trans b0) rfl ?_
    refine wp_runk 2 rfl ?_
    refine wp_getf rfl ((ob o (by omega)).2.2.2.2.1.trans c0) rfl ?_
    refine wp_runk 2 rfl ?_
    refine wp_getf rfl ((ob o (by omega)).2.2.2.2.1.trans c0) rfl ?_
    refine wp_len rfl (((g2 _ (by omega)).trans (g1 _ (by omega))).trans c3) (by decide) ?_
    refine wp_cpy (h1 := h3) rfl (((g2 _ (by omega)).trans (g1 _ (by omega))).trans b3) (((g2 _ (by omega)).trans (g1 _ (by omega))).trans c3) (by decide) (by decide) (by decide) (by decide) (by decide) (Nat.le_of_ble_eq_true rfl) e3 ?_
    refine wp_runk 1 rfl ?_
    refine wp_getf rfl ((ob q qb).2.2.2.1.trans b0) rfl ?_
    refine wp_runk 2 rfl ?_
    refine wp_getf rfl ((ob o (by omega)).2.2.2.1.trans c0) rfl ?_
    refine wp_runk 2 rfl ?_
    refine wp_getf rfl ((ob o (by omega)).2.2.2.1.trans c0) rfl ?_
    refine wp_len rfl ((((g3 _ (by omega)).trans (g2 _ (by omega))).trans (g1 _ (by omega))).trans c4) (by decide) ?_
    refine wp_cpy (h1 := h4) rfl ((((g3 _ (by omega)).trans (g2 _ (by omega))).trans (g1 _ (by omega))).trans b4) ((((g3 _ (by omega)).trans (g2 _ (by omega))).trans (g1 _ (by omega))).trans c4) (by decide) (by decide) (by decide) (by decide) (by decide) (Nat.le_of_ble_eq_true rfl) e4 ?_
    refine wp_runk 1 rfl ?_
    refine wp_getf rfl ((ob q qb).2.2.1.trans b0) rfl ?_
    refine wp_runk 2 rfl ?_
    refine wp_getf rfl ((ob o (by omega)).2.2.1.trans c0) rfl ?_
    refine wp_runk 2 rfl ?_
    refine wp_getf rfl ((ob o (by omega)).2.2.1.trans c0) rfl ?_
    refine wp_len rfl (((((g4 _ (by omega)).trans (g3 _ (by omega))).trans (g2 _ (by omega))).trans (g1 _ (by omega))).trans c5) (by decide) ?_
    refine wp_cpy (h1 := h5) rfl (((((g4 _ (by omega)).trans (g3 _ (by omega))).trans (g2 _ (by omega))).trans (g1 _ (by omega))).trans b5) (((((g4 _ (by omega)).trans (g3 _ (by omega))).trans (g2 _ (by omega))).trans (g1 _ (by omega))).trans c5) (by decide) (by decide) (by decide) (by decide) (by decide) (Nat.le_of_ble_eq_true rfl) e5 ?_
    refine wp_runk 1 rfl ?_
    refine wp_getf rfl ((ob q qb).2.1.trans b0) rfl ?_
    refine wp_runk 2 rfl ?_
    refine wp_getf rfl ((ob o (by omega)).2.1.trans c0) rfl ?_
    refine wp_runk 2 rfl ?_
    refine wp_getf rfl ((ob o (by omega)).2.1.trans c0) rfl ?_
    refine wp_len rfl ((((((g5 _ (by omega)).trans (g4 _ (by omega))).trans (g3 _ (by omega))).trans (g2 _ (by omega))).trans (g1 _ (by omega))).trans c6) (by decide) ?_
    refine wp_cpy (h1 := h6) rfl ((((((g5 _ (by omega)).trans (g4 _ (by omega))).trans (g3 _ (by omega))).trans (g2 _ (by omega))).trans (g1 _ (by omega))).trans b6) ((((((g5 _ (by omega)).trans (g4 _ (by omega))).trans (g3 _ (by omega))).trans (g2 _ (by omega))).trans (g1 _ (by omega))).trans c6) (by decide) (by decide) (by decide) (by decide) (by decide) (Nat.le_of_ble_eq_true rfl) e6 ?_
    refine wp_runk 2 rfl ?_
    refine wp_getf rfl ((ob q qb).1.trans b0) rfl ?_
    refine wp_putf (h1 := h7) rfl c06 (Nat.le_of_ble_eq_true rfl) ⟨rfl, rfl, fun _ hz_ => by cases hz_⟩ e7 ?_
    refine wp_runk 2 rfl ?_
    refine wp_getf rfl (((g7 q qn).trans (ob q qb).1).trans b0) rfl ?_
    refine wp_putf (h1 := h8) rfl f7 (Nat.le_of_ble_eq_true rfl) ⟨rfl, rfl, fun _ hz_ => by cases hz_⟩ e8 ?_
    refine wp_runk 2 rfl ?_
    refine wp_getf rfl (((g8 q qn).trans ((g7 q qn).trans (ob q qb).1)).trans b0) rfl ?_
    refine wp_putf (h1 := h9) rfl f8 (Nat.le_of_ble_eq_true rfl) ⟨rfl, rfl, fun _ hz_ => by cases hz_⟩ e9 ?_
    exact wp_retv rfl ⟨rfl, rfl⟩
  · rw [g9 _ (by omega), g6 _ (by omega), g5 _ (by omega), g4 _ (by omega), g3 _ (by omega), g2 _ (by omega)]; exact f1
  · rw [g9 _ (by omega), g6 _ (by omega), g5 _ (by omega), g4 _ (by omega), g3 _ (by omega)]; exact f2
  · rw [g9 _ (by omega), g6 _ (by omega), g5 _ (by omega), g4 _ (by omega)]; exact f3
  · rw [g9 _ (by omega), g6 _ (by omega), g5 _ (by omega)]; exact f4
  · rw [g9 _ (by omega), g6 _ (by omega)]; exact f5
  · rw [g9 _ (by omega)]; exact f6
  · rw [← e9, ← e8, ← e7, ← e6, ← e5, ← e4, ← e3, ← e2, ← e1]
    simp only [List.length_set]
  · rw [← e9, axSl_set _ _ _ _ f8 (by rfl), ← e8, axSl_set _ _ _ _ f7 (by rfl), ← e7, axSl_set _ _ _ _ c06 (by rfl), ← e6, axSl_set h5 _ _ (axAi 24 (bNd C)) (by rw [g5 _ (by omega), g4 _ (by omega), g3 _ (by omega), g2 _ (by omega), g1 _ (by omega)]; exact c6) (by rfl),
      ← e5, axSl_set h4 _ _ (axAi 24 (bBt C)) (by rw [g4 _ (by omega), g3 _ (by omega), g2 _ (by omega), g1 _ (by omega)]; exact c5) (by rfl),
      ← e4, axSl_set h3 _ _ (axAi 24 (bWr C)) (by rw [g3 _ (by omega), g2 _ (by omega), g1 _ (by omega)]; exact c4) (by rfl),
      ← e3, axSl_set h2 _ _ (axAi 24 (bRw C)) (by rw [g2 _ (by omega), g1 _ (by omega)]; exact c3) (by rfl),
      ← e2, axSl_set h1 _ _ (axAi 6 (bTg C)) (by rw [g1 _ (by omega)]; exact c2) (by rfl),
      ← e1, axSl_set h _ _ (axAi 3 (bSt C)) c1 (by rfl)]
end AX28
end
section
/-! THE CLASS: a new board. Written by a program. -/
theorem gA {h0 l : axH} (i : Nat) : (h0 ++ l)[h0.length + i]? = l[i]? := by rw [List.getElem?_append_right (by omega), Nat.add_sub_cancel_left]
theorem gS {h0 l : axH} (i : Nat) (x : axC) : (h0 ++ l).set (h0.length + i) x = h0 ++ l.set i x := by rw [List.set_append_right _ _ (by omega), Nat.add_sub_cancel_left]
theorem gL {h0 l : axH} {n : Nat} (h : l.length = n) : (h0 ++ l).length = h0.length + n := by rw [List.length_append, h]
theorem gP {h0 l m : axH} {x : axC} (h : l ++ [x] = m) : (h0 ++ l) ++ [x] = h0 ++ m := by rw [List.append_assoc, h]
def z0F : Nat → Int32 := fun _ => 0
/-- a board as it is made -/
def bIni : axBD := (upd (upd (upd z0F 0 16) 1 2) 2 50, upd (upd (upd (upd (upd (upd z0F 0 60) 1 60) 2 60) 3 60) 4 60) 5 60, z0F, z0F, z0F, z0F, 0, 0, 0)
def bdL (o : Nat) (B : axBD) : axH := [axBo o B, axAi 3 (bSt B), axAi 6 (bTg B), axAi 24 (bRw B), axAi 24 (bWr B), axAi 24 (bBt B), axAi 24 (bNd B)]
section AX29
variable {ro : axRo} {d : Nat}
theorem x0_init {h0 : axH} : axEv ro (d + 1) kX0_init [.ref h0.length] (h0 ++ [.inr (.inr (0, axDf 0))]) none (h0 ++ bdL h0.length bIni) := by
  refine ev_in rfl rfl (Nat.le_of_ble_eq_true rfl) rfl ?_
  refine wp_run rfl ?_
  refine wp_obj rfl (Nat.le_of_ble_eq_true rfl) ?_
  refine wp_run rfl ?_
  refine wp_newa (q := h0.length + 1) (N := 3) (h1 := (h0 ++ [.inr (.inr (0, [.null, .null, .null, .null, .null, .null, .int 0, .int 0, .int 0])), .inl (0, 3, z0F)])) rfl (by decide) (by decide) (by decide) (gL rfl) (gP rfl) ?_
  refine wp_run rfl ?_
  refine wp_ast (h1 := (h0 ++ [.inr (.inr (0, [.null, .null, .null, .null, .null, .null, .int 0, .int 0, .int 0])), .inl (0, 3, (upd z0F 0 16))])) rfl (gA 1) (vp_in_nI (n := 0) (N := 3) (by decide) (by decide)) rfl (gS 1 _) ?_
  refine wp_run rfl ?_
  refine wp_ast (h1 := (h0 ++ [.inr (.inr (0, [.null, .null, .null, .null, .null, .null, .int 0, .int 0, .int 0])), .inl (0, 3, (upd (upd z0F 0 16) 1 2))])) rfl (gA 1) (vp_in_nI (n := 1) (N := 3) (by decide) (by decide)) rfl (gS 1 _) ?_
  refine wp_run rfl ?_
  refine wp_ast (h1 := (h0 ++ [.inr (.inr (0, [.null, .null, .null, .null, .null, .null, .int 0, .int 0, .int 0])), .inl (0, 3, (upd (upd (upd z0F 0 16) 1 2) 2 50))])) rfl (gA 1) (vp_in_nI (n := 2) (N := 3) (by decide) (by decide)) rfl (gS 1 _) ?_
  refine wp_run rfl ?_
  refine wp_putF (h1 := (h0 ++ [.inr (.inr (0, [.ref (h0.length + 1), .null, .null, .null, .null, .null, .int 0, .int 0, .int 0])), .inl (0, 3, (upd (upd (upd z0F 0 16) 1 2) 2 50))])) rfl (gA 0) (Nat.le_of_ble_eq_true rfl) ⟨rfl, rfl, fun _ hz_ => by cases hz_⟩ (gS 0 _) ?_
  refine wp_run rfl ?_
  refine wp_newa (q := h0.length + 2) (N := 6) (h1 := (h0 ++ [.inr (.inr (0, [.ref (h0.length + 1), .null, .null, .null, .null, .null, .int 0, .int 0, .int 0])), .inl (0, 3, (upd (upd (upd z0F 0 16) 1 2) 2 50)), .inl (0, 6, z0F)])) rfl (by decide) (by decide) (by decide) (gL rfl) (gP rfl) ?_
  refine wp_run rfl ?_
  refine wp_ast (h1 := (h0 ++ [.inr (.inr (0, [.ref (h0.length + 1), .null, .null, .null, .null, .null, .int 0, .int 0, .int 0])), .inl (0, 3, (upd (upd (upd z0F 0 16) 1 2) 2 50)), .inl (0, 6, (upd z0F 0 60))])) rfl (gA 2) (vp_in_nI (n := 0) (N := 6) (by decide) (by decide)) rfl (gS 2 _) ?_
  refine wp_run rfl ?_
  refine wp_ast (h1 := (h0 ++ [.inr (.inr (0, [.ref (h0.length + 1), .null, .null, .null, .null, .null, .int 0, .int 0, .int 0])), .inl (0, 3, (upd (upd (upd z0F 0 16) 1 2) 2 50)), .inl (0, 6, (upd (upd z0F 0 60) 1 60))])) rfl (gA 2) (vp_in_nI (n := 1) (N := 6) (by decide) (by decide)) rfl (gS 2 _) ?_
  refine wp_run rfl ?_
  refine wp_ast (h1 := (h0 ++ [.inr (.inr (0, [.ref (h0.length + 1), .null, .null, .null, .null, .null, .int 0, .int 0, .int 0])), .inl (0, 3, (upd (upd (upd z0F 0 16) 1 2) 2 50)), .inl (0, 6, (upd (upd (upd z0F 0 60) 1 60) 2 60))])) rfl (gA 2) (vp_in_nI (n := 2) (N := 6) (by decide) (by decide)) rfl (gS 2 _) ?_
  refine wp_run rfl ?_
  refine wp_ast (h1 := (h0 ++ [.inr (.inr (0, [.ref (h0.length + 1), .null, .null, .null, .null, .null, .int 0, .int 0, .int 0])), .inl (0, 3, (upd (upd (upd z0F 0 16) 1 2) 2 50)), .inl (0, 6, (upd (upd (upd (upd z0F 0 60) 1 60) 2 60) 3 60))])) rfl (gA 2) (vp_in_nI (n := 3) (N := 6) (by decide) (by decide)) rfl (gS 2 _) ?_
  refine wp_run rfl ?_
  refine wp_ast (h1 := (h0 ++ [.inr (.inr (0, [.ref (h0.length + 1), .null, .null, .null, .null, .null, .int 0, .int 0, .int 0])), .inl (0, 3, (upd (upd (upd z0F 0 16) 1 2) 2 50)), .inl (0, 6, (upd (upd (upd (upd (upd z0F 0 60) 1 60) 2 60) 3 60) 4 60))])) rfl (gA 2) (vp_in_nI (n := 4) (N := 6) (by decide) (by decide)) rfl (gS 2 _) ?_
  refine wp_run rfl ?_
  refine wp_ast (h1 := (h0 ++ [.inr (.inr (0, [.ref (h0.length + 1), .null, .null, .null, .null, .null, .int 0, .int 0, .int 0])), .inl (0, 3, (upd (upd (upd z0F 0 16) 1 2) 2 50)), .inl (0, 6, (upd (upd (upd (upd (upd (upd z0F 0 60) 1 60) 2 60) 3 60) 4 60) 5 60))])) rfl (gA 2) (vp_in_nI (n := 5) (N := 6) (by decide) (by decide)) rfl (gS 2 _) ?_
  refine wp_run rfl ?_
  refine wp_putF (h1 := (h0 ++ [.inr (.inr (0, [.ref (h0.length + 1), .ref (h0.length + 2), .null, .null, .null, .null, .int 0, .int 0, .int 0])), .inl (0, 3, (upd (upd (upd z0F 0 16) 1 2) 2 50)), .inl (0, 6, (upd (upd (upd (upd (upd (upd z0F 0 60) 1 60) 2 60) 3 60) 4 60) 5 60))])) rfl (gA 0) (Nat.le_of_ble_eq_true rfl) ⟨rfl, rfl, fun _ hz_ => by cases hz_⟩ (gS 0 _) ?_
  refine wp_run rfl ?_
  refine wp_newa (q := h0.length + 3) (N := 24) (h1 := (h0 ++ [.inr (.inr (0, [.ref (h0.length + 1), .ref (h0.length + 2), .null, .null, .null, .null, .int 0, .int 0, .int 0])), .inl (0, 3, (upd (upd (upd z0F 0 16) 1 2) 2 50)), .inl (0, 6, (upd (upd (upd (upd (upd (upd z0F 0 60) 1 60) 2 60) 3 60) 4 60) 5 60)), .inl (0, 24, z0F)])) rfl (by decide) (by decide) (by decide) (gL rfl) (gP rfl) ?_
  refine wp_run rfl ?_
  refine wp_putF (h1 := (h0 ++ [.inr (.inr (0, [.ref (h0.length + 1), .ref (h0.length + 2), .ref (h0.length + 3), .null, .null, .null, .int 0, .int 0, .int 0])), .inl (0, 3, (upd (upd (upd z0F 0 16) 1 2) 2 50)), .inl (0, 6, (upd (upd (upd (upd (upd (upd z0F 0 60) 1 60) 2 60) 3 60) 4 60) 5 60)), .inl (0, 24, z0F)])) rfl (gA 0) (Nat.le_of_ble_eq_true rfl) ⟨rfl, rfl, fun _ hz_ => by cases hz_⟩ (gS 0 _) ?_
  refine wp_run rfl ?_
  refine wp_newa (q := h0.length + 4) (N := 24) (h1 := (h0 ++ [.inr (.inr (0, [.ref (h0.length + 1), .ref (h0.length + 2), .ref (h0.length + 3), .null, .null, .null, .int 0, .int 0, .int 0])), .inl (0, 3, (upd (upd (upd z0F 0 16) 1 2) 2 50)), .inl (0, 6, (upd (upd (upd (upd (upd (upd z0F 0 60) 1 60) 2 60) 3 60) 4 60) 5 60)), .inl (0, 24, z0F), .inl (0, 24, z0F)])) rfl (by decide) (by decide) (by decide) (gL rfl) (gP rfl) ?_
  refine wp_run rfl ?_
  refine wp_putF (h1 := (h0 ++ [.inr (.inr (0, [.ref (h0.length + 1), .ref (h0.length + 2), .ref (h0.length + 3), .ref (h0.length + 4), .null, .null, .int 0, .int 0, .int 0])), .inl (0, 3, (upd (upd (upd z0F 0 16) 1 2) 2 50)), .inl (0, 6, (upd (upd (upd (upd (upd (upd z0F 0 60) 1 60) 2 60) 3 60) 4 60) 5 60)), .inl (0, 24, z0F), .inl (0, 24, z0F)])) rfl (gA 0) (Nat.le_of_ble_eq_true rfl) ⟨rfl, rfl, fun _ hz_ => by cases hz_⟩ (gS 0 _) ?_
  refine wp_run rfl ?_
  refine wp_newa (q := h0.length + 5) (N := 24) (h1 := (h0 ++ [.inr (.inr (0, [.ref (h0.length + 1), .ref (h0.length + 2), .ref (h0.length + 3), .ref (h0.length + 4), .null, .null, .int 0, .int 0, .int 0])), .inl (0, 3, (upd (upd (upd z0F 0 16) 1 2) 2 50)), .inl (0, 6, (upd (upd (upd (upd (upd (upd z0F 0 60) 1 60) 2 60) 3 60) 4 60) 5 60)), .inl (0, 24, z0F), .inl (0, 24, z0F), .inl (0, 24, z0F)])) rfl (by decide) (by decide) (by decide) (gL rfl) (gP rfl) ?_
  refine wp_run rfl ?_
  refine wp_putF (h1 := (h0 ++ [.inr (.inr (0, [.ref (h0.length + 1), .ref (h0.length + 2), .ref (h0.length + 3), .ref (h0.length + 4), .ref (h0.length + 5), .null, .int 0, .int 0, .int 0])), .inl (0, 3, (upd (upd (upd z0F 0 16) 1 2) 2 50)), .inl (0, 6, (upd (upd (upd (upd (upd (upd z0F 0 60) 1 60) 2 60) 3 60) 4 60) 5 60)), .inl (0, 24, z0F), .inl (0, 24, z0F), .inl (0, 24, z0F)])) rfl (gA 0) (Nat.le_of_ble_eq_true rfl) ⟨rfl, rfl, fun _ hz_ => by cases hz_⟩ (gS 0 _) ?_
  refine wp_run rfl ?_
  refine wp_newa (q := h0.length + 6) (N := 24) (h1 := (h0 ++ [.inr (.inr (0, [.ref (h0.length + 1), .ref (h0.length + 2), .ref (h0.length + 3), .ref (h0.length + 4), .ref (h0.length + 5), .null, .int 0, .int 0, .int 0])), .inl (0, 3, (upd (upd (upd z0F 0 16) 1 2) 2 50)), .inl (0, 6, (upd (upd (upd (upd (upd (upd z0F 0 60) 1 60) 2 60) 3 60) 4 60) 5 60)), .inl (0, 24, z0F), .inl (0, 24, z0F), .inl (0, 24, z0F), .inl (0, 24, z0F)])) rfl (by decide) (by decide) (by decide) (gL rfl) (gP rfl) ?_
  refine wp_run rfl ?_
  refine wp_putF (h1 := (h0 ++ [.inr (.inr (0, [.ref (h0.length + 1), .ref (h0.length + 2), .ref (h0.length + 3), .ref (h0.length + 4), .ref (h0.length + 5), .ref (h0.length + 6), .int 0, .int 0, .int 0])), .inl (0, 3, (upd (upd (upd z0F 0 16) 1 2) 2 50)), .inl (0, 6, (upd (upd (upd (upd (upd (upd z0F 0 60) 1 60) 2 60) 3 60) 4 60) 5 60)), .inl (0, 24, z0F), .inl (0, 24, z0F), .inl (0, 24, z0F), .inl (0, 24, z0F)])) rfl (gA 0) (Nat.le_of_ble_eq_true rfl) ⟨rfl, rfl, fun _ hz_ => by cases hz_⟩ (gS 0 _) ?_
  refine wp_run rfl ?_
  exact wp_retv rfl ⟨rfl, rfl⟩
end AX29
end
section
/-! THE CLASS: the boards that are kept (six states and one more, two slots), and the history. -/
/-- who keeps a board: the seven states, the two slots -/
def zO (sf lf : Nat → Option Nat) : Nat → Option Nat := fun i => if i < 7 then sf i else lf (i - 7)
def ZB (h : axH) (bo : Nat → Option Nat) : Prop := (∀ i, i < 9 → ∀ o, bo i = some o → 22 ≤ o ∧ ∃ C, HBd h o C) ∧ ∀ i j, i < 9 → j < 9 → i ≠ j → ∀ o q, bo i = some o → bo j = some q → o + 7 ≤ q ∨ q + 7 ≤ o
/-- the i-th holds the board A -/
def ZH (h : axH) (bo : Nat → Option Nat) (i : Nat) (A : axAD) : Prop := ∃ o C, bo i = some o ∧ HBd h o C ∧ CR C A ∧ aOk A
theorem HBd_same {h h' : axH} {o : Nat} {C : axBD} (hC : HBd h o C) (hs : ∀ k, o ≤ k → k < o + 7 → h'[k]? = h[k]?) : HBd h' o C := by
  obtain ⟨b0, b1, b2, b3, b4, b5, b6⟩ := hC
  exact ⟨(hs _ (by omega) (by omega)).trans b0, (hs _ (by omega) (by omega)).trans b1, (hs _ (by omega) (by omega)).trans b2, (hs _ (by omega) (by omega)).trans b3, (hs _ (by omega) (by omega)).trans b4, (hs _ (by omega) (by omega)).trans b5, (hs _ (by omega) (by omega)).trans b6⟩
theorem HBd_lt {h : axH} {o : Nat} {C : axBD} (hC : HBd h o C) : o + 7 ≤ h.length := by
  have := (List.getElem?_eq_some_iff.mp hC.2.2.2.2.2.2).1
  omega
theorem HBd_app {h l : axH} {o : Nat} {C : axBD} (hC : HBd h o C) : HBd (h ++ l) o C := HBd_same hC fun k h1 h2 => List.getElem?_append_left (by have := HBd_lt hC; omega)
theorem HBd_new {h : axH} {C : axBD} : HBd (h ++ bdL h.length C) h.length C := ⟨gA 0, gA 1, gA 2, gA 3, gA 4, gA 5, gA 6⟩
section AX30
variable {ro : axRo} {d : Nat} {h : axH} {A : axAD} {B : axBD} {bo : Nat → Option Nat}
theorem x4_copyInto (hB : HBd h 1 B) (hC : CR B A) (hO : aOk A) (hl : 22 ≤ h.length) (hZ : ZB h bo) {i : Nat} (hi : i < 9) : ∃ o h', axEv ro (d + 2) kX4_copyInto [va_rf (bo i), .ref 1] h (some (.ref o)) h' ∧ ZB h' (va_up bo i (some o)) ∧ ZH h' (va_up bo i (some o)) i A ∧ (∀ j, j < 9 → j ≠ i → ∀ A', ZH h bo j A' → ZH h' (va_up bo i (some o)) j A') ∧ (∀ k, k < 22 → h'[k]? = h[k]?) ∧ (∃ fs, h'[o]? = some (.inr (.inr (0, fs)))) ∧ h.length ≤ h'.length ∧ h'.length ≤ h.length + 7 ∧ axSl h' ≤ axSl h + 114 := by
  obtain ⟨Z1, Z2⟩ := hZ
  -- what follows from the copy at o
  have fin : ∀ o h1 h', 22 ≤ o → HBd h' o (bCp B h1) → (∀ k, k < o ∨ o + 7 ≤ k → k < h.length → h'[k]? = h[k]?) → (∀ j, j < 9 → j ≠ i → ∀ q, bo j = some q → o + 7 ≤ q ∨ q + 7 ≤ o) → ZB h' (va_up bo i (some o)) ∧ ZH h' (va_up bo i (some o)) i A ∧ (∀ j, j < 9 → j ≠ i → ∀ A', ZH h bo j A' → ZH h' (va_up bo i (some o)) j A') ∧ (∀ k, k < 22 → h'[k]? = h[k]?) ∧ (∃ fs, h'[o]? = some (.inr (.inr (0, fs)))) := by
    intro o C h' ho hH hs ha
    have keep : ∀ j, j < 9 → j ≠ i → ∀ q, bo j = some q → ∀ C', HBd h q C' → HBd h' q C' := fun j hj hji q hq C' hC' => HBd_same hC' fun k h1 h2 => by
      have := ha j hj hji q hq
      have := HBd_lt hC'
      exact hs k (by omega) (by omega)
    refine ⟨⟨fun j hj q hq => ?_, fun j l hj hl hjl q r hq hr => ?_⟩, ⟨o, _, va_is, hH, cr_cp hO hC, hO⟩, fun j hj hji A' ⟨q, C', e1, e2, e3⟩ => ⟨q, C', (va_no hji).trans e1, keep j hj hji q e1 C' e2, e3⟩, fun k hk => hs k (by omega) (by omega), ⟨_, hH.1⟩⟩
    · by_cases e : j = i
      · subst e
        rw [va_is] at hq
        cases hq
        exact ⟨ho, _, hH⟩
      · rw [va_no e] at hq
        obtain ⟨z1, C', z2⟩ := Z1 j hj q hq
        exact ⟨z1, C', keep j hj e q hq C' z2⟩
    · by_cases e : j = i
      · subst e
        rw [va_is] at hq
        cases hq
        rw [va_no (fun z => hjl z.symm)] at hr
        exact ha l hl (fun z => hjl z.symm) r hr
      · rw [va_no e] at hq
        by_cases e2 : l = i
        · subst e2
          rw [va_is] at hr
          cases hr
          exact (ha j hj e q hq).symm
        · rw [va_no e2] at hr
          exact Z2 j l hj hl hjl q r hq hr
  cases hb : bo i with
  | none =>
    obtain ⟨h', hev, hH, hsm, hlen, hsl⟩ := x0_takeOver (ro := ro) (d := d) (h := h ++ bdL h.length bIni) (o := h.length) (q := 1) (HBd_app hB) HBd_new (Or.inr (by omega))
    have hlen2 : h'.length = h.length + 7 := by rw [hlen, List.length_append]; rfl
    have hsl2 : axSl h' = axSl h + 114 := by
      rw [hsl]
      unfold axSl
      rw [List.map_append, List.sum_append]
      rfl
    obtain ⟨f1, f2, f3, f4, f5⟩ := fin h.length bIni h' hl hH (fun k hk hkl => (hsm k hk).trans (List.getElem?_append_left hkl)) (fun j hj _ q hq => by
      obtain ⟨_, C', z2⟩ := Z1 j hj q hq
      have := HBd_lt z2
      omega)
    refine ⟨h.length, h', ?_, f1, f2, f3, f4, f5, by omega, by omega, by omega⟩
    refine ev_in rfl rfl (Nat.le_of_ble_eq_true rfl) rfl ?_
    refine wp_run rfl ?_
    refine wp_nnN rfl ?_
    refine wp_new (q := h.length) (h1 := h ++ [.inr (.inr (0, axDf 0))]) rfl rfl rfl ?_
    refine wp_run rfl ?_
    refine wp_i0 rfl (Nat.le_of_ble_eq_true rfl) x0_init ?_
    refine wp_run rfl ?_
    refine wp_v1v rfl HBd_new.1 (Nat.le_of_ble_eq_true rfl) hev ?_
    refine wp_run rfl ?_
    exact wp_reta rfl ⟨rfl, rfl⟩
  | some o =>
    obtain ⟨z1, C, z2⟩ := Z1 i hi o hb
    obtain ⟨h', hev, hH, hsm, hlen, hsl⟩ := x0_takeOver (ro := ro) (d := d) (h := h) (o := o) (q := 1) hB z2 (Or.inr (by omega))
    obtain ⟨f1, f2, f3, f4, f5⟩ := fin o C h' z1 hH (fun k hk _ => hsm k hk) (fun j hj hji q hq => Z2 i j hi hj (fun z => hji z.symm) o q hb hq)
    refine ⟨o, h', ?_, f1, f2, f3, f4, f5, by omega, by omega, by omega⟩
    refine ev_in rfl rfl (Nat.le_of_ble_eq_true rfl) rfl ?_
    refine wp_run rfl ?_
    refine wp_nn rfl ?_
    refine wp_run rfl ?_
    refine wp_v1v rfl z2.1 (Nat.le_of_ble_eq_true rfl) hev ?_
    refine wp_run rfl ?_
    exact wp_reta rfl ⟨rfl, rfl⟩
end AX30
end
section
/-! THE CLASS: what is kept of earlier boards: prepare, settle, takeBack, save, restore. -/
theorem hX_get {B Y sl P G tl} {k : Nat} (hk : 15 ≤ k) : (hX B Y sl P G tl)[k]? = tl[k - 15]? := by
  show (hX B Y sl P G [] ++ tl)[k]? = _
  rw [List.getElem?_append_right hk]; rfl
theorem hX_len {B Y sl P G tl} : (hX B Y sl P G tl).length = 15 + tl.length := by
  show (hX B Y sl P G [] ++ tl).length = _
  rw [List.length_append]; rfl
theorem hX_to {B Y sl P G} {mc h' : axH} (h1 : ∀ k, k < 15 → h'[k]? = (hX B Y sl P G [])[k]?) (h2 : ∀ k, 15 ≤ k → k < 22 → h'[k]? = mc[k - 15]?) (hm : mc.length = 7) : ∃ bs, h' = hX B Y sl P G (mc ++ bs) := by
  refine ⟨h'.drop 22, List.ext_getElem? fun k => ?_⟩
  by_cases a : k < 15
  · rw [h1 k a]
    show _ = (hX B Y sl P G [] ++ (mc ++ h'.drop 22))[k]?
    rw [List.getElem?_append_left (show k < (hX B Y sl P G []).length from a)]
  · rw [hX_get (by omega)]
    by_cases b : k < 22
    · rw [h2 k (by omega) b, List.getElem?_append_left (by omega)]
    · rw [List.getElem?_append_right (by omega), hm, List.getElem?_drop]
      congr 1; omega
theorem ZB_same {h h' : axH} {bo : Nat → Option Nat} (hZ : ZB h bo) (hs : ∀ k, 22 ≤ k → h'[k]? = h[k]?) : ZB h' bo :=
  ⟨fun i hi o ho => by
    obtain ⟨a, C, b⟩ := hZ.1 i hi o ho
    exact ⟨a, C, HBd_same b fun k h1 _ => hs k (by omega)⟩, hZ.2⟩
theorem ZH_same {h h' : axH} {bo : Nat → Option Nat} {i : Nat} {A : axAD} (hi : i < 9) (hB : ZB h bo) (hZ : ZH h bo i A) (hs : ∀ k, 22 ≤ k → h'[k]? = h[k]?) : ZH h' bo i A := by
  obtain ⟨o, C, a, b, c⟩ := hZ
  have := (hB.1 i hi o a).1
  exact ⟨o, C, a, HBd_same b fun k h1 _ => hs k (by omega), c⟩
/-- what is kept: the states (the next to be written, how many), the slots -/
def KP (h : axH) (sf lf : Nat → Option Nat) (nx k : Nat) (hs : Nat → axAD) (sv : Nat → Option axAD) : Prop :=
  nx < 7 ∧ k ≤ 6 ∧ ZB h (zO sf lf) ∧ (∀ j, j < k → ZH h (zO sf lf) ((nx + 6 - j) % 7) (hs j)) ∧ (∀ i, i < 2 → (sv i = none → lf i = none) ∧ ∀ A, sv i = some A → ZH h (zO sf lf) (7 + i) A)
theorem KP_same {h h' : axH} {sf lf : Nat → Option Nat} {nx k : Nat} {hs : Nat → axAD} {sv : Nat → Option axAD} (hK : KP h sf lf nx k hs sv) (hs' : ∀ k, 22 ≤ k → h'[k]? = h[k]?) : KP h' sf lf nx k hs sv := by
  obtain ⟨k1, k2, k3, k4, k5⟩ := hK
  exact ⟨k1, k2, ZB_same k3 hs', fun j hj => ZH_same (by omega) k3 (k4 j hj) hs', fun i hi => ⟨(k5 i hi).1, fun A hA => ZH_same (by omega) k3 ((k5 i hi).2 A hA) hs'⟩⟩
theorem hX_same {B Y sl P G B' Y' sl' P' G' tl} : ∀ k, 22 ≤ k → (hX B' Y' sl' P' G' tl)[k]? = (hX B Y sl P G tl)[k]? := fun k hk => by rw [hX_get (by omega), hX_get (by omega)]
theorem KP_go {B Y sl P G B' Y' sl' P' G' tl} {sf lf : Nat → Option Nat} {nx k : Nat} {hs : Nat → axAD} {sv : Nat → Option axAD} (hK : KP (hX B Y sl P G tl) sf lf nx k hs sv) : KP (hX B' Y' sl' P' G' tl) sf lf nx k hs sv := KP_same hK hX_same
theorem ZH_go {B Y sl P G B' Y' sl' P' G' tl} {bo : Nat → Option Nat} {i : Nat} {A : axAD} (hi : i < 9) (hB : ZB (hX B Y sl P G tl) bo) (hZ : ZH (hX B Y sl P G tl) bo i A) : ZH (hX B' Y' sl' P' G' tl) bo i A := ZH_same hi hB hZ hX_same
theorem zO_st {sf lf : Nat → Option Nat} {i : Nat} {v : Option Nat} (hi : i < 7) : va_up (zO sf lf) i v = zO (va_up sf i v) lf := by
  funext j
  by_cases e : j = i
  · subst e
    rw [va_is]; unfold zO; rw [if_pos hi, va_is]
  · rw [va_no e]; unfold zO
    by_cases e2 : j < 7
    · rw [if_pos e2, if_pos e2, va_no e]
    · rw [if_neg e2, if_neg e2]
theorem zO_sl {sf lf : Nat → Option Nat} {i : Nat} {v : Option Nat} : va_up (zO sf lf) (7 + i) v = zO sf (va_up lf i v) := by
  funext j
  by_cases e : j = 7 + i
  · subst e
    rw [va_is]; unfold zO; rw [if_neg (by omega), Nat.add_sub_cancel_left, va_is]
  · rw [va_no e]; unfold zO
    by_cases e2 : j < 7
    · rw [if_pos e2, if_pos e2]
    · rw [if_neg e2, if_neg e2, va_no (by omega)]
section AX31
variable {ro : axRo} {d : Nat} {h : axH} {A : axAD} {B : axBD} {sf lf : Nat → Option Nat} {nx k : Nat} {hs : Nat → axAD} {sv : Nat → Option axAD} {P : axPD} {G : axGD} {mc bs tl : axH} {Y : axYD} {sl : Nat → Option Nat}
theorem axSl_apps (a b : axH) : axSl (a ++ b) = axSl a + axSl b := by
  unfold axSl; rw [List.map_append, List.sum_append]
theorem axSl_hX {bs' : axH} : axSl (hX B Y sl P G (mc ++ bs')) + axSl bs = axSl (hX B Y sl P G (mc ++ bs)) + axSl bs' := by
  show axSl (hX B Y sl P G [] ++ (mc ++ bs')) + axSl bs = axSl (hX B Y sl P G [] ++ (mc ++ bs)) + axSl bs'
  rw [axSl_apps, axSl_apps, axSl_apps, axSl_apps]; omega
theorem x1_prepare (hm : mc.length = 7) (hC : CR B A) (hO : aOk A) (hK : KP (hX B (sf, nI nx, nI k) lf P G (mc ++ bs)) sf lf nx k hs sv) : ∃ sf' bs', axEv ro (d + 3) kX1_prepare [.ref 8, .ref 1] (hX B (sf, nI nx, nI k) lf P G (mc ++ bs)) none (hX B (sf', nI nx, nI k) lf P G (mc ++ bs')) ∧ KP (hX B (sf', nI nx, nI k) lf P G (mc ++ bs')) sf' lf nx k hs sv ∧ ZH (hX B (sf', nI nx, nI k) lf P G (mc ++ bs')) (zO sf' lf) nx A ∧ bs'.length ≤ bs.length + 7 ∧ axSl bs' ≤ axSl bs + 114 := by
  obtain ⟨k1, k2, k3, k4, k5⟩ := hK
  obtain ⟨o, h', hev, z1, z2, z3, hsm, ⟨fs, hfs⟩, -, hl2, hsl⟩ := x4_copyInto (ro := ro) (d := d) (B := B) (i := nx) ⟨rfl, rfl, rfl, rfl, rfl, rfl, rfl⟩ hC hO (by rw [hX_len, List.length_append, hm]; omega) k3 (by omega)
  rw [zO_st k1] at z1 z2 z3
  have hbo : zO sf lf nx = sf nx := if_pos k1
  rw [hbo] at hev
  obtain ⟨bs', e⟩ := hX_to (B := B) (Y := (sf, nI nx, nI k)) (sl := lf) (P := P) (G := G) (mc := mc) (h' := h') (fun k hk => (hsm k (by omega)).trans (by
      show (hX B _ lf P G [] ++ (mc ++ bs))[k]? = _
      rw [List.getElem?_append_left (show k < (hX B (sf, nI nx, _) lf P G []).length from hk)])) (fun k h1 h2 => (hsm k h2).trans (by rw [hX_get h1, List.getElem?_append_left (by omega)])) hm
  subst e
  rw [hX_len, hX_len, List.length_append, List.length_append] at hl2
  have hsl2 := axSl_hX (B := B) (Y := (sf, nI nx, nI k)) (sl := lf) (P := P) (G := G) (mc := mc) (bs := bs) (bs' := bs')
  refine ⟨va_up sf nx (some o), bs', ?_, KP_go (Y := (sf, nI nx, nI k)) (B := B) (sl := lf) (P := P) (G := G) ⟨k1, k2, z1, fun j hj => z3 _ (by omega) (by omega) _ (k4 j hj), fun i hi => ⟨(k5 i hi).1, fun A' hA => z3 _ (by omega) (by omega) _ ((k5 i hi).2 A' hA)⟩⟩, ZH_go (by omega) z1 z2, by omega, by omega⟩
  refine ev_in rfl rfl (Nat.le_of_ble_eq_true rfl) rfl ?_
  refine wp_run rfl ?_
  refine wp_iflt rfl (fun hz_ => absurd hz_ (nI_pos (by omega))) (fun _ => ?_)
  refine wp_run rfl ?_
  refine wp_icge rfl (fun hz_ => absurd hz_ (nI_ge (b := 7) k1 (by omega))) (fun _ => ?_)
  refine wp_run rfl ?_
  refine wp_aald rfl rfl (vp_in_nI k1 (by decide)) (by rw [nI_clamp (by omega)]) ?_
  refine wp_run rfl ?_
  refine wp_s2 rfl (Nat.le_of_ble_eq_true rfl) (hev) ?_
  refine wp_run rfl ?_
  refine wp_aast (h1 := hX B (va_up sf nx (some o), nI nx, nI k) lf P G (mc ++ bs')) rfl rfl hfs (vp_in_nI k1 (by decide)) (by rw [nI_clamp (by omega)]; rfl) ?_
  refine wp_run rfl ?_
  exact wp_retv rfl ⟨rfl, rfl⟩
theorem x1_settle_neg {x : Int32} (hx : x < 0) : axEv ro (d + 1) kX1_settle [.ref 8, .int x] h (some (.int x)) h := by
  refine ev_in rfl rfl (Nat.le_of_ble_eq_true rfl) rfl ?_
  refine wp_run rfl ?_
  refine wp_iflt rfl (fun _ => ?_) (fun hz_ => absurd (hx) hz_)
  refine wp_run rfl ?_
  exact wp_ret rfl rfl ⟨rfl, rfl⟩
theorem x1_settle {n : Nat} (hn : n < 2 ^ 31) (h1 : nx < 7) (h2 : k ≤ 6) : axEv ro (d + 1) kX1_settle [.ref 8, .int (nI n)] (hX B (sf, nI nx, nI k) sl P G tl) (some (.int (nI n))) (hX B (sf, nI ((nx + 1) % 7), nI (min (k + 1) 6)) sl P G tl) := by
  refine ev_in rfl rfl (Nat.le_of_ble_eq_true rfl) rfl ?_
  refine wp_run rfl ?_
  refine wp_iflt rfl (fun hz_ => absurd hz_ (nI_pos hn)) (fun _ => ?_)
  refine wp_run rfl ?_
  generalize hz : (nx + 1) % 7 = z
  have key : axW ro (axEv ro d) cdX1_settle 29 [some (.ref 8), some (.int (nI n))] [.int (nI z), .ref 8] (hX B (sf, nI nx, nI k) sl P G tl) (fun r' h' => r' = some (.int (nI n)) ∧ h' = hX B (sf, nI z, nI (min (k + 1) 6)) sl P G tl) := by
    refine wp_putf (h1 := hX B (sf, nI z, nI k) sl P G tl) rfl rfl (Nat.le_of_ble_eq_true rfl) ⟨rfl, rfl, fun _ hz_ => by cases hz_⟩ rfl ?_
    refine wp_run rfl ?_
    rw [nI_1]
    refine wp_min rfl (Nat.le_of_ble_eq_true rfl) ((nI_min (b := 6) (by omega) (by omega))) ?_
    refine wp_run rfl ?_
    refine wp_putf (h1 := hX B (sf, nI z, nI (min (k + 1) 6)) sl P G tl) rfl rfl (Nat.le_of_ble_eq_true rfl) ⟨rfl, rfl, fun _ hz_ => by cases hz_⟩ rfl ?_
    refine wp_run rfl ?_
    exact wp_ret rfl rfl ⟨rfl, rfl⟩
  rw [nI_1]
  by_cases e : nx + 1 < 7
  · refine wp_icge rfl (fun hz_ => absurd hz_ (nI_ge (b := 7) e (by omega))) (fun _ => ?_)
    refine wp_run rfl ?_
    rw [nI_1, show nx + 1 = z by omega]
    exact key
  · refine wp_icge rfl (fun _ => ?_) (fun hz_ => absurd (nI_le (a := 7) (by omega) (by omega)) hz_)
    refine wp_run rfl ?_
    have hz0 : z = 0 := by omega
    subst hz0
    exact key
theorem KP_settle (hK : KP h sf lf nx k hs sv) (hZ : ZH h (zO sf lf) nx A) : KP h sf lf ((nx + 1) % 7) (min (k + 1) 6) (fun j => if j = 0 then A else hs (j - 1)) sv := by
  obtain ⟨k1, k2, k3, k4, k5⟩ := hK
  refine ⟨by omega, by omega, k3, fun j hj => ?_, k5⟩
  by_cases e : j = 0
  · subst e
    show ZH h (zO sf lf) (((nx + 1) % 7 + 6 - 0) % 7) (if 0 = 0 then A else hs (0 - 1))
    rw [if_pos rfl, show ((nx + 1) % 7 + 6 - 0) % 7 = nx by omega]; exact hZ
  · show ZH h (zO sf lf) (((nx + 1) % 7 + 6 - j) % 7) (if j = 0 then A else hs (j - 1))
    rw [if_neg e, show ((nx + 1) % 7 + 6 - j) % 7 = (nx + 6 - (j - 1)) % 7 by omega]
    exact k4 (j - 1) (by omega)
theorem hX_bd (hm : mc.length = 7) {h' : axH} {B' : axBD} (h1 : HBd h' 1 B') (h2 : ∀ k, k < 1 ∨ 8 ≤ k → h'[k]? = (hX B Y sl P G (mc ++ bs))[k]?) : h' = hX B' Y sl P G (mc ++ bs) := by
  obtain ⟨b0, b1, b2, b3, b4, b5, b6⟩ := h1
  refine List.ext_getElem? fun k => ?_
  by_cases a : k < 8
  · match k, a with
    | 0, _ => exact h2 0 (by omega)
    | 1, _ => exact b0
    | 2, _ => exact b1
    | 3, _ => exact b2
    | 4, _ => exact b3
    | 5, _ => exact b4
    | 6, _ => exact b5
    | 7, _ => exact b6
    | n + 8, a => exact absurd a (by omega)
  · rw [h2 k (by omega)]
    by_cases b : k < 15
    · match k, a, b with
      | 8, _, _ => rfl
      | 9, _, _ => rfl
      | 10, _, _ => rfl
      | 11, _, _ => rfl
      | 12, _, _ => rfl
      | 13, _, _ => rfl
      | 14, _, _ => rfl
      | n + 15, _, b => exact absurd b (by omega)
    · rw [hX_get (by omega), hX_get (by omega)]
/-- the board is taken over from one that is kept -/
theorem x0_take (hm : mc.length = 7) {i : Nat} (hi : i < 9) (hB : ZB (hX B Y sl P G (mc ++ bs)) (zO sf lf)) (hZ : ZH (hX B Y sl P G (mc ++ bs)) (zO sf lf) i A) : ∃ o B', zO sf lf i = some o ∧ axEv ro (d + 1) kX0_takeOver [.ref 1, .ref o] (hX B Y sl P G (mc ++ bs)) none (hX B' Y sl P G (mc ++ bs)) ∧ CR B' A ∧ aOk A := by
  obtain ⟨o, C, a, b, c, e⟩ := hZ
  have ho := (hB.1 i hi o a).1
  obtain ⟨h', hev, hH, hsm, -, -⟩ := x0_takeOver (ro := ro) (d := d) (o := 1) (q := o) (C := B) b ⟨rfl, rfl, rfl, rfl, rfl, rfl, rfl⟩ (by omega)
  have := hX_bd hm hH hsm
  subst this
  exact ⟨o, bCp C B, a, hev, cr_cp e c, e⟩
theorem x1_takeBack_no (h1 : nx < 7) (h2 : k = 0) : axEv ro (d + 2) kX1_takeBack [.ref 8, .ref 1] (hX B (sf, nI nx, nI k) sl P G tl) (some (.int (-5))) (hX B (sf, nI nx, nI k) sl P G tl) := by
  subst h2
  refine ev_in rfl rfl (Nat.le_of_ble_eq_true rfl) rfl ?_
  refine wp_run rfl ?_
  by_cases e : nx = 0
  · subst e
    refine wp_ifle rfl (fun _ => ?_) (fun hz_ => absurd ((by decide : (nI 0) ≤ 0)) hz_)
    refine wp_run rfl ?_
    refine wp_ifle rfl (fun _ => ?_) (fun hz_ => absurd ((by decide : (nI 0) ≤ 0)) hz_)
    refine wp_run rfl ?_
    exact wp_ret rfl rfl ⟨rfl, rfl⟩
  · refine wp_ifle rfl (fun hz_ => absurd hz_ (nI_nle (by omega) (by omega))) (fun _ => ?_)
    refine wp_run rfl ?_
    refine wp_ifle rfl (fun _ => ?_) (fun hz_ => absurd ((by decide : (nI 0) ≤ 0)) hz_)
    refine wp_run rfl ?_
    exact wp_ret rfl rfl ⟨rfl, rfl⟩
theorem x1_takeBack (hm : mc.length = 7) (h2 : 0 < k) (hK : KP (hX B (sf, nI nx, nI k) lf P G (mc ++ bs)) sf lf nx k hs sv) : ∃ B', axEv ro (d + 2) kX1_takeBack [.ref 8, .ref 1] (hX B (sf, nI nx, nI k) lf P G (mc ++ bs)) (some (.int (nI (k - 1)))) (hX B' (sf, nI ((nx + 6) % 7), nI (k - 1)) lf P G (mc ++ bs)) ∧ CR B' (hs 0) ∧ aOk (hs 0) ∧ KP (hX B' (sf, nI ((nx + 6) % 7), nI (k - 1)) lf P G (mc ++ bs)) sf lf ((nx + 6) % 7) (k - 1) (fun j => hs (j + 1)) sv := by
  obtain ⟨k1, k2, k3, k4, k5⟩ := hK
  obtain ⟨o, B', ho, hev, hC, hO⟩ := x0_take (ro := ro) (d := d) hm (by omega) k3 (k4 0 h2)
  rw [show (nx + 6 - 0) % 7 = (nx + 6) % 7 by omega] at ho
  have hlt : (nx + 6) % 7 < 7 := by omega
  have ho : sf ((nx + 6) % 7) = some o := by rw [← ho]; unfold zO; rw [if_pos hlt]
  refine ⟨B', ?_, hC, hO, KP_go (B := B) (Y := (sf, nI nx, nI k)) (sl := lf) (P := P) (G := G) ⟨by omega, by omega, k3, fun j hj => ?_, k5⟩⟩
  · have key : axW ro (axEv ro (d + 1)) cdX1_takeBack 23 [some (.ref 8), some (.ref 1), none, none] [.int (nI ((nx + 6) % 7))] (hX B (sf, nI nx, nI k) lf P G (mc ++ bs)) (fun r' h' => r' = some (.int (nI (k - 1))) ∧ h' = hX B' (sf, nI ((nx + 6) % 7), nI (k - 1)) lf P G (mc ++ bs)) := by
      refine wp_run rfl ?_
      refine wp_ifle rfl (fun hz_ => absurd hz_ (nI_nle (by omega) (by omega))) (fun _ => ?_)
      refine wp_run rfl ?_
      refine wp_iclt rfl (fun _ => ?_) (fun hz_ => absurd (nI_lt (b := 7) hlt (by omega)) hz_)
      refine wp_run rfl ?_
      refine wp_aald (v := .ref o) rfl rfl (vp_in_nI hlt (by decide)) (by rw [nI_clamp (by omega)]; exact congrArg va_rf ho) ?_
      refine wp_run rfl ?_
      refine wp_nn rfl ?_
      refine wp_run rfl ?_
      refine wp_v1v rfl rfl (Nat.le_of_ble_eq_true rfl) (hev) ?_
      refine wp_run rfl ?_
      refine wp_putf (h1 := hX B' (sf, nI ((nx + 6) % 7), nI k) lf P G (mc ++ bs)) rfl rfl (Nat.le_of_ble_eq_true rfl) ⟨rfl, rfl, fun _ hz_ => by cases hz_⟩ rfl ?_
      refine wp_run rfl ?_
      rw [nI_p1 h2]
      refine wp_putf (h1 := hX B' (sf, nI ((nx + 6) % 7), nI (k - 1)) lf P G (mc ++ bs)) rfl rfl (Nat.le_of_ble_eq_true rfl) ⟨rfl, rfl, fun _ hz_ => by cases hz_⟩ rfl ?_
      refine wp_run rfl ?_
      exact wp_ret rfl rfl ⟨rfl, rfl⟩
    refine ev_in rfl rfl (Nat.le_of_ble_eq_true rfl) rfl ?_
    refine wp_run rfl ?_
    by_cases e : nx = 0
    · subst e
      refine wp_ifle rfl (fun _ => ?_) (fun hz_ => absurd ((by decide : (nI 0) ≤ 0)) hz_)
      refine wp_runk 5 rfl ?_
      exact key
    · refine wp_ifle rfl (fun hz_ => absurd hz_ (nI_nle (by omega) (by omega))) (fun _ => ?_)
      refine wp_runk 5 rfl ?_
      rw [nI_p1 (by omega), show nx - 1 = (nx + 6) % 7 by omega]
      exact key
  · have := k4 (j + 1) (by omega)
    rw [show ((nx + 6) % 7 + 6 - j) % 7 = (nx + 6 - (j + 1)) % 7 by omega]
    exact this
theorem x1_size : axEv ro (d + 1) kX1_size [.ref 8] (hX B Y sl P G tl) (some (.int Y.2.2)) (hX B Y sl P G tl) := by
  refine ev_in rfl rfl (Nat.le_of_ble_eq_true rfl) rfl ?_
  refine wp_run rfl ?_
  exact wp_ret rfl rfl ⟨rfl, rfl⟩
end AX31
end
section
/-! THE CLASS: the best swap. -/
def exG (g : Nat → Int32) (p q : Nat) : Nat → Int32 := upd (upd g p (g q)) q (g p)
theorem exG_exG (g : Nat → Int32) {p q : Nat} (h : p ≠ q) : exG (exG g p q) p q = g := by
  funext i
  unfold exG
  rw [upd_up, upd_up, upd_up, upd_up, upd_up, upd_up, upd_up, upd_up]
  by_cases e : i = q
  · rw [if_pos e, if_neg h, if_pos rfl, e]
  · rw [if_neg e]
    by_cases e2 : i = p
    · rw [if_pos e2, if_pos rfl, e2]
    · rw [if_neg e2, if_neg e, if_neg e2]
theorem aHi_gt {A : axAD} (hO : aOk A) {i : Nat} (hi : i < aN A) : i < aHi A i := by
  by_cases e : aHi A i ≤ i
  · have hlt : aHi A i < aN A := by omega
    have := aFst_yes (fun p => bt (aD A (aR A p)) (aR A i)) (aN A) hlt
    obtain ⟨j, hj, e2⟩ := hO.d hlt this
    have := hO.inj (show j < aN A by omega) hi e2
    have : j < aHi A i := hj
    omega
  · omega
theorem aHi_le (A : axAD) (i : Nat) : aHi A i ≤ aN A := aFst_le _ _
theorem aLo_le {A : axAD} (hO : aOk A) {i : Nat} (hi : i < aN A) : aLo A i ≤ i := by
  have key : ∀ n, n ≤ aN A → aLoF A (aD A (aR A i)) n ≤ i := by
    intro n
    induction n with
    | zero => intro _; exact Nat.zero_le _
    | succ n ih =>
      intro hn
      rw [aLoF]
      split
      · rename_i hb
        obtain ⟨j, hj, e⟩ := hO.d hi hb
        have := hO.inj (show j < aN A by omega) (show n < aN A by omega) e
        omega
      · exact ih (by omega)
  exact key _ (Nat.le_refl _)
theorem aAll_le {A : axAD} (hn : aN A ≤ 24) (hb : ∀ i, i < aN A → aB A (aR A i) ≤ 99) (ht : ∀ a, a < 6 → aTg A a ≤ 999) : aAll A ≤ 70000 := by
  obtain ⟨h1, h2, h3⟩ := aFo_le hn hb ht _ (Nat.le_refl _)
  have h5 : aTgt A (aFo A (aN A)).2.1 ≤ 999 := ht (min (aFo A (aN A)).2.1 5) (by omega)
  unfold aAll
  generalize aFo A (aN A) = q at *
  generalize aTgt A q.2.1 = t at *
  have : aN A * 2400 ≤ 24 * 2400 := Nat.mul_le_mul_right _ hn
  have : aN A * 99 ≤ 24 * 99 := Nat.mul_le_mul_right _ hn
  split <;> omega
theorem aAll_lt {A : axAD} (hO : aOk A) : aAll A ≤ 70000 := aAll_le hO.n (fun i hi => by have := hO.b hi; omega) (fun a ha => (hO.tg ha).2)
theorem aSwp_is {A : axAD} {p q i : Nat} (hp : p < aN A) (hq : q < aN A) (hi : i < aN A) : ∃ j, j < aN A ∧ aR (aSwp A p q) i = aR A j := by
  show ∃ j, j < aN A ∧ (if i = p then aR A q else if i = q then aR A p else aR A i) = aR A j
  by_cases e : i = p
  · exact ⟨q, hq, by rw [if_pos e]⟩
  · by_cases e2 : i = q
    · exact ⟨p, hp, by rw [if_neg e, if_pos e2]⟩
    · exact ⟨i, hi, by rw [if_neg e, if_neg e2]⟩
theorem aSwp_all {A : axAD} (hO : aOk A) {p q : Nat} (hp : p < aN A) (hq : q < aN A) : aAll (aSwp A p q) ≤ 70000 := by
  refine aAll_le hO.n (fun i hi => ?_) (fun a ha => (hO.tg ha).2)
  obtain ⟨j, hj, e⟩ := aSwp_is hp hq hi
  rw [e]
  have := hO.b hj
  exact Nat.le_trans this.2.1 this.2.2
/-- lower, higher place, how far off: of the best swap so far -/
abbrev axBS : Type := Nat × Nat × Nat
def aBst (A : axAD) (p q : Nat) (s : axBS) : axBS := if ((aLo A p ≤ q ∧ q < aHi A p) ∧ (aLo A q ≤ p ∧ p < aHi A q)) ∧ aAll (aSwp A p q) < s.2.2 then (p, q, aAll (aSwp A p q)) else s
def aBr (A : axAD) (p : Nat) : Nat → axBS → axBS
  | 0, s => s
  | m + 1, s => if p < m then aBst A p m (aBr A p m s) else aBr A p m s
def aBS (A : axAD) : Nat → axBS
  | 0 => (0, 0, aAll A)
  | p + 1 => aBr A p (aN A) (aBS A p)
theorem aBr_lo (A : axAD) {p : Nat} (s : axBS) : ∀ m, m ≤ p + 1 → aBr A p m s = s
  | 0, _ => rfl
  | m + 1, h => by rw [aBr, if_neg (by omega)]; exact aBr_lo A s m (by omega)
theorem aBr_hi (A : axAD) {p : Nat} (s : axBS) : ∀ m, aHi A p ≤ m → aBr A p m s = aBr A p (aHi A p) s := by
  intro m hm
  induction m with
  | zero => rw [show aHi A p = 0 by omega]
  | succ m ih =>
    by_cases e : aHi A p = m + 1
    · rw [e]
    · rw [aBr, ih (by omega)]
      split
      · unfold aBst; rw [if_neg (fun z => by have := z.1.1.2; omega)]
      · rfl
theorem aBst_le {A : axAD} {p q : Nat} {s : axBS} (hs : s.2.2 ≤ 70000) : (aBst A p q s).2.2 ≤ 70000 := by
  unfold aBst; split
  · rename_i h; have := h.2; show aAll (aSwp A p q) ≤ _; omega
  · exact hs
section AX32
variable {ro : axRo} {d : Nat} {h h1 : axH} {B : axBD} {Y : axYD} {sl : Nat → Option Nat} {P : axPD} {G : axGD} {tl : axH} {A : axAD} {g : Nat → Int32} {lo hi le : Int32}
theorem x3_exchange {p q : Nat} (hp : p < 24) (hq : q < 24) : axEv ro (d + 2) kX3_exchange [.ref 13, .int (nI p), .int (nI q)] ((hX B Y sl P ((g, lo, hi, le)) tl)) none ((hX B Y sl P ((exG g p q, lo, hi, le)) tl)) := by
  refine ev_in rfl rfl (Nat.le_of_ble_eq_true rfl) rfl ?_
  refine wp_run rfl ?_
  refine wp_s2 rfl (Nat.le_of_ble_eq_true rfl) (x4_cell rfl hp (by decide)) ?_
  refine wp_run rfl ?_
  refine wp_s2 rfl (Nat.le_of_ble_eq_true rfl) (x4_cell rfl hq (by decide)) ?_
  refine wp_run rfl ?_
  refine wp_s3v rfl (Nat.le_of_ble_eq_true rfl) (x4_store (h1 := (hX B Y sl P ((upd g p (g q), lo, hi, le)) tl)) rfl hp (by decide) rfl) ?_
  refine wp_run rfl ?_
  refine wp_s3v rfl (Nat.le_of_ble_eq_true rfl) (x4_store (h1 := (hX B Y sl P ((exG g p q, lo, hi, le)) tl)) rfl hq (by decide) rfl) ?_
  refine wp_run rfl ?_
  exact wp_retv rfl ⟨rfl, rfl⟩
/-- the search's numbers -/
def gOf (g : Nat → Int32) (s : axBS) : axGD := (g, nI s.1, nI s.2.1, nI s.2.2)
theorem x3_tryOne (hO : aOk A) (hC : CR B A) (hg : ∀ i, i < aN A → g i = nI (aR A i)) {p q : Nat} (hpq : p < q) (hq : q < aN A) (hm : aMay A p q) {s : axBS} (hs : s.2.2 ≤ 70000) : axEv ro (d + 4) kX3_tryOne [.ref 13, .ref 1, .int (nI p), .int (nI q)] ((hX B Y sl P (gOf g s) tl)) none ((hX B Y sl P (gOf g (aBst A p q s)) tl)) := by
  have hn := hO.n
  have hp : p < aN A := by omega
  have hall := aSwp_all hO hp hq
  have hex : ∀ i, i < aN A → exG g p q i = nI (aR (aSwp A p q) i) := fun i hi => by
    show upd (upd g p (g q)) q (g p) i = nI (if i = p then aR A q else if i = q then aR A p else aR A i)
    rw [upd_up, upd_up]
    by_cases e : i = q
    · rw [if_pos e, if_neg (by omega), if_pos e, hg p hp]
    · rw [if_neg e, if_neg e]
      by_cases e2 : i = p
      · rw [if_pos e2, if_pos e2, hg q hq]
      · rw [if_neg e2, if_neg e2, hg i hi]
  have hts : ∀ i, i < aN A → bt (bTn B) (aR (aSwp A p q) i) = aT (aSwp A p q) (aR (aSwp A p q) i) := fun i hi => by
    obtain ⟨j, hj, e⟩ := aSwp_is hp hq hi
    rw [e]; exact cr_tnr hC hj
  have hoff := x0_offOfRow (ro := ro) (d := d) (Y := Y) (sl := sl) (P := P) (G := (exG g p q, nI s.1, nI s.2.1, nI s.2.2)) (tl := tl) (A' := aSwp A p q) (rr := 14) (ord := exG g p q) (ts := bTn B) hO hC rfl rfl rfl rfl (fun i hi => aSwp_is hp hq hi) hex hts
  refine ev_in rfl rfl (Nat.le_of_ble_eq_true rfl) rfl ?_
  refine wp_run rfl ?_
  refine wp_v2v rfl rfl (Nat.le_of_ble_eq_true rfl) (x3_exchange (by omega) (by omega)) ?_
  refine wp_run rfl ?_
  refine wp_v0 rfl rfl (Nat.le_of_ble_eq_true rfl) (x0_allTurns) ?_
  refine wp_run rfl ?_
  refine wp_v2 rfl rfl (Nat.le_of_ble_eq_true rfl) (hoff) ?_
  refine wp_run rfl ?_
  refine wp_v2v rfl rfl (Nat.le_of_ble_eq_true rfl) (x3_exchange (by omega) (by omega)) ?_
  refine wp_run rfl ?_
  rw [exG_exG g (by omega)]
  by_cases e : aAll (aSwp A p q) < s.2.2
  · have hb : aBst A p q s = (p, q, aAll (aSwp A p q)) := by unfold aBst; rw [if_pos ⟨hm, e⟩]
    rw [hb]
    refine wp_icge rfl (fun hz_ => absurd hz_ (nI_ge e (by omega))) (fun _ => ?_)
    refine wp_run rfl ?_
    refine wp_putf (h1 := (hX B Y sl P ((g, nI s.1, nI s.2.1, nI (aAll (aSwp A p q)))) tl)) rfl rfl (Nat.le_of_ble_eq_true rfl) ⟨rfl, rfl, fun _ hz_ => by cases hz_⟩ rfl ?_
    refine wp_run rfl ?_
    refine wp_putf (h1 := (hX B Y sl P ((g, nI p, nI s.2.1, nI (aAll (aSwp A p q)))) tl)) rfl rfl (Nat.le_of_ble_eq_true rfl) ⟨rfl, rfl, fun _ hz_ => by cases hz_⟩ rfl ?_
    refine wp_run rfl ?_
    refine wp_putf (h1 := (hX B Y sl P ((g, nI p, nI q, nI (aAll (aSwp A p q)))) tl)) rfl rfl (Nat.le_of_ble_eq_true rfl) ⟨rfl, rfl, fun _ hz_ => by cases hz_⟩ rfl ?_
    refine wp_run rfl ?_
    exact wp_retv rfl ⟨rfl, rfl⟩
  · have hb : aBst A p q s = s := by unfold aBst; rw [if_neg (fun z => e z.2)]
    rw [hb]
    refine wp_icge rfl (fun _ => ?_) (fun hz_ => absurd (nI_le (show s.2.2 ≤ aAll (aSwp A p q) by omega) (by omega)) hz_)
    refine wp_run rfl ?_
    exact wp_retv rfl ⟨rfl, rfl⟩
theorem aBr_le {A : axAD} {p : Nat} {s : axBS} (hs : s.2.2 ≤ 70000) : ∀ m, (aBr A p m s).2.2 ≤ 70000
  | 0 => hs
  | m + 1 => by
    rw [aBr]; split
    · exact aBst_le (aBr_le hs m)
    · exact aBr_le hs m
theorem aBS_le {A : axAD} (hO : aOk A) : ∀ p, (aBS A p).2.2 ≤ 70000
  | 0 => aAll_lt hO
  | p + 1 => aBr_le (aBS_le hO p) _
theorem x3_tryAllBehind (hO : aOk A) (hC : CR B A) (hg : ∀ i, i < aN A → g i = nI (aR A i)) {p : Nat} (hp : p < aN A) {s : axBS} (hs : s.2.2 ≤ 70000) : axEv ro (d + 5) kX3_tryAllBehind [.ref 13, .ref 1, .int (nI p)] ((hX B Y sl P (gOf g s) tl)) none ((hX B Y sl P (gOf g (aBr A p (aN A) s)) tl)) := by
  have hn := hO.n
  have hgt := aHi_gt hO hp
  have hle := aHi_le A p
  rw [aBr_hi A s (aN A) hle]
  have loop : ∀ m q, q + m = aHi A p → p < q → axW ro (axEv ro (d + 4)) cdX3_tryAllBehind 18 [some (.ref 13), some (.ref 1), some (.int (nI p)), some (.int (nI (aHi A p - 1))), some (.int (nI q))] [.int (nI (aHi A p - 1)), .int (nI q)] ((hX B Y sl P (gOf g (aBr A p q s)) tl)) (fun r' h' => r' = none ∧ h' = ((hX B Y sl P (gOf g (aBr A p (aHi A p) s)) tl))) := by
    intro m
    induction m with
    | zero =>
      intro q e _
      have e : q = aHi A p := by omega
      refine wp_icgt rfl (fun _ => ?_) (fun hz_ => absurd (nI_lt (show aHi A p - 1 < q by omega) (by omega)) hz_)
      refine wp_run rfl ?_
      rw [e]
      exact wp_retv rfl ⟨rfl, rfl⟩
    | succ m ih =>
      intro q e hpq
      have hq : q < aN A := by omega
      have ih := ih (q + 1) (by omega) (by omega)
      rw [aBr, if_pos hpq] at ih
      refine wp_icgt rfl (fun hz_ => absurd hz_ (nI_nlt (show q ≤ aHi A p - 1 by omega) (by omega))) (fun _ => ?_)
      refine wp_run rfl ?_
      refine wp_v1 rfl rfl (Nat.le_of_ble_eq_true rfl) (x0_slugIn_in hO hC hq) ?_
      refine wp_run rfl ?_
      refine wp_v1 rfl rfl (Nat.le_of_ble_eq_true rfl) (x0_lowestPlace hO hC hq) ?_
      refine wp_run rfl ?_
      by_cases e2 : aLo A q ≤ p
      · have hm : aMay A p q := ⟨⟨by have := aLo_le hO hp; omega, by omega⟩, e2, by have := aHi_gt hO hq; omega⟩
        refine wp_icgt rfl (fun hz_ => absurd hz_ (nI_nlt e2 (by omega))) (fun _ => ?_)
        refine wp_run rfl ?_
        refine wp_v3v rfl rfl (Nat.le_of_ble_eq_true rfl) (x3_tryOne hO hC hg hpq hq hm (aBr_le hs q)) ?_
        refine wp_run rfl ?_
        rw [nI_1]
        exact ih
      · rw [show aBst A p q (aBr A p q s) = aBr A p q s by unfold aBst; rw [if_neg (fun z => e2 z.1.2.1)]] at ih
        have := aLo_le hO hq
        refine wp_icgt rfl (fun _ => ?_) (fun hz_ => absurd (nI_lt (show p < aLo A q by omega) (by omega)) hz_)
        refine wp_run rfl ?_
        rw [nI_1]
        exact ih
  have h0 := loop (aHi A p - (p + 1)) (p + 1) (by omega) (by omega)
  rw [aBr_lo A s (p + 1) (Nat.le_refl _)] at h0
  refine ev_in rfl rfl (Nat.le_of_ble_eq_true rfl) rfl ?_
  refine wp_run rfl ?_
  refine wp_v1 rfl rfl (Nat.le_of_ble_eq_true rfl) (x0_slugIn_in hO hC hp) ?_
  refine wp_run rfl ?_
  refine wp_v1 rfl rfl (Nat.le_of_ble_eq_true rfl) (x0_highestPlace hO hC hp) ?_
  refine wp_run rfl ?_
  rw [nI_1]
  exact h0
theorem x3_run (hO : aOk A) (hC : CR B A) : ∃ g', axEv ro (d + 6) kX3_run [.ref 13, .ref 1] (hX B Y sl P G tl) none ((hX B Y sl P (gOf g' (aBS A (aN A))) tl)) := by
  have hn := hO.n
  have loop2 : ∀ g : Nat → Int32, (∀ i, i < aN A → g i = nI (aR A i)) → ∀ m p, p + m = aN A → axW ro (axEv ro (d + 5)) cdX3_run 53 [some (.ref 13), some (.ref 1), some (.int (nI (aN A))), some (.int (nI p))] [.int (nI (aN A)), .int (nI p)] ((hX B Y sl P (gOf g (aBS A p)) tl)) (fun r' h' => r' = none ∧ h' = ((hX B Y sl P (gOf g (aBS A (aN A))) tl))) := by
    intro g hg m
    induction m with
    | zero =>
      intro p e
      have e : p = aN A := by omega
      refine wp_icge rfl (fun _ => ?_) (fun hz_ => absurd (nI_le (show aN A ≤ p by omega) (by omega)) hz_)
      refine wp_run rfl ?_
      rw [e]
      exact wp_retv rfl ⟨rfl, rfl⟩
    | succ m ih =>
      intro p e
      refine wp_icge rfl (fun hz_ => absurd hz_ (nI_ge (show p < aN A by omega) (by omega))) (fun _ => ?_)
      refine wp_run rfl ?_
      refine wp_v2v rfl rfl (Nat.le_of_ble_eq_true rfl) (x3_tryAllBehind hO hC hg (by omega) (aBS_le hO p)) ?_
      refine wp_run rfl ?_
      rw [nI_1]
      exact ih (p + 1) (by omega)
  have loop1 : ∀ m p, p + m = aN A → ∀ g : Nat → Int32, (∀ i, i < p → g i = nI (aR A i)) → ∃ g', axW ro (axEv ro (d + 5)) cdX3_run 27 [some (.ref 13), some (.ref 1), some (.int (nI (aN A))), some (.int (nI p))] [.int (nI (aN A)), .int (nI p)] ((hX B Y sl P (gOf g (aBS A 0)) tl)) (fun r' h' => r' = none ∧ h' = ((hX B Y sl P (gOf g' (aBS A (aN A))) tl))) := by
    intro m
    induction m with
    | zero =>
      intro p e g hg
      have e : p = aN A := by omega
      refine ⟨g, ?_⟩
      refine wp_icge rfl (fun _ => ?_) (fun hz_ => absurd (nI_le (show aN A ≤ p by omega) (by omega)) hz_)
      refine wp_run rfl ?_
      exact loop2 g (fun i hi => hg i (by omega)) (aN A) 0 (by omega)
    | succ m ih =>
      intro p e g hg
      obtain ⟨g', ih⟩ := ih (p + 1) (by omega) (upd g p (nI (aR A p))) (fun i hi => by
        rw [upd_up]
        by_cases e : i = p
        · rw [if_pos e, e]
        · rw [if_neg e]; exact hg i (by omega))
      refine ⟨g', ?_⟩
      refine wp_icge rfl (fun hz_ => absurd hz_ (nI_ge (show p < aN A by omega) (by omega))) (fun _ => ?_)
      refine wp_run rfl ?_
      refine wp_v1 rfl rfl (Nat.le_of_ble_eq_true rfl) (x0_slugIn_in hO hC (show p < aN A by omega)) ?_
      refine wp_run rfl ?_
      refine wp_s3v rfl (Nat.le_of_ble_eq_true rfl) (x4_store (h1 := (hX B Y sl P (gOf (upd g p (nI (aR A p))) (aBS A 0)) tl)) rfl (show p < 24 by omega) (by decide) rfl) ?_
      refine wp_run rfl ?_
      rw [nI_1]
      exact ih
  obtain ⟨g', hw⟩ := loop1 (aN A) 0 (by omega) G.1 (fun i hi => absurd hi (by omega))
  refine ⟨g', ?_⟩
  refine ev_in rfl rfl (Nat.le_of_ble_eq_true rfl) rfl ?_
  refine wp_run rfl ?_
  refine wp_putf (h1 := (hX B Y sl P ((G.1, 0, G.2.2.1, G.2.2.2)) tl)) rfl rfl (Nat.le_of_ble_eq_true rfl) ⟨rfl, rfl, fun _ hz_ => by cases hz_⟩ rfl ?_
  refine wp_run rfl ?_
  refine wp_putf (h1 := (hX B Y sl P ((G.1, 0, 0, G.2.2.2)) tl)) rfl rfl (Nat.le_of_ble_eq_true rfl) ⟨rfl, rfl, fun _ hz_ => by cases hz_⟩ rfl ?_
  refine wp_run rfl ?_
  refine wp_v0 rfl rfl (Nat.le_of_ble_eq_true rfl) (x0_offTogether hO hC) ?_
  refine wp_run rfl ?_
  refine wp_putf (h1 := (hX B Y sl P (gOf G.1 (aBS A 0)) tl)) rfl rfl (Nat.le_of_ble_eq_true rfl) ⟨rfl, rfl, fun _ hz_ => by cases hz_⟩ rfl ?_
  refine wp_run rfl ?_
  refine wp_v0 rfl rfl (Nat.le_of_ble_eq_true rfl) (x0_size hC) ?_
  refine wp_run rfl ?_
  exact hw
end AX32
end
section
/-! THE CLASS: the pad's text is read. -/
/-- the pad holds the text t of pl characters -/
def PT (f : Nat → Int32) (t : Nat → Nat) (pl : Nat) : Prop := pl ≤ 80 ∧ ∀ i, i < pl → f i = nI (t i) ∧ 33 ≤ t i ∧ t i ≤ 126
def sgA (t : Nat → Nat) (pl c : Nat) : Nat := if c < pl then t c else 0
def dgA (t : Nat → Nat) (pl c : Nat) : Bool := decide (48 ≤ sgA t pl c ∧ sgA t pl c ≤ 57)
/-- a number at c: its value, and where it ends -/
def rdV (t : Nat → Nat) (pl c : Nat) : Nat := if sgA t pl c = 48 then 0 else if dgA t pl (c + 1) = true then 10 * (sgA t pl c - 48) + (sgA t pl (c + 1) - 48) else sgA t pl c - 48
def rdC (t : Nat → Nat) (pl c : Nat) : Nat := if sgA t pl c = 48 then c + 1 else if dgA t pl (c + 1) = true then c + 2 else c + 1
/-- an order at c: is it one, where it ends or is at fault, its two numbers -/
abbrev axRD : Type := Bool × Nat × Nat × Nat
def rdS (t : Nat → Nat) (pl c : Nat) : axRD := if dgA t pl (c + 1) = true then (if sgA t pl (rdC t pl (c + 1)) = 33 then (true, rdC t pl (c + 1) + 1, rdV t pl (c + 1), 1) else (true, rdC t pl (c + 1), rdV t pl (c + 1), 0)) else (false, c + 1, 0, 0)
def rdP (t : Nat → Nat) (pl x c : Nat) : axRD := if dgA t pl (c + 1) = true then (if sgA t pl (rdC t pl (c + 1)) = x then (if dgA t pl (rdC t pl (c + 1) + 1) = true then (true, rdC t pl (rdC t pl (c + 1) + 1), rdV t pl (c + 1), rdV t pl (rdC t pl (c + 1) + 1)) else (false, rdC t pl (c + 1) + 1, 0, 0)) else (false, rdC t pl (c + 1), 0, 0)) else (false, c + 1, 0, 0)
def rdF (t : Nat → Nat) (pl c : Nat) : axRD := if dgA t pl (c + 1) = true then (true, c + 2, sgA t pl (c + 1) - 48, 0) else (false, c + 1, 0, 0)
def rdO (t : Nat → Nat) (pl c : Nat) : axRD :=
  if sgA t pl c = 115 then rdS t pl c else if sgA t pl c = 110 then rdP t pl 62 c else if sgA t pl c = 109 then rdP t pl 64 c else
  if sgA t pl c = 120 then rdP t pl 126 c else if sgA t pl c = 116 then rdP t pl 45 c else if sgA t pl c = 102 then rdF t pl c else (false, c, 0, 0)
theorem nar_c : ∀ n, n < 128 → (nI n).toUInt32.toUInt16.toUInt32.toInt32 = nI n := by decide +kernel
theorem nI_mul (a b : Nat) : nI a * nI b = nI (a * b) := (Int32.ofNat_mul a b).symm
theorem sgA_lt {f : Nat → Int32} {t : Nat → Nat} {pl : Nat} (hT : PT f t pl) (c : Nat) : sgA t pl c ≤ 126 := by
  unfold sgA; split
  · rename_i h; exact (hT.2 c h).2.2
  · omega
theorem sgA_in {t : Nat → Nat} {pl c : Nat} (h : sgA t pl c ≠ 0) : c < pl := by
  unfold sgA at h; split at h
  · assumption
  · exact absurd rfl h
theorem dgA_in {t : Nat → Nat} {pl c : Nat} (h : dgA t pl c = true) : c < pl ∧ 48 ≤ sgA t pl c ∧ sgA t pl c ≤ 57 := by
  have := of_decide_eq_true h
  exact ⟨sgA_in (show sgA t pl c ≠ 0 by omega), this⟩
theorem rdC_le {t : Nat → Nat} {pl c : Nat} (h : dgA t pl c = true) : rdC t pl c ≤ pl ∧ c < rdC t pl c := by
  have h1 := dgA_in h
  unfold rdC; split
  · omega
  · split
    · rename_i h2; have := dgA_in h2; omega
    · omega
theorem rdV_le {t : Nat → Nat} {pl c : Nat} (h : dgA t pl c = true) : rdV t pl c ≤ 99 := by
  have h1 := dgA_in h
  unfold rdV; split
  · omega
  · split
    · rename_i h2; have := dgA_in h2; omega
    · omega
section AX33
variable {ro : axRo} {d : Nat} {h h1 : axH} {B : axBD} {Y : axYD} {sl : Nat → Option Nat} {P : axPD} {G : axGD} {tl : axH} {A : axAD} {f : Nat → Int32} {t : Nat → Nat} {pl c : Nat} {cu la ki fi se : Int32}
theorem x2_signAt (hT : PT f t pl) (hc : c ≤ 100) : axEv ro (d + 1) kX2_signAt [.ref 11, .int (nI c)] ((hX B Y sl (f, nI pl, cu, la, ki, fi, se) G tl)) (some (.int (nI (sgA t pl c)))) ((hX B Y sl (f, nI pl, cu, la, ki, fi, se) G tl)) := by
  have hl := hT.1
  have hs := sgA_lt hT c
  refine ev_in rfl rfl (Nat.le_of_ble_eq_true rfl) rfl ?_
  refine wp_run rfl ?_
  refine wp_iflt rfl (fun hz_ => absurd hz_ (nI_pos (by omega))) (fun _ => ?_)
  refine wp_run rfl ?_
  by_cases e : c < pl
  · have hfc : f c = nI (sgA t pl c) := by unfold sgA; rw [if_pos e]; exact (hT.2 c e).1
    refine wp_icge rfl (fun hz_ => absurd hz_ (nI_ge e (by omega))) (fun _ => ?_)
    refine wp_run rfl ?_
    refine wp_icge rfl (fun hz_ => absurd hz_ (nI_ge (b := 80) (by omega) (by omega))) (fun _ => ?_)
    refine wp_run rfl ?_
    refine wp_ald rfl rfl (vp_in_nI ((show c < 80 by omega)) (by decide)) (by rw [nI_clamp (by omega)]) ?_
    refine wp_run rfl ?_
    rw [show (f, nI pl, cu, la, ki, fi, se).1 c = nI (sgA t pl c) from hfc]
    refine wp_ret rfl ?_ ⟨rfl, rfl⟩
    exact congrArg Value.int (nar_c _ (by omega))
  · refine wp_icge rfl (fun _ => ?_) (fun hz_ => absurd (nI_le (show pl ≤ c by omega) (by omega)) hz_)
    refine wp_run rfl ?_
    have e2 : sgA t pl c = 0 := by unfold sgA; rw [if_neg e]
    rw [e2]
    exact wp_ret rfl rfl ⟨rfl, rfl⟩
theorem x2_readDigit_no (hT : PT f t pl) (hc : c ≤ 100) (hd : dgA t pl c = false) : axEv ro (d + 2) kX2_readDigit [.ref 11] ((hX B Y sl (f, nI pl, nI c, la, ki, fi, se) G tl)) (some (.int (-6))) ((hX B Y sl (f, nI pl, nI c, la, ki, fi, se) G tl)) := by
  have hs := sgA_lt hT c
  have hd := of_decide_eq_false hd
  have e1 := x2_signAt (ro := ro) (d := d) (B := B) (Y := Y) (sl := sl) (G := G) (tl := tl) (cu := nI c) (la := la) (ki := ki) (fi := fi) (se := se) hT hc
  generalize sgA t pl c = x at *
  refine ev_in rfl rfl (Nat.le_of_ble_eq_true rfl) rfl ?_
  refine wp_run rfl ?_
  refine wp_v1 rfl rfl (Nat.le_of_ble_eq_true rfl) (e1) ?_
  refine wp_run rfl ?_
  by_cases e : x < 48
  · refine wp_iclt rfl (fun _ => ?_) (fun hz_ => absurd (nI_lt (b := 48) e (by omega)) hz_)
    refine wp_run rfl ?_
    exact wp_ret rfl rfl ⟨rfl, rfl⟩
  · refine wp_iclt rfl (fun hz_ => absurd hz_ (nI_nlt (b := 48) (by omega) (by omega))) (fun _ => ?_)
    refine wp_run rfl ?_
    refine wp_icle rfl (fun hz_ => absurd hz_ (nI_ge (a := 57) (by omega) (by omega))) (fun _ => ?_)
    refine wp_run rfl ?_
    exact wp_ret rfl rfl ⟨rfl, rfl⟩
theorem x2_readDigit (hT : PT f t pl) (hd : dgA t pl c = true) : axEv ro (d + 2) kX2_readDigit [.ref 11] ((hX B Y sl (f, nI pl, nI c, la, ki, fi, se) G tl)) (some (.int (nI (sgA t pl c - 48)))) ((hX B Y sl (f, nI pl, nI (c + 1), la, ki, fi, se) G tl)) := by
  have hs := sgA_lt hT c
  have hd := dgA_in hd
  have hl := hT.1
  have e1 := x2_signAt (ro := ro) (d := d) (B := B) (Y := Y) (sl := sl) (G := G) (tl := tl) (cu := nI c) (la := la) (ki := ki) (fi := fi) (se := se) hT (show c ≤ 100 by omega)
  generalize sgA t pl c = x at *
  refine ev_in rfl rfl (Nat.le_of_ble_eq_true rfl) rfl ?_
  refine wp_run rfl ?_
  refine wp_v1 rfl rfl (Nat.le_of_ble_eq_true rfl) (e1) ?_
  refine wp_run rfl ?_
  refine wp_iclt rfl (fun hz_ => absurd hz_ (nI_nlt (b := 48) (by omega) (by omega))) (fun _ => ?_)
  refine wp_run rfl ?_
  refine wp_icle rfl (fun _ => ?_) (fun hz_ => absurd (nI_le (b := 57) (by omega) (by omega)) hz_)
  refine wp_run rfl ?_
  rw [nI_1]
  refine wp_putf (h1 := (hX B Y sl (f, nI pl, nI (c + 1), la, ki, fi, se) G tl)) rfl rfl (Nat.le_of_ble_eq_true rfl) ⟨rfl, rfl, fun _ hz_ => by cases hz_⟩ rfl ?_
  refine wp_run rfl ?_
  rw [show nI x - 48 = nI (x - 48) from pk_sub (b := 48) (by omega)]
  exact wp_ret rfl rfl ⟨rfl, rfl⟩
theorem x2_readNumber_no (hT : PT f t pl) (hc : c ≤ 100) (hd : dgA t pl c = false) : axEv ro (d + 3) kX2_readNumber [.ref 11] ((hX B Y sl (f, nI pl, nI c, la, ki, fi, se) G tl)) (some (.int (-6))) ((hX B Y sl (f, nI pl, nI c, la, ki, fi, se) G tl)) := by
  refine ev_in rfl rfl (Nat.le_of_ble_eq_true rfl) rfl ?_
  refine wp_run rfl ?_
  refine wp_v0 rfl rfl (Nat.le_of_ble_eq_true rfl) (x2_readDigit_no hT hc hd) ?_
  refine wp_run rfl ?_
  refine wp_ifgt rfl (fun hz_ => absurd hz_ ((by decide : ¬ (0 : Int32) < -6))) (fun _ => ?_)
  refine wp_run rfl ?_
  exact wp_ret rfl rfl ⟨rfl, rfl⟩
theorem x2_readNumber (hT : PT f t pl) (hd : dgA t pl c = true) : axEv ro (d + 3) kX2_readNumber [.ref 11] ((hX B Y sl (f, nI pl, nI c, la, ki, fi, se) G tl)) (some (.int (nI (rdV t pl c)))) ((hX B Y sl (f, nI pl, nI (rdC t pl c), la, ki, fi, se) G tl)) := by
  have hd' := dgA_in hd
  have hl := hT.1
  refine ev_in rfl rfl (Nat.le_of_ble_eq_true rfl) rfl ?_
  refine wp_run rfl ?_
  refine wp_v0 rfl rfl (Nat.le_of_ble_eq_true rfl) (x2_readDigit hT hd) ?_
  refine wp_run rfl ?_
  unfold rdV rdC
  by_cases e : sgA t pl c = 48
  · rw [e, if_pos rfl, if_pos rfl]
    refine wp_ifgt rfl (fun hz_ => absurd hz_ ((by decide : ¬ (0 : Int32) < nI (48 - 48)))) (fun _ => ?_)
    refine wp_run rfl ?_
    exact wp_ret rfl rfl ⟨rfl, rfl⟩
  · rw [if_neg e, if_neg e]
    refine wp_ifgt rfl (fun _ => ?_) (fun hz_ => absurd (nI_lt (a := 0) (by omega) (by omega)) hz_)
    refine wp_run rfl ?_
    by_cases e2 : dgA t pl (c + 1) = true
    · have hd2 := dgA_in e2
      rw [if_pos e2, if_pos e2]
      refine wp_v0 rfl rfl (Nat.le_of_ble_eq_true rfl) (x2_readDigit hT e2) ?_
      refine wp_run rfl ?_
      refine wp_ifge rfl (fun _ => ?_) (fun hz_ => absurd (nI_pos' (by omega)) hz_)
      refine wp_run rfl ?_
      rw [show (10 : Int32) = nI 10 from rfl, nI_mul, nI_add]
      exact wp_ret rfl rfl ⟨rfl, rfl⟩
    · rw [if_neg e2, if_neg e2]
      refine wp_v0 rfl rfl (Nat.le_of_ble_eq_true rfl) (x2_readDigit_no hT (show c + 1 ≤ 100 by omega) (by cases hh : dgA t pl (c + 1) with | true => exact absurd hh e2 | false => rfl)) ?_
      refine wp_run rfl ?_
      refine wp_ifge rfl (fun hz_ => absurd hz_ ((by decide : ¬ (0 : Int32) ≤ -6))) (fun _ => ?_)
      refine wp_run rfl ?_
      exact wp_ret rfl rfl ⟨rfl, rfl⟩
theorem x2_skip_yes (hT : PT f t pl) {x : Nat} (hx : 0 < x) (h1 : sgA t pl c = x) : axEv ro (d + 2) kX2_skip [.ref 11, .int (nI x)] ((hX B Y sl (f, nI pl, nI c, la, ki, fi, se) G tl)) (some (.int 1)) ((hX B Y sl (f, nI pl, nI (c + 1), la, ki, fi, se) G tl)) := by
  have hl := hT.1
  have hc := sgA_in (show sgA t pl c ≠ 0 by omega)
  have e1 := x2_signAt (ro := ro) (d := d) (B := B) (Y := Y) (sl := sl) (G := G) (tl := tl) (cu := nI c) (la := la) (ki := ki) (fi := fi) (se := se) hT (show c ≤ 100 by omega)
  rw [h1] at e1
  refine ev_in rfl rfl (Nat.le_of_ble_eq_true rfl) rfl ?_
  refine wp_run rfl ?_
  refine wp_v1 rfl rfl (Nat.le_of_ble_eq_true rfl) (e1) ?_
  refine wp_run rfl ?_
  refine wp_iceq rfl (fun _ => ?_) (fun hz => absurd rfl hz)
  refine wp_run rfl ?_
  rw [nI_1]
  refine wp_putf (h1 := (hX B Y sl (f, nI pl, nI (c + 1), la, ki, fi, se) G tl)) rfl rfl (Nat.le_of_ble_eq_true rfl) ⟨rfl, rfl, fun _ hz_ => by cases hz_⟩ rfl ?_
  refine wp_run rfl ?_
  exact wp_ret rfl rfl ⟨rfl, rfl⟩
theorem x2_skip_no (hT : PT f t pl) (hc : c ≤ 100) {x : Nat} (hx : x < 128) (h1 : sgA t pl c ≠ x) : axEv ro (d + 2) kX2_skip [.ref 11, .int (nI x)] ((hX B Y sl (f, nI pl, nI c, la, ki, fi, se) G tl)) (some (.int 0)) ((hX B Y sl (f, nI pl, nI c, la, ki, fi, se) G tl)) := by
  have hs := sgA_lt hT c
  refine ev_in rfl rfl (Nat.le_of_ble_eq_true rfl) rfl ?_
  refine wp_run rfl ?_
  refine wp_v1 rfl rfl (Nat.le_of_ble_eq_true rfl) (x2_signAt hT hc) ?_
  refine wp_run rfl ?_
  refine wp_iceq rfl (fun hz => absurd ((nI_eq (by omega) (by omega)).mp hz) h1) (fun _ => ?_)
  refine wp_run rfl ?_
  exact wp_ret rfl rfl ⟨rfl, rfl⟩
end AX33
end
section
/-! THE CLASS: an order of the pad is read. -/
/-- what follows an order: is it read, where it ends, is it the last -/
def rdT (t : Nat → Nat) (pl : Nat) (r : Bool) (c : Nat) : Bool × Nat × Bool := if r = true then (if pl ≤ c then (true, c, true) else if sgA t pl c = 59 then (true, c + 1, false) else (false, c, false)) else (false, c, false)
def rdE (t : Nat → Nat) (pl c : Nat) : Bool × Nat × Bool := rdT t pl (rdO t pl c).1 (rdO t pl c).2.1
def axSwO (d : Nat) (x : Int32) : List (Int32 × Nat) → Prop
  | [] => True
  | q :: r => match Nat.beq q.2 d with
    | true => axSwO d x r
    | false => x ≠ q.1 ∧ axSwO d x r
theorem axSw_def {d : Nat} {x : Int32} : ∀ (tb : List (Int32 × Nat)), axSwO d x tb → axSw tb d x = d
  | [], _ => rfl
  | q :: r, h => by
    unfold axSwO at h
    rw [axSw]
    cases e : Nat.beq q.2 d with
    | true =>
      rw [e] at h
      split
      · exact Nat.eq_of_beq_eq_true e
      · exact axSw_def r h
    | false =>
      rw [e] at h
      rw [if_neg h.1]
      exact axSw_def r h.2
theorem rdS_le {t : Nat → Nat} {pl c : Nat} (hc : c < pl) : (rdS t pl c).2.1 ≤ pl ∧ c < (rdS t pl c).2.1 ∧ (rdS t pl c).2.2.1 ≤ 99 ∧ (rdS t pl c).2.2.2 ≤ 1 := by
  unfold rdS
  by_cases e : dgA t pl (c + 1) = true
  · have h1 := rdC_le e
    have h2 := rdV_le e
    rw [if_pos e]
    by_cases e2 : sgA t pl (rdC t pl (c + 1)) = 33
    · have := sgA_in (show sgA t pl (rdC t pl (c + 1)) ≠ 0 by omega)
      rw [if_pos e2]
      refine ⟨?_, ?_, h2, ?_⟩
      · show rdC t pl (c + 1) + 1 ≤ pl; omega
      · show c < rdC t pl (c + 1) + 1; omega
      · exact Nat.le_refl 1
    · rw [if_neg e2]
      refine ⟨h1.1, ?_, h2, ?_⟩
      · show c < rdC t pl (c + 1); omega
      · exact Nat.zero_le 1
  · rw [if_neg e]
    exact ⟨hc, Nat.lt_succ_self c, Nat.zero_le _, Nat.zero_le _⟩
theorem rdP_le {t : Nat → Nat} {pl c x : Nat} (hx : 0 < x) (hc : c < pl) : (rdP t pl x c).2.1 ≤ pl ∧ c < (rdP t pl x c).2.1 ∧ (rdP t pl x c).2.2.1 ≤ 99 ∧ (rdP t pl x c).2.2.2 ≤ 99 := by
  unfold rdP
  by_cases e : dgA t pl (c + 1) = true
  · have h1 := rdC_le e
    have h2 := rdV_le e
    rw [if_pos e]
    by_cases e2 : sgA t pl (rdC t pl (c + 1)) = x
    · have := sgA_in (show sgA t pl (rdC t pl (c + 1)) ≠ 0 by omega)
      rw [if_pos e2]
      by_cases e3 : dgA t pl (rdC t pl (c + 1) + 1) = true
      · have h3 := rdC_le e3
        have h4 := rdV_le e3
        rw [if_pos e3]
        refine ⟨h3.1, ?_, h2, h4⟩
        show c < rdC t pl (rdC t pl (c + 1) + 1); omega
      · rw [if_neg e3]
        refine ⟨?_, ?_, Nat.zero_le _, Nat.zero_le _⟩
        · show rdC t pl (c + 1) + 1 ≤ pl; omega
        · show c < rdC t pl (c + 1) + 1; omega
    · rw [if_neg e2]
      refine ⟨h1.1, ?_, Nat.zero_le _, Nat.zero_le _⟩
      show c < rdC t pl (c + 1); omega
  · rw [if_neg e]
    exact ⟨hc, Nat.lt_succ_self c, Nat.zero_le _, Nat.zero_le _⟩
theorem rdF_le {t : Nat → Nat} {pl c : Nat} (hc : c < pl) : (rdF t pl c).2.1 ≤ pl ∧ c < (rdF t pl c).2.1 ∧ (rdF t pl c).2.2.1 ≤ 9 := by
  unfold rdF
  by_cases e : dgA t pl (c + 1) = true
  · have h1 := dgA_in e
    rw [if_pos e]
    refine ⟨?_, ?_, ?_⟩
    · show c + 2 ≤ pl; omega
    · show c < c + 2; omega
    · show sgA t pl (c + 1) - 48 ≤ 9; omega
  · rw [if_neg e]
    exact ⟨hc, Nat.lt_succ_self c, Nat.zero_le _⟩
theorem rdO_le {t : Nat → Nat} {pl c : Nat} (hc : c ≤ pl) : (rdO t pl c).2.1 ≤ pl ∧ ((rdO t pl c).1 = true → c < (rdO t pl c).2.1 ∧ c < pl) ∧ (rdO t pl c).2.2.1 ≤ 99 ∧ (rdO t pl c).2.2.2 ≤ 99 := by
  have hin : ∀ x, 0 < x → sgA t pl c = x → c < pl := fun x hx hh => sgA_in (show sgA t pl c ≠ 0 by omega)
  unfold rdO
  by_cases e1 : sgA t pl c = 115
  · have := rdS_le (t := t) (hin _ (by decide) e1)
    rw [if_pos e1]; exact ⟨this.1, fun _ => ⟨this.2.1, hin _ (by decide) e1⟩, this.2.2.1, by omega⟩
  · rw [if_neg e1]
    by_cases e2 : sgA t pl c = 110
    · have := rdP_le (t := t) (x := 62) (by decide) (hin _ (by decide) e2)
      rw [if_pos e2]; exact ⟨this.1, fun _ => ⟨this.2.1, hin _ (by decide) e2⟩, this.2.2.1, this.2.2.2⟩
    · rw [if_neg e2]
      by_cases e3 : sgA t pl c = 109
      · have := rdP_le (t := t) (x := 64) (by decide) (hin _ (by decide) e3)
        rw [if_pos e3]; exact ⟨this.1, fun _ => ⟨this.2.1, hin _ (by decide) e3⟩, this.2.2.1, this.2.2.2⟩
      · rw [if_neg e3]
        by_cases e4 : sgA t pl c = 120
        · have := rdP_le (t := t) (x := 126) (by decide) (hin _ (by decide) e4)
          rw [if_pos e4]; exact ⟨this.1, fun _ => ⟨this.2.1, hin _ (by decide) e4⟩, this.2.2.1, this.2.2.2⟩
        · rw [if_neg e4]
          by_cases e5 : sgA t pl c = 116
          · have := rdP_le (t := t) (x := 45) (by decide) (hin _ (by decide) e5)
            rw [if_pos e5]; exact ⟨this.1, fun _ => ⟨this.2.1, hin _ (by decide) e5⟩, this.2.2.1, this.2.2.2⟩
          · rw [if_neg e5]
            by_cases e6 : sgA t pl c = 102
            · have := rdF_le (t := t) (hin _ (by decide) e6)
              rw [if_pos e6]
              refine ⟨this.1, fun _ => ⟨this.2.1, hin _ (by decide) e6⟩, by omega, ?_⟩
              unfold rdF; split <;> exact Nat.zero_le _
            · rw [if_neg e6]
              exact ⟨hc, fun z => Bool.noConfusion z, Nat.zero_le _, Nat.zero_le _⟩
section AX34
variable {ro : axRo} {d : Nat} {h h1 : axH} {B : axBD} {Y : axYD} {sl : Nat → Option Nat} {P : axPD} {G : axGD} {tl : axH} {A : axAD} {f : Nat → Int32} {t : Nat → Nat} {pl c : Nat} {cu la ki fi se : Int32}
theorem x2_readSlug (hT : PT f t pl) (hc : c < pl) : ∃ fi' se', axEv ro (d + 4) kX2_readSlug [.ref 11] ((hX B Y sl (f, nI pl, nI c, la, ki, fi, se) G tl)) (some (.int (if (rdS t pl c).1 = true then 1 else 0))) ((hX B Y sl (f, nI pl, nI (rdS t pl c).2.1, la, ki, fi', se') G tl)) ∧ ((rdS t pl c).1 = true → fi' = nI (rdS t pl c).2.2.1 ∧ se' = nI (rdS t pl c).2.2.2) := by
  have hl := hT.1
  unfold rdS
  by_cases e : dgA t pl (c + 1) = true
  · have h1 := rdC_le e
    have h2 := rdV_le e
    rw [if_pos e]
    by_cases e2 : sgA t pl (rdC t pl (c + 1)) = 33
    · rw [if_pos e2]
      refine ⟨_, _, ?_, fun _ => ⟨rfl, rfl⟩⟩
      refine ev_in rfl rfl (Nat.le_of_ble_eq_true rfl) rfl ?_
      refine wp_run rfl ?_
      rw [nI_1]
      refine wp_putf (h1 := (hX B Y sl (f, nI pl, nI (c + 1), la, ki, fi, se) G tl)) rfl rfl (Nat.le_of_ble_eq_true rfl) ⟨rfl, rfl, fun _ hz_ => by cases hz_⟩ rfl ?_
      refine wp_run rfl ?_
      refine wp_v0 rfl rfl (Nat.le_of_ble_eq_true rfl) (x2_readNumber hT e) ?_
      refine wp_run rfl ?_
      refine wp_putf (h1 := (hX B Y sl (f, nI pl, nI (rdC t pl (c + 1)), la, ki, nI (rdV t pl (c + 1)), se) G tl)) rfl rfl (Nat.le_of_ble_eq_true rfl) ⟨rfl, rfl, fun _ hz_ => by cases hz_⟩ rfl ?_
      refine wp_run rfl ?_
      refine wp_ifge rfl (fun _ => ?_) (fun hz_ => absurd (nI_pos' (by omega)) hz_)
      refine wp_run rfl ?_
      refine wp_v1 rfl rfl (Nat.le_of_ble_eq_true rfl) (x2_skip_yes (x := 33) hT (by decide) e2) ?_
      refine wp_run rfl ?_
      refine wp_ifeq rfl (fun hz_ => absurd hz_ ((by decide : ¬ (1 : Int32) = 0))) (fun _ => ?_)
      refine wp_run rfl ?_
      refine wp_putf (h1 := (hX B Y sl (f, nI pl, nI (rdC t pl (c + 1) + 1), la, ki, nI (rdV t pl (c + 1)), nI 1) G tl)) rfl rfl (Nat.le_of_ble_eq_true rfl) ⟨rfl, rfl, fun _ hz_ => by cases hz_⟩ rfl ?_
      refine wp_run rfl ?_
      exact wp_ret rfl rfl ⟨rfl, rfl⟩
    · rw [if_neg e2]
      refine ⟨_, _, ?_, fun _ => ⟨rfl, rfl⟩⟩
      refine ev_in rfl rfl (Nat.le_of_ble_eq_true rfl) rfl ?_
      refine wp_run rfl ?_
      rw [nI_1]
      refine wp_putf (h1 := (hX B Y sl (f, nI pl, nI (c + 1), la, ki, fi, se) G tl)) rfl rfl (Nat.le_of_ble_eq_true rfl) ⟨rfl, rfl, fun _ hz_ => by cases hz_⟩ rfl ?_
      refine wp_run rfl ?_
      refine wp_v0 rfl rfl (Nat.le_of_ble_eq_true rfl) (x2_readNumber hT e) ?_
      refine wp_run rfl ?_
      refine wp_putf (h1 := (hX B Y sl (f, nI pl, nI (rdC t pl (c + 1)), la, ki, nI (rdV t pl (c + 1)), se) G tl)) rfl rfl (Nat.le_of_ble_eq_true rfl) ⟨rfl, rfl, fun _ hz_ => by cases hz_⟩ rfl ?_
      refine wp_run rfl ?_
      refine wp_ifge rfl (fun _ => ?_) (fun hz_ => absurd (nI_pos' (by omega)) hz_)
      refine wp_run rfl ?_
      refine wp_v1 rfl rfl (Nat.le_of_ble_eq_true rfl) (x2_skip_no (x := 33) hT (by omega) (by decide) e2) ?_
      refine wp_run rfl ?_
      refine wp_ifeq rfl (fun _ => ?_) (fun hz_ => absurd (rfl) hz_)
      refine wp_run rfl ?_
      refine wp_putf (h1 := (hX B Y sl (f, nI pl, nI (rdC t pl (c + 1)), la, ki, nI (rdV t pl (c + 1)), nI 0) G tl)) rfl rfl (Nat.le_of_ble_eq_true rfl) ⟨rfl, rfl, fun _ hz_ => by cases hz_⟩ rfl ?_
      refine wp_run rfl ?_
      exact wp_ret rfl rfl ⟨rfl, rfl⟩
  · rw [if_neg e]
    refine ⟨-6, se, ?_, fun z => by cases z⟩
    refine ev_in rfl rfl (Nat.le_of_ble_eq_true rfl) rfl ?_
    refine wp_run rfl ?_
    rw [nI_1]
    refine wp_putf (h1 := (hX B Y sl (f, nI pl, nI (c + 1), la, ki, fi, se) G tl)) rfl rfl (Nat.le_of_ble_eq_true rfl) ⟨rfl, rfl, fun _ hz_ => by cases hz_⟩ rfl ?_
    refine wp_run rfl ?_
    refine wp_v0 rfl rfl (Nat.le_of_ble_eq_true rfl) (x2_readNumber_no hT (show c + 1 ≤ 100 by omega) (by cases hh : dgA t pl (c + 1) with | true => exact absurd hh e | false => rfl)) ?_
    refine wp_run rfl ?_
    refine wp_putf (h1 := (hX B Y sl (f, nI pl, nI (c + 1), la, ki, -6, se) G tl)) rfl rfl (Nat.le_of_ble_eq_true rfl) ⟨rfl, rfl, fun _ hz_ => by cases hz_⟩ rfl ?_
    refine wp_run rfl ?_
    refine wp_ifge rfl (fun hz_ => absurd hz_ ((by decide : ¬ (0 : Int32) ≤ -6))) (fun _ => ?_)
    refine wp_run rfl ?_
    exact wp_ret rfl rfl ⟨rfl, rfl⟩
theorem x2_readPair (hT : PT f t pl) (hc : c < pl) {x : Nat} (hx : 0 < x) (hx2 : x < 128) : ∃ fi' se', axEv ro (d + 4) kX2_readPair [.ref 11, .int (nI x)] ((hX B Y sl (f, nI pl, nI c, la, ki, fi, se) G tl)) (some (.int (if (rdP t pl x c).1 = true then 1 else 0))) ((hX B Y sl (f, nI pl, nI (rdP t pl x c).2.1, la, ki, fi', se') G tl)) ∧ ((rdP t pl x c).1 = true → fi' = nI (rdP t pl x c).2.2.1 ∧ se' = nI (rdP t pl x c).2.2.2) := by
  have hl := hT.1
  unfold rdP
  by_cases e : dgA t pl (c + 1) = true
  · have h1 := rdC_le e
    have h2 := rdV_le e
    rw [if_pos e]
    by_cases e2 : sgA t pl (rdC t pl (c + 1)) = x
    · have hc2 := sgA_in (show sgA t pl (rdC t pl (c + 1)) ≠ 0 by omega)
      rw [if_pos e2]
      by_cases e3 : dgA t pl (rdC t pl (c + 1) + 1) = true
      · have h3 := rdC_le e3
        have h4 := rdV_le e3
        rw [if_pos e3]
        refine ⟨_, _, ?_, fun _ => ⟨rfl, rfl⟩⟩
        refine ev_in rfl rfl (Nat.le_of_ble_eq_true rfl) rfl ?_
        refine wp_run rfl ?_
        rw [nI_1]
        refine wp_putf (h1 := (hX B Y sl (f, nI pl, nI (c + 1), la, ki, fi, se) G tl)) rfl rfl (Nat.le_of_ble_eq_true rfl) ⟨rfl, rfl, fun _ hz_ => by cases hz_⟩ rfl ?_
        refine wp_run rfl ?_
        refine wp_v0 rfl rfl (Nat.le_of_ble_eq_true rfl) (x2_readNumber hT e) ?_
        refine wp_run rfl ?_
        refine wp_putf (h1 := (hX B Y sl (f, nI pl, nI (rdC t pl (c + 1)), la, ki, nI (rdV t pl (c + 1)), se) G tl)) rfl rfl (Nat.le_of_ble_eq_true rfl) ⟨rfl, rfl, fun _ hz_ => by cases hz_⟩ rfl ?_
        refine wp_run rfl ?_
        refine wp_iflt rfl (fun hz_ => absurd hz_ (nI_pos (by omega))) (fun _ => ?_)
        refine wp_run rfl ?_
        refine wp_v1 rfl rfl (Nat.le_of_ble_eq_true rfl) (x2_skip_yes hT hx e2) ?_
        refine wp_run rfl ?_
        refine wp_ifne rfl (fun _ => ?_) (fun hz_ => absurd ((by decide : ¬ (1 : Int32) = 0)) hz_)
        refine wp_run rfl ?_
        refine wp_v0 rfl rfl (Nat.le_of_ble_eq_true rfl) (x2_readNumber hT e3) ?_
        refine wp_run rfl ?_
        refine wp_putf (h1 := (hX B Y sl (f, nI pl, nI (rdC t pl (rdC t pl (c + 1) + 1)), la, ki, nI (rdV t pl (c + 1)), nI (rdV t pl (rdC t pl (c + 1) + 1))) G tl)) rfl rfl (Nat.le_of_ble_eq_true rfl) ⟨rfl, rfl, fun _ hz_ => by cases hz_⟩ rfl ?_
        refine wp_run rfl ?_
        refine wp_iflt rfl (fun hz_ => absurd hz_ (nI_pos (by omega))) (fun _ => ?_)
        refine wp_run rfl ?_
        exact wp_ret rfl rfl ⟨rfl, rfl⟩
      · rw [if_neg e3]
        refine ⟨nI (rdV t pl (c + 1)), -6, ?_, fun z => by cases z⟩
        refine ev_in rfl rfl (Nat.le_of_ble_eq_true rfl) rfl ?_
        refine wp_run rfl ?_
        rw [nI_1]
        refine wp_putf (h1 := (hX B Y sl (f, nI pl, nI (c + 1), la, ki, fi, se) G tl)) rfl rfl (Nat.le_of_ble_eq_true rfl) ⟨rfl, rfl, fun _ hz_ => by cases hz_⟩ rfl ?_
        refine wp_run rfl ?_
        refine wp_v0 rfl rfl (Nat.le_of_ble_eq_true rfl) (x2_readNumber hT e) ?_
        refine wp_run rfl ?_
        refine wp_putf (h1 := (hX B Y sl (f, nI pl, nI (rdC t pl (c + 1)), la, ki, nI (rdV t pl (c + 1)), se) G tl)) rfl rfl (Nat.le_of_ble_eq_true rfl) ⟨rfl, rfl, fun _ hz_ => by cases hz_⟩ rfl ?_
        refine wp_run rfl ?_
        refine wp_iflt rfl (fun hz_ => absurd hz_ (nI_pos (by omega))) (fun _ => ?_)
        refine wp_run rfl ?_
        refine wp_v1 rfl rfl (Nat.le_of_ble_eq_true rfl) (x2_skip_yes hT hx e2) ?_
        refine wp_run rfl ?_
        refine wp_ifne rfl (fun _ => ?_) (fun hz_ => absurd ((by decide : ¬ (1 : Int32) = 0)) hz_)
        refine wp_run rfl ?_
        refine wp_v0 rfl rfl (Nat.le_of_ble_eq_true rfl) (x2_readNumber_no hT (by omega) (by cases hh : dgA t pl (rdC t pl (c + 1) + 1) with | true => exact absurd hh e3 | false => rfl)) ?_
        refine wp_run rfl ?_
        refine wp_putf (h1 := (hX B Y sl (f, nI pl, nI (rdC t pl (c + 1) + 1), la, ki, nI (rdV t pl (c + 1)), -6) G tl)) rfl rfl (Nat.le_of_ble_eq_true rfl) ⟨rfl, rfl, fun _ hz_ => by cases hz_⟩ rfl ?_
        refine wp_run rfl ?_
        refine wp_iflt rfl (fun _ => ?_) (fun hz_ => absurd ((by decide : (-6 : Int32) < 0)) hz_)
        refine wp_run rfl ?_
        exact wp_ret rfl rfl ⟨rfl, rfl⟩
    · rw [if_neg e2]
      refine ⟨nI (rdV t pl (c + 1)), se, ?_, fun z => by cases z⟩
      refine ev_in rfl rfl (Nat.le_of_ble_eq_true rfl) rfl ?_
      refine wp_run rfl ?_
      rw [nI_1]
      refine wp_putf (h1 := (hX B Y sl (f, nI pl, nI (c + 1), la, ki, fi, se) G tl)) rfl rfl (Nat.le_of_ble_eq_true rfl) ⟨rfl, rfl, fun _ hz_ => by cases hz_⟩ rfl ?_
      refine wp_run rfl ?_
      refine wp_v0 rfl rfl (Nat.le_of_ble_eq_true rfl) (x2_readNumber hT e) ?_
      refine wp_run rfl ?_
      refine wp_putf (h1 := (hX B Y sl (f, nI pl, nI (rdC t pl (c + 1)), la, ki, nI (rdV t pl (c + 1)), se) G tl)) rfl rfl (Nat.le_of_ble_eq_true rfl) ⟨rfl, rfl, fun _ hz_ => by cases hz_⟩ rfl ?_
      refine wp_run rfl ?_
      refine wp_iflt rfl (fun hz_ => absurd hz_ (nI_pos (by omega))) (fun _ => ?_)
      refine wp_run rfl ?_
      refine wp_v1 rfl rfl (Nat.le_of_ble_eq_true rfl) (x2_skip_no hT (by omega) hx2 e2) ?_
      refine wp_run rfl ?_
      refine wp_ifne rfl (fun hz_ => absurd hz_ (fun z => z rfl)) (fun _ => ?_)
      refine wp_run rfl ?_
      exact wp_ret rfl rfl ⟨rfl, rfl⟩
  · rw [if_neg e]
    refine ⟨-6, se, ?_, fun z => by cases z⟩
    refine ev_in rfl rfl (Nat.le_of_ble_eq_true rfl) rfl ?_
    refine wp_run rfl ?_
    rw [nI_1]
    refine wp_putf (h1 := (hX B Y sl (f, nI pl, nI (c + 1), la, ki, fi, se) G tl)) rfl rfl (Nat.le_of_ble_eq_true rfl) ⟨rfl, rfl, fun _ hz_ => by cases hz_⟩ rfl ?_
    refine wp_run rfl ?_
    refine wp_v0 rfl rfl (Nat.le_of_ble_eq_true rfl) (x2_readNumber_no hT (show c + 1 ≤ 100 by omega) (by cases hh : dgA t pl (c + 1) with | true => exact absurd hh e | false => rfl)) ?_
    refine wp_run rfl ?_
    refine wp_putf (h1 := (hX B Y sl (f, nI pl, nI (c + 1), la, ki, -6, se) G tl)) rfl rfl (Nat.le_of_ble_eq_true rfl) ⟨rfl, rfl, fun _ hz_ => by cases hz_⟩ rfl ?_
    refine wp_run rfl ?_
    refine wp_iflt rfl (fun _ => ?_) (fun hz_ => absurd ((by decide : (-6 : Int32) < 0)) hz_)
    refine wp_run rfl ?_
    exact wp_ret rfl rfl ⟨rfl, rfl⟩
theorem x2_readAct (hT : PT f t pl) (hc : c < pl) : ∃ fi', axEv ro (d + 3) kX2_readAct [.ref 11] ((hX B Y sl (f, nI pl, nI c, la, ki, fi, se) G tl)) (some (.int (if (rdF t pl c).1 = true then 1 else 0))) ((hX B Y sl (f, nI pl, nI (rdF t pl c).2.1, la, ki, fi', se) G tl)) ∧ ((rdF t pl c).1 = true → fi' = nI (rdF t pl c).2.2.1) := by
  have hl := hT.1
  unfold rdF
  by_cases e : dgA t pl (c + 1) = true
  · have h1 := dgA_in e
    rw [if_pos e]
    refine ⟨_, ?_, fun _ => rfl⟩
    refine ev_in rfl rfl (Nat.le_of_ble_eq_true rfl) rfl ?_
    refine wp_run rfl ?_
    rw [nI_1]
    refine wp_putf (h1 := (hX B Y sl (f, nI pl, nI (c + 1), la, ki, fi, se) G tl)) rfl rfl (Nat.le_of_ble_eq_true rfl) ⟨rfl, rfl, fun _ hz_ => by cases hz_⟩ rfl ?_
    refine wp_run rfl ?_
    refine wp_v0 rfl rfl (Nat.le_of_ble_eq_true rfl) (x2_readDigit hT e) ?_
    refine wp_run rfl ?_
    refine wp_putf (h1 := (hX B Y sl (f, nI pl, nI (c + 2), la, ki, nI (sgA t pl (c + 1) - 48), se) G tl)) rfl rfl (Nat.le_of_ble_eq_true rfl) ⟨rfl, rfl, fun _ hz_ => by cases hz_⟩ rfl ?_
    refine wp_run rfl ?_
    refine wp_iflt rfl (fun hz_ => absurd hz_ (nI_pos (by omega))) (fun _ => ?_)
    refine wp_run rfl ?_
    exact wp_ret rfl rfl ⟨rfl, rfl⟩
  · rw [if_neg e]
    refine ⟨-6, ?_, fun z => by cases z⟩
    refine ev_in rfl rfl (Nat.le_of_ble_eq_true rfl) rfl ?_
    refine wp_run rfl ?_
    rw [nI_1]
    refine wp_putf (h1 := (hX B Y sl (f, nI pl, nI (c + 1), la, ki, fi, se) G tl)) rfl rfl (Nat.le_of_ble_eq_true rfl) ⟨rfl, rfl, fun _ hz_ => by cases hz_⟩ rfl ?_
    refine wp_run rfl ?_
    refine wp_v0 rfl rfl (Nat.le_of_ble_eq_true rfl) (x2_readDigit_no hT (show c + 1 ≤ 100 by omega) (by cases hh : dgA t pl (c + 1) with | true => exact absurd hh e | false => rfl)) ?_
    refine wp_run rfl ?_
    refine wp_putf (h1 := (hX B Y sl (f, nI pl, nI (c + 1), la, ki, -6, se) G tl)) rfl rfl (Nat.le_of_ble_eq_true rfl) ⟨rfl, rfl, fun _ hz_ => by cases hz_⟩ rfl ?_
    refine wp_run rfl ?_
    refine wp_iflt rfl (fun _ => ?_) (fun hz_ => absurd ((by decide : (-6 : Int32) < 0)) hz_)
    refine wp_run rfl ?_
    exact wp_ret rfl rfl ⟨rfl, rfl⟩
theorem rd_tail (hT : PT f t pl) (hc : c ≤ pl) (r : Bool) : axW ro (axEv ro (d + 4)) cdX2_readOrder 166 [some (.ref 11), some (.int (if r = true then 1 else 0))] [.int (if r = true then 1 else 0), .ref 11] ((hX B Y sl (f, nI pl, nI c, la, ki, fi, se) G tl)) (fun r' h' => r' = some (.int (if (rdT t pl r c).1 = true then 1 else 0)) ∧ h' = ((hX B Y sl (f, nI pl, nI (rdT t pl r c).2.1, (if (rdT t pl r c).2.2 = true then 1 else 0), ki, fi, se) G tl))) := by
  have hl := hT.1
  cases r with
  | false =>
    rw [show rdT t pl false c = (false, c, false) from rfl]
    refine wp_ifeq rfl (fun _ => ?_) (fun hz_ => absurd (rfl) hz_)
    refine wp_run rfl ?_
    refine wp_putf (h1 := (hX B Y sl (f, nI pl, nI c, 0, ki, fi, se) G tl)) rfl rfl (Nat.le_of_ble_eq_true rfl) ⟨rfl, rfl, fun _ hz_ => by cases hz_⟩ rfl ?_
    refine wp_run rfl ?_
    refine wp_ifne rfl (fun hz_ => absurd hz_ (fun z => z rfl)) (fun _ => ?_)
    refine wp_run rfl ?_
    refine wp_ifeq rfl (fun _ => ?_) (fun hz_ => absurd (rfl) hz_)
    refine wp_run rfl ?_
    exact wp_ret rfl rfl ⟨rfl, rfl⟩
  | true =>
    rw [show rdT t pl true c = if pl ≤ c then (true, c, true) else if sgA t pl c = 59 then (true, c + 1, false) else (false, c, false) from rfl]
    by_cases e : pl ≤ c
    · rw [if_pos e]
      refine wp_ifeq rfl (fun hz_ => absurd hz_ ((by decide : ¬ (1 : Int32) = 0))) (fun _ => ?_)
      refine wp_run rfl ?_
      refine wp_iclt rfl (fun hz_ => absurd hz_ (nI_nlt e (by omega))) (fun _ => ?_)
      refine wp_run rfl ?_
      refine wp_putf (h1 := (hX B Y sl (f, nI pl, nI c, 1, ki, fi, se) G tl)) rfl rfl (Nat.le_of_ble_eq_true rfl) ⟨rfl, rfl, fun _ hz_ => by cases hz_⟩ rfl ?_
      refine wp_run rfl ?_
      refine wp_ifne rfl (fun _ => ?_) (fun hz_ => absurd ((by decide : ¬ (1 : Int32) = 0)) hz_)
      refine wp_run rfl ?_
      exact wp_ret rfl rfl ⟨rfl, rfl⟩
    · rw [if_neg e]
      by_cases e2 : sgA t pl c = 59
      · rw [if_pos e2]
        refine wp_ifeq rfl (fun hz_ => absurd hz_ ((by decide : ¬ (1 : Int32) = 0))) (fun _ => ?_)
        refine wp_run rfl ?_
        refine wp_iclt rfl (fun _ => ?_) (fun hz_ => absurd (nI_lt (show c < pl by omega) (by omega)) hz_)
        refine wp_run rfl ?_
        refine wp_putf (h1 := (hX B Y sl (f, nI pl, nI c, 0, ki, fi, se) G tl)) rfl rfl (Nat.le_of_ble_eq_true rfl) ⟨rfl, rfl, fun _ hz_ => by cases hz_⟩ rfl ?_
        refine wp_run rfl ?_
        refine wp_ifne rfl (fun hz_ => absurd hz_ (fun z => z rfl)) (fun _ => ?_)
        refine wp_run rfl ?_
        refine wp_ifeq rfl (fun hz_ => absurd hz_ ((by decide : ¬ (1 : Int32) = 0))) (fun _ => ?_)
        refine wp_run rfl ?_
        refine wp_v1 rfl rfl (Nat.le_of_ble_eq_true rfl) (x2_skip_yes (x := 59) hT (by decide) e2) ?_
        refine wp_run rfl ?_
        refine wp_ifeq rfl (fun hz_ => absurd hz_ ((by decide : ¬ (1 : Int32) = 0))) (fun _ => ?_)
        refine wp_run rfl ?_
        exact wp_ret rfl rfl ⟨rfl, rfl⟩
      · rw [if_neg e2]
        refine wp_ifeq rfl (fun hz_ => absurd hz_ ((by decide : ¬ (1 : Int32) = 0))) (fun _ => ?_)
        refine wp_run rfl ?_
        refine wp_iclt rfl (fun _ => ?_) (fun hz_ => absurd (nI_lt (show c < pl by omega) (by omega)) hz_)
        refine wp_run rfl ?_
        refine wp_putf (h1 := (hX B Y sl (f, nI pl, nI c, 0, ki, fi, se) G tl)) rfl rfl (Nat.le_of_ble_eq_true rfl) ⟨rfl, rfl, fun _ hz_ => by cases hz_⟩ rfl ?_
        refine wp_run rfl ?_
        refine wp_ifne rfl (fun hz_ => absurd hz_ (fun z => z rfl)) (fun _ => ?_)
        refine wp_run rfl ?_
        refine wp_ifeq rfl (fun hz_ => absurd hz_ ((by decide : ¬ (1 : Int32) = 0))) (fun _ => ?_)
        refine wp_run rfl ?_
        refine wp_v1 rfl rfl (Nat.le_of_ble_eq_true rfl) (x2_skip_no (x := 59) hT (by omega) (by decide) e2) ?_
        refine wp_run rfl ?_
        refine wp_ifeq rfl (fun _ => ?_) (fun hz_ => absurd (rfl) hz_)
        refine wp_run rfl ?_
        exact wp_ret rfl rfl ⟨rfl, rfl⟩
end AX34
end
section
/-! THE CLASS: the text's orders one after another: where it is at fault. -/
theorem rdO_s {t : Nat → Nat} {pl c : Nat} (h : sgA t pl c = 115) : rdO t pl c = rdS t pl c := by unfold rdO; rw [if_pos h]
theorem rdO_n {t : Nat → Nat} {pl c : Nat} (h : sgA t pl c = 110) : rdO t pl c = rdP t pl 62 c := by unfold rdO; rw [if_neg (by omega), if_pos h]
theorem rdO_m {t : Nat → Nat} {pl c : Nat} (h : sgA t pl c = 109) : rdO t pl c = rdP t pl 64 c := by unfold rdO; rw [if_neg (by omega), if_neg (by omega), if_pos h]
theorem rdO_x {t : Nat → Nat} {pl c : Nat} (h : sgA t pl c = 120) : rdO t pl c = rdP t pl 126 c := by unfold rdO; rw [if_neg (by omega), if_neg (by omega), if_neg (by omega), if_pos h]
theorem rdO_t {t : Nat → Nat} {pl c : Nat} (h : sgA t pl c = 116) : rdO t pl c = rdP t pl 45 c := by unfold rdO; rw [if_neg (by omega), if_neg (by omega), if_neg (by omega), if_neg (by omega), if_pos h]
theorem rdO_f {t : Nat → Nat} {pl c : Nat} (h : sgA t pl c = 102) : rdO t pl c = rdF t pl c := by unfold rdO; rw [if_neg (by omega), if_neg (by omega), if_neg (by omega), if_neg (by omega), if_neg (by omega), if_pos h]
theorem rdO_no {t : Nat → Nat} {pl c : Nat} (h1 : sgA t pl c ≠ 115) (h2 : sgA t pl c ≠ 110) (h3 : sgA t pl c ≠ 109) (h4 : sgA t pl c ≠ 120) (h5 : sgA t pl c ≠ 116) (h6 : sgA t pl c ≠ 102) : rdO t pl c = (false, c, 0, 0) := by unfold rdO; rw [if_neg h1, if_neg h2, if_neg h3, if_neg h4, if_neg h5, if_neg h6]
theorem fit_c : ∀ n, n < 128 → fits .char (.int (nI n)) = true := by decide +kernel
/-- where the text is at fault, from c on -/
def aFa (t : Nat → Nat) (pl : Nat) : Nat → Nat → Option Nat
  | 0, _ => none
  | m + 1, c => if (rdE t pl c).1 = true then (if (rdE t pl c).2.2 = true then none else aFa t pl m (rdE t pl c).2.1) else some (rdE t pl c).2.1
theorem rdE_le {t : Nat → Nat} {pl c : Nat} (hc : c ≤ pl) : (rdE t pl c).2.1 ≤ pl ∧ ((rdE t pl c).1 = true → (rdO t pl c).1 = true) ∧ ((rdE t pl c).1 = true → (rdE t pl c).2.2 = false → c + 2 ≤ (rdE t pl c).2.1) := by
  obtain ⟨h1, h2, -⟩ := rdO_le (t := t) hc
  unfold rdE
  generalize rdO t pl c = R at *
  obtain ⟨r, c', v, w⟩ := R
  unfold rdT
  cases r with
  | false => exact ⟨h1, fun z => Bool.noConfusion z, fun z => Bool.noConfusion z⟩
  | true =>
    have h3 := h2 rfl
    show (if pl ≤ c' then ((true, c', true) : Bool × Nat × Bool) else if sgA t pl c' = 59 then (true, c' + 1, false) else (false, c', false)).2.1 ≤ pl ∧ _ ∧ ((if pl ≤ c' then ((true, c', true) : Bool × Nat × Bool) else if sgA t pl c' = 59 then (true, c' + 1, false) else (false, c', false)).1 = true → (if pl ≤ c' then ((true, c', true) : Bool × Nat × Bool) else if sgA t pl c' = 59 then (true, c' + 1, false) else (false, c', false)).2.2 = false → c + 2 ≤ (if pl ≤ c' then ((true, c', true) : Bool × Nat × Bool) else if sgA t pl c' = 59 then (true, c' + 1, false) else (false, c', false)).2.1)
    by_cases e : pl ≤ c'
    · rw [if_pos e]
      exact ⟨h1, fun _ => rfl, fun _ z => Bool.noConfusion z⟩
    · rw [if_neg e]
      by_cases e2 : sgA t pl c' = 59
      · rw [if_pos e2]
        refine ⟨?_, fun _ => rfl, fun _ _ => ?_⟩
        · show c' + 1 ≤ pl; omega
        · show c + 2 ≤ c' + 1
          have : c < c' := h3.1
          omega
      · rw [if_neg e2]
        exact ⟨h1, fun _ => rfl, fun z => Bool.noConfusion z⟩
section AX35
variable {ro : axRo} {E : axCall} {cd : List axE} {pc : Nat} {L : axL} {S : List Value} {Q : Option Value → axH → Prop} {d : Nat} {h h1 : axH} {B : axBD} {Y : axYD} {sl : Nat → Option Nat} {P : axPD} {G : axGD} {tl : axH} {A : axAD} {f : Nat → Int32} {t : Nat → Nat} {pl c : Nat} {cu la ki fi se : Int32}
theorem axSw_go {x : Int32} {tb : List (Int32 × Nat)} {z : Nat} (hs : axSwO z x tb) (k : axW ro E cd z L S h Q) : axW ro E cd (axSw tb z x) L S h Q := by rw [axSw_def tb hs]; exact k
theorem x2_readOrder (hT : PT f t pl) (hc : c ≤ pl) : ∃ fi' se', axEv ro (d + 5) kX2_readOrder [.ref 11] ((hX B Y sl (f, nI pl, nI c, la, ki, fi, se) G tl)) (some (.int (if (rdE t pl c).1 = true then 1 else 0))) ((hX B Y sl (f, nI pl, nI (rdE t pl c).2.1, (if (rdE t pl c).2.2 = true then 1 else 0), nI (sgA t pl c), fi', se') G tl)) ∧ ((rdO t pl c).1 = true → fi' = nI (rdO t pl c).2.2.1 ∧ (sgA t pl c ≠ 102 → se' = nI (rdO t pl c).2.2.2)) := by
  have hl := hT.1
  have hs := sgA_lt hT c
  have hro := (rdO_le (t := t) hc).1
  have hin : ∀ x, 0 < x → sgA t pl c = x → c < pl := fun x hx hh => sgA_in (show sgA t pl c ≠ 0 by omega)
  have pre : ∀ fi' se', axW ro (axEv ro (d + 4)) cdX2_readOrder 18 [some (.ref 11), some (.int 0)] [.int (nI (sgA t pl c))] ((hX B Y sl (f, nI pl, nI c, la, nI (sgA t pl c), fi, se) G tl)) (fun r' h' => r' = some (.int (if (rdE t pl c).1 = true then 1 else 0)) ∧ h' = ((hX B Y sl (f, nI pl, nI (rdE t pl c).2.1, (if (rdE t pl c).2.2 = true then 1 else 0), nI (sgA t pl c), fi', se') G tl))) → axEv ro (d + 5) kX2_readOrder [.ref 11] ((hX B Y sl (f, nI pl, nI c, la, ki, fi, se) G tl)) (some (.int (if (rdE t pl c).1 = true then 1 else 0))) ((hX B Y sl (f, nI pl, nI (rdE t pl c).2.1, (if (rdE t pl c).2.2 = true then 1 else 0), nI (sgA t pl c), fi', se') G tl)) := by
    intro fi' se' hw
    refine ev_in rfl rfl (Nat.le_of_ble_eq_true rfl) rfl ?_
    refine wp_run rfl ?_
    refine wp_v1 rfl rfl (Nat.le_of_ble_eq_true rfl) (x2_signAt hT (show c ≤ 100 by omega)) ?_
    refine wp_run rfl ?_
    refine wp_putf (h1 := (hX B Y sl (f, nI pl, nI c, la, nI (sgA t pl c), fi, se) G tl)) rfl rfl (Nat.le_of_ble_eq_true rfl) ⟨congrArg Value.int (nar_c _ (by omega)), fit_c _ (by omega), fun _ hz_ => by cases hz_⟩ rfl ?_
    refine wp_run rfl ?_
    exact hw
  have post : ∀ fi' se', axW ro (axEv ro (d + 4)) cdX2_readOrder 166 [some (.ref 11), some (.int (if (rdO t pl c).1 = true then 1 else 0))] [.int (if (rdO t pl c).1 = true then 1 else 0), .ref 11] ((hX B Y sl (f, nI pl, nI (rdO t pl c).2.1, la, nI (sgA t pl c), fi', se') G tl)) (fun r' h' => r' = some (.int (if (rdE t pl c).1 = true then 1 else 0)) ∧ h' = ((hX B Y sl (f, nI pl, nI (rdE t pl c).2.1, (if (rdE t pl c).2.2 = true then 1 else 0), nI (sgA t pl c), fi', se') G tl))) := fun fi' se' => rd_tail hT hro _
  by_cases e1 : sgA t pl c = 115
  · obtain ⟨fi', se', hev, hok⟩ := x2_readSlug (ro := ro) (d := d) (B := B) (Y := Y) (sl := sl) (G := G) (tl := tl) (la := la) (ki := nI (sgA t pl c)) (fi := fi) (se := se) hT (hin _ (by decide) e1)
    have post := post fi' se'
    rw [rdO_s e1] at post ⊢
    refine ⟨fi', se', pre _ _ ?_, fun z => ⟨(hok z).1, fun _ => (hok z).2⟩⟩
    rw [e1] at post hev ⊢
    refine wp_sw rfl ?_
    refine wp_run rfl ?_
    refine wp_v0 rfl rfl (Nat.le_of_ble_eq_true rfl) (hev) ?_
    refine wp_run rfl ?_
    exact post
  by_cases e2 : sgA t pl c = 110
  · obtain ⟨fi', se', hev, hok⟩ := x2_readPair (ro := ro) (d := d) (B := B) (Y := Y) (sl := sl) (G := G) (tl := tl) (la := la) (ki := nI (sgA t pl c)) (fi := fi) (se := se) (x := 62) hT (hin _ (by decide) e2) (by decide) (by decide)
    have post := post fi' se'
    rw [rdO_n e2] at post ⊢
    refine ⟨fi', se', pre _ _ ?_, fun z => ⟨(hok z).1, fun _ => (hok z).2⟩⟩
    rw [e2] at post hev ⊢
    refine wp_sw rfl ?_
    refine wp_run rfl ?_
    refine wp_v1 rfl rfl (Nat.le_of_ble_eq_true rfl) (hev) ?_
    refine wp_run rfl ?_
    exact post
  by_cases e3 : sgA t pl c = 109
  · obtain ⟨fi', se', hev, hok⟩ := x2_readPair (ro := ro) (d := d) (B := B) (Y := Y) (sl := sl) (G := G) (tl := tl) (la := la) (ki := nI (sgA t pl c)) (fi := fi) (se := se) (x := 64) hT (hin _ (by decide) e3) (by decide) (by decide)
    have post := post fi' se'
    rw [rdO_m e3] at post ⊢
    refine ⟨fi', se', pre _ _ ?_, fun z => ⟨(hok z).1, fun _ => (hok z).2⟩⟩
    rw [e3] at post hev ⊢
    refine wp_sw rfl ?_
    refine wp_run rfl ?_
    refine wp_v1 rfl rfl (Nat.le_of_ble_eq_true rfl) (hev) ?_
    refine wp_run rfl ?_
    exact post
  by_cases e4 : sgA t pl c = 120
  · obtain ⟨fi', se', hev, hok⟩ := x2_readPair (ro := ro) (d := d) (B := B) (Y := Y) (sl := sl) (G := G) (tl := tl) (la := la) (ki := nI (sgA t pl c)) (fi := fi) (se := se) (x := 126) hT (hin _ (by decide) e4) (by decide) (by decide)
    have post := post fi' se'
    rw [rdO_x e4] at post ⊢
    refine ⟨fi', se', pre _ _ ?_, fun z => ⟨(hok z).1, fun _ => (hok z).2⟩⟩
    rw [e4] at post hev ⊢
    refine wp_sw rfl ?_
    refine wp_run rfl ?_
    refine wp_v1 rfl rfl (Nat.le_of_ble_eq_true rfl) (hev) ?_
    refine wp_run rfl ?_
    exact post
  by_cases e5 : sgA t pl c = 116
  · obtain ⟨fi', se', hev, hok⟩ := x2_readPair (ro := ro) (d := d) (B := B) (Y := Y) (sl := sl) (G := G) (tl := tl) (la := la) (ki := nI (sgA t pl c)) (fi := fi) (se := se) (x := 45) hT (hin _ (by decide) e5) (by decide) (by decide)
    have post := post fi' se'
    rw [rdO_t e5] at post ⊢
    refine ⟨fi', se', pre _ _ ?_, fun z => ⟨(hok z).1, fun _ => (hok z).2⟩⟩
    rw [e5] at post hev ⊢
    refine wp_sw rfl ?_
    refine wp_run rfl ?_
    refine wp_v1 rfl rfl (Nat.le_of_ble_eq_true rfl) (hev) ?_
    refine wp_run rfl ?_
    exact post
  by_cases e6 : sgA t pl c = 102
  · obtain ⟨fi', hev, hok⟩ := x2_readAct (ro := ro) (d := d + 1) (B := B) (Y := Y) (sl := sl) (G := G) (tl := tl) (la := la) (ki := nI (sgA t pl c)) (fi := fi) (se := se) hT (hin _ (by decide) e6)
    have post := post fi' se
    rw [rdO_f e6] at post ⊢
    refine ⟨fi', se, pre _ _ ?_, fun z => ⟨hok z, fun y => absurd e6 y⟩⟩
    rw [e6] at post hev ⊢
    refine wp_sw rfl ?_
    refine wp_run rfl ?_
    refine wp_v0 rfl rfl (Nat.le_of_ble_eq_true rfl) (hev) ?_
    refine wp_run rfl ?_
    exact post
  · have post := post fi se
    rw [rdO_no e1 e2 e3 e4 e5 e6] at post ⊢
    refine ⟨fi, se, pre _ _ ?_, fun z => Bool.noConfusion z⟩
    have ne : ∀ k, k < 128 → sgA t pl c ≠ k → nI (sgA t pl c) ≠ nI k := fun k hk hne z => hne ((nI_eq (by omega) (by omega)).mp z)
    refine wp_sw rfl ?_
    refine axSw_go ⟨ne 102 (by decide) e6, ne 109 (by decide) e3, ne 110 (by decide) e2, ne 115 (by decide) e1, ne 116 (by decide) e5, ne 120 (by decide) e4, trivial⟩ ?_
    refine wp_run rfl ?_
    exact post
theorem x2_rewind : axEv ro (d + 1) kX2_rewind [.ref 11] ((hX B Y sl (f, nI pl, cu, la, ki, fi, se) G tl)) none ((hX B Y sl (f, nI pl, 0, la, ki, fi, se) G tl)) := by
  refine ev_in rfl rfl (Nat.le_of_ble_eq_true rfl) rfl ?_
  refine wp_run rfl ?_
  refine wp_putf (h1 := (hX B Y sl (f, nI pl, 0, la, ki, fi, se) G tl)) rfl rfl (Nat.le_of_ble_eq_true rfl) ⟨rfl, rfl, fun _ hz_ => by cases hz_⟩ rfl ?_
  refine wp_run rfl ?_
  exact wp_retv rfl ⟨rfl, rfl⟩
/-- what fault answers -/
def faR (r : Option Nat) : Int32 := match r with
  | none => -6
  | some c => nI c
theorem x2_firstFault (hT : PT f t pl) : ∃ cu' la' ki' fi' se', axEv ro (d + 6) kX2_firstFault [.ref 11] ((hX B Y sl (f, nI pl, cu, la, ki, fi, se) G tl)) (some (.int (faR (aFa t pl 81 0)))) ((hX B Y sl (f, nI pl, cu', la', ki', fi', se') G tl)) := by
  have hl := hT.1
  have loop : ∀ m c i la ki fi se, pl < c + m → c ≤ pl → 2 * i ≤ c → ∃ cu' la' ki' fi' se', axW ro (axEv ro (d + 5)) cdX2_firstFault 9 [some (.ref 11), some (.int (nI i))] [.int 80, .int (nI i)] ((hX B Y sl (f, nI pl, nI c, la, ki, fi, se) G tl)) (fun r' h' => r' = some (.int (faR (aFa t pl m c))) ∧ h' = ((hX B Y sl (f, nI pl, cu', la', ki', fi', se') G tl))) := by
    intro m
    induction m with
    | zero => intro c i la ki fi se h1 h2 _; omega
    | succ m ih =>
      intro c i la ki fi se h1 h2 h3
      obtain ⟨fi', se', hev, -⟩ := x2_readOrder (ro := ro) (d := d) (B := B) (Y := Y) (sl := sl) (G := G) (tl := tl) (la := la) (ki := ki) (fi := fi) (se := se) hT h2
      obtain ⟨r1, r2, r3⟩ := rdE_le (t := t) h2
      rw [aFa]
      generalize rdE t pl c = e at *
      obtain ⟨r, c', b⟩ := e
      cases r with
      | false =>
        refine ⟨nI c', (if b = true then 1 else 0), nI (sgA t pl c), fi', se', ?_⟩
        refine wp_icge rfl (fun hz_ => absurd hz_ (nI_ge (b := 80) (by omega) (by omega))) (fun _ => ?_)
        refine wp_run rfl ?_
        refine wp_v0 rfl rfl (Nat.le_of_ble_eq_true rfl) (hev) ?_
        refine wp_run rfl ?_
        refine wp_ifne rfl (fun hz_ => absurd hz_ (fun z => z rfl)) (fun _ => ?_)
        refine wp_run rfl ?_
        exact wp_ret rfl rfl ⟨rfl, rfl⟩
      | true =>
        cases b with
        | true =>
          refine ⟨nI c', 1, nI (sgA t pl c), fi', se', ?_⟩
          refine wp_icge rfl (fun hz_ => absurd hz_ (nI_ge (b := 80) (by omega) (by omega))) (fun _ => ?_)
          refine wp_run rfl ?_
          refine wp_v0 rfl rfl (Nat.le_of_ble_eq_true rfl) (hev) ?_
          refine wp_run rfl ?_
          refine wp_ifne rfl (fun _ => ?_) (fun hz_ => absurd ((by decide : ¬ (1 : Int32) = 0)) hz_)
          refine wp_run rfl ?_
          refine wp_ifeq rfl (fun hz_ => absurd hz_ ((by decide : ¬ (1 : Int32) = 0))) (fun _ => ?_)
          refine wp_run rfl ?_
          exact wp_ret rfl rfl ⟨rfl, rfl⟩
        | false =>
          have r4 : c + 2 ≤ c' := r3 rfl rfl
          obtain ⟨cu2, la2, ki2, fi2, se2, ih⟩ := ih c' (i + 1) 0 (nI (sgA t pl c)) fi' se' (by omega) r1 (by omega)
          refine ⟨cu2, la2, ki2, fi2, se2, ?_⟩
          refine wp_icge rfl (fun hz_ => absurd hz_ (nI_ge (b := 80) (by omega) (by omega))) (fun _ => ?_)
          refine wp_run rfl ?_
          refine wp_v0 rfl rfl (Nat.le_of_ble_eq_true rfl) (hev) ?_
          refine wp_run rfl ?_
          refine wp_ifne rfl (fun _ => ?_) (fun hz_ => absurd ((by decide : ¬ (1 : Int32) = 0)) hz_)
          refine wp_run rfl ?_
          refine wp_ifeq rfl (fun _ => ?_) (fun hz_ => absurd (rfl) hz_)
          refine wp_run rfl ?_
          rw [nI_1]
          exact ih
  obtain ⟨cu2, la2, ki2, fi2, se2, hw⟩ := loop 81 0 0 la ki fi se (by omega) (by omega) (by omega)
  refine ⟨cu2, la2, ki2, fi2, se2, ?_⟩
  refine ev_in rfl rfl (Nat.le_of_ble_eq_true rfl) rfl ?_
  refine wp_run rfl ?_
  refine wp_v0v rfl rfl (Nat.le_of_ble_eq_true rfl) (x2_rewind) ?_
  refine wp_run rfl ?_
  exact hw
theorem x2_clear : axEv ro (d + 1) kX2_clear [.ref 11] ((hX B Y sl (f, nI pl, cu, la, ki, fi, se) G tl)) (some (.int (nI pl))) (hX B Y sl (f, nI 0, cu, la, ki, fi, se) G tl) := by
  refine ev_in rfl rfl (Nat.le_of_ble_eq_true rfl) rfl ?_
  refine wp_run rfl ?_
  refine wp_putf (h1 := hX B Y sl (f, nI 0, cu, la, ki, fi, se) G tl) rfl rfl (Nat.le_of_ble_eq_true rfl) ⟨rfl, rfl, fun _ hz_ => by cases hz_⟩ rfl ?_
  refine wp_run rfl ?_
  exact wp_ret rfl rfl ⟨rfl, rfl⟩
end AX35
end
section
/-! THE CLASS: characters out of a long number are put onto the pad. -/
def uN (x : Int64) : Nat := x.toUInt64.toNat
def cdA (x : Int64) (k : Nat) : Nat := uN x / 2 ^ (8 * k) % 256
theorem cdA_le (x : Int64) (k : Nat) : cdA x k < 256 := Nat.mod_lt _ (by decide)
theorem u64_s : ∀ k, k < 8 → ((((8 : Int32) * nI k).toInt64.toUInt64 &&& Int64.toUInt64 63).toBitVec % 64).toNat = 8 * k := by decide +kernel
theorem i64_s : ∀ k, k < 8 → ((((8 : Int32) * nI k).toInt64 &&& 63).toBitVec.smod 64).toNat = 8 * k := by decide +kernel
theorem bt_cd (x : Int64) {k : Nat} (i : Nat) : bt (nI (cdA x k)) i = (decide (i < 8) && x.toBitVec.getLsbD (8 * k + i)) := by
  show (BitVec.ofNat 32 (cdA x k)).getLsbD i = _
  rw [BitVec.getLsbD_ofNat]
  unfold cdA uN
  rw [show 256 = 2 ^ 8 from rfl, Nat.testBit_mod_two_pow, Nat.testBit_div_two_pow]
  show _ = (decide (i < 8) && x.toBitVec.toNat.testBit (8 * k + i))
  rw [show x.toUInt64.toNat = x.toBitVec.toNat from rfl, Nat.add_comm (8 * k) i]
  by_cases h : i < 8
  · rw [decide_eq_true h, decide_eq_true (show i < 32 by omega)]
    simp
  · rw [decide_eq_false h]
    simp
theorem bt_l32 (z : Int64) {i : Nat} (hi : i < 32) : bt z.toInt32 i = z.toBitVec.getLsbD i := by
  unfold bt
  rw [Int64.toBitVec_toInt32, BitVec.getLsbD_signExtend]
  simp [hi, show i < 64 by omega]
theorem cd_u (x : Int64) {k : Nat} (hk : k < 8) : (x.toUInt64 >>> (((8 : Int32) * nI k).toInt64.toUInt64 &&& Int64.toUInt64 63)).toInt64.toInt32 &&& 255 = nI (cdA x k) := by
  refine b_ext fun i hi => ?_
  rw [b_and, b_255, bt_cd, bt_l32 _ hi]
  show ((x.toUInt64 >>> (((8 : Int32) * nI k).toInt64.toUInt64 &&& Int64.toUInt64 63)).toBitVec.getLsbD i && decide (i < 8)) = _
  rw [UInt64.toBitVec_shiftRight]
  show ((x.toBitVec >>> ((((8 : Int32) * nI k).toInt64.toUInt64 &&& Int64.toUInt64 63).toBitVec % 64).toNat).getLsbD i && decide (i < 8)) = _
  rw [u64_s k hk, BitVec.getLsbD_ushiftRight, Bool.and_comm]
theorem b64_255 (i : Nat) (hi : i < 32) : (255 : Int64).toBitVec.getLsbD i = decide (i < 8) := (by decide +kernel : ∀ i, i < 32 → (255 : Int64).toBitVec.getLsbD i = decide (i < 8)) i hi
theorem cd_s (x : Int64) {k : Nat} (hk : k < 8) : ((x >>> (((8 : Int32) * nI k).toInt64 &&& 63)) &&& 255).toInt32 = nI (cdA x k) := by
  refine b_ext fun i hi => ?_
  rw [bt_cd, bt_l32 _ hi, Int64.toBitVec_and, BitVec.getLsbD_and, b64_255 i hi, Int64.toBitVec_shiftRight]
  show ((x.toBitVec.sshiftRight ((((8 : Int32) * nI k).toInt64 &&& 63).toBitVec.smod 64).toNat).getLsbD i && decide (i < 8)) = _
  rw [i64_s k hk, BitVec.getLsbD_sshiftRight]
  by_cases h : i < 8
  · simp [h, show 8 * k + i < 64 by omega, show ¬ 64 ≤ i by omega]
  · simp [h]
/-- how many characters there are: those that end ahead of the first 0 -/
def sgN (x : Int64) : Nat := aFst (fun k => decide (cdA x k = 0)) 8
/-- does the number hold characters, and nothing else -/
def sgOk (x : Int64) : Bool := decide (1 ≤ sgN x ∧ (bc (fun k => decide (33 ≤ cdA x k ∧ cdA x k ≤ 126)) (sgN x)) = sgN x ∧ uN x / 2 ^ (8 * sgN x) = 0)
theorem u64_0 (x : Int64) {k : Nat} (hk : k < 8) : lg_cmp (x.toUInt64 >>> (((8 : Int32) * nI k).toInt64.toUInt64 &&& Int64.toUInt64 63)).toInt64 0 = 0 ↔ uN x / 2 ^ (8 * k) = 0 := by
  rw [lg_cmp_eq]
  have e : (x.toUInt64 >>> (((8 : Int32) * nI k).toInt64.toUInt64 &&& Int64.toUInt64 63)).toNat = uN x / 2 ^ (8 * k) := by
    show (x.toUInt64 >>> (((8 : Int32) * nI k).toInt64.toUInt64 &&& Int64.toUInt64 63)).toBitVec.toNat = _
    rw [UInt64.toBitVec_shiftRight]
    show (x.toBitVec >>> ((((8 : Int32) * nI k).toInt64.toUInt64 &&& Int64.toUInt64 63).toBitVec % 64).toNat).toNat = _
    rw [u64_s k hk, BitVec.toNat_ushiftRight, Nat.shiftRight_eq_div_pow]
    rfl
  rw [← e]
  constructor
  · intro z
    have := congrArg Int64.toUInt64 z
    rw [UInt64.toUInt64_toInt64] at this
    rw [this]; rfl
  · intro z
    have : x.toUInt64 >>> (((8 : Int32) * nI k).toInt64.toUInt64 &&& Int64.toUInt64 63) = 0 := UInt64.toNat_inj.mp z
    rw [this]; rfl
theorem bc_all {p : Nat → Bool} : ∀ n, (bc p n = n ↔ ∀ i, i < n → p i = true)
  | 0 => ⟨fun _ i hi => absurd hi (by omega), fun _ => rfl⟩
  | n + 1 => by
    have h := bc_le p n
    rw [bc]
    cases e : p n with
    | true =>
      constructor
      · intro z i hi
        by_cases e2 : i = n
        · rw [e2]; exact e
        · exact (bc_all n).mp (by simp at z; omega) i (by omega)
      · intro z
        have := (bc_all n).mpr fun i hi => z i (by omega)
        simp; omega
    | false =>
      constructor
      · intro z
        simp at z; omega
      · intro z
        have := z n (by omega)
        rw [e] at this; cases this
section AX36
variable {ro : axRo} {d : Nat} {h h1 : axH} {B : axBD} {Y : axYD} {sl : Nat → Option Nat} {P : axPD} {G : axGD} {tl : axH} {A : axAD} {f : Nat → Int32} {t : Nat → Nat} {pl c : Nat} {cu la ki fi se : Int32} {x : Int64}
theorem x2_codeOf {k : Nat} (hk : k < 8) : axEv ro (d + 1) kX2_codeOf [.long x, .int (nI k)] h (some (.int (nI (cdA x k)))) h := by
  refine ev_in rfl rfl (Nat.le_of_ble_eq_true rfl) rfl ?_
  refine wp_run rfl ?_
  rw [cd_u x hk]
  exact wp_ret rfl rfl ⟨rfl, rfl⟩
theorem x2_signsOf : axEv ro (d + 2) kX2_signsOf [.long x] h (some (.int (if sgOk x = true then nI (sgN x) else if sgN x = 0 ∧ uN x = 0 then 0 else -2))) h := by
  have hN : sgN x ≤ 8 := aFst_le _ _
  have hno : ∀ k, k < sgN x → cdA x k ≠ 0 := fun k hk => of_decide_eq_false (aFst_no _ _ k hk)
  have hyes : sgN x < 8 → cdA x (sgN x) = 0 := fun hk => of_decide_eq_true (aFst_yes (fun k => decide (cdA x k = 0)) 8 hk)
  have h64 : uN x < 2 ^ 64 := x.toUInt64.toBitVec.isLt
  have fin : ∀ v w, (∀ i, i < sgN x → 33 ≤ cdA x i ∧ cdA x i ≤ 126) → axW ro (axEv ro (d + 1)) cdX2_signsOf 46 [some (.long x), none, some (.int (nI (sgN x))), w] [.int 8, .int (nI (sgN x))] h (fun r' h' => r' = some (.int (if sgOk x = true then nI (sgN x) else if sgN x = 0 ∧ uN x = 0 then 0 else -2)) ∧ h' = h) ∨ v = 1 := by
    intro v w hall
    refine Or.inl ?_
    have hb := (bc_all (p := fun k => decide (33 ≤ cdA x k ∧ cdA x k ≤ 126)) (sgN x)).mpr fun i hi => decide_eq_true (hall i hi)
    by_cases e : sgN x < 8
    · refine wp_icge rfl (fun hz_ => absurd hz_ (nI_ge (b := 8) e (by omega))) (fun _ => ?_)
      refine wp_run rfl ?_
      by_cases e2 : uN x / 2 ^ (8 * sgN x) = 0
      · refine wp_ifeq rfl (fun _ => ?_) (fun hz_ => absurd ((u64_0 x e).mpr e2) hz_)
        refine wp_run rfl ?_
        by_cases e3 : 1 ≤ sgN x
        · rw [if_pos (show sgOk x = true from decide_eq_true ⟨e3, hb, e2⟩)]
          exact wp_ret rfl rfl ⟨rfl, rfl⟩
        · have e4 : sgN x = 0 := by omega
          rw [e4, Nat.mul_zero, Nat.pow_zero, Nat.div_one] at e2
          rw [if_neg (fun z => e3 (of_decide_eq_true z).1), if_pos ⟨e4, e2⟩, e4]
          exact wp_ret rfl rfl ⟨rfl, rfl⟩
      · refine wp_ifeq rfl (fun hz_ => absurd hz_ (fun z => e2 ((u64_0 x e).mp z))) (fun _ => ?_)
        refine wp_run rfl ?_
        rw [if_neg (fun z => e2 (of_decide_eq_true z).2.2), if_neg (fun z => e2 (by rw [z.2]; exact Nat.zero_div _))]
        exact wp_ret rfl rfl ⟨rfl, rfl⟩
    · have e8 : sgN x = 8 := by omega
      refine wp_icge rfl (fun _ => ?_) (fun hz_ => absurd (nI_le (a := 8) (by omega) (by omega)) hz_)
      refine wp_run rfl ?_
      rw [if_pos (show sgOk x = true from decide_eq_true ⟨by omega, hb, by rw [e8]; exact Nat.div_eq_of_lt h64⟩)]
      exact wp_ret rfl rfl ⟨rfl, rfl⟩
  have loop : ∀ m k w, k + m = sgN x → (∀ i, i < k → 33 ≤ cdA x i ∧ cdA x i ≤ 126) → axW ro (axEv ro (d + 1)) cdX2_signsOf 5 [some (.long x), none, some (.int (nI k)), w] [.int 8, .int (nI k)] h (fun r' h' => r' = some (.int (if sgOk x = true then nI (sgN x) else if sgN x = 0 ∧ uN x = 0 then 0 else -2)) ∧ h' = h) := by
    intro m
    induction m with
    | zero =>
      intro k w e hall
      have e : k = sgN x := by omega
      subst e
      have fin := (fin 0 w hall).resolve_right (by decide)
      by_cases e8 : sgN x < 8
      · refine wp_icge rfl (fun hz_ => absurd hz_ (nI_ge (b := 8) e8 (by omega))) (fun _ => ?_)
        refine wp_run rfl ?_
        refine wp_s2 rfl (Nat.le_of_ble_eq_true rfl) (x2_codeOf e8) ?_
        refine wp_run rfl ?_
        rw [hyes e8]
        refine wp_ifeq rfl (fun _ => ?_) (fun hz_ => absurd (rfl) hz_)
        refine wp_run rfl ?_
        exact fin
      · refine wp_icge rfl (fun _ => ?_) (fun hz_ => absurd (nI_le (a := 8) (by omega) (by omega)) hz_)
        refine wp_run rfl ?_
        exact fin
    | succ m ih =>
      intro k w e hall
      have hk : k < sgN x := by omega
      have hc := cdA_le x k
      refine wp_icge rfl (fun hz_ => absurd hz_ (nI_ge (b := 8) (by omega) (by omega))) (fun _ => ?_)
      refine wp_run rfl ?_
      refine wp_s2 rfl (Nat.le_of_ble_eq_true rfl) (x2_codeOf (show k < 8 by omega)) ?_
      refine wp_run rfl ?_
      refine wp_ifeq rfl (fun hz_ => absurd hz_ (nI_ne0 (by have := hno k hk; omega) (by omega))) (fun _ => ?_)
      refine wp_run rfl ?_
      refine wp_s2 rfl (Nat.le_of_ble_eq_true rfl) (x2_codeOf (show k < 8 by omega)) ?_
      refine wp_run rfl ?_
      have bad : ¬ (33 ≤ cdA x k ∧ cdA x k ≤ 126) → (if sgOk x = true then nI (sgN x) else if sgN x = 0 ∧ uN x = 0 then 0 else -2) = (-2 : Int32) := fun z => by
        rw [if_neg (fun y => z (of_decide_eq_true ((bc_all (p := fun k => decide (33 ≤ cdA x k ∧ cdA x k ≤ 126)) (sgN x)).mp (of_decide_eq_true y).2.1 k hk))), if_neg (fun y => by omega)]
      by_cases e1 : cdA x k < 33
      · rw [bad (by omega)]
        refine wp_iclt rfl (fun _ => ?_) (fun hz_ => absurd (nI_lt (b := 33) e1 (by omega)) hz_)
        refine wp_run rfl ?_
        exact wp_ret rfl rfl ⟨rfl, rfl⟩
      · refine wp_iclt rfl (fun hz_ => absurd hz_ (nI_nlt (b := 33) (by omega) (by omega))) (fun _ => ?_)
        refine wp_run rfl ?_
        by_cases e2 : cdA x k ≤ 126
        · refine wp_icle rfl (fun _ => ?_) (fun hz_ => absurd (nI_le (b := 126) e2 (by omega)) hz_)
          refine wp_run rfl ?_
          rw [nI_1]
          refine ih (k + 1) _ (by omega) fun i hi => ?_
          by_cases e3 : i = k
          · rw [e3]; omega
          · exact hall i (by omega)
        · rw [bad (by omega)]
          refine wp_icle rfl (fun hz_ => absurd hz_ (nI_ge (a := 126) (by omega) (by omega))) (fun _ => ?_)
          refine wp_run rfl ?_
          exact wp_ret rfl rfl ⟨rfl, rfl⟩
  refine ev_in rfl rfl (Nat.le_of_ble_eq_true rfl) rfl ?_
  refine wp_run rfl ?_
  exact loop (sgN x) 0 none (by omega) (fun i hi => absurd hi (by omega))
end AX36
end
section
/-! THE CLASS: characters are put onto the pad; what a new one holds. -/
theorem nar2_c : ∀ n, n < 256 → ((nI n).toUInt32 % 65536).toInt32 = nI n := by decide +kernel
def fpt (f : Nat → Int32) (pl n j : Nat) (x : Int64) : Nat → Int32 := fun i => if i < pl ∨ pl + j ≤ i then f i else nI (cdA x (n - 1 - (i - pl)))
theorem fpt_0 (f : Nat → Int32) (pl n : Nat) (x : Int64) : fpt f pl n 0 x = f := by
  funext i
  unfold fpt; rw [if_pos (by omega)]
theorem fpt_s (f : Nat → Int32) (pl n j : Nat) (x : Int64) : upd (fpt f pl n j x) (pl + j) (nI (cdA x (n - 1 - j))) = fpt f pl n (j + 1) x := by
  funext i
  rw [upd_up]
  by_cases e : i = pl + j
  · rw [if_pos e]; unfold fpt; rw [if_neg (by omega), show i - pl = j by omega]
  · rw [if_neg e]; unfold fpt
    by_cases e2 : i < pl ∨ pl + j ≤ i
    · rw [if_pos e2, if_pos (by omega)]
    · rw [if_neg e2, if_neg (by omega)]
/-- the text with the number's characters behind it -/
def putT (t : Nat → Nat) (pl : Nat) (x : Int64) : Nat → Nat := fun i => if i < pl then t i else cdA x (sgN x - 1 - (i - pl))
theorem sgOk_in {x : Int64} (h : sgOk x = true) : 1 ≤ sgN x ∧ sgN x ≤ 8 ∧ ∀ i, i < sgN x → 33 ≤ cdA x i ∧ cdA x i ≤ 126 := by
  have := of_decide_eq_true h
  exact ⟨this.1, aFst_le _ _, fun i hi => of_decide_eq_true ((bc_all (p := fun k => decide (33 ≤ cdA x k ∧ cdA x k ≤ 126)) (sgN x)).mp this.2.1 i hi)⟩
theorem PT_put {f : Nat → Int32} {t : Nat → Nat} {pl : Nat} {x : Int64} (hT : PT f t pl) (hx : sgOk x = true) (hl : pl + sgN x ≤ 80) : PT (fpt f pl (sgN x) (sgN x) x) (putT t pl x) (pl + sgN x) := by
  obtain ⟨h1, h2, h3⟩ := sgOk_in hx
  refine ⟨hl, fun i hi => ?_⟩
  unfold fpt putT
  by_cases e : i < pl
  · rw [if_pos (by omega), if_pos e]; exact hT.2 i e
  · rw [if_neg (by omega), if_neg e]; exact ⟨rfl, h3 _ (by omega)⟩
section AX37
variable {ro : axRo} {d : Nat} {h h1 : axH} {B : axBD} {Y : axYD} {sl : Nat → Option Nat} {P : axPD} {G : axGD} {tl : axH} {A : axAD} {f : Nat → Int32} {t : Nat → Nat} {pl c : Nat} {cu la ki fi se : Int32} {x : Int64}
theorem x2_addSign (hp : pl < 80) (hc : c < 128) : axEv ro (d + 1) kX2_addSign [.ref 11, .int (nI c)] ((hX B Y sl (f, nI pl, cu, la, ki, fi, se) G tl)) none ((hX B Y sl (upd f pl (nI c), nI (pl + 1), cu, la, ki, fi, se) G tl)) := by
  refine ev_in rfl rfl (Nat.le_of_ble_eq_true rfl) rfl ?_
  refine wp_run rfl ?_
  refine wp_iflt rfl (fun hz_ => absurd hz_ (nI_pos (by omega))) (fun _ => ?_)
  refine wp_run rfl ?_
  refine wp_icge rfl (fun hz_ => absurd hz_ (nI_ge (b := 80) hp (by omega))) (fun _ => ?_)
  refine wp_run rfl ?_
  refine wp_ast (h1 := (hX B Y sl (upd f pl (nI c), nI pl, cu, la, ki, fi, se) G tl)) rfl rfl (vp_in_nI hp (by decide)) (nar_c c hc) (by rw [nI_clamp (by omega)]; rfl) ?_
  refine wp_run rfl ?_
  rw [nI_1]
  refine wp_putf (h1 := (hX B Y sl (upd f pl (nI c), nI (pl + 1), cu, la, ki, fi, se) G tl)) rfl rfl (Nat.le_of_ble_eq_true rfl) ⟨rfl, rfl, fun _ hz_ => by cases hz_⟩ rfl ?_
  refine wp_run rfl ?_
  exact wp_retv rfl ⟨rfl, rfl⟩
theorem x2_append_bad (hx : sgOk x = false) : axEv ro (d + 3) kX2_append [.ref 11, .long x] ((hX B Y sl (f, nI pl, cu, la, ki, fi, se) G tl)) (some (.int (-2))) ((hX B Y sl (f, nI pl, cu, la, ki, fi, se) G tl)) := by
  refine ev_in rfl rfl (Nat.le_of_ble_eq_true rfl) rfl ?_
  refine wp_run rfl ?_
  refine wp_s1 rfl (Nat.le_of_ble_eq_true rfl) x2_signsOf ?_
  refine wp_run rfl ?_
  rw [if_neg (show ¬ sgOk x = true by rw [hx]; decide)]
  by_cases e : sgN x = 0 ∧ uN x = 0
  · rw [if_pos e]
    refine wp_icge rfl (fun hz_ => absurd hz_ ((by decide : ¬ (1 : Int32) ≤ 0))) (fun _ => ?_)
    refine wp_run rfl ?_
    exact wp_ret rfl rfl ⟨rfl, rfl⟩
  · rw [if_neg e]
    refine wp_icge rfl (fun hz_ => absurd hz_ ((by decide : ¬ (1 : Int32) ≤ -2))) (fun _ => ?_)
    refine wp_run rfl ?_
    exact wp_ret rfl rfl ⟨rfl, rfl⟩
theorem x2_append_tm (hx : sgOk x = true) (hp : pl ≤ 80) (hl : 80 < pl + sgN x) : axEv ro (d + 3) kX2_append [.ref 11, .long x] ((hX B Y sl (f, nI pl, cu, la, ki, fi, se) G tl)) (some (.int (-4))) ((hX B Y sl (f, nI pl, cu, la, ki, fi, se) G tl)) := by
  obtain ⟨h1, h2, h3⟩ := sgOk_in hx
  refine ev_in rfl rfl (Nat.le_of_ble_eq_true rfl) rfl ?_
  refine wp_run rfl ?_
  refine wp_s1 rfl (Nat.le_of_ble_eq_true rfl) x2_signsOf ?_
  refine wp_run rfl ?_
  rw [if_pos hx]
  refine wp_icge rfl (fun _ => ?_) (fun hz_ => absurd (nI_le (a := 1) h1 (by omega)) hz_)
  refine wp_run rfl ?_
  rw [nI_add]
  refine wp_icle rfl (fun hz_ => absurd hz_ (nI_ge (a := 80) hl (by omega))) (fun _ => ?_)
  refine wp_run rfl ?_
  exact wp_ret rfl rfl ⟨rfl, rfl⟩
theorem x2_append (hx : sgOk x = true) (hl : pl + sgN x ≤ 80) : axEv ro (d + 3) kX2_append [.ref 11, .long x] ((hX B Y sl (f, nI pl, cu, la, ki, fi, se) G tl)) (some (.int (nI (pl + sgN x)))) ((hX B Y sl (fpt f pl (sgN x) (sgN x) x, nI (pl + sgN x), cu, la, ki, fi, se) G tl)) := by
  obtain ⟨h1, h2, h3⟩ := sgOk_in hx
  have loop : ∀ m j, m + j = sgN x → axW ro (axEv ro (d + 2)) cdX2_append 34 [some (.ref 11), some (.long x), none, some (.int (nI (sgN x))), some (.int (nI m - 1))] [.int (nI m - 1)] ((hX B Y sl (fpt f pl (sgN x) j x, nI (pl + j), cu, la, ki, fi, se) G tl)) (fun r' h' => r' = some (.int (nI (pl + sgN x))) ∧ h' = ((hX B Y sl (fpt f pl (sgN x) (sgN x) x, nI (pl + sgN x), cu, la, ki, fi, se) G tl))) := by
    intro m
    induction m with
    | zero =>
      intro j e
      have e : j = sgN x := by omega
      refine wp_iflt rfl (fun _ => ?_) (fun hz_ => absurd ((by decide : nI 0 - 1 < 0)) hz_)
      refine wp_run rfl ?_
      rw [e]
      exact wp_ret rfl rfl ⟨rfl, rfl⟩
    | succ m ih =>
      intro j e
      have hc := h3 m (by omega)
      rw [nI_pred]
      refine wp_iflt rfl (fun hz_ => absurd hz_ (nI_pos (by omega))) (fun _ => ?_)
      refine wp_run rfl ?_
      refine wp_s2 rfl (Nat.le_of_ble_eq_true rfl) (x2_codeOf (show m < 8 by omega)) ?_
      refine wp_run rfl ?_
      rw [nar2_c _ (by omega)]
      refine wp_v1v rfl rfl (Nat.le_of_ble_eq_true rfl) (x2_addSign (show pl + j < 80 by omega) (show cdA x m < 128 by omega)) ?_
      refine wp_run rfl ?_
      rw [show cdA x m = cdA x (sgN x - 1 - j) by rw [show m = sgN x - 1 - j by omega], fpt_s, show nI m + (-1) = nI m - 1 by rw [Int32.sub_eq_add_neg]]
      exact ih (j + 1) (by omega)
  have h0 := loop (sgN x) 0 (by omega)
  rw [fpt_0] at h0
  refine ev_in rfl rfl (Nat.le_of_ble_eq_true rfl) rfl ?_
  refine wp_run rfl ?_
  refine wp_s1 rfl (Nat.le_of_ble_eq_true rfl) x2_signsOf ?_
  refine wp_run rfl ?_
  rw [if_pos hx]
  refine wp_icge rfl (fun _ => ?_) (fun hz_ => absurd (nI_le (a := 1) h1 (by omega)) hz_)
  refine wp_run rfl ?_
  rw [nI_add]
  refine wp_icle rfl (fun _ => ?_) (fun hz_ => absurd (nI_le (b := 80) hl (by omega)) hz_)
  refine wp_run rfl ?_
  exact h0
end AX37
end
section
/-! THE CLASS: a new one. -/
def nO : Nat → Option Nat := fun _ => none
def pIni : axPD := (z0F, 0, 0, 0, 0, 0, 0)
def gIni : axGD := (z0F, 0, 0, 0)
section AX38
variable {ro : axRo} {d : Nat} {h0 : axH}
theorem x1_init : axEv ro (d + 1) kX1_init [.ref h0.length] (h0 ++ [.inr (.inr (1, axDf 1))]) none (h0 ++ [.inr (.inr (1, [.ref (h0.length + 1), .int 0, .int 0])), .inr (.inl (7, nO))]) := by
  refine ev_in rfl rfl (Nat.le_of_ble_eq_true rfl) rfl ?_
  refine wp_run rfl ?_
  refine wp_obj rfl (Nat.le_of_ble_eq_true rfl) ?_
  refine wp_run rfl ?_
  refine wp_newq (q := h0.length + 1) (N := 7) (h1 := h0 ++ [.inr (.inr (1, [.null, .int 0, .int 0])), .inr (.inl (7, nO))]) rfl (by decide) (by decide) (by decide) (gL rfl) (gP rfl) ?_
  refine wp_run rfl ?_
  refine wp_putF (h1 := h0 ++ [.inr (.inr (1, [.ref (h0.length + 1), .int 0, .int 0])), .inr (.inl (7, nO))]) rfl (gA 0) (Nat.le_of_ble_eq_true rfl) ⟨rfl, rfl, fun _ hz_ => by cases hz_⟩ (gS 0 _) ?_
  refine wp_run rfl ?_
  exact wp_retv rfl ⟨rfl, rfl⟩
theorem x2_init : axEv ro (d + 1) kX2_init [.ref h0.length] (h0 ++ [.inr (.inr (2, axDf 2))]) none (h0 ++ [.inr (.inr (2, [.ref (h0.length + 1), .int 0, .int 0, .int 0, .int 0, .int 0, .int 0])), .inl (1, 80, z0F)]) := by
  refine ev_in rfl rfl (Nat.le_of_ble_eq_true rfl) rfl ?_
  refine wp_run rfl ?_
  refine wp_obj rfl (Nat.le_of_ble_eq_true rfl) ?_
  refine wp_run rfl ?_
  refine wp_newa (q := h0.length + 1) (N := 80) (h1 := h0 ++ [.inr (.inr (2, [.null, .int 0, .int 0, .int 0, .int 0, .int 0, .int 0])), .inl (1, 80, z0F)]) rfl (by decide) (by decide) (by decide) (gL rfl) (gP rfl) ?_
  refine wp_run rfl ?_
  refine wp_putF (h1 := h0 ++ [.inr (.inr (2, [.ref (h0.length + 1), .int 0, .int 0, .int 0, .int 0, .int 0, .int 0])), .inl (1, 80, z0F)]) rfl (gA 0) (Nat.le_of_ble_eq_true rfl) ⟨rfl, rfl, fun _ hz_ => by cases hz_⟩ (gS 0 _) ?_
  refine wp_run rfl ?_
  exact wp_retv rfl ⟨rfl, rfl⟩
theorem x3_init : axEv ro (d + 1) kX3_init [.ref h0.length] (h0 ++ [.inr (.inr (3, axDf 3))]) none (h0 ++ [.inr (.inr (3, [.ref (h0.length + 1), .int 0, .int 0, .int 0])), .inl (0, 24, z0F)]) := by
  refine ev_in rfl rfl (Nat.le_of_ble_eq_true rfl) rfl ?_
  refine wp_run rfl ?_
  refine wp_obj rfl (Nat.le_of_ble_eq_true rfl) ?_
  refine wp_run rfl ?_
  refine wp_newa (q := h0.length + 1) (N := 24) (h1 := h0 ++ [.inr (.inr (3, [.null, .int 0, .int 0, .int 0])), .inl (0, 24, z0F)]) rfl (by decide) (by decide) (by decide) (gL rfl) (gP rfl) ?_
  refine wp_run rfl ?_
  refine wp_putF (h1 := h0 ++ [.inr (.inr (3, [.ref (h0.length + 1), .int 0, .int 0, .int 0])), .inl (0, 24, z0F)]) rfl (gA 0) (Nat.le_of_ble_eq_true rfl) ⟨rfl, rfl, fun _ hz_ => by cases hz_⟩ (gS 0 _) ?_
  refine wp_run rfl ?_
  exact wp_retv rfl ⟨rfl, rfl⟩
/-- the class' object while it is made -/
def o4 (a b c e f : Value) : axC := .inr (.inr (4, [a, b, c, e, f]))
def hi1 (a : axC) : axH := a :: bdL 1 bIni
def hi2 (a : axC) : axH := hi1 a ++ [.inr (.inr (1, [.ref 9, .int 0, .int 0])), .inr (.inl (7, nO))]
def hi3 (a : axC) : axH := hi2 a ++ [.inr (.inl (2, nO))]
def hi4 (a : axC) : axH := hi3 a ++ [.inr (.inr (2, [.ref 12, .int 0, .int 0, .int 0, .int 0, .int 0, .int 0])), .inl (1, 80, z0F)]
theorem x4_init : axEv ro (d + 2) kX4_init [.ref 0] [.inr (.inr (4, axDf 4))] none (hX bIni (nO, 0, 0) nO pIni gIni []) := by
  refine ev_in rfl rfl (Nat.le_of_ble_eq_true rfl) rfl ?_
  refine wp_run rfl ?_
  refine wp_obj rfl (Nat.le_of_ble_eq_true rfl) ?_
  refine wp_run rfl ?_
  refine wp_new (q := 1) (h1 := [o4 .null .null .null .null .null] ++ [.inr (.inr (0, axDf 0))]) rfl rfl rfl ?_
  refine wp_run rfl ?_
  refine wp_i0 rfl (Nat.le_of_ble_eq_true rfl) (x0_init (h0 := [o4 .null .null .null .null .null])) ?_
  refine wp_run rfl ?_
  refine wp_putF (h1 := hi1 (o4 (.ref 1) .null .null .null .null)) (k := 0) rfl rfl (Nat.le_of_ble_eq_true rfl) ⟨rfl, rfl, fun _ hz_ => by cases hz_⟩ rfl ?_
  refine wp_run rfl ?_
  refine wp_new (q := 8) (h1 := hi1 (o4 (.ref 1) .null .null .null .null) ++ [.inr (.inr (1, axDf 1))]) rfl rfl rfl ?_
  refine wp_run rfl ?_
  refine wp_i0 rfl (Nat.le_of_ble_eq_true rfl) (x1_init (h0 := hi1 (o4 (.ref 1) .null .null .null .null))) ?_
  refine wp_run rfl ?_
  refine wp_putF (h1 := hi2 (o4 (.ref 1) (.ref 8) .null .null .null)) (k := 0) rfl rfl (Nat.le_of_ble_eq_true rfl) ⟨rfl, rfl, fun _ hz_ => by cases hz_⟩ rfl ?_
  refine wp_run rfl ?_
  refine wp_newq (q := 10) (N := 2) (h1 := hi3 (o4 (.ref 1) (.ref 8) .null .null .null)) rfl (by decide) (by decide) (by decide) rfl rfl ?_
  refine wp_run rfl ?_
  refine wp_putF (h1 := hi3 (o4 (.ref 1) (.ref 8) (.ref 10) .null .null)) (k := 0) rfl rfl (Nat.le_of_ble_eq_true rfl) ⟨rfl, rfl, fun _ hz_ => by cases hz_⟩ rfl ?_
  refine wp_run rfl ?_
  refine wp_new (q := 11) (h1 := hi3 (o4 (.ref 1) (.ref 8) (.ref 10) .null .null) ++ [.inr (.inr (2, axDf 2))]) rfl rfl rfl ?_
  refine wp_run rfl ?_
  refine wp_i0 rfl (Nat.le_of_ble_eq_true rfl) (x2_init (h0 := hi3 (o4 (.ref 1) (.ref 8) (.ref 10) .null .null))) ?_
  refine wp_run rfl ?_
  refine wp_putF (h1 := hi4 (o4 (.ref 1) (.ref 8) (.ref 10) (.ref 11) .null)) (k := 0) rfl rfl (Nat.le_of_ble_eq_true rfl) ⟨rfl, rfl, fun _ hz_ => by cases hz_⟩ rfl ?_
  refine wp_run rfl ?_
  refine wp_new (q := 13) (h1 := hi4 (o4 (.ref 1) (.ref 8) (.ref 10) (.ref 11) .null) ++ [.inr (.inr (3, axDf 3))]) rfl rfl rfl ?_
  refine wp_run rfl ?_
  refine wp_i0 rfl (Nat.le_of_ble_eq_true rfl) (x3_init (h0 := hi4 (o4 (.ref 1) (.ref 8) (.ref 10) (.ref 11) .null))) ?_
  refine wp_run rfl ?_
  refine wp_putF (h1 := hX bIni (nO, 0, 0) nO pIni gIni []) (k := 0) rfl rfl (Nat.le_of_ble_eq_true rfl) ⟨rfl, rfl, fun _ hz_ => by cases hz_⟩ rfl ?_
  refine wp_run rfl ?_
  exact wp_retv rfl ⟨rfl, rfl⟩
end AX38
end
section
/-! What holds of every board goes on to hold after every change. -/
/-- the place p needs the place b -/
def nd (A : axAD) (a b : Nat) : Bool := bt (aD A (aR A a)) (aR A b)
theorem nd_lt {A : axAD} (hO : aOk A) {a b : Nat} (ha : a < aN A) (hb : b < aN A) (h : nd A a b = true) : b < a := by
  obtain ⟨j, hj, e⟩ := hO.d ha h
  have := hO.inj (show j < aN A by omega) hb e
  omega
theorem aLo_iff {A : axAD} {p q : Nat} : aLo A p ≤ q ↔ ∀ b, b < aN A → nd A p b = true → b < q := by
  have key : ∀ n, aLoF A (aD A (aR A p)) n ≤ q ↔ ∀ b, b < n → nd A p b = true → b < q := by
    intro n
    induction n with
    | zero => exact ⟨fun _ b hb => absurd hb (by omega), fun _ => Nat.zero_le _⟩
    | succ n ih =>
      rw [aLoF]
      by_cases e : bt (aD A (aR A p)) (aR A n) = true
      · rw [if_pos e]
        exact ⟨fun h b hb _ => by omega, fun h => h n (by omega) e⟩
      · rw [if_neg e, ih]
        exact ⟨fun h b hb hn => by
          by_cases e2 : b = n
          · subst e2; exact absurd hn e
          · exact h b (by omega) hn, fun h b hb hn => h b (by omega) hn⟩
  exact key _
theorem aHi_iff {A : axAD} {p q : Nat} (hq : q < aN A) : q < aHi A p ↔ ∀ a, a < aN A → nd A a p = true → q < a := by
  constructor
  · intro h a ha hn
    have := aFst_lt (f := fun i => bt (aD A (aR A i)) (aR A p)) ha hn
    have h : q < aFst (fun i => bt (aD A (aR A i)) (aR A p)) (aN A) := h
    omega
  · intro h
    by_cases e : aHi A p < aN A
    · exact h _ e (aFst_yes (fun i => bt (aD A (aR A i)) (aR A p)) (aN A) e)
    · omega
/-- is each slug behind all that it needs, in the row r -/
def aOrd (A : axAD) (r : Nat → Nat) : Prop := ∀ i k, i < aN A → bt (aD A (r i)) k = true → ∃ j, j < i ∧ r j = k
theorem aRow_ord {A : axAD} (hO : aOk A) {r π : Nat → Nat} (h1 : ∀ a, a < aN A → π a < aN A ∧ r (π a) = aR A a) (h2 : ∀ i, i < aN A → ∃ a, a < aN A ∧ π a = i) : aOrd A r ↔ ∀ a b, a < aN A → b < aN A → nd A a b = true → π b < π a := by
  constructor
  · intro h a b ha hb hn
    obtain ⟨j, hj, e⟩ := h (π a) (aR A b) (h1 a ha).1 (by rw [(h1 a ha).2]; exact hn)
    obtain ⟨c, hc, e2⟩ := h2 j (by have := (h1 a ha).1; omega)
    have : c = b := hO.inj hc hb (by rw [← (h1 c hc).2, e2, e])
    rw [← this, e2]; exact hj
  · intro h i k hi hn
    obtain ⟨a, ha, e⟩ := h2 i hi
    rw [← e, (h1 a ha).2] at hn
    obtain ⟨b, hb, e2⟩ := hO.d ha hn
    refine ⟨π b, ?_, by rw [(h1 b (by omega)).2, e2]⟩
    rw [← e]
    exact h a b ha (by omega) (by unfold nd; rw [e2]; exact hn)
theorem aOk_row {A : axAD} (hO : aOk A) {r π : Nat → Nat} (h1 : ∀ a, a < aN A → π a < aN A ∧ r (π a) = aR A a) (h2 : ∀ i, i < aN A → ∃ a, a < aN A ∧ π a = i) (ho : aOrd A r) : aOk (aRow A r) := by
  have hr : ∀ i, i < aN A → ∃ a, a < aN A ∧ π a = i ∧ r i = aR A a := fun i hi => by
    obtain ⟨a, ha, e⟩ := h2 i hi
    exact ⟨a, ha, e, by rw [← e]; exact (h1 a ha).2⟩
  obtain ⟨o1, o2, o3, o4, o5, o6⟩ := hO
  refine ⟨o1, fun i hi => ?_, fun i j hi hj e => ?_, fun i hi => ?_, ho, o6⟩
  · obtain ⟨a, ha, -, e⟩ := hr i hi
    show r i < 24
    rw [e]; exact o2 a ha
  · obtain ⟨a, ha, ea, e1⟩ := hr i hi
    obtain ⟨b, hb, eb, e2⟩ := hr j hj
    have : a = b := o3 a b ha hb (by rw [← e1, ← e2]; exact e)
    rw [← ea, ← eb, this]
  · obtain ⟨a, ha, -, e⟩ := hr i hi
    show 1 ≤ aB A (r i) ∧ aB A (r i) ≤ aW A (r i) ∧ aW A (r i) ≤ 99
    rw [e]; exact o4 a ha
/-- where places go when p moves to q -/
def mvP (p q a : Nat) : Nat := if a = p then q else if a < p then (if a < q then a else a + 1) else (if a - 1 < q then a - 1 else a)
theorem mvP_is {A : axAD} {p q : Nat} (hp : p < aN A) (hq : q < aN A) : ∀ a, a < aN A → mvP p q a < aN A ∧ aIns (aDel (aR A) p) q (aR A p) (mvP p q a) = aR A a := by
  intro a ha
  unfold mvP
  by_cases e : a = p
  · rw [if_pos e, aIns_at, e]; exact ⟨hq, rfl⟩
  · rw [if_neg e]
    by_cases e2 : a < p
    · rw [if_pos e2]
      by_cases e3 : a < q
      · rw [if_pos e3]; refine ⟨ha, ?_⟩
        unfold aIns aDel; rw [if_pos e3, if_pos e2]
      · rw [if_neg e3]; refine ⟨by omega, ?_⟩
        unfold aIns aDel; rw [if_neg (by omega), if_neg (by omega), if_pos (by omega)]; rfl
    · rw [if_neg e2]
      by_cases e3 : a - 1 < q
      · rw [if_pos e3]; refine ⟨by omega, ?_⟩
        unfold aIns aDel; rw [if_pos e3, if_neg (by omega), show a - 1 + 1 = a by omega]
      · rw [if_neg e3]; refine ⟨ha, ?_⟩
        unfold aIns aDel; rw [if_neg (by omega), if_neg (by omega), if_neg (by omega), show a - 1 + 1 = a by omega]
theorem mvP_has {n p q : Nat} (hp : p < n) (hq : q < n) : ∀ i, i < n → ∃ a, a < n ∧ mvP p q a = i := by
  intro i hi
  by_cases e : i = q
  · exact ⟨p, hp, by unfold mvP; rw [if_pos rfl, e]⟩
  · by_cases e1 : i < q
    · by_cases e2 : i < p
      · exact ⟨i, hi, by unfold mvP; rw [if_neg (by omega), if_pos e2, if_pos e1]⟩
      · exact ⟨i + 1, by omega, by unfold mvP; rw [if_neg (by omega), if_neg (by omega), if_pos (by omega)]; omega⟩
    · by_cases e2 : i ≤ p
      · exact ⟨i - 1, by omega, by unfold mvP; rw [if_neg (by omega), if_pos (by omega), if_neg (by omega)]; omega⟩
      · exact ⟨i, hi, by unfold mvP; rw [if_neg (by omega), if_neg (by omega), if_neg (by omega)]⟩
theorem aMove_ord {A : axAD} (hO : aOk A) {p q : Nat} (hp : p < aN A) (hq : q < aN A) : aOrd A (aIns (aDel (aR A) p) q (aR A p)) ↔ (aLo A p ≤ q ∧ q < aHi A p) := by
  rw [aRow_ord hO (mvP_is hp hq) (mvP_has hp hq), aLo_iff, aHi_iff hq]
  constructor
  · intro h
    constructor
    · intro b hb hn
      have h1 := nd_lt hO hp hb hn
      have h2 := h p b hp hb hn
      unfold mvP at h2
      rw [if_neg (by omega), if_pos rfl, if_pos h1] at h2
      split at h2 <;> omega
    · intro a ha hn
      have h1 := nd_lt hO ha hp hn
      have h2 := h a p ha hp hn
      unfold mvP at h2
      rw [if_pos rfl, if_neg (by omega), if_neg (by omega)] at h2
      split at h2 <;> omega
  · rintro ⟨g1, g2⟩ a b ha hb hn
    have h1 := nd_lt hO ha hb hn
    by_cases ea : a = p
    · subst ea
      have := g1 b hb hn
      unfold mvP
      rw [if_neg (by omega), if_pos rfl, if_pos h1, if_pos this]; exact this
    · by_cases eb : b = p
      · subst eb
        have := g2 a ha hn
        unfold mvP
        rw [if_pos rfl, if_neg ea, if_neg (by omega), if_neg (by omega)]; exact this
      · unfold mvP
        rw [if_neg ea, if_neg eb]
        split <;> split <;> split <;> (try split) <;> omega
theorem aOk_move {A : axAD} (hO : aOk A) {p q : Nat} (hp : p < aN A) (hq : q < aN A) (h : aLo A p ≤ q ∧ q < aHi A p) : aOk (aMove A p q) :=
  aOk_row hO (mvP_is hp hq) (mvP_has hp hq) ((aMove_ord hO hp hq).mpr h)
def swP (p q a : Nat) : Nat := if a = p then q else if a = q then p else a
theorem swP_is {A : axAD} {p q : Nat} (hp : p < aN A) (hq : q < aN A) : ∀ a, a < aN A → swP p q a < aN A ∧ (fun i => if i = p then aR A q else if i = q then aR A p else aR A i) (swP p q a) = aR A a := by
  intro a ha
  show swP p q a < aN A ∧ (if swP p q a = p then aR A q else if swP p q a = q then aR A p else aR A (swP p q a)) = aR A a
  unfold swP
  by_cases e : a = p
  · rw [if_pos e]
    refine ⟨hq, ?_⟩
    by_cases e2 : q = p
    · rw [if_pos e2, e, e2]
    · rw [if_neg e2, if_pos rfl, e]
  · rw [if_neg e]
    by_cases e2 : a = q
    · rw [if_pos e2]; exact ⟨hp, by rw [if_pos rfl, e2]⟩
    · rw [if_neg e2, if_neg e, if_neg e2]; exact ⟨ha, rfl⟩
theorem swP_has {n p q : Nat} (hp : p < n) (hq : q < n) : ∀ i, i < n → ∃ a, a < n ∧ swP p q a = i := by
  intro i hi
  unfold swP
  by_cases e : i = q
  · exact ⟨p, hp, by rw [if_pos rfl, e]⟩
  · by_cases e2 : i = p
    · exact ⟨q, hq, by
        by_cases e3 : q = p
        · rw [if_pos e3, e2, e3]
        · rw [if_neg e3, if_pos rfl, e2]⟩
    · exact ⟨i, hi, by rw [if_neg e2, if_neg e]⟩
theorem aSwp_ord {A : axAD} (hO : aOk A) {p q : Nat} (hp : p < aN A) (hq : q < aN A) (hpq : p ≠ q) : aOrd A (fun i => if i = p then aR A q else if i = q then aR A p else aR A i) ↔ aMay A p q := by
  rw [aRow_ord hO (swP_is hp hq) (swP_has hp hq)]
  unfold aMay
  rw [aLo_iff, aHi_iff hq, aLo_iff, aHi_iff hp]
  constructor
  · intro h
    refine ⟨⟨fun b hb hn => ?_, fun a ha hn => ?_⟩, fun b hb hn => ?_, fun a ha hn => ?_⟩
    · have h1 := nd_lt hO hp hb hn
      have h2 := h p b hp hb hn
      unfold swP at h2
      rw [if_pos rfl, if_neg (by omega)] at h2
      split at h2 <;> omega
    · have h1 := nd_lt hO ha hp hn
      have h2 := h a p ha hp hn
      unfold swP at h2
      rw [if_pos rfl, if_neg (by omega)] at h2
      split at h2 <;> omega
    · have h1 := nd_lt hO hq hb hn
      have h2 := h q b hq hb hn
      unfold swP at h2
      rw [if_neg (show ¬ q = p from fun z => hpq z.symm), if_pos (show q = q from rfl)] at h2
      split at h2
      · omega
      · rw [if_neg (by omega)] at h2; omega
    · have h1 := nd_lt hO ha hq hn
      have h2 := h a q ha hq hn
      unfold swP at h2
      rw [if_neg (show ¬ q = p from fun z => hpq z.symm), if_pos (show q = q from rfl)] at h2
      split at h2
      · omega
      · rw [if_neg (by omega)] at h2; omega
  · rintro ⟨⟨g1, g2⟩, g3, g4⟩ a b ha hb hn
    have h1 := nd_lt hO ha hb hn
    unfold swP
    by_cases ea : a = p
    · subst ea
      have := g1 b hb hn
      rw [if_pos rfl, if_neg (by omega), if_neg (by omega)]; exact this
    · rw [if_neg ea]
      by_cases ea2 : a = q
      · subst ea2
        have := g3 b hb hn
        rw [if_pos rfl, if_neg (by omega), if_neg (by omega)]; exact this
      · rw [if_neg ea2]
        by_cases eb : b = p
        · subst eb
          rw [if_pos rfl]; exact g2 a ha hn
        · rw [if_neg eb]
          by_cases eb2 : b = q
          · subst eb2
            rw [if_pos rfl]; exact g4 a ha hn
          · rw [if_neg eb2]; exact h1
theorem aOk_swp {A : axAD} (hO : aOk A) {p q : Nat} (hp : p < aN A) (hq : q < aN A) (hpq : p ≠ q) (h : aMay A p q) : aOk (aSwp A p q) :=
  aOk_row hO (swP_is hp hq) (swP_has hp hq) ((aSwp_ord hO hp hq hpq).mpr h)
theorem aOk_setS {A : axAD} (hO : aOk A) {j v : Nat} (hj : j < 3) (h1 : aLs j ≤ v) (h2 : v ≤ aMs j) : aOk (aSetS A j v) := by
  obtain ⟨o1, o2, o3, o4, o5, o6, o7, o8, o9⟩ := hO
  refine ⟨o1, o2, o3, o4, o5, ?_, ?_, ?_, o9⟩
  · show 4 ≤ (if j = 0 then v else aPg A) ∧ (if j = 0 then v else aPg A) ≤ 60
    by_cases e : j = 0
    · subst e; rw [if_pos rfl]; exact ⟨h1, h2⟩
    · rw [if_neg e]; exact o6
  · show (if j = 1 then v else aSl A) ≤ 20
    by_cases e : j = 1
    · subst e; rw [if_pos rfl]; exact h2
    · rw [if_neg e]; exact o7
  · show (if j = 2 then v else aTr A) ≤ 90
    by_cases e : j = 2
    · subst e; rw [if_pos rfl]; exact h2
    · rw [if_neg e]; exact o8
theorem aOk_setT {A : axAD} (hO : aOk A) {a v : Nat} (h1 : 1 ≤ v) (h2 : v ≤ 999) : aOk (aSetT A a v) := by
  obtain ⟨o1, o2, o3, o4, o5, o6, o7, o8, o9⟩ := hO
  refine ⟨o1, o2, o3, o4, o5, o6, o7, o8, fun b hb => ?_⟩
  show 1 ≤ va_up (aTg A) a v b ∧ va_up (aTg A) a v b ≤ 999
  by_cases e : b = a
  · rw [e, va_is]; exact ⟨h1, h2⟩
  · rw [va_no e]; exact o9 b hb
theorem aOk_flip {A : axAD} (hO : aOk A) (k : Nat) : aOk (aFlip A k) := hO
theorem aOk_setD {A : axAD} (hO : aOk A) {p : Nat} (hp : p < aN A) {x : Int32} (h : ∀ k, bt x k = true → ∃ j, j < p ∧ aR A j = k) : aOk (aSetD A (aR A p) x) := by
  have inj : ∀ j, j < aN A → aR A p = aR A j → p = j := fun j hj e => hO.inj hp hj e
  obtain ⟨o1, o2, o3, o4, o5, o6⟩ := hO
  refine ⟨o1, o2, o3, o4, fun i k hi hb => ?_, o6⟩
  have hb : bt (va_up (aD A) (aR A p) x (aR A i)) k = true := hb
  by_cases e : aR A i = aR A p
  · have : i = p := (inj i hi e.symm).symm
    subst this
    rw [va_is] at hb
    exact h k hb
  · rw [va_no e] at hb
    exact o5 i k hi hb
theorem aOk_need {A : axAD} (hO : aOk A) {i j : Nat} (hi : i < aN A) (hj : j < aN A) (hb : bt (aD A (aR A i)) (aR A j) = true ∨ j < i) : aOk (aSetD A (aR A i) (aD A (aR A i) ^^^ bi (aR A j))) := by
  have hk := hO.r hj
  refine aOk_setD hO hi fun k hk2 => ?_
  rw [bt_flp (by omega)] at hk2
  by_cases e : k = aR A j
  · rcases hb with hb | hb
    · rw [e, hb, decide_eq_true rfl] at hk2; cases hk2
    · exact ⟨j, hb, e.symm⟩
  · rw [decide_eq_false e, Bool.xor_false] at hk2
    exact hO.d hi hk2
end
section
/-! What holds of every board goes on to hold: drop, add, split. -/
def dlI (p i : Nat) : Nat := if i < p then i else i + 1
theorem aDel_dl (r : Nat → Nat) (p i : Nat) : aDel r p i = r (dlI p i) := by
  unfold aDel dlI; split <;> rfl
theorem dlI_lt {p i n : Nat} (hi : i < n - 1) : dlI p i < n ∧ dlI p i ≠ p := by
  unfold dlI; split <;> omega
theorem dlI_has {p b n : Nat} (hb : b < n) (hbp : b ≠ p) (hp : p < n) : ∃ i, i < n - 1 ∧ dlI p i = b := by
  by_cases e : b < p
  · exact ⟨b, by omega, if_pos e⟩
  · exact ⟨b - 1, by omega, by unfold dlI; rw [if_neg (by omega)]; omega⟩
theorem dlI_mono {p i j : Nat} (h : dlI p i < dlI p j) : i < j := by
  unfold dlI at h; split at h <;> split at h <;> omega
theorem dlI_inj {p i j : Nat} (h : dlI p i = dlI p j) : i = j := by
  unfold dlI at h; split at h <;> split at h <;> omega
theorem aOk_drop {A : axAD} (hO : aOk A) {p : Nat} (hp : p < aN A) : aOk (aDrop A p) := by
  have hk := hO.r hp
  obtain ⟨o1, o2, o3, o4, o5, o6⟩ := hO
  refine ⟨?_, fun i hi => ?_, fun i j hi hj e => ?_, fun i hi => ?_, fun i k hi hb => ?_, o6⟩
  · show aN A - 1 ≤ 24; omega
  · show aDel (aR A) p i < 24
    rw [aDel_dl]; exact o2 _ (dlI_lt hi).1
  · have e : aDel (aR A) p i = aDel (aR A) p j := e
    rw [aDel_dl, aDel_dl] at e
    exact dlI_inj (o3 _ _ (dlI_lt hi).1 (dlI_lt hj).1 e)
  · show 1 ≤ aB A (aDel (aR A) p i) ∧ aB A (aDel (aR A) p i) ≤ aW A (aDel (aR A) p i) ∧ aW A (aDel (aR A) p i) ≤ 99
    rw [aDel_dl]; exact o4 _ (dlI_lt hi).1
  · have hb : bt (aD A (aDel (aR A) p i) &&& (bi (aR A p) ^^^ (-1))) k = true := hb
    rw [bt_clr (by omega), aDel_dl, Bool.and_eq_true] at hb
    obtain ⟨b, hb1, hb2⟩ := o5 _ k (dlI_lt hi).1 hb.1
    have hne : b ≠ p := fun z => by
      rw [z] at hb2
      rw [← hb2, decide_eq_true rfl] at hb
      cases hb.2
    obtain ⟨j, hj, e⟩ := dlI_has (by have := (dlI_lt (p := p) hi).1; omega) hne hp
    refine ⟨j, dlI_mono (p := p) (by rw [e]; exact hb1), ?_⟩
    show aDel (aR A) p j = k
    rw [aDel_dl, e, hb2]
def isP (p a : Nat) : Nat := if a < p then a else a + 1
theorem aIns_isP (r : Nat → Nat) (p k a : Nat) : aIns r p k (isP p a) = r a := by
  unfold aIns isP
  by_cases e : a < p
  · rw [if_pos e, if_pos e]
  · rw [if_neg e, if_neg (by omega), if_neg (by omega), Nat.add_sub_cancel]
theorem isP_ex {p i n : Nat} (hi : i < n + 1) (hp : p ≤ n) : i = p ∨ ∃ a, a < n ∧ isP p a = i := by
  by_cases e : i = p
  · exact Or.inl e
  · refine Or.inr ?_
    by_cases e2 : i < p
    · exact ⟨i, by omega, if_pos e2⟩
    · exact ⟨i - 1, by omega, by unfold isP; rw [if_neg (by omega)]; omega⟩
theorem isP_lt {p a b : Nat} (h : a < b) : isP p a < isP p b := by
  unfold isP; split <;> split <;> omega
theorem isP_inj {p a b : Nat} (h : isP p a = isP p b) : a = b := by
  unfold isP at h; split at h <;> split at h <;> omega
theorem aOk_add {A : axAD} (hO : aOk A) {p v k : Nat} {t : Bool} (hn : aN A < 24) (hp : p ≤ aN A) (hk : k < 24) (hf : ¬ aIn A k) (h1 : 1 ≤ v) (h2 : v ≤ 99) : aOk (aAdd A p v k t) := by
  have hne : ∀ a, a < aN A → aR A a ≠ k := fun a ha z => hf ⟨a, ha, z⟩
  obtain ⟨o1, o2, o3, o4, o5, o6⟩ := hO
  refine ⟨hn, fun i hi => ?_, fun i j hi hj e => ?_, fun i hi => ?_, fun i x hi hb => ?_, o6⟩
  · show aIns (aR A) p k i < 24
    rcases isP_ex hi hp with e | ⟨a, ha, e⟩
    · rw [e, aIns_at]; exact hk
    · rw [← e, aIns_isP]; exact o2 a ha
  · have e : aIns (aR A) p k i = aIns (aR A) p k j := e
    rcases isP_ex hi hp with e1 | ⟨a, ha, e1⟩
    · rcases isP_ex hj hp with e2 | ⟨b, hb, e2⟩
      · rw [e1, e2]
      · rw [e1, ← e2, aIns_at, aIns_isP] at e
        exact absurd e.symm (hne b hb)
    · rcases isP_ex hj hp with e2 | ⟨b, hb, e2⟩
      · rw [e2, ← e1, aIns_at, aIns_isP] at e
        exact absurd e (hne a ha)
      · rw [← e1, ← e2, aIns_isP, aIns_isP] at e
        rw [← e1, ← e2, o3 a b ha hb e]
  · show 1 ≤ va_up (aB A) k v (aIns (aR A) p k i) ∧ va_up (aB A) k v (aIns (aR A) p k i) ≤ va_up (aW A) k v (aIns (aR A) p k i) ∧ va_up (aW A) k v (aIns (aR A) p k i) ≤ 99
    rcases isP_ex hi hp with e1 | ⟨a, ha, e1⟩
    · rw [e1, aIns_at, va_is, va_is]; exact ⟨h1, Nat.le_refl _, h2⟩
    · rw [← e1, aIns_isP, va_no (hne a ha), va_no (hne a ha)]; exact o4 a ha
  · have hb : bt (va_up (aD A) k 0 (aIns (aR A) p k i)) x = true := hb
    rcases isP_ex hi hp with e1 | ⟨a, ha, e1⟩
    · rw [e1, aIns_at, va_is, b_0] at hb; cases hb
    · rw [← e1, aIns_isP, va_no (hne a ha)] at hb
      obtain ⟨b, hb1, hb2⟩ := o5 a x ha hb
      refine ⟨isP p b, by rw [← e1]; exact isP_lt hb1, ?_⟩
      show aIns (aR A) p k (isP p b) = x
      rw [aIns_isP, hb2]
theorem aOk_spl0 {A : axAD} (hO : aOk A) {p v z : Nat} (hn : aN A < 24) (hp : p < aN A) (hz : z < 24) (hf : ¬ aIn A z) (h1 : 1 ≤ v) (h2 : v < aB A (aR A p)) : aOk (aSpl0 A p v (aR A p) z) := by
  have hne : ∀ a, a < aN A → aR A a ≠ z := fun a ha e => hf ⟨a, ha, e⟩
  have hk := hO.r hp
  have hbb := hO.b hp
  have hzk : z ≠ aR A p := fun e => hne p hp e.symm
  have hinj : ∀ a, a < aN A → a ≠ p → aR A a ≠ aR A p := fun a ha hap e => hap (hO.inj ha hp e)
  obtain ⟨a1, a2, a3, -, -, a6⟩ := aOk_add (t := false) hO hn (show p + 1 ≤ aN A by omega) hz hf (show 1 ≤ aW A (aR A p) - v by omega) (show aW A (aR A p) - v ≤ 99 by omega)
  obtain ⟨o1, o2, o3, o4, o5, o6⟩ := hO
  refine ⟨a1, a2, a3, fun i hi => ?_, fun i x hi hb => ?_, a6⟩
  · show 1 ≤ va_up (va_up (va_up (aB A) z (aW A (aR A p) - v)) z (aB A (aR A p) - v)) (aR A p) v (aIns (aR A) (p + 1) z i) ∧ va_up (va_up (va_up (aB A) z (aW A (aR A p) - v)) z (aB A (aR A p) - v)) (aR A p) v (aIns (aR A) (p + 1) z i) ≤ va_up (va_up (aW A) z (aW A (aR A p) - v)) (aR A p) v (aIns (aR A) (p + 1) z i) ∧ va_up (va_up (aW A) z (aW A (aR A p) - v)) (aR A p) v (aIns (aR A) (p + 1) z i) ≤ 99
    rcases isP_ex hi (show p + 1 ≤ aN A by omega) with e1 | ⟨a, ha, e1⟩
    · rw [e1, aIns_at, va_no hzk, va_is, va_no hzk, va_is]; omega
    · rw [← e1, aIns_isP]
      by_cases e : a = p
      · subst e
        rw [va_is, va_is]; omega
      · rw [va_no (hinj a ha e), va_no (hne a ha), va_no (hne a ha), va_no (hinj a ha e), va_no (hne a ha)]
        exact o4 a ha
  · have hb : bt (aSplN A (aR A p) z (aIns (aR A) (p + 1) z i)) x = true := hb
    have go : ∀ b, b < aN A → isP (p + 1) b < i → ∃ j, j < i ∧ aIns (aR A) (p + 1) z j = aR A b := fun b _ hbi => ⟨_, hbi, aIns_isP _ _ _ _⟩
    show ∃ j, j < i ∧ aIns (aR A) (p + 1) z j = x
    unfold aSplN at hb
    rcases isP_ex hi (show p + 1 ≤ aN A by omega) with e1 | ⟨a, ha, e1⟩
    · rw [e1, aIns_at, if_pos rfl, bt_bi (by omega)] at hb
      rw [of_decide_eq_true hb]
      exact go p hp (by unfold isP; rw [if_pos (by omega)]; omega)
    · rw [← e1, aIns_isP, if_neg (hne a ha)] at hb
      have old : bt (aD A (aR A a)) x = true → ∃ j, j < i ∧ aIns (aR A) (p + 1) z j = x := fun hx => by
        obtain ⟨b, hb1, hb2⟩ := o5 a x ha hx
        rw [← hb2]
        exact go b (by omega) (by rw [← e1]; exact isP_lt hb1)
      by_cases e : bt (aD A (aR A a)) (aR A p) = true
      · rw [if_pos e, bt_set (by omega), Bool.or_eq_true] at hb
        rcases hb with hb3 | hb3
        · exact old hb3
        · obtain ⟨b, hb1, hb2⟩ := o5 a _ ha e
          have : b = p := o3 b p (by omega) hp hb2
          subst this
          rw [of_decide_eq_true hb3]
          refine ⟨b + 1, ?_, aIns_at _ _ _⟩
          rw [← e1]; unfold isP; rw [if_neg (by omega)]; omega
      · rw [if_neg e] at hb
        exact old hb
theorem aOk_split {A : axAD} (hO : aOk A) {p v z : Nat} (hn : aN A < 24) (hp : p < aN A) (hz : z < 24) (hf : ¬ aIn A z) (h1 : 1 ≤ v) (h2 : v < aB A (aR A p)) : aOk (aSplit A p v (aR A p) z) := by
  unfold aSplit
  split
  · exact aOk_flip (aOk_flip (aOk_spl0 hO hn hp hz hf h1 h2) _) _
  · exact aOk_spl0 hO hn hp hz hf h1 h2
end
section
/-! What each change answers, and what board it leaves: for the class and for the reference. -/
def spSlug (A : axAD) (x : Int32) (i : Nat) : Prop := i < aN A ∧ x = nI (aR A i)
def spNo (A : axAD) (x : Int32) : Prop := ∀ i, i < aN A → x ≠ nI (aR A i)
theorem sp_slug (A : axAD) (x : Int32) : spNo A x ∨ ∃ i, spSlug A x i := by
  by_cases h : ∃ i, spSlug A x i
  · exact Or.inr h
  · exact Or.inl fun i hi e => h ⟨i, hi, e⟩
theorem sp_int (x : Int32) (n : Nat) (hn : n < 2 ^ 31) : (x < 0 ∨ nI n ≤ x) ∨ ∃ j, j < n ∧ x = nI j := by
  by_cases h : x < 0
  · exact Or.inl (Or.inl h)
  · obtain ⟨j, hj, e⟩ := nI_of h
    by_cases h2 : j < n
    · exact Or.inr ⟨j, h2, e⟩
    · exact Or.inl (Or.inr (by rw [e]; exact nI_le (by omega) hj))
theorem sp_rng (x : Int32) (a b : Nat) (ha : a < 2 ^ 31) (hb : b < 2 ^ 31) : (x < nI a ∨ ¬ x ≤ nI b) ∨ ∃ j, a ≤ j ∧ j ≤ b ∧ x = nI j := by
  by_cases h : x < nI a
  · exact Or.inl (Or.inl h)
  by_cases h2 : x ≤ nI b
  · refine Or.inr ?_
    have h0 : ¬ x < 0 := fun z => h (Int32.lt_of_lt_of_le z (nI_pos' ha))
    obtain ⟨j, hj, e⟩ := nI_of h0
    subst e
    exact ⟨j, by have hh : ¬ j < a := fun z => h ((nI_ltI hj ha).mpr z); omega, (nI_leI hj hb).mp h2, rfl⟩
  · exact Or.inl (Or.inr h2)
def spSet (A : axAD) (x y r : Int32) (A' : axAD) : Prop :=
  (∃ j v, j < 3 ∧ x = nI j ∧ y = nI v ∧ aLs j ≤ v ∧ v ≤ aMs j ∧ r = nI (aSetV A j) ∧ A' = aSetS A j v) ∨
  ((∀ j v, j < 3 → x = nI j → y = nI v → aLs j ≤ v → ¬ v ≤ aMs j) ∧ r = -2 ∧ A' = A)
def spTarget (A : axAD) (x y r : Int32) (A' : axAD) : Prop :=
  (∃ a v, a < 6 ∧ x = nI a ∧ 1 ≤ v ∧ v ≤ 999 ∧ y = nI v ∧ r = nI (aTg A a) ∧ A' = aSetT A a v) ∨
  ((x < 0 ∨ nI 6 ≤ x) ∧ r = -1 ∧ A' = A) ∨ (∃ a, a < 6 ∧ x = nI a ∧ (y < nI 1 ∨ ¬ y ≤ nI 999) ∧ r = -2 ∧ A' = A)
def spAdd (A : axAD) (x y w r : Int32) (A' : axAD) : Prop :=
  ((x < 0 ∨ nI (aN A + 1) ≤ x) ∧ r = -1 ∧ A' = A) ∨
  (∃ p, p < aN A + 1 ∧ x = nI p ∧ ((y < nI 1 ∨ ¬ y ≤ nI 99) ∨ (w < nI 0 ∨ ¬ w ≤ nI 1)) ∧ r = -2 ∧ A' = A) ∨
  (∃ p v t, p < aN A + 1 ∧ x = nI p ∧ 1 ≤ v ∧ v ≤ 99 ∧ y = nI v ∧ t ≤ 1 ∧ w = nI t ∧
    ((aN A = 24 ∧ r = -4 ∧ A' = A) ∨ (aN A < 24 ∧ ∃ z, z = aFr A ∧ r = nI z ∧ A' = aAdd A p v z (decide (t = 1)))))
def spDrop (A : axAD) (x r : Int32) (A' : axAD) : Prop :=
  (spNo A x ∧ r = -1 ∧ A' = A) ∨ (∃ p, spSlug A x p ∧ r = nI (aN A - 1) ∧ A' = aDrop A p)
def spTurn (A : axAD) (x r : Int32) (A' : axAD) : Prop :=
  (spNo A x ∧ r = -1 ∧ A' = A) ∨ (∃ p, spSlug A x p ∧ r = (if aT A (aR A p) = true then 0 else 1) ∧ A' = aFlip A (aR A p))
def spNeed (A : axAD) (x y r : Int32) (A' : axAD) : Prop :=
  ((spNo A x ∨ spNo A y) ∧ r = -1 ∧ A' = A) ∨
  (∃ i j, spSlug A x i ∧ spSlug A y j ∧ ((i = j ∧ r = -2 ∧ A' = A) ∨ (i < j ∧ nd A i j = false ∧ r = -5 ∧ A' = A) ∨
    (i ≠ j ∧ (nd A i j = true ∨ j < i) ∧ r = nI (pcN (aD A (aR A i) ^^^ bi (aR A j))) ∧ A' = aSetD A (aR A i) (aD A (aR A i) ^^^ bi (aR A j)))))
def spTrim (A : axAD) (x y r : Int32) (A' : axAD) : Prop :=
  (spNo A x ∧ r = -1 ∧ A' = A) ∨
  (∃ i, spSlug A x i ∧ (((y < nI 1 ∨ ¬ y ≤ nI 98) ∧ r = -2 ∧ A' = A) ∨
    (∃ v, 1 ≤ v ∧ v ≤ 98 ∧ y = nI v ∧ ((aCan A (aR A i) < v ∧ r = -5 ∧ A' = A) ∨ (v ≤ aCan A (aR A i) ∧ r = nI (aB A (aR A i) - v) ∧ A' = aBts A (aR A i) (aB A (aR A i) - v))))))
def spGive (A : axAD) (x r : Int32) (A' : axAD) : Prop :=
  (spNo A x ∧ r = -1 ∧ A' = A) ∨ (∃ p, spSlug A x p ∧ r = nI (aW A (aR A p) - aB A (aR A p)) ∧ A' = aBts A (aR A p) (aW A (aR A p)))
def spMove (A : axAD) (x y r : Int32) (A' : axAD) : Prop :=
  ((spNo A x ∨ (y < 0 ∨ nI (aN A) ≤ y)) ∧ r = -1 ∧ A' = A) ∨
  (∃ p q, spSlug A x p ∧ q < aN A ∧ y = nI q ∧ ((¬ (aLo A p ≤ q ∧ q < aHi A p) ∧ r = -5 ∧ A' = A) ∨ ((aLo A p ≤ q ∧ q < aHi A p) ∧ r = nI p ∧ A' = aMove A p q)))
def spSwap (A : axAD) (x y r : Int32) (A' : axAD) : Prop :=
  ((spNo A x ∨ spNo A y) ∧ r = -1 ∧ A' = A) ∨
  (∃ p q, spSlug A x p ∧ spSlug A y q ∧ ((p = q ∧ r = -2 ∧ A' = A) ∨ (p ≠ q ∧ ¬ aMay A p q ∧ r = -5 ∧ A' = A) ∨
    (p ≠ q ∧ aMay A p q ∧ r = nI (((p : Int) - q).natAbs - 1) ∧ A' = aSwp A p q)))
def spSplit (A : axAD) (x y r : Int32) (A' : axAD) : Prop :=
  (spNo A x ∧ r = -1 ∧ A' = A) ∨
  (∃ i, spSlug A x i ∧ (((y < nI 1 ∨ ¬ y ≤ nI 98) ∧ r = -2 ∧ A' = A) ∨
    (∃ v, 1 ≤ v ∧ v ≤ 98 ∧ y = nI v ∧ ((aB A (aR A i) ≤ v ∧ r = -5 ∧ A' = A) ∨ (v < aB A (aR A i) ∧ aN A = 24 ∧ r = -4 ∧ A' = A) ∨
      (v < aB A (aR A i) ∧ aN A < 24 ∧ ∃ z, z = aFr A ∧ r = nI z ∧ A' = aSplit A i v (aR A i) z)))))
def spFit (A : axAD) (x r : Int32) (A' : axAD) : Prop :=
  ((x < 0 ∨ nI (aActs A) ≤ x) ∧ r = -1 ∧ A' = A) ∨
  (∃ a, a < aActs A ∧ x = nI a ∧ ((¬ (aOff A a).toNat - aCut A a ≤ aSl A ∧ r = -5 ∧ A' = A) ∨ ((aOff A a).toNat - aCut A a ≤ aSl A ∧ r = nI (aCut A a) ∧ A' = aFit A a)))
section AX41
variable {A : axAD}
theorem spSet_ex (A : axAD) (x y : Int32) : ∃ r A', spSet A x y r A' := by
  by_cases h : ∃ j v, j < 3 ∧ x = nI j ∧ y = nI v ∧ aLs j ≤ v ∧ v ≤ aMs j
  · obtain ⟨j, v, h1, h2, h3, h4, h5⟩ := h
    exact ⟨_, _, Or.inl ⟨j, v, h1, h2, h3, h4, h5, rfl, rfl⟩⟩
  · exact ⟨_, _, Or.inr ⟨fun j v h1 h2 h3 h4 h5 => h ⟨j, v, h1, h2, h3, h4, h5⟩, rfl, rfl⟩⟩
theorem spTarget_ex (A : axAD) (x y : Int32) : ∃ r A', spTarget A x y r A' := by
  rcases sp_int x 6 (by decide) with h | ⟨a, ha, e⟩
  · exact ⟨_, _, Or.inr (Or.inl ⟨h, rfl, rfl⟩)⟩
  · rcases sp_rng y 1 999 (by decide) (by decide) with h | ⟨v, h1, h2, e2⟩
    · exact ⟨_, _, Or.inr (Or.inr ⟨a, ha, e, h, rfl, rfl⟩)⟩
    · exact ⟨_, _, Or.inl ⟨a, v, ha, e, h1, h2, e2, rfl, rfl⟩⟩
theorem spAdd_ex (hO : aOk A) (x y w : Int32) : ∃ r A', spAdd A x y w r A' := by
  have hn := hO.n
  rcases sp_int x (aN A + 1) (by omega) with h | ⟨p, hp, e⟩
  · exact ⟨_, _, Or.inl ⟨h, rfl, rfl⟩⟩
  · rcases sp_rng y 1 99 (by decide) (by decide) with h | ⟨v, h1, h2, e2⟩
    · exact ⟨_, _, Or.inr (Or.inl ⟨p, hp, e, Or.inl h, rfl, rfl⟩)⟩
    · rcases sp_rng w 0 1 (by decide) (by decide) with h | ⟨t, h3, h4, e3⟩
      · exact ⟨_, _, Or.inr (Or.inl ⟨p, hp, e, Or.inr h, rfl, rfl⟩)⟩
      · by_cases hf : aN A < 24
        · generalize hz : aFr A = z
          exact ⟨nI z, aAdd A p v z (decide (t = 1)), Or.inr (Or.inr ⟨p, v, t, hp, e, h1, h2, e2, h4, e3, Or.inr ⟨hf, z, hz.symm, rfl, rfl⟩⟩)⟩
        · exact ⟨-4, A, Or.inr (Or.inr ⟨p, v, t, hp, e, h1, h2, e2, h4, e3, Or.inl ⟨by omega, rfl, rfl⟩⟩)⟩
theorem spDrop_ex (A : axAD) (x : Int32) : ∃ r A', spDrop A x r A' := by
  rcases sp_slug A x with h | ⟨p, hp⟩
  · exact ⟨_, _, Or.inl ⟨h, rfl, rfl⟩⟩
  · exact ⟨_, _, Or.inr ⟨p, hp, rfl, rfl⟩⟩
theorem spTurn_ex (A : axAD) (x : Int32) : ∃ r A', spTurn A x r A' := by
  rcases sp_slug A x with h | ⟨p, hp⟩
  · exact ⟨_, _, Or.inl ⟨h, rfl, rfl⟩⟩
  · exact ⟨_, _, Or.inr ⟨p, hp, rfl, rfl⟩⟩
theorem spNeed_ex (A : axAD) (x y : Int32) : ∃ r A', spNeed A x y r A' := by
  rcases sp_slug A x with h | ⟨i, hi⟩
  · exact ⟨_, _, Or.inl ⟨Or.inl h, rfl, rfl⟩⟩
  · rcases sp_slug A y with h | ⟨j, hj⟩
    · exact ⟨_, _, Or.inl ⟨Or.inr h, rfl, rfl⟩⟩
    · by_cases e : i = j
      · exact ⟨_, _, Or.inr ⟨i, j, hi, hj, Or.inl ⟨e, rfl, rfl⟩⟩⟩
      · cases hb : nd A i j with
        | true => exact ⟨_, _, Or.inr ⟨i, j, hi, hj, Or.inr (Or.inr ⟨e, Or.inl hb, rfl, rfl⟩)⟩⟩
        | false =>
          by_cases e2 : j < i
          · exact ⟨_, _, Or.inr ⟨i, j, hi, hj, Or.inr (Or.inr ⟨e, Or.inr e2, rfl, rfl⟩)⟩⟩
          · exact ⟨_, _, Or.inr ⟨i, j, hi, hj, Or.inr (Or.inl ⟨by omega, hb, rfl, rfl⟩)⟩⟩
theorem spTrim_ex (A : axAD) (x y : Int32) : ∃ r A', spTrim A x y r A' := by
  rcases sp_slug A x with h | ⟨i, hi⟩
  · exact ⟨_, _, Or.inl ⟨h, rfl, rfl⟩⟩
  · rcases sp_rng y 1 98 (by decide) (by decide) with h | ⟨v, h1, h2, e2⟩
    · exact ⟨_, _, Or.inr ⟨i, hi, Or.inl ⟨h, rfl, rfl⟩⟩⟩
    · by_cases e : v ≤ aCan A (aR A i)
      · exact ⟨_, _, Or.inr ⟨i, hi, Or.inr ⟨v, h1, h2, e2, Or.inr ⟨e, rfl, rfl⟩⟩⟩⟩
      · exact ⟨_, _, Or.inr ⟨i, hi, Or.inr ⟨v, h1, h2, e2, Or.inl ⟨by omega, rfl, rfl⟩⟩⟩⟩
theorem spGive_ex (A : axAD) (x : Int32) : ∃ r A', spGive A x r A' := by
  rcases sp_slug A x with h | ⟨p, hp⟩
  · exact ⟨_, _, Or.inl ⟨h, rfl, rfl⟩⟩
  · exact ⟨_, _, Or.inr ⟨p, hp, rfl, rfl⟩⟩
theorem spMove_ex (hO : aOk A) (x y : Int32) : ∃ r A', spMove A x y r A' := by
  have hn := hO.n
  rcases sp_slug A x with h | ⟨p, hp⟩
  · exact ⟨_, _, Or.inl ⟨Or.inl h, rfl, rfl⟩⟩
  · rcases sp_int y (aN A) (by omega) with h | ⟨q, hq, e⟩
    · exact ⟨_, _, Or.inl ⟨Or.inr h, rfl, rfl⟩⟩
    · by_cases hm : aLo A p ≤ q ∧ q < aHi A p
      · exact ⟨_, _, Or.inr ⟨p, q, hp, hq, e, Or.inr ⟨hm, rfl, rfl⟩⟩⟩
      · exact ⟨_, _, Or.inr ⟨p, q, hp, hq, e, Or.inl ⟨hm, rfl, rfl⟩⟩⟩
theorem spSwap_ex (A : axAD) (x y : Int32) : ∃ r A', spSwap A x y r A' := by
  rcases sp_slug A x with h | ⟨p, hp⟩
  · exact ⟨_, _, Or.inl ⟨Or.inl h, rfl, rfl⟩⟩
  · rcases sp_slug A y with h | ⟨q, hq⟩
    · exact ⟨_, _, Or.inl ⟨Or.inr h, rfl, rfl⟩⟩
    · by_cases e : p = q
      · exact ⟨_, _, Or.inr ⟨p, q, hp, hq, Or.inl ⟨e, rfl, rfl⟩⟩⟩
      · by_cases hm : aMay A p q
        · exact ⟨_, _, Or.inr ⟨p, q, hp, hq, Or.inr (Or.inr ⟨e, hm, rfl, rfl⟩)⟩⟩
        · exact ⟨_, _, Or.inr ⟨p, q, hp, hq, Or.inr (Or.inl ⟨e, hm, rfl, rfl⟩)⟩⟩
theorem spSplit_ex (hO : aOk A) (x y : Int32) : ∃ r A', spSplit A x y r A' := by
  have hn := hO.n
  rcases sp_slug A x with h | ⟨i, hi⟩
  · exact ⟨_, _, Or.inl ⟨h, rfl, rfl⟩⟩
  · rcases sp_rng y 1 98 (by decide) (by decide) with h | ⟨v, h1, h2, e2⟩
    · exact ⟨_, _, Or.inr ⟨i, hi, Or.inl ⟨h, rfl, rfl⟩⟩⟩
    · by_cases e : v < aB A (aR A i)
      · by_cases hf : aN A < 24
        · generalize hz : aFr A = z
          exact ⟨nI z, aSplit A i v (aR A i) z, Or.inr ⟨i, hi, Or.inr ⟨v, h1, h2, e2, Or.inr (Or.inr ⟨e, hf, z, hz.symm, rfl, rfl⟩)⟩⟩⟩
        · exact ⟨-4, A, Or.inr ⟨i, hi, Or.inr ⟨v, h1, h2, e2, Or.inr (Or.inl ⟨e, by omega, rfl, rfl⟩)⟩⟩⟩
      · exact ⟨_, _, Or.inr ⟨i, hi, Or.inr ⟨v, h1, h2, e2, Or.inl ⟨by omega, rfl, rfl⟩⟩⟩⟩
theorem spFit_ex (hO : aOk A) (x : Int32) : ∃ r A', spFit A x r A' := by
  have hn := hO.n
  have ha := aActs_le A
  rcases sp_int x (aActs A) (by omega) with h | ⟨a, ha, e⟩
  · exact ⟨_, _, Or.inl ⟨h, rfl, rfl⟩⟩
  · by_cases hm : (aOff A a).toNat - aCut A a ≤ aSl A
    · exact ⟨_, _, Or.inr ⟨a, ha, e, Or.inr ⟨hm, rfl, rfl⟩⟩⟩
    · exact ⟨_, _, Or.inr ⟨a, ha, e, Or.inl ⟨hm, rfl, rfl⟩⟩⟩
end AX41
end
section
/-! THE CLASS: each change of the board does what is told of it. -/
/-- what is told is an error, and nothing changed; or a number from 0 on -/
def spR (A : axAD) (r : Int32) (A' : axAD) : Prop := (r < 0 ∧ A' = A) ∨ ∃ n, n < 2 ^ 31 ∧ r = nI n
theorem spR_e (A : axAD) {r : Int32} (h : r < 0) : spR A r A := Or.inl ⟨h, rfl⟩
theorem spR_n {A A' : axAD} {n : Nat} (h : n < 2 ^ 31) : spR A (nI n) A' := Or.inr ⟨n, h, rfl⟩
theorem m1_neg : (-1 : Int32) < 0 := by decide
theorem m2_neg : (-2 : Int32) < 0 := by decide
theorem m4_neg : (-4 : Int32) < 0 := by decide
theorem m5_neg : (-5 : Int32) < 0 := by decide
section AX42
variable {LL : Nat} {xs : Nat → Int32} {ro : axRo} {d : Nat} {B : axBD} {Y : axYD} {sl : Nat → Option Nat} {P : axPD} {G : axGD} {tl : axH} {A A' : axAD} {x y w r : Int32}
theorem x0_set_sp (hO : aOk A) (hC : CR B A) (hS : spSet A x y r A') : ∃ B', axEv (axRoL LL xs) (d + 5) kX0_changeSetting [.ref 1, .int x, .int y] (hX B Y sl P G tl) (some (.int r)) ((hX (B') Y sl P G tl)) ∧ CR B' A' ∧ aOk A' ∧ spR A r A' := by
  rcases hS with ⟨j, v, hj, rfl, rfl, h1, h2, rfl, rfl⟩ | ⟨h, rfl, rfl⟩
  · refine ⟨_, x0_changeSetting_in (d := d + 3) hC hj h1 h2, cr_set hC hj, aOk_setS hO hj h1 h2, spR_n ?_⟩
    have := hO.pg; have := hO.sl; have := hO.tr
    unfold aSetV; split <;> (try split) <;> omega
  · exact ⟨B, x0_changeSetting_out (d := d + 3) h, hC, hO, spR_e _ m2_neg⟩
theorem x0_target_sp (hO : aOk A) (hC : CR B A) (hS : spTarget A x y r A') : ∃ B', axEv ro (d + 5) kX0_changeTarget [.ref 1, .int x, .int y] (hX B Y sl P G tl) (some (.int r)) ((hX (B') Y sl P G tl)) ∧ CR B' A' ∧ aOk A' ∧ spR A r A' := by
  rcases hS with ⟨a, v, ha, rfl, h1, h2, rfl, rfl, rfl⟩ | ⟨h, rfl, rfl⟩ | ⟨a, ha, rfl, h, rfl, rfl⟩
  · refine ⟨_, x0_changeTarget_in (d := d + 3) hC ha h1 h2, cr_tgt hC ha, aOk_setT hO h1 h2, spR_n ?_⟩
    have := hO.tg ha; omega
  · exact ⟨B, x0_changeTarget_ns (d := d + 3) h, hC, hO, spR_e _ m1_neg⟩
  · exact ⟨B, x0_changeTarget_bv (d := d + 3) ha h, hC, hO, spR_e _ m2_neg⟩
theorem x0_add_sp (hO : aOk A) (hC : CR B A) (hS : spAdd A x y w r A') : ∃ B', axEv ro (d + 5) kX0_addSlug [.ref 1, .int x, .int y, .int w] (hX B Y sl P G tl) (some (.int r)) ((hX (B') Y sl P G tl)) ∧ CR B' A' ∧ aOk A' ∧ spR A r A' := by
  have hn := hO.n
  rcases hS with ⟨h, rfl, rfl⟩ | ⟨p, hp, rfl, h, rfl, rfl⟩ | ⟨p, v, t, hp, rfl, h1, h2, rfl, h3, rfl, ⟨h4, rfl, rfl⟩ | ⟨h4, z, hz, rfl, rfl⟩⟩
  · refine ⟨B, x0_addSlug_ns (d := d + 1) hC ?_, hC, hO, spR_e _ m1_neg⟩
    rcases h with h | h
    · exact Or.inl h
    · refine Or.inr fun hle => ?_
      exact absurd (Int32.le_trans h hle) (nI_ge (by omega) (by omega))
  · refine ⟨B, x0_addSlug_bv (d := d + 1) hO hC (by omega) ?_, hC, hO, spR_e _ m2_neg⟩
    rcases h with (h | h) | (h | h)
    · exact Or.inl h
    · exact Or.inr (Or.inl (Int32.not_le.mp h))
    · exact Or.inr (Or.inr (Or.inl h))
    · exact Or.inr (Or.inr (Or.inr h))
  · exact ⟨B, x0_addSlug_tm (d := d + 1) hO hC (by omega) h1 h2 h3 h4, hC, hO, spR_e _ m4_neg⟩
  · obtain ⟨B', hev, hcr⟩ := x0_addSlug_ok (ro := ro) (d := d + 1) (Y := Y) (sl := sl) (P := P) (G := G) (tl := tl) hO hC (show p ≤ aN A by omega) h1 h2 h3 h4
    have hfl := aFr_lt hO h4
    have hff := aFr_free hO h4
    rw [← hz] at hev hcr hfl hff
    exact ⟨B', hev, hcr, aOk_add hO h4 (by omega) hfl hff h1 h2, spR_n (by omega)⟩
theorem x0_drop_sp (hO : aOk A) (hC : CR B A) (hS : spDrop A x r A') : ∃ B', axEv ro (d + 5) kX0_dropSlug [.ref 1, .int x] (hX B Y sl P G tl) (some (.int r)) ((hX (B') Y sl P G tl)) ∧ CR B' A' ∧ aOk A' ∧ spR A r A' := by
  have hn := hO.n
  rcases hS with ⟨h, rfl, rfl⟩ | ⟨p, ⟨hp, rfl⟩, rfl, rfl⟩
  · exact ⟨B, x0_dropSlug_out (d := d + 2) hC h, hC, hO, spR_e _ m1_neg⟩
  · exact ⟨_, x0_dropSlug_in (d := d + 2) hO hC hp, cr_drop hO hC hp, aOk_drop hO hp, spR_n (by omega)⟩
theorem x0_turn_sp (hO : aOk A) (hC : CR B A) (hS : spTurn A x r A') : ∃ B', axEv ro (d + 5) kX0_flipTurn [.ref 1, .int x] (hX B Y sl P G tl) (some (.int r)) ((hX (B') Y sl P G tl)) ∧ CR B' A' ∧ aOk A' ∧ spR A r A' := by
  rcases hS with ⟨h, rfl, rfl⟩ | ⟨p, ⟨hp, rfl⟩, rfl, rfl⟩
  · exact ⟨B, x0_flipTurn_out (d := d + 2) hC h, hC, hO, spR_e _ m1_neg⟩
  · refine ⟨_, x0_flipTurn_in (d := d + 2) hO hC hp, cr_flip hO hC hp, aOk_flip hO _, ?_⟩
    split
    · exact spR_n (n := 0) (by decide)
    · exact spR_n (n := 1) (by decide)
theorem x0_need_sp (hO : aOk A) (hC : CR B A) (hS : spNeed A x y r A') : ∃ B', axEv ro (d + 5) kX0_flipNeed [.ref 1, .int x, .int y] (hX B Y sl P G tl) (some (.int r)) ((hX (B') Y sl P G tl)) ∧ CR B' A' ∧ aOk A' ∧ spR A r A' := by
  rcases hS with ⟨h, rfl, rfl⟩ | ⟨i, j, ⟨hi, rfl⟩, ⟨hj, rfl⟩, ⟨e, rfl, rfl⟩ | ⟨e, hb, rfl, rfl⟩ | ⟨e, hb, rfl, rfl⟩⟩
  · refine ⟨B, ?_, hC, hO, spR_e _ m1_neg⟩
    rcases h with h | h
    · exact x0_flipNeed_ns1 (d := d + 2) hC h
    · rcases sp_slug A' x with h2 | ⟨i, hi, rfl⟩
      · exact x0_flipNeed_ns1 (d := d + 2) hC h2
      · exact x0_flipNeed_ns2 (d := d + 2) hO hC hi h
  · subst e
    exact ⟨B, x0_flipNeed_bv (d := d + 2) hO hC hi, hC, hO, spR_e _ m2_neg⟩
  · exact ⟨B, x0_flipNeed_np (d := d + 2) hO hC hi hj e hb, hC, hO, spR_e _ m5_neg⟩
  · refine ⟨_, x0_flipNeed_ok (d := d + 2) hO hC hi hj e hb, cr_setD hC, aOk_need hO hi hj hb, spR_n ?_⟩
    exact Nat.lt_of_le_of_lt (bc_le _ _) (by decide)
theorem x0_trim_sp (hO : aOk A) (hC : CR B A) (hS : spTrim A x y r A') : ∃ B', axEv ro (d + 5) kX0_trimSlug [.ref 1, .int x, .int y] (hX B Y sl P G tl) (some (.int r)) ((hX (B') Y sl P G tl)) ∧ CR B' A' ∧ aOk A' ∧ spR A r A' := by
  rcases hS with ⟨h, rfl, rfl⟩ | ⟨i, ⟨hi, rfl⟩, ⟨h, rfl, rfl⟩ | ⟨v, h1, h2, rfl, ⟨h3, rfl, rfl⟩ | ⟨h3, rfl, rfl⟩⟩⟩
  · exact ⟨B, x0_trimSlug_ns (d := d + 2) hC h, hC, hO, spR_e _ m1_neg⟩
  · exact ⟨B, x0_trimSlug_bv (d := d + 2) hO hC hi h, hC, hO, spR_e _ m2_neg⟩
  · exact ⟨B, x0_trimSlug_np (d := d + 2) hO hC hi h1 h2 h3, hC, hO, spR_e _ m5_neg⟩
  · have hb := hO.b hi
    have hc := aCan_lt hO hi
    exact ⟨_, x0_trimSlug_ok (d := d + 2) hO hC hi h1 h2 h3, cr_bts hC, aOk_bts hO hi (by omega) (by omega), spR_n (by omega)⟩
theorem x0_give_sp (hO : aOk A) (hC : CR B A) (hS : spGive A x r A') : ∃ B', axEv ro (d + 5) kX0_giveBack [.ref 1, .int x] (hX B Y sl P G tl) (some (.int r)) ((hX (B') Y sl P G tl)) ∧ CR B' A' ∧ aOk A' ∧ spR A r A' := by
  rcases hS with ⟨h, rfl, rfl⟩ | ⟨p, ⟨hp, rfl⟩, rfl, rfl⟩
  · exact ⟨B, x0_giveBack_out (d := d + 2) hC h, hC, hO, spR_e _ m1_neg⟩
  · have hb := hO.b hp
    exact ⟨_, x0_giveBack_in (d := d + 2) hO hC hp, cr_bts hC, aOk_bts hO hp (by omega) (Nat.le_refl _), spR_n (by omega)⟩
theorem x0_move_sp (hO : aOk A) (hC : CR B A) (hS : spMove A x y r A') : ∃ B', axEv ro (d + 5) kX0_moveSlug [.ref 1, .int x, .int y] (hX B Y sl P G tl) (some (.int r)) ((hX (B') Y sl P G tl)) ∧ CR B' A' ∧ aOk A' ∧ spR A r A' := by
  have hn := hO.n
  rcases hS with ⟨h, rfl, rfl⟩ | ⟨p, q, ⟨hp, rfl⟩, hq, rfl, ⟨h, rfl, rfl⟩ | ⟨h, rfl, rfl⟩⟩
  · refine ⟨B, ?_, hC, hO, spR_e _ m1_neg⟩
    rcases sp_slug A' x with h2 | ⟨p, hp, rfl⟩
    · exact x0_moveSlug_ns1 hC h2
    · rcases h with h | h
      · exact absurd rfl (h p hp)
      · exact x0_moveSlug_ns2 hO hC hp h
  · exact ⟨B, x0_moveSlug_np hO hC hp hq h, hC, hO, spR_e _ m5_neg⟩
  · exact ⟨_, x0_moveSlug_ok hO hC hp hq h, cr_szs hC (by omega) (cr_move hC hp hq), aOk_move hO hp hq h, spR_n (by omega)⟩
theorem x0_swap_sp (hO : aOk A) (hC : CR B A) (hS : spSwap A x y r A') : ∃ B', axEv ro (d + 5) kX0_swapSlugs [.ref 1, .int x, .int y] (hX B Y sl P G tl) (some (.int r)) ((hX (B') Y sl P G tl)) ∧ CR B' A' ∧ aOk A' ∧ spR A r A' := by
  have hn := hO.n
  rcases hS with ⟨h, rfl, rfl⟩ | ⟨p, q, ⟨hp, rfl⟩, ⟨hq, rfl⟩, ⟨e, rfl, rfl⟩ | ⟨e, h, rfl, rfl⟩ | ⟨e, h, rfl, rfl⟩⟩
  · refine ⟨B, ?_, hC, hO, spR_e _ m1_neg⟩
    rcases sp_slug A' x with h2 | ⟨p, hp, rfl⟩
    · exact x0_swapSlugs_ns1 hC h2
    · rcases h with h | h
      · exact absurd rfl (h p hp)
      · exact x0_swapSlugs_ns2 hO hC hp h
  · subst e
    exact ⟨B, x0_swapSlugs_bv hO hC hp, hC, hO, spR_e _ m2_neg⟩
  · exact ⟨B, x0_swapSlugs_np hO hC hp hq e h, hC, hO, spR_e _ m5_neg⟩
  · exact ⟨_, x0_swapSlugs_ok hO hC hp hq e h, cr_swp hC hp hq, aOk_swp hO hp hq e h, spR_n (by omega)⟩
theorem x0_split_sp (hO : aOk A) (hC : CR B A) (hS : spSplit A x y r A') : ∃ B', axEv ro (d + 5) kX0_splitSlug [.ref 1, .int x, .int y] (hX B Y sl P G tl) (some (.int r)) ((hX (B') Y sl P G tl)) ∧ CR B' A' ∧ aOk A' ∧ spR A r A' := by
  rcases hS with ⟨h, rfl, rfl⟩ | ⟨i, ⟨hi, rfl⟩, ⟨h, rfl, rfl⟩ | ⟨v, h1, h2, rfl, ⟨h3, rfl, rfl⟩ | ⟨h3, h4, rfl, rfl⟩ | ⟨h3, h4, z, hz, rfl, rfl⟩⟩⟩
  · exact ⟨B, x0_splitSlug_ns (d := d + 1) hC h, hC, hO, spR_e _ m1_neg⟩
  · exact ⟨B, x0_splitSlug_bv (d := d + 1) hO hC hi h, hC, hO, spR_e _ m2_neg⟩
  · exact ⟨B, x0_splitSlug_np (d := d + 1) hO hC hi h1 h2 h3, hC, hO, spR_e _ m5_neg⟩
  · exact ⟨B, x0_splitSlug_tm (d := d + 1) hO hC hi h1 h2 h3 h4, hC, hO, spR_e _ m4_neg⟩
  · obtain ⟨B', hev, hcr⟩ := x0_splitSlug_ok (ro := ro) (d := d + 1) (Y := Y) (sl := sl) (P := P) (G := G) (tl := tl) hO hC hi h1 h2 h3 h4
    have hfl := aFr_lt hO h4
    have hff := aFr_free hO h4
    rw [← hz] at hev hcr hfl hff
    exact ⟨B', hev, hcr, aOk_split hO h4 hi hfl hff h1 h3, spR_n (by omega)⟩
theorem x0_fit_sp (hO : aOk A) (hC : CR B A) (hS : spFit A x r A') : ∃ B', axEv ro (d + 5) kX0_fitAct [.ref 1, .int x] (hX B Y sl P G tl) (some (.int r)) ((hX (B') Y sl P G tl)) ∧ CR B' A' ∧ aOk A' ∧ spR A r A' := by
  rcases hS with ⟨h, rfl, rfl⟩ | ⟨a, ha, rfl, ⟨h, rfl, rfl⟩ | ⟨h, rfl, rfl⟩⟩
  · exact ⟨B, x0_fitAct_bad m1_neg (x0_cutOf_out hO hC h), hC, hO, spR_e _ m1_neg⟩
  · refine ⟨B, x0_fitAct_bad m5_neg ?_, hC, hO, spR_e _ m5_neg⟩
    have := x0_cutOf_in (ro := ro) (d := d) (Y := Y) (sl := sl) (P := P) (G := G) (tl := tl) hO hC ha
    rw [if_neg h] at this
    exact this
  · obtain ⟨B', hev, hcr, hok⟩ := x0_fitAct_ok (ro := ro) (d := d) (Y := Y) (sl := sl) (P := P) (G := G) (tl := tl) hO hC ha h
    refine ⟨B', hev, hcr, hok, spR_n ?_⟩
    have h1 := aOff_b hO a
    have : aCut A a ≤ (aOff A a).toNat := Nat.min_le_left _ _
    omega
end AX42
end
section
/-! THE CLASS: its whole state, and its public changes. -/
/-- what there is, for both: board, how many to undo, which, the slots, the pad -/
abbrev axV : Type := axAD × Nat × (Nat → axAD) × (Nat → Option axAD) × Nat × (Nat → Nat)
abbrev vA (V : axV) : axAD := V.1
abbrev vK (V : axV) : Nat := V.2.1
abbrev vH (V : axV) : Nat → axAD := V.2.2.1
abbrev vS (V : axV) : Nat → Option axAD := V.2.2.2.1
abbrev vP (V : axV) : Nat := V.2.2.2.2.1
abbrev vT (V : axV) : Nat → Nat := V.2.2.2.2.2
/-- the class' heap, with the other's cells mc, after m calls -/
def XS (V : axV) (mc : axH) (m : Nat) (h : axH) : Prop := ∃ B nx sf lf f cu la ki fi se G bs, h = hX B (sf, nI nx, nI (vK V)) lf (f, nI (vP V), cu, la, ki, fi, se) G (mc ++ bs) ∧ CR B (vA V) ∧ aOk (vA V) ∧ KP h sf lf nx (vK V) (vH V) (vS V) ∧ PT f (vT V) (vP V) ∧ bs.length ≤ 7 * m ∧ axSl bs ≤ 114 * m
/-- what there is after a change -/
def stpN (V : axV) (A' : axAD) : axV := (A', min (vK V + 1) 6, fun j => if j = 0 then vA V else vH V (j - 1), vS V, vP V, vT V)
def stp (V : axV) (r : Int32) (A' : axAD) : axV := if r < 0 then V else stpN V A'
section AX43
variable {LL : Nat} {xs : Nat → Int32} {ro : axRo} {d m : Nat} {B B' : axBD} {Y : axYD} {sf lf : Nat → Option Nat} {nx : Nat} {G : axGD} {mc bs h : axH} {V : axV} {A' : axAD} {x y w r : Int32} {f : Nat → Int32} {cu la ki fi se : Int32}
theorem x1_settle_xs (hC : CR B' A') (hO : aOk A') (hr : spR (vA V) r A') (hK : KP (hX B Y lf (f, nI (vP V), cu, la, ki, fi, se) G (mc ++ bs)) sf lf nx (vK V) (vH V) (vS V)) (hZ : ZH (hX B Y lf (f, nI (vP V), cu, la, ki, fi, se) G (mc ++ bs)) (zO sf lf) nx (vA V)) (hT : PT f (vT V) (vP V)) (h1 : bs.length ≤ 7 * m) (h2 : axSl bs ≤ 114 * m) : ∃ h', axEv ro (d + 1) kX1_settle [.ref 8, .int r] (hX B' (sf, nI nx, nI (vK V)) lf (f, nI (vP V), cu, la, ki, fi, se) G (mc ++ bs)) (some (.int r)) h' ∧ XS (stp V r A') mc m h' := by
  rcases hr with ⟨hn, rfl⟩ | ⟨n, hn, rfl⟩
  · unfold stp
    rw [if_pos hn]
    exact ⟨_, x1_settle_neg hn, B', nx, sf, lf, f, cu, la, ki, fi, se, G, bs, rfl, hC, hO, KP_go hK, hT, h1, h2⟩
  · unfold stp
    rw [if_neg (nI_pos hn)]
    exact ⟨_, x1_settle hn hK.1 hK.2.1, B', (nx + 1) % 7, sf, lf, f, cu, la, ki, fi, se, G, bs, rfl, hC, hO, KP_settle (KP_go hK) (ZH_go (by have := hK.1; omega) hK.2.2.1 hZ), hT, h1, h2⟩
theorem x4_set (hm : mc.length = 7) (hx : XS V mc m h) (hS : spSet (vA V) x y r A') : ∃ h', axEv (axRoL LL xs) (d + 6) kX4_set [.ref 0, .int x, .int y] h (some (.int r)) h' ∧ XS (stp V r A') mc (m + 1) h' := by
  obtain ⟨B, nx, sf, lf, f, cu, la, ki, fi, se, G, bs, rfl, hC, hO, hK, hT, hb1, hb2⟩ := hx
  obtain ⟨sf', bs', hev1, hK1, hZ1, hc1, hc2⟩ := x1_prepare (ro := (axRoL LL xs)) (d := d + 2) hm hC hO hK
  obtain ⟨B', hev2, hC2, hO2, hr⟩ := x0_set_sp (LL := LL) (xs := xs) (d := d) (Y := (sf', nI nx, nI (vK V))) (sl := lf) (P := (f, nI (vP V), cu, la, ki, fi, se)) (G := G) (tl := mc ++ bs') hO hC hS
  obtain ⟨h', hev3, hx3⟩ := x1_settle_xs (ro := (axRoL LL xs)) (d := d + 4) (m := m + 1) hC2 hO2 hr hK1 hZ1 hT (by omega) (by omega)
  refine ⟨h', ?_, hx3⟩
  refine ev_in rfl rfl (Nat.le_of_ble_eq_true rfl) rfl ?_
  refine wp_run rfl ?_
  refine wp_v1v rfl rfl (Nat.le_of_ble_eq_true rfl) (hev1) ?_
  refine wp_run rfl ?_
  refine wp_v2 rfl rfl (Nat.le_of_ble_eq_true rfl) (hev2) ?_
  refine wp_run rfl ?_
  refine wp_v1 rfl rfl (Nat.le_of_ble_eq_true rfl) (hev3) ?_
  refine wp_run rfl ?_
  exact wp_ret rfl rfl ⟨rfl, rfl⟩
theorem x4_target (hm : mc.length = 7) (hx : XS V mc m h) (hS : spTarget (vA V) x y r A') : ∃ h', axEv ro (d + 6) kX4_target [.ref 0, .int x, .int y] h (some (.int r)) h' ∧ XS (stp V r A') mc (m + 1) h' := by
  obtain ⟨B, nx, sf, lf, f, cu, la, ki, fi, se, G, bs, rfl, hC, hO, hK, hT, hb1, hb2⟩ := hx
  obtain ⟨sf', bs', hev1, hK1, hZ1, hc1, hc2⟩ := x1_prepare (ro := ro) (d := d + 2) hm hC hO hK
  obtain ⟨B', hev2, hC2, hO2, hr⟩ := x0_target_sp (ro := ro) (d := d) (Y := (sf', nI nx, nI (vK V))) (sl := lf) (P := (f, nI (vP V), cu, la, ki, fi, se)) (G := G) (tl := mc ++ bs') hO hC hS
  obtain ⟨h', hev3, hx3⟩ := x1_settle_xs (ro := ro) (d := d + 4) (m := m + 1) hC2 hO2 hr hK1 hZ1 hT (by omega) (by omega)
  refine ⟨h', ?_, hx3⟩
  refine ev_in rfl rfl (Nat.le_of_ble_eq_true rfl) rfl ?_
  refine wp_run rfl ?_
  refine wp_v1v rfl rfl (Nat.le_of_ble_eq_true rfl) (hev1) ?_
  refine wp_run rfl ?_
  refine wp_v2 rfl rfl (Nat.le_of_ble_eq_true rfl) (hev2) ?_
  refine wp_run rfl ?_
  refine wp_v1 rfl rfl (Nat.le_of_ble_eq_true rfl) (hev3) ?_
  refine wp_run rfl ?_
  exact wp_ret rfl rfl ⟨rfl, rfl⟩
theorem x4_slug (hm : mc.length = 7) (hx : XS V mc m h) (hS : spAdd (vA V) x y w r A') : ∃ h', axEv ro (d + 6) kX4_slug [.ref 0, .int x, .int y, .int w] h (some (.int r)) h' ∧ XS (stp V r A') mc (m + 1) h' := by
  obtain ⟨B, nx, sf, lf, f, cu, la, ki, fi, se, G, bs, rfl, hC, hO, hK, hT, hb1, hb2⟩ := hx
  obtain ⟨sf', bs', hev1, hK1, hZ1, hc1, hc2⟩ := x1_prepare (ro := ro) (d := d + 2) hm hC hO hK
  obtain ⟨B', hev2, hC2, hO2, hr⟩ := x0_add_sp (ro := ro) (d := d) (Y := (sf', nI nx, nI (vK V))) (sl := lf) (P := (f, nI (vP V), cu, la, ki, fi, se)) (G := G) (tl := mc ++ bs') hO hC hS
  obtain ⟨h', hev3, hx3⟩ := x1_settle_xs (ro := ro) (d := d + 4) (m := m + 1) hC2 hO2 hr hK1 hZ1 hT (by omega) (by omega)
  refine ⟨h', ?_, hx3⟩
  refine ev_in rfl rfl (Nat.le_of_ble_eq_true rfl) rfl ?_
  refine wp_run rfl ?_
  refine wp_v1v rfl rfl (Nat.le_of_ble_eq_true rfl) (hev1) ?_
  refine wp_run rfl ?_
  refine wp_v3 rfl rfl (Nat.le_of_ble_eq_true rfl) (hev2) ?_
  refine wp_run rfl ?_
  refine wp_v1 rfl rfl (Nat.le_of_ble_eq_true rfl) (hev3) ?_
  refine wp_run rfl ?_
  exact wp_ret rfl rfl ⟨rfl, rfl⟩
theorem x4_drop (hm : mc.length = 7) (hx : XS V mc m h) (hS : spDrop (vA V) x r A') : ∃ h', axEv ro (d + 6) kX4_drop [.ref 0, .int x] h (some (.int r)) h' ∧ XS (stp V r A') mc (m + 1) h' := by
  obtain ⟨B, nx, sf, lf, f, cu, la, ki, fi, se, G, bs, rfl, hC, hO, hK, hT, hb1, hb2⟩ := hx
  obtain ⟨sf', bs', hev1, hK1, hZ1, hc1, hc2⟩ := x1_prepare (ro := ro) (d := d + 2) hm hC hO hK
  obtain ⟨B', hev2, hC2, hO2, hr⟩ := x0_drop_sp (ro := ro) (d := d) (Y := (sf', nI nx, nI (vK V))) (sl := lf) (P := (f, nI (vP V), cu, la, ki, fi, se)) (G := G) (tl := mc ++ bs') hO hC hS
  obtain ⟨h', hev3, hx3⟩ := x1_settle_xs (ro := ro) (d := d + 4) (m := m + 1) hC2 hO2 hr hK1 hZ1 hT (by omega) (by omega)
  refine ⟨h', ?_, hx3⟩
  refine ev_in rfl rfl (Nat.le_of_ble_eq_true rfl) rfl ?_
  refine wp_run rfl ?_
  refine wp_v1v rfl rfl (Nat.le_of_ble_eq_true rfl) (hev1) ?_
  refine wp_run rfl ?_
  refine wp_v1 rfl rfl (Nat.le_of_ble_eq_true rfl) (hev2) ?_
  refine wp_run rfl ?_
  refine wp_v1 rfl rfl (Nat.le_of_ble_eq_true rfl) (hev3) ?_
  refine wp_run rfl ?_
  exact wp_ret rfl rfl ⟨rfl, rfl⟩
theorem x4_turn (hm : mc.length = 7) (hx : XS V mc m h) (hS : spTurn (vA V) x r A') : ∃ h', axEv ro (d + 6) kX4_turn [.ref 0, .int x] h (some (.int r)) h' ∧ XS (stp V r A') mc (m + 1) h' := by
  obtain ⟨B, nx, sf, lf, f, cu, la, ki, fi, se, G, bs, rfl, hC, hO, hK, hT, hb1, hb2⟩ := hx
  obtain ⟨sf', bs', hev1, hK1, hZ1, hc1, hc2⟩ := x1_prepare (ro := ro) (d := d + 2) hm hC hO hK
  obtain ⟨B', hev2, hC2, hO2, hr⟩ := x0_turn_sp (ro := ro) (d := d) (Y := (sf', nI nx, nI (vK V))) (sl := lf) (P := (f, nI (vP V), cu, la, ki, fi, se)) (G := G) (tl := mc ++ bs') hO hC hS
  obtain ⟨h', hev3, hx3⟩ := x1_settle_xs (ro := ro) (d := d + 4) (m := m + 1) hC2 hO2 hr hK1 hZ1 hT (by omega) (by omega)
  refine ⟨h', ?_, hx3⟩
  refine ev_in rfl rfl (Nat.le_of_ble_eq_true rfl) rfl ?_
  refine wp_run rfl ?_
  refine wp_v1v rfl rfl (Nat.le_of_ble_eq_true rfl) (hev1) ?_
  refine wp_run rfl ?_
  refine wp_v1 rfl rfl (Nat.le_of_ble_eq_true rfl) (hev2) ?_
  refine wp_run rfl ?_
  refine wp_v1 rfl rfl (Nat.le_of_ble_eq_true rfl) (hev3) ?_
  refine wp_run rfl ?_
  exact wp_ret rfl rfl ⟨rfl, rfl⟩
theorem x4_need (hm : mc.length = 7) (hx : XS V mc m h) (hS : spNeed (vA V) x y r A') : ∃ h', axEv ro (d + 6) kX4_need [.ref 0, .int x, .int y] h (some (.int r)) h' ∧ XS (stp V r A') mc (m + 1) h' := by
  obtain ⟨B, nx, sf, lf, f, cu, la, ki, fi, se, G, bs, rfl, hC, hO, hK, hT, hb1, hb2⟩ := hx
  obtain ⟨sf', bs', hev1, hK1, hZ1, hc1, hc2⟩ := x1_prepare (ro := ro) (d := d + 2) hm hC hO hK
  obtain ⟨B', hev2, hC2, hO2, hr⟩ := x0_need_sp (ro := ro) (d := d) (Y := (sf', nI nx, nI (vK V))) (sl := lf) (P := (f, nI (vP V), cu, la, ki, fi, se)) (G := G) (tl := mc ++ bs') hO hC hS
  obtain ⟨h', hev3, hx3⟩ := x1_settle_xs (ro := ro) (d := d + 4) (m := m + 1) hC2 hO2 hr hK1 hZ1 hT (by omega) (by omega)
  refine ⟨h', ?_, hx3⟩
  refine ev_in rfl rfl (Nat.le_of_ble_eq_true rfl) rfl ?_
  refine wp_run rfl ?_
  refine wp_v1v rfl rfl (Nat.le_of_ble_eq_true rfl) (hev1) ?_
  refine wp_run rfl ?_
  refine wp_v2 rfl rfl (Nat.le_of_ble_eq_true rfl) (hev2) ?_
  refine wp_run rfl ?_
  refine wp_v1 rfl rfl (Nat.le_of_ble_eq_true rfl) (hev3) ?_
  refine wp_run rfl ?_
  exact wp_ret rfl rfl ⟨rfl, rfl⟩
theorem x4_trim (hm : mc.length = 7) (hx : XS V mc m h) (hS : spTrim (vA V) x y r A') : ∃ h', axEv ro (d + 6) kX4_trim [.ref 0, .int x, .int y] h (some (.int r)) h' ∧ XS (stp V r A') mc (m + 1) h' := by
  obtain ⟨B, nx, sf, lf, f, cu, la, ki, fi, se, G, bs, rfl, hC, hO, hK, hT, hb1, hb2⟩ := hx
  obtain ⟨sf', bs', hev1, hK1, hZ1, hc1, hc2⟩ := x1_prepare (ro := ro) (d := d + 2) hm hC hO hK
  obtain ⟨B', hev2, hC2, hO2, hr⟩ := x0_trim_sp (ro := ro) (d := d) (Y := (sf', nI nx, nI (vK V))) (sl := lf) (P := (f, nI (vP V), cu, la, ki, fi, se)) (G := G) (tl := mc ++ bs') hO hC hS
  obtain ⟨h', hev3, hx3⟩ := x1_settle_xs (ro := ro) (d := d + 4) (m := m + 1) hC2 hO2 hr hK1 hZ1 hT (by omega) (by omega)
  refine ⟨h', ?_, hx3⟩
  refine ev_in rfl rfl (Nat.le_of_ble_eq_true rfl) rfl ?_
  refine wp_run rfl ?_
  refine wp_v1v rfl rfl (Nat.le_of_ble_eq_true rfl) (hev1) ?_
  refine wp_run rfl ?_
  refine wp_v2 rfl rfl (Nat.le_of_ble_eq_true rfl) (hev2) ?_
  refine wp_run rfl ?_
  refine wp_v1 rfl rfl (Nat.le_of_ble_eq_true rfl) (hev3) ?_
  refine wp_run rfl ?_
  exact wp_ret rfl rfl ⟨rfl, rfl⟩
theorem x4_restoreTail (hm : mc.length = 7) (hx : XS V mc m h) (hS : spGive (vA V) x r A') : ∃ h', axEv ro (d + 6) kX4_restoreTail [.ref 0, .int x] h (some (.int r)) h' ∧ XS (stp V r A') mc (m + 1) h' := by
  obtain ⟨B, nx, sf, lf, f, cu, la, ki, fi, se, G, bs, rfl, hC, hO, hK, hT, hb1, hb2⟩ := hx
  obtain ⟨sf', bs', hev1, hK1, hZ1, hc1, hc2⟩ := x1_prepare (ro := ro) (d := d + 2) hm hC hO hK
  obtain ⟨B', hev2, hC2, hO2, hr⟩ := x0_give_sp (ro := ro) (d := d) (Y := (sf', nI nx, nI (vK V))) (sl := lf) (P := (f, nI (vP V), cu, la, ki, fi, se)) (G := G) (tl := mc ++ bs') hO hC hS
  obtain ⟨h', hev3, hx3⟩ := x1_settle_xs (ro := ro) (d := d + 4) (m := m + 1) hC2 hO2 hr hK1 hZ1 hT (by omega) (by omega)
  refine ⟨h', ?_, hx3⟩
  refine ev_in rfl rfl (Nat.le_of_ble_eq_true rfl) rfl ?_
  refine wp_run rfl ?_
  refine wp_v1v rfl rfl (Nat.le_of_ble_eq_true rfl) (hev1) ?_
  refine wp_run rfl ?_
  refine wp_v1 rfl rfl (Nat.le_of_ble_eq_true rfl) (hev2) ?_
  refine wp_run rfl ?_
  refine wp_v1 rfl rfl (Nat.le_of_ble_eq_true rfl) (hev3) ?_
  refine wp_run rfl ?_
  exact wp_ret rfl rfl ⟨rfl, rfl⟩
theorem x4_move (hm : mc.length = 7) (hx : XS V mc m h) (hS : spMove (vA V) x y r A') : ∃ h', axEv ro (d + 6) kX4_move [.ref 0, .int x, .int y] h (some (.int r)) h' ∧ XS (stp V r A') mc (m + 1) h' := by
  obtain ⟨B, nx, sf, lf, f, cu, la, ki, fi, se, G, bs, rfl, hC, hO, hK, hT, hb1, hb2⟩ := hx
  obtain ⟨sf', bs', hev1, hK1, hZ1, hc1, hc2⟩ := x1_prepare (ro := ro) (d := d + 2) hm hC hO hK
  obtain ⟨B', hev2, hC2, hO2, hr⟩ := x0_move_sp (ro := ro) (d := d) (Y := (sf', nI nx, nI (vK V))) (sl := lf) (P := (f, nI (vP V), cu, la, ki, fi, se)) (G := G) (tl := mc ++ bs') hO hC hS
  obtain ⟨h', hev3, hx3⟩ := x1_settle_xs (ro := ro) (d := d + 4) (m := m + 1) hC2 hO2 hr hK1 hZ1 hT (by omega) (by omega)
  refine ⟨h', ?_, hx3⟩
  refine ev_in rfl rfl (Nat.le_of_ble_eq_true rfl) rfl ?_
  refine wp_run rfl ?_
  refine wp_v1v rfl rfl (Nat.le_of_ble_eq_true rfl) (hev1) ?_
  refine wp_run rfl ?_
  refine wp_v2 rfl rfl (Nat.le_of_ble_eq_true rfl) (hev2) ?_
  refine wp_run rfl ?_
  refine wp_v1 rfl rfl (Nat.le_of_ble_eq_true rfl) (hev3) ?_
  refine wp_run rfl ?_
  exact wp_ret rfl rfl ⟨rfl, rfl⟩
theorem x4_swap (hm : mc.length = 7) (hx : XS V mc m h) (hS : spSwap (vA V) x y r A') : ∃ h', axEv ro (d + 6) kX4_swap [.ref 0, .int x, .int y] h (some (.int r)) h' ∧ XS (stp V r A') mc (m + 1) h' := by
  obtain ⟨B, nx, sf, lf, f, cu, la, ki, fi, se, G, bs, rfl, hC, hO, hK, hT, hb1, hb2⟩ := hx
  obtain ⟨sf', bs', hev1, hK1, hZ1, hc1, hc2⟩ := x1_prepare (ro := ro) (d := d + 2) hm hC hO hK
  obtain ⟨B', hev2, hC2, hO2, hr⟩ := x0_swap_sp (ro := ro) (d := d) (Y := (sf', nI nx, nI (vK V))) (sl := lf) (P := (f, nI (vP V), cu, la, ki, fi, se)) (G := G) (tl := mc ++ bs') hO hC hS
  obtain ⟨h', hev3, hx3⟩ := x1_settle_xs (ro := ro) (d := d + 4) (m := m + 1) hC2 hO2 hr hK1 hZ1 hT (by omega) (by omega)
  refine ⟨h', ?_, hx3⟩
  refine ev_in rfl rfl (Nat.le_of_ble_eq_true rfl) rfl ?_
  refine wp_run rfl ?_
  refine wp_v1v rfl rfl (Nat.le_of_ble_eq_true rfl) (hev1) ?_
  refine wp_run rfl ?_
  refine wp_v2 rfl rfl (Nat.le_of_ble_eq_true rfl) (hev2) ?_
  refine wp_run rfl ?_
  refine wp_v1 rfl rfl (Nat.le_of_ble_eq_true rfl) (hev3) ?_
  refine wp_run rfl ?_
  exact wp_ret rfl rfl ⟨rfl, rfl⟩
theorem x4_split (hm : mc.length = 7) (hx : XS V mc m h) (hS : spSplit (vA V) x y r A') : ∃ h', axEv ro (d + 6) kX4_split [.ref 0, .int x, .int y] h (some (.int r)) h' ∧ XS (stp V r A') mc (m + 1) h' := by
  obtain ⟨B, nx, sf, lf, f, cu, la, ki, fi, se, G, bs, rfl, hC, hO, hK, hT, hb1, hb2⟩ := hx
  obtain ⟨sf', bs', hev1, hK1, hZ1, hc1, hc2⟩ := x1_prepare (ro := ro) (d := d + 2) hm hC hO hK
  obtain ⟨B', hev2, hC2, hO2, hr⟩ := x0_split_sp (ro := ro) (d := d) (Y := (sf', nI nx, nI (vK V))) (sl := lf) (P := (f, nI (vP V), cu, la, ki, fi, se)) (G := G) (tl := mc ++ bs') hO hC hS
  obtain ⟨h', hev3, hx3⟩ := x1_settle_xs (ro := ro) (d := d + 4) (m := m + 1) hC2 hO2 hr hK1 hZ1 hT (by omega) (by omega)
  refine ⟨h', ?_, hx3⟩
  refine ev_in rfl rfl (Nat.le_of_ble_eq_true rfl) rfl ?_
  refine wp_run rfl ?_
  refine wp_v1v rfl rfl (Nat.le_of_ble_eq_true rfl) (hev1) ?_
  refine wp_run rfl ?_
  refine wp_v2 rfl rfl (Nat.le_of_ble_eq_true rfl) (hev2) ?_
  refine wp_run rfl ?_
  refine wp_v1 rfl rfl (Nat.le_of_ble_eq_true rfl) (hev3) ?_
  refine wp_run rfl ?_
  exact wp_ret rfl rfl ⟨rfl, rfl⟩
theorem x4_fit (hm : mc.length = 7) (hx : XS V mc m h) (hS : spFit (vA V) x r A') : ∃ h', axEv ro (d + 6) kX4_fit [.ref 0, .int x] h (some (.int r)) h' ∧ XS (stp V r A') mc (m + 1) h' := by
  obtain ⟨B, nx, sf, lf, f, cu, la, ki, fi, se, G, bs, rfl, hC, hO, hK, hT, hb1, hb2⟩ := hx
  obtain ⟨sf', bs', hev1, hK1, hZ1, hc1, hc2⟩ := x1_prepare (ro := ro) (d := d + 2) hm hC hO hK
  obtain ⟨B', hev2, hC2, hO2, hr⟩ := x0_fit_sp (ro := ro) (d := d) (Y := (sf', nI nx, nI (vK V))) (sl := lf) (P := (f, nI (vP V), cu, la, ki, fi, se)) (G := G) (tl := mc ++ bs') hO hC hS
  obtain ⟨h', hev3, hx3⟩ := x1_settle_xs (ro := ro) (d := d + 4) (m := m + 1) hC2 hO2 hr hK1 hZ1 hT (by omega) (by omega)
  refine ⟨h', ?_, hx3⟩
  refine ev_in rfl rfl (Nat.le_of_ble_eq_true rfl) rfl ?_
  refine wp_run rfl ?_
  refine wp_v1v rfl rfl (Nat.le_of_ble_eq_true rfl) (hev1) ?_
  refine wp_run rfl ?_
  refine wp_v1 rfl rfl (Nat.le_of_ble_eq_true rfl) (hev2) ?_
  refine wp_run rfl ?_
  refine wp_v1 rfl rfl (Nat.le_of_ble_eq_true rfl) (hev3) ?_
  refine wp_run rfl ?_
  exact wp_ret rfl rfl ⟨rfl, rfl⟩
end AX43
end

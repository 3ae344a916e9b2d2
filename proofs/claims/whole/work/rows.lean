section
-- ===== PART A: goes FIRST, ahead of the names: the tables' words, and 'selects' of the private methods out of them =====
/-- a private method of a class that the tables say can be made, by its rows of tables_1 -/
def lw_okq (q : MethodName × Nat) : Prop := (q.1.cls ≠ "java/lang/invoke/MethodHandle" ∧ q.1.cls ≠ "java/lang/invoke/VarHandle") ∧ Cond.instantiable q.1.cls q.2 ∈ tables_1 ∧ Cond.privateMethod q.1 ∈ tables_1 ∧ Cond.instanceMethod q.1 ∈ tables_1
theorem lw_p0 : lw_okq (⟨"KingPrices$Land", "empty", "()V"⟩, 12) := ⟨⟨by decide +kernel, by decide +kernel⟩, List.mem_of_getElem? (i := 110) (by decide +kernel), List.mem_of_getElem? (i := 116) (by decide +kernel), List.mem_of_getElem? (i := 117) (by decide +kernel)⟩
theorem lw_p1 : lw_okq (⟨"KingPrices$Text", "byteAt", "(I)I"⟩, 6) := ⟨⟨by decide +kernel, by decide +kernel⟩, List.mem_of_getElem? (i := 21) (by decide +kernel), List.mem_of_getElem? (i := 248) (by decide +kernel), List.mem_of_getElem? (i := 249) (by decide +kernel)⟩
theorem lw_p2 : lw_okq (⟨"KingPrices$Text", "readLetters", "()V"⟩, 6) := ⟨⟨by decide +kernel, by decide +kernel⟩, List.mem_of_getElem? (i := 21) (by decide +kernel), List.mem_of_getElem? (i := 253) (by decide +kernel), List.mem_of_getElem? (i := 254) (by decide +kernel)⟩
theorem lw_p3 : lw_okq (⟨"KingPrices$Text", "readNumber", "()V"⟩, 6) := ⟨⟨by decide +kernel, by decide +kernel⟩, List.mem_of_getElem? (i := 21) (by decide +kernel), List.mem_of_getElem? (i := 257) (by decide +kernel), List.mem_of_getElem? (i := 258) (by decide +kernel)⟩
theorem lw_p4 : lw_okq (⟨"KingPrices$Land", "readItem", "(LKingPrices$Text;)Z"⟩, 12) := ⟨⟨by decide +kernel, by decide +kernel⟩, List.mem_of_getElem? (i := 110) (by decide +kernel), List.mem_of_getElem? (i := 264) (by decide +kernel), List.mem_of_getElem? (i := 265) (by decide +kernel)⟩
theorem lw_p5 : lw_okq (⟨"KingPrices$Land", "mayBegin", "(I)Z"⟩, 12) := ⟨⟨by decide +kernel, by decide +kernel⟩, List.mem_of_getElem? (i := 110) (by decide +kernel), List.mem_of_getElem? (i := 268) (by decide +kernel), List.mem_of_getElem? (i := 269) (by decide +kernel)⟩
theorem lw_p6 : lw_okq (⟨"KingPrices$Land", "mayBeTold", "(III)Z"⟩, 12) := ⟨⟨by decide +kernel, by decide +kernel⟩, List.mem_of_getElem? (i := 110) (by decide +kernel), List.mem_of_getElem? (i := 279) (by decide +kernel), List.mem_of_getElem? (i := 280) (by decide +kernel)⟩
theorem lw_p7 : lw_okq (⟨"KingPrices$Land", "mayBeEnd", "(II)Z"⟩, 12) := ⟨⟨by decide +kernel, by decide +kernel⟩, List.mem_of_getElem? (i := 110) (by decide +kernel), List.mem_of_getElem? (i := 283) (by decide +kernel), List.mem_of_getElem? (i := 284) (by decide +kernel)⟩
theorem lw_p8 : lw_okq (⟨"KingPrices$Land", "takeItem", "(I)V"⟩, 12) := ⟨⟨by decide +kernel, by decide +kernel⟩, List.mem_of_getElem? (i := 110) (by decide +kernel), List.mem_of_getElem? (i := 288) (by decide +kernel), List.mem_of_getElem? (i := 289) (by decide +kernel)⟩
theorem lw_p9 : lw_okq (⟨"KingPrices$Land", "takeVillage", "()V"⟩, 12) := ⟨⟨by decide +kernel, by decide +kernel⟩, List.mem_of_getElem? (i := 110) (by decide +kernel), List.mem_of_getElem? (i := 292) (by decide +kernel), List.mem_of_getElem? (i := 293) (by decide +kernel)⟩
theorem lw_p10 : lw_okq (⟨"KingPrices$Land", "takeRoad", "()V"⟩, 12) := ⟨⟨by decide +kernel, by decide +kernel⟩, List.mem_of_getElem? (i := 110) (by decide +kernel), List.mem_of_getElem? (i := 296) (by decide +kernel), List.mem_of_getElem? (i := 297) (by decide +kernel)⟩
theorem lw_p11 : lw_okq (⟨"KingPrices$Land", "shortenWay", "(III)V"⟩, 12) := ⟨⟨by decide +kernel, by decide +kernel⟩, List.mem_of_getElem? (i := 110) (by decide +kernel), List.mem_of_getElem? (i := 300) (by decide +kernel), List.mem_of_getElem? (i := 301) (by decide +kernel)⟩
theorem lw_p12 : lw_okq (⟨"KingPrices$Land", "takeDebt", "()V"⟩, 12) := ⟨⟨by decide +kernel, by decide +kernel⟩, List.mem_of_getElem? (i := 110) (by decide +kernel), List.mem_of_getElem? (i := 305) (by decide +kernel), List.mem_of_getElem? (i := 306) (by decide +kernel)⟩
theorem lw_p13 : lw_okq (⟨"KingPrices$Land", "findShortestWays", "()V"⟩, 12) := ⟨⟨by decide +kernel, by decide +kernel⟩, List.mem_of_getElem? (i := 110) (by decide +kernel), List.mem_of_getElem? (i := 313) (by decide +kernel), List.mem_of_getElem? (i := 314) (by decide +kernel)⟩
theorem lw_p14 : lw_okq (⟨"KingPrices", "spareOf", "(I)I"⟩, 10) := ⟨⟨by decide +kernel, by decide +kernel⟩, List.mem_of_getElem? (i := 13) (by decide +kernel), List.mem_of_getElem? (i := 338) (by decide +kernel), List.mem_of_getElem? (i := 339) (by decide +kernel)⟩
theorem lw_p15 : lw_okq (⟨"KingPrices", "moveHens", "(IIII)I"⟩, 10) := ⟨⟨by decide +kernel, by decide +kernel⟩, List.mem_of_getElem? (i := 13) (by decide +kernel), List.mem_of_getElem? (i := 395) (by decide +kernel), List.mem_of_getElem? (i := 396) (by decide +kernel)⟩
def lw_privs_1 : List (MethodName × Nat) := [(⟨"KingPrices$Land", "empty", "()V"⟩, 12), (⟨"KingPrices$Text", "byteAt", "(I)I"⟩, 6), (⟨"KingPrices$Text", "readLetters", "()V"⟩, 6), (⟨"KingPrices$Text", "readNumber", "()V"⟩, 6), (⟨"KingPrices$Land", "readItem", "(LKingPrices$Text;)Z"⟩, 12), (⟨"KingPrices$Land", "mayBegin", "(I)Z"⟩, 12), (⟨"KingPrices$Land", "mayBeTold", "(III)Z"⟩, 12), (⟨"KingPrices$Land", "mayBeEnd", "(II)Z"⟩, 12), (⟨"KingPrices$Land", "takeItem", "(I)V"⟩, 12), (⟨"KingPrices$Land", "takeVillage", "()V"⟩, 12), (⟨"KingPrices$Land", "takeRoad", "()V"⟩, 12), (⟨"KingPrices$Land", "shortenWay", "(III)V"⟩, 12), (⟨"KingPrices$Land", "takeDebt", "()V"⟩, 12), (⟨"KingPrices$Land", "findShortestWays", "()V"⟩, 12), (⟨"KingPrices", "spareOf", "(I)I"⟩, 10), (⟨"KingPrices", "moveHens", "(IIII)I"⟩, 10)]
theorem lw_r1 : ∀ q ∈ lw_privs_1, lw_okq q := List.forall_mem_cons.mpr ⟨lw_p0, List.forall_mem_cons.mpr ⟨lw_p1, List.forall_mem_cons.mpr ⟨lw_p2, List.forall_mem_cons.mpr ⟨lw_p3, List.forall_mem_cons.mpr ⟨lw_p4, List.forall_mem_cons.mpr ⟨lw_p5, List.forall_mem_cons.mpr ⟨lw_p6, List.forall_mem_cons.mpr ⟨lw_p7, List.forall_mem_cons.mpr ⟨lw_p8, List.forall_mem_cons.mpr ⟨lw_p9, List.forall_mem_cons.mpr ⟨lw_p10, List.forall_mem_cons.mpr ⟨lw_p11, List.forall_mem_cons.mpr ⟨lw_p12, List.forall_mem_cons.mpr ⟨lw_p13, List.forall_mem_cons.mpr ⟨lw_p14, List.forall_mem_cons.mpr ⟨lw_p15, fun _ h => absurd h List.not_mem_nil⟩⟩⟩⟩⟩⟩⟩⟩⟩⟩⟩⟩⟩⟩⟩⟩
theorem lw_p16 : lw_okq (⟨"KingPrices", "allTallies", "()I"⟩, 10) := ⟨⟨by decide +kernel, by decide +kernel⟩, List.mem_of_getElem? (i := 13) (by decide +kernel), List.mem_of_getElem? (i := 423) (by decide +kernel), List.mem_of_getElem? (i := 424) (by decide +kernel)⟩
theorem lw_p17 : lw_okq (⟨"KingPrices", "allSpare", "()I"⟩, 10) := ⟨⟨by decide +kernel, by decide +kernel⟩, List.mem_of_getElem? (i := 13) (by decide +kernel), List.mem_of_getElem? (i := 427) (by decide +kernel), List.mem_of_getElem? (i := 428) (by decide +kernel)⟩
theorem lw_p18 : lw_okq (⟨"KingPrices", "fillSpares", "()V"⟩, 10) := ⟨⟨by decide +kernel, by decide +kernel⟩, List.mem_of_getElem? (i := 13) (by decide +kernel), List.mem_of_getElem? (i := 435) (by decide +kernel), List.mem_of_getElem? (i := 436) (by decide +kernel)⟩
theorem lw_p19 : lw_okq (⟨"KingPrices", "fewestWith", "(I)I"⟩, 10) := ⟨⟨by decide +kernel, by decide +kernel⟩, List.mem_of_getElem? (i := 13) (by decide +kernel), List.mem_of_getElem? (i := 439) (by decide +kernel), List.mem_of_getElem? (i := 440) (by decide +kernel)⟩
theorem lw_p20 : lw_okq (⟨"KingPrices", "spareTogether", "(I)I"⟩, 10) := ⟨⟨by decide +kernel, by decide +kernel⟩, List.mem_of_getElem? (i := 13) (by decide +kernel), List.mem_of_getElem? (i := 449) (by decide +kernel), List.mem_of_getElem? (i := 450) (by decide +kernel)⟩
theorem lw_p21 : lw_okq (⟨"KingPrices$TourSearch", "goOn", "(LKingPrices$Land;IIIII)V"⟩, 7) := ⟨⟨by decide +kernel, by decide +kernel⟩, List.mem_of_getElem? (i := 66) (by decide +kernel), List.mem_of_getElem? (i := 458) (by decide +kernel), List.mem_of_getElem? (i := 459) (by decide +kernel)⟩
theorem lw_p22 : lw_okq (⟨"KingPrices$TourSearch", "isWorthGoing", "(LKingPrices$Land;IIII)Z"⟩, 7) := ⟨⟨by decide +kernel, by decide +kernel⟩, List.mem_of_getElem? (i := 66) (by decide +kernel), List.mem_of_getElem? (i := 464) (by decide +kernel), List.mem_of_getElem? (i := 465) (by decide +kernel)⟩
theorem lw_p23 : lw_okq (⟨"KingPrices", "chanceOf", "(II)I"⟩, 10) := ⟨⟨by decide +kernel, by decide +kernel⟩, List.mem_of_getElem? (i := 13) (by decide +kernel), List.mem_of_getElem? (i := 484) (by decide +kernel), List.mem_of_getElem? (i := 485) (by decide +kernel)⟩
theorem lw_p24 : lw_okq (⟨"KingPrices$RingSearch", "goOn", "(LKingPrices$Land;II)Z"⟩, 2) := ⟨⟨by decide +kernel, by decide +kernel⟩, List.mem_of_getElem? (i := 96) (by decide +kernel), List.mem_of_getElem? (i := 516) (by decide +kernel), List.mem_of_getElem? (i := 517) (by decide +kernel)⟩
theorem lw_p25 : lw_okq (⟨"KingPrices", "askKind", "(III)I"⟩, 10) := ⟨⟨by decide +kernel, by decide +kernel⟩, List.mem_of_getElem? (i := 13) (by decide +kernel), List.mem_of_getElem? (i := 540) (by decide +kernel), List.mem_of_getElem? (i := 541) (by decide +kernel)⟩
theorem lw_p26 : lw_okq (⟨"KingPricesModel", "plain", "()V"⟩, 23) := ⟨⟨by decide +kernel, by decide +kernel⟩, List.mem_of_getElem? (i := 568) (by decide +kernel), List.mem_of_getElem? (i := 574) (by decide +kernel), List.mem_of_getElem? (i := 575) (by decide +kernel)⟩
theorem lw_p27 : lw_okq (⟨"KingPricesModel", "takeDraft", "()V"⟩, 23) := ⟨⟨by decide +kernel, by decide +kernel⟩, List.mem_of_getElem? (i := 568) (by decide +kernel), List.mem_of_getElem? (i := 578) (by decide +kernel), List.mem_of_getElem? (i := 579) (by decide +kernel)⟩
theorem lw_p28 : lw_okq (⟨"KingPricesModel", "step", "()V"⟩, 23) := ⟨⟨by decide +kernel, by decide +kernel⟩, List.mem_of_getElem? (i := 568) (by decide +kernel), List.mem_of_getElem? (i := 669) (by decide +kernel), List.mem_of_getElem? (i := 670) (by decide +kernel)⟩
theorem lw_p29 : lw_okq (⟨"KingPricesModel", "here", "()I"⟩, 23) := ⟨⟨by decide +kernel, by decide +kernel⟩, List.mem_of_getElem? (i := 568) (by decide +kernel), List.mem_of_getElem? (i := 673) (by decide +kernel), List.mem_of_getElem? (i := 674) (by decide +kernel)⟩
theorem lw_p30 : lw_okq (⟨"KingPricesModel", "mayBe", "(I)Z"⟩, 23) := ⟨⟨by decide +kernel, by decide +kernel⟩, List.mem_of_getElem? (i := 568) (by decide +kernel), List.mem_of_getElem? (i := 677) (by decide +kernel), List.mem_of_getElem? (i := 678) (by decide +kernel)⟩
theorem lw_p31 : lw_okq (⟨"KingPricesModel", "due", "(Z)I"⟩, 23) := ⟨⟨by decide +kernel, by decide +kernel⟩, List.mem_of_getElem? (i := 568) (by decide +kernel), List.mem_of_getElem? (i := 681) (by decide +kernel), List.mem_of_getElem? (i := 682) (by decide +kernel)⟩
def lw_privs_2 : List (MethodName × Nat) := [(⟨"KingPrices", "allTallies", "()I"⟩, 10), (⟨"KingPrices", "allSpare", "()I"⟩, 10), (⟨"KingPrices", "fillSpares", "()V"⟩, 10), (⟨"KingPrices", "fewestWith", "(I)I"⟩, 10), (⟨"KingPrices", "spareTogether", "(I)I"⟩, 10), (⟨"KingPrices$TourSearch", "goOn", "(LKingPrices$Land;IIIII)V"⟩, 7), (⟨"KingPrices$TourSearch", "isWorthGoing", "(LKingPrices$Land;IIII)Z"⟩, 7), (⟨"KingPrices", "chanceOf", "(II)I"⟩, 10), (⟨"KingPrices$RingSearch", "goOn", "(LKingPrices$Land;II)Z"⟩, 2), (⟨"KingPrices", "askKind", "(III)I"⟩, 10), (⟨"KingPricesModel", "plain", "()V"⟩, 23), (⟨"KingPricesModel", "takeDraft", "()V"⟩, 23), (⟨"KingPricesModel", "step", "()V"⟩, 23), (⟨"KingPricesModel", "here", "()I"⟩, 23), (⟨"KingPricesModel", "mayBe", "(I)Z"⟩, 23), (⟨"KingPricesModel", "due", "(Z)I"⟩, 23)]
theorem lw_r2 : ∀ q ∈ lw_privs_2, lw_okq q := List.forall_mem_cons.mpr ⟨lw_p16, List.forall_mem_cons.mpr ⟨lw_p17, List.forall_mem_cons.mpr ⟨lw_p18, List.forall_mem_cons.mpr ⟨lw_p19, List.forall_mem_cons.mpr ⟨lw_p20, List.forall_mem_cons.mpr ⟨lw_p21, List.forall_mem_cons.mpr ⟨lw_p22, List.forall_mem_cons.mpr ⟨lw_p23, List.forall_mem_cons.mpr ⟨lw_p24, List.forall_mem_cons.mpr ⟨lw_p25, List.forall_mem_cons.mpr ⟨lw_p26, List.forall_mem_cons.mpr ⟨lw_p27, List.forall_mem_cons.mpr ⟨lw_p28, List.forall_mem_cons.mpr ⟨lw_p29, List.forall_mem_cons.mpr ⟨lw_p30, List.forall_mem_cons.mpr ⟨lw_p31, fun _ h => absurd h List.not_mem_nil⟩⟩⟩⟩⟩⟩⟩⟩⟩⟩⟩⟩⟩⟩⟩⟩
theorem lw_p32 : lw_okq (⟨"KingPricesModel", "readRow", "(I)V"⟩, 23) := ⟨⟨by decide +kernel, by decide +kernel⟩, List.mem_of_getElem? (i := 568) (by decide +kernel), List.mem_of_getElem? (i := 685) (by decide +kernel), List.mem_of_getElem? (i := 686) (by decide +kernel)⟩
theorem lw_p33 : lw_okq (⟨"KingPricesModel", "number", "(II)I"⟩, 23) := ⟨⟨by decide +kernel, by decide +kernel⟩, List.mem_of_getElem? (i := 568) (by decide +kernel), List.mem_of_getElem? (i := 689) (by decide +kernel), List.mem_of_getElem? (i := 690) (by decide +kernel)⟩
theorem lw_p34 : lw_okq (⟨"KingPricesModel", "another", "(I)I"⟩, 23) := ⟨⟨by decide +kernel, by decide +kernel⟩, List.mem_of_getElem? (i := 568) (by decide +kernel), List.mem_of_getElem? (i := 693) (by decide +kernel), List.mem_of_getElem? (i := 694) (by decide +kernel)⟩
theorem lw_p35 : lw_okq (⟨"KingPricesModel", "isVillage", "(I)Z"⟩, 23) := ⟨⟨by decide +kernel, by decide +kernel⟩, List.mem_of_getElem? (i := 568) (by decide +kernel), List.mem_of_getElem? (i := 701) (by decide +kernel), List.mem_of_getElem? (i := 702) (by decide +kernel)⟩
theorem lw_p36 : lw_okq (⟨"KingPricesModel", "spare", "(I)I"⟩, 23) := ⟨⟨by decide +kernel, by decide +kernel⟩, List.mem_of_getElem? (i := 568) (by decide +kernel), List.mem_of_getElem? (i := 705) (by decide +kernel), List.mem_of_getElem? (i := 706) (by decide +kernel)⟩
theorem lw_p37 : lw_okq (⟨"KingPricesModel", "know", "()V"⟩, 23) := ⟨⟨by decide +kernel, by decide +kernel⟩, List.mem_of_getElem? (i := 568) (by decide +kernel), List.mem_of_getElem? (i := 721) (by decide +kernel), List.mem_of_getElem? (i := 722) (by decide +kernel)⟩
theorem lw_p38 : lw_okq (⟨"KingPricesModel", "pass", "(I)V"⟩, 23) := ⟨⟨by decide +kernel, by decide +kernel⟩, List.mem_of_getElem? (i := 568) (by decide +kernel), List.mem_of_getElem? (i := 725) (by decide +kernel), List.mem_of_getElem? (i := 726) (by decide +kernel)⟩
theorem lw_p39 : lw_okq (⟨"KingPricesModel", "shift", "(IIII)I"⟩, 23) := ⟨⟨by decide +kernel, by decide +kernel⟩, List.mem_of_getElem? (i := 568) (by decide +kernel), List.mem_of_getElem? (i := 741) (by decide +kernel), List.mem_of_getElem? (i := 742) (by decide +kernel)⟩
theorem lw_p40 : lw_okq (⟨"KingPricesModel", "findTour", "(I)V"⟩, 23) := ⟨⟨by decide +kernel, by decide +kernel⟩, List.mem_of_getElem? (i := 568) (by decide +kernel), List.mem_of_getElem? (i := 769) (by decide +kernel), List.mem_of_getElem? (i := 770) (by decide +kernel)⟩
theorem lw_p41 : lw_okq (⟨"KingPricesModel", "takeRow", "(II)V"⟩, 23) := ⟨⟨by decide +kernel, by decide +kernel⟩, List.mem_of_getElem? (i := 568) (by decide +kernel), List.mem_of_getElem? (i := 773) (by decide +kernel), List.mem_of_getElem? (i := 774) (by decide +kernel)⟩
theorem lw_p42 : lw_okq (⟨"KingPricesModel", "daysOf", "(II)I"⟩, 23) := ⟨⟨by decide +kernel, by decide +kernel⟩, List.mem_of_getElem? (i := 568) (by decide +kernel), List.mem_of_getElem? (i := 777) (by decide +kernel), List.mem_of_getElem? (i := 778) (by decide +kernel)⟩
theorem lw_p43 : lw_okq (⟨"KingPricesModel", "spareOf", "(I)I"⟩, 23) := ⟨⟨by decide +kernel, by decide +kernel⟩, List.mem_of_getElem? (i := 568) (by decide +kernel), List.mem_of_getElem? (i := 788) (by decide +kernel), List.mem_of_getElem? (i := 789) (by decide +kernel)⟩
theorem lw_p44 : lw_okq (⟨"KingPricesModel", "leastOf", "(I)I"⟩, 23) := ⟨⟨by decide +kernel, by decide +kernel⟩, List.mem_of_getElem? (i := 568) (by decide +kernel), List.mem_of_getElem? (i := 821) (by decide +kernel), List.mem_of_getElem? (i := 822) (by decide +kernel)⟩
def lw_privs_3 : List (MethodName × Nat) := [(⟨"KingPricesModel", "readRow", "(I)V"⟩, 23), (⟨"KingPricesModel", "number", "(II)I"⟩, 23), (⟨"KingPricesModel", "another", "(I)I"⟩, 23), (⟨"KingPricesModel", "isVillage", "(I)Z"⟩, 23), (⟨"KingPricesModel", "spare", "(I)I"⟩, 23), (⟨"KingPricesModel", "know", "()V"⟩, 23), (⟨"KingPricesModel", "pass", "(I)V"⟩, 23), (⟨"KingPricesModel", "shift", "(IIII)I"⟩, 23), (⟨"KingPricesModel", "findTour", "(I)V"⟩, 23), (⟨"KingPricesModel", "takeRow", "(II)V"⟩, 23), (⟨"KingPricesModel", "daysOf", "(II)I"⟩, 23), (⟨"KingPricesModel", "spareOf", "(I)I"⟩, 23), (⟨"KingPricesModel", "leastOf", "(I)I"⟩, 23)]
theorem lw_r3 : ∀ q ∈ lw_privs_3, lw_okq q := List.forall_mem_cons.mpr ⟨lw_p32, List.forall_mem_cons.mpr ⟨lw_p33, List.forall_mem_cons.mpr ⟨lw_p34, List.forall_mem_cons.mpr ⟨lw_p35, List.forall_mem_cons.mpr ⟨lw_p36, List.forall_mem_cons.mpr ⟨lw_p37, List.forall_mem_cons.mpr ⟨lw_p38, List.forall_mem_cons.mpr ⟨lw_p39, List.forall_mem_cons.mpr ⟨lw_p40, List.forall_mem_cons.mpr ⟨lw_p41, List.forall_mem_cons.mpr ⟨lw_p42, List.forall_mem_cons.mpr ⟨lw_p43, List.forall_mem_cons.mpr ⟨lw_p44, fun _ h => absurd h List.not_mem_nil⟩⟩⟩⟩⟩⟩⟩⟩⟩⟩⟩⟩⟩
def lw_privs : List (MethodName × Nat) := lw_privs_1 ++ (lw_privs_2 ++ (lw_privs_3))
def lw_tbl : List Cond := k2_sels lw_privs ++ tables_1
theorem lw_privs_ok : ∀ q ∈ lw_privs, lw_okq q := by
  show ∀ q ∈ lw_privs_1 ++ (lw_privs_2 ++ (lw_privs_3)), lw_okq q
  exact List.forall_mem_append.mpr ⟨lw_r1, List.forall_mem_append.mpr ⟨lw_r2, lw_r3⟩⟩
end
section
def RX0 : String := "KingPrices$Land"
def TX0 : u_T := fun k => match k with
  | 0 => ("KingPrices$Land", "hens", "[I", true)
  | 1 => ("KingPrices$Land", "needs", "[I", true)
  | 2 => ("KingPrices$Land", "charters", "[I", true)
  | 3 => ("KingPrices$Land", "ways", "[I", true)
  | 4 => ("KingPrices$Land", "debts", "[I", true)
  | 5 => ("KingPrices$Land", "numbers", "[I", true)
  | 6 => ("KingPrices$Land", "villages", "I", false)
  | 7 => ("KingPrices$Land", "roads", "I", false)
  | 8 => ("KingPrices$Land", "mouths", "I", false)
  | 9 => ("KingPrices$Land", "writes", "I", false)
  | 10 => ("KingPrices$Land", "basket", "I", false)
  | _ => ("KingPrices$Land", "toldOnce", "I", false)
def tyX0 : Nat → FieldType := fun k => match k with
  | 0 => .array .int
  | 1 => .array .int
  | 2 => .array .int
  | 3 => .array .int
  | 4 => .array .int
  | 5 => .array .int
  | 6 => .int
  | 7 => .int
  | 8 => .int
  | 9 => .int
  | 10 => .int
  | _ => .int
theorem nmX0 : ∀ a, a < 12 → ∀ b, b < 12 → a ≠ b → (TX0 a).2.1 ≠ (TX0 b).2.1 := by decide +kernel
theorem tyX0_ok : ∀ k, k < 12 → parseFieldDescriptor (TX0 k).2.2.1 = some (tyX0 k) := by decide +kernel
abbrev cX0_init : ByteArray := prog_2_method_1_code
def yX0_init : MethodName := ⟨RX0, "<init>", "()V"⟩
abbrev cX0_empty : ByteArray := prog_2_method_2_code
def yX0_empty : MethodName := ⟨RX0, "empty", "()V"⟩
abbrev cX0_knows : ByteArray := prog_2_method_3_code
def yX0_knows : MethodName := ⟨RX0, "knows", "(I)Z"⟩
abbrev cX0_hensOf : ByteArray := prog_2_method_4_code
def yX0_hensOf : MethodName := ⟨RX0, "hensOf", "(I)I"⟩
abbrev cX0_needOf : ByteArray := prog_2_method_5_code
def yX0_needOf : MethodName := ⟨RX0, "needOf", "(I)I"⟩
abbrev cX0_hasCharter : ByteArray := prog_2_method_6_code
def yX0_hasCharter : MethodName := ⟨RX0, "hasCharter", "(I)Z"⟩
abbrev cX0_debt : ByteArray := prog_2_method_7_code
def yX0_debt : MethodName := ⟨RX0, "debt", "(II)I"⟩
abbrev cX0_daysBetween : ByteArray := prog_2_method_8_code
def yX0_daysBetween : MethodName := ⟨RX0, "daysBetween", "(II)I"⟩
abbrev cX0_writtenFor : ByteArray := prog_2_method_9_code
def yX0_writtenFor : MethodName := ⟨RX0, "writtenFor", "(I)I"⟩
abbrev cX0_readAll : ByteArray := prog_2_method_10_code
def yX0_readAll : MethodName := ⟨RX0, "readAll", "(LKingPrices$Text;)I"⟩
abbrev cX0_readItem : ByteArray := prog_2_method_11_code
def yX0_readItem : MethodName := ⟨RX0, "readItem", "(LKingPrices$Text;)Z"⟩
abbrev cX0_isToldOnce : ByteArray := prog_2_method_12_code
def yX0_isToldOnce : MethodName := ⟨RX0, "isToldOnce", "(I)Z"⟩
abbrev cX0_mayBegin : ByteArray := prog_2_method_13_code
def yX0_mayBegin : MethodName := ⟨RX0, "mayBegin", "(I)Z"⟩
abbrev cX0_bitOf : ByteArray := prog_2_method_14_code
def yX0_bitOf : MethodName := ⟨RX0, "bitOf", "(I)I"⟩
abbrev cX0_mayBeTold : ByteArray := prog_2_method_15_code
def yX0_mayBeTold : MethodName := ⟨RX0, "mayBeTold", "(III)Z"⟩
abbrev cX0_mayBeEnd : ByteArray := prog_2_method_16_code
def yX0_mayBeEnd : MethodName := ⟨RX0, "mayBeEnd", "(II)Z"⟩
abbrev cX0_takeItem : ByteArray := prog_2_method_17_code
def yX0_takeItem : MethodName := ⟨RX0, "takeItem", "(I)V"⟩
abbrev cX0_takeVillage : ByteArray := prog_2_method_18_code
def yX0_takeVillage : MethodName := ⟨RX0, "takeVillage", "()V"⟩
abbrev cX0_takeRoad : ByteArray := prog_2_method_19_code
def yX0_takeRoad : MethodName := ⟨RX0, "takeRoad", "()V"⟩
abbrev cX0_takeDebt : ByteArray := prog_2_method_20_code
def yX0_takeDebt : MethodName := ⟨RX0, "takeDebt", "()V"⟩
abbrev cX0_shortenWay : ByteArray := prog_2_method_21_code
def yX0_shortenWay : MethodName := ⟨RX0, "shortenWay", "(III)V"⟩
abbrev cX0_findShortestWays : ByteArray := prog_2_method_22_code
def yX0_findShortestWays : MethodName := ⟨RX0, "findShortestWays", "()V"⟩
def RX1 : String := "KingPrices$RingSearch"
def TX1 : u_T := fun k => match k with
  | 0 => ("KingPrices$RingSearch", "row", "[I", true)
  | _ => ("KingPrices$RingSearch", "length", "I", false)
def tyX1 : Nat → FieldType := fun k => match k with
  | 0 => .array .int
  | _ => .int
theorem nmX1 : ∀ a, a < 2 → ∀ b, b < 2 → a ≠ b → (TX1 a).2.1 ≠ (TX1 b).2.1 := by decide +kernel
theorem tyX1_ok : ∀ k, k < 2 → parseFieldDescriptor (TX1 k).2.2.1 = some (tyX1 k) := by decide +kernel
abbrev cX1_init : ByteArray := prog_3_method_1_code
def yX1_init : MethodName := ⟨RX1, "<init>", "()V"⟩
abbrev cX1_find : ByteArray := prog_3_method_2_code
def yX1_find : MethodName := ⟨RX1, "find", "(LKingPrices$Land;)Z"⟩
abbrev cX1_at : ByteArray := prog_3_method_3_code
def yX1_at : MethodName := ⟨RX1, "at", "(I)I"⟩
abbrev cX1_leastDebt : ByteArray := prog_3_method_4_code
def yX1_leastDebt : MethodName := ⟨RX1, "leastDebt", "(LKingPrices$Land;)I"⟩
abbrev cX1_goOn : ByteArray := prog_3_method_5_code
def yX1_goOn : MethodName := ⟨RX1, "goOn", "(LKingPrices$Land;II)Z"⟩
def RX2 : String := "KingPrices$Story"
def TX2 : u_T := fun k => match k with
  | 0 => ("KingPrices$Story", "row", "[I", true)
  | _ => ("KingPrices$Story", "known", "I", false)
def tyX2 : Nat → FieldType := fun k => match k with
  | 0 => .array .int
  | _ => .int
theorem nmX2 : ∀ a, a < 2 → ∀ b, b < 2 → a ≠ b → (TX2 a).2.1 ≠ (TX2 b).2.1 := by decide +kernel
theorem tyX2_ok : ∀ k, k < 2 → parseFieldDescriptor (TX2 k).2.2.1 = some (tyX2 k) := by decide +kernel
abbrev cX2_init : ByteArray := prog_4_method_1_code
def yX2_init : MethodName := ⟨RX2, "<init>", "()V"⟩
abbrev cX2_begin : ByteArray := prog_4_method_2_code
def yX2_begin : MethodName := ⟨RX2, "begin", "(LKingPrices$Land;)V"⟩
abbrev cX2_get : ByteArray := prog_4_method_3_code
def yX2_get : MethodName := ⟨RX2, "get", "(I)I"⟩
abbrev cX2_put : ByteArray := prog_4_method_4_code
def yX2_put : MethodName := ⟨RX2, "put", "(II)V"⟩
abbrev cX2_add : ByteArray := prog_4_method_5_code
def yX2_add : MethodName := ⟨RX2, "add", "(II)V"⟩
abbrev cX2_letDaysPass : ByteArray := prog_4_method_6_code
def yX2_letDaysPass : MethodName := ⟨RX2, "letDaysPass", "(II)V"⟩
abbrev cX2_remember : ByteArray := prog_4_method_7_code
def yX2_remember : MethodName := ⟨RX2, "remember", "()V"⟩
abbrev cX2_goBack : ByteArray := prog_4_method_8_code
def yX2_goBack : MethodName := ⟨RX2, "goBack", "()Z"⟩
abbrev cX2_copyFrom : ByteArray := prog_4_method_9_code
def yX2_copyFrom : MethodName := ⟨RX2, "copyFrom", "(LKingPrices$Story;)V"⟩
def RX3 : String := "KingPrices$Text"
def TX3 : u_T := fun k => match k with
  | 0 => ("KingPrices$Text", "bytes", "[I", true)
  | 1 => ("KingPrices$Text", "size", "I", false)
  | 2 => ("KingPrices$Text", "place", "I", false)
  | 3 => ("KingPrices$Text", "start", "I", false)
  | 4 => ("KingPrices$Text", "token", "I", false)
  | _ => ("KingPrices$Text", "value", "I", false)
def tyX3 : Nat → FieldType := fun k => match k with
  | 0 => .array .int
  | 1 => .int
  | 2 => .int
  | 3 => .int
  | 4 => .int
  | _ => .int
theorem nmX3 : ∀ a, a < 6 → ∀ b, b < 6 → a ≠ b → (TX3 a).2.1 ≠ (TX3 b).2.1 := by decide +kernel
theorem tyX3_ok : ∀ k, k < 6 → parseFieldDescriptor (TX3 k).2.2.1 = some (tyX3 k) := by decide +kernel
abbrev cX3_init : ByteArray := prog_5_method_1_code
def yX3_init : MethodName := ⟨RX3, "<init>", "()V"⟩
abbrev cX3_append : ByteArray := prog_5_method_2_code
def yX3_append : MethodName := ⟨RX3, "append", "(I)Z"⟩
abbrev cX3_toFirstToken : ByteArray := prog_5_method_3_code
def yX3_toFirstToken : MethodName := ⟨RX3, "toFirstToken", "()V"⟩
abbrev cX3_toNextToken : ByteArray := prog_5_method_4_code
def yX3_toNextToken : MethodName := ⟨RX3, "toNextToken", "()V"⟩
abbrev cX3_readLetters : ByteArray := prog_5_method_5_code
def yX3_readLetters : MethodName := ⟨RX3, "readLetters", "()V"⟩
abbrev cX3_readNumber : ByteArray := prog_5_method_6_code
def yX3_readNumber : MethodName := ⟨RX3, "readNumber", "()V"⟩
abbrev cX3_byteAt : ByteArray := prog_5_method_7_code
def yX3_byteAt : MethodName := ⟨RX3, "byteAt", "(I)I"⟩
def RX4 : String := "KingPrices$TourSearch"
def TX4 : u_T := fun k => match k with
  | 0 => ("KingPrices$TourSearch", "spares", "[I", true)
  | 1 => ("KingPrices$TourSearch", "row", "[I", true)
  | 2 => ("KingPrices$TourSearch", "best", "[I", true)
  | 3 => ("KingPrices$TourSearch", "length", "I", false)
  | 4 => ("KingPrices$TourSearch", "goal", "I", false)
  | 5 => ("KingPrices$TourSearch", "greatestSpare", "I", false)
  | _ => ("KingPrices$TourSearch", "bestDays", "I", false)
def tyX4 : Nat → FieldType := fun k => match k with
  | 0 => .array .int
  | 1 => .array .int
  | 2 => .array .int
  | 3 => .int
  | 4 => .int
  | 5 => .int
  | _ => .int
theorem nmX4 : ∀ a, a < 7 → ∀ b, b < 7 → a ≠ b → (TX4 a).2.1 ≠ (TX4 b).2.1 := by decide +kernel
theorem tyX4_ok : ∀ k, k < 7 → parseFieldDescriptor (TX4 k).2.2.1 = some (tyX4 k) := by decide +kernel
abbrev cX4_init : ByteArray := prog_6_method_1_code
def yX4_init : MethodName := ⟨RX4, "<init>", "()V"⟩
abbrev cX4_find : ByteArray := prog_6_method_2_code
def yX4_find : MethodName := ⟨RX4, "find", "(LKingPrices$Land;[IIIII)Z"⟩
abbrev cX4_at : ByteArray := prog_6_method_3_code
def yX4_at : MethodName := ⟨RX4, "at", "(I)I"⟩
abbrev cX4_goOn : ByteArray := prog_6_method_4_code
def yX4_goOn : MethodName := ⟨RX4, "goOn", "(LKingPrices$Land;IIIII)V"⟩
abbrev cX4_isWorthGoing : ByteArray := prog_6_method_5_code
def yX4_isWorthGoing : MethodName := ⟨RX4, "isWorthGoing", "(LKingPrices$Land;IIII)Z"⟩
def RX5 : String := "KingPrices"
def TX5 : u_T := fun k => match k with
  | 0 => ("KingPrices", "text", "LKingPrices$Text;", true)
  | 1 => ("KingPrices", "story", "LKingPrices$Story;", true)
  | 2 => ("KingPrices", "images", "[LKingPrices$Story;", true)
  | 3 => ("KingPrices", "spares", "[I", true)
  | 4 => ("KingPrices", "tours", "LKingPrices$TourSearch;", true)
  | 5 => ("KingPrices", "rings", "LKingPrices$RingSearch;", true)
  | 6 => ("KingPrices", "told", "LKingPrices$Land;", false)
  | 7 => ("KingPrices", "draft", "LKingPrices$Land;", false)
  | 8 => ("KingPrices", "imagesKept", "I", false)
  | _ => ("KingPrices", "traced", "J", false)
def tyX5 : Nat → FieldType := fun k => match k with
  | 0 => .object "KingPrices$Text"
  | 1 => .object "KingPrices$Story"
  | 2 => .array (.object "KingPrices$Story")
  | 3 => .array .int
  | 4 => .object "KingPrices$TourSearch"
  | 5 => .object "KingPrices$RingSearch"
  | 6 => .object "KingPrices$Land"
  | 7 => .object "KingPrices$Land"
  | 8 => .int
  | _ => .long
theorem nmX5 : ∀ a, a < 10 → ∀ b, b < 10 → a ≠ b → (TX5 a).2.1 ≠ (TX5 b).2.1 := by decide +kernel
theorem tyX5_ok : ∀ k, k < 10 → parseFieldDescriptor (TX5 k).2.2.1 = some (tyX5 k) := by decide +kernel
abbrev cX5_init : ByteArray := prog_1_method_1_code
def yX5_init : MethodName := ⟨RX5, "<init>", "()V"⟩
abbrev cX5_type : ByteArray := prog_1_method_2_code
def yX5_type : MethodName := ⟨RX5, "type", "(I)I"⟩
abbrev cX5_clear : ByteArray := prog_1_method_3_code
def yX5_clear : MethodName := ⟨RX5, "clear", "()I"⟩
abbrev cX5_land : ByteArray := prog_1_method_4_code
def yX5_land : MethodName := ⟨RX5, "land", "()I"⟩
abbrev cX5_village : ByteArray := prog_1_method_5_code
def yX5_village : MethodName := ⟨RX5, "village", "(II)I"⟩
abbrev cX5_far : ByteArray := prog_1_method_6_code
def yX5_far : MethodName := ⟨RX5, "far", "(II)I"⟩
abbrev cX5_owes : ByteArray := prog_1_method_7_code
def yX5_owes : MethodName := ⟨RX5, "owes", "(II)I"⟩
abbrev cX5_goes : ByteArray := prog_1_method_8_code
def yX5_goes : MethodName := ⟨RX5, "goes", "(I)I"⟩
abbrev cX5_stays : ByteArray := prog_1_method_9_code
def yX5_stays : MethodName := ⟨RX5, "stays", "()I"⟩
abbrev cX5_takes : ByteArray := prog_1_method_10_code
def yX5_takes : MethodName := ⟨RX5, "takes", "(I)I"⟩
abbrev cX5_hides : ByteArray := prog_1_method_11_code
def yX5_hides : MethodName := ⟨RX5, "hides", "(II)I"⟩
abbrev cX5_shows : ByteArray := prog_1_method_12_code
def yX5_shows : MethodName := ⟨RX5, "shows", "(II)I"⟩
abbrev cX5_pays : ByteArray := prog_1_method_13_code
def yX5_pays : MethodName := ⟨RX5, "pays", "(I)I"⟩
abbrev cX5_sells : ByteArray := prog_1_method_14_code
def yX5_sells : MethodName := ⟨RX5, "sells", "(II)I"⟩
abbrev cX5_undo : ByteArray := prog_1_method_15_code
def yX5_undo : MethodName := ⟨RX5, "undo", "()I"⟩
abbrev cX5_now : ByteArray := prog_1_method_16_code
def yX5_now : MethodName := ⟨RX5, "now", "(I)I"⟩
abbrev cX5_tour : ByteArray := prog_1_method_17_code
def yX5_tour : MethodName := ⟨RX5, "tour", "(II)I"⟩
abbrev cX5_from : ByteArray := prog_1_method_18_code
def yX5_from : MethodName := ⟨RX5, "from", "(I)I"⟩
abbrev cX5_had : ByteArray := prog_1_method_19_code
def yX5_had : MethodName := ⟨RX5, "had", "(II)I"⟩
abbrev cX5_odds : ByteArray := prog_1_method_20_code
def yX5_odds : MethodName := ⟨RX5, "odds", "(III)I"⟩
abbrev cX5_rests : ByteArray := prog_1_method_21_code
def yX5_rests : MethodName := ⟨RX5, "rests", "(III)I"⟩
abbrev cX5_mixed : ByteArray := prog_1_method_22_code
def yX5_mixed : MethodName := ⟨RX5, "mixed", "(III)I"⟩
abbrev cX5_ring : ByteArray := prog_1_method_23_code
def yX5_ring : MethodName := ⟨RX5, "ring", "(I)I"⟩
abbrev cX5_net : ByteArray := prog_1_method_24_code
def yX5_net : MethodName := ⟨RX5, "net", "(I)I"⟩
abbrev cX5_mark : ByteArray := prog_1_method_25_code
def yX5_mark : MethodName := ⟨RX5, "mark", "(II)I"⟩
abbrev cX5_keep : ByteArray := prog_1_method_26_code
def yX5_keep : MethodName := ⟨RX5, "keep", "(I)I"⟩
abbrev cX5_back : ByteArray := prog_1_method_27_code
def yX5_back : MethodName := ⟨RX5, "back", "(I)I"⟩
abbrev cX5_count : ByteArray := prog_1_method_28_code
def yX5_count : MethodName := ⟨RX5, "count", "(I)I"⟩
abbrev cX5_trace : ByteArray := prog_1_method_29_code
def yX5_trace : MethodName := ⟨RX5, "trace", "()J"⟩
abbrev cX5_isWithin : ByteArray := prog_1_method_30_code
def yX5_isWithin : MethodName := ⟨RX5, "isWithin", "(III)Z"⟩
abbrev cX5_moveHens : ByteArray := prog_1_method_31_code
def yX5_moveHens : MethodName := ⟨RX5, "moveHens", "(IIII)I"⟩
abbrev cX5_spareOf : ByteArray := prog_1_method_32_code
def yX5_spareOf : MethodName := ⟨RX5, "spareOf", "(I)I"⟩
abbrev cX5_fillSpares : ByteArray := prog_1_method_33_code
def yX5_fillSpares : MethodName := ⟨RX5, "fillSpares", "()V"⟩
abbrev cX5_allSpare : ByteArray := prog_1_method_34_code
def yX5_allSpare : MethodName := ⟨RX5, "allSpare", "()I"⟩
abbrev cX5_allTallies : ByteArray := prog_1_method_35_code
def yX5_allTallies : MethodName := ⟨RX5, "allTallies", "()I"⟩
abbrev cX5_spareTogether : ByteArray := prog_1_method_36_code
def yX5_spareTogether : MethodName := ⟨RX5, "spareTogether", "(I)I"⟩
abbrev cX5_fewestWith : ByteArray := prog_1_method_37_code
def yX5_fewestWith : MethodName := ⟨RX5, "fewestWith", "(I)I"⟩
abbrev cX5_chanceOf : ByteArray := prog_1_method_38_code
def yX5_chanceOf : MethodName := ⟨RX5, "chanceOf", "(II)I"⟩
abbrev cX5_partOfFraction : ByteArray := prog_1_method_39_code
def yX5_partOfFraction : MethodName := ⟨RX5, "partOfFraction", "(III)I"⟩
abbrev cX5_greatestDivisor : ByteArray := prog_1_method_40_code
def yX5_greatestDivisor : MethodName := ⟨RX5, "greatestDivisor", "(II)I"⟩
abbrev cX5_villageHas : ByteArray := prog_1_method_41_code
def yX5_villageHas : MethodName := ⟨RX5, "villageHas", "(ZZII)I"⟩
abbrev cX5_buyerHas : ByteArray := prog_1_method_42_code
def yX5_buyerHas : MethodName := ⟨RX5, "buyerHas", "(ZZII)I"⟩
abbrev cX5_askKind : ByteArray := prog_1_method_43_code
def yX5_askKind : MethodName := ⟨RX5, "askKind", "(III)I"⟩
def RX6 : String := "KingPricesModel"
def TX6 : u_T := fun k => match k with
  | 0 => ("KingPricesModel", "trace", "J", false)
  | 1 => ("KingPricesModel", "text", "[B", true)
  | 2 => ("KingPricesModel", "typed", "I", false)
  | 3 => ("KingPricesModel", "villages", "[I", true)
  | 4 => ("KingPricesModel", "hens", "[I", true)
  | 5 => ("KingPricesModel", "need", "[I", true)
  | 6 => ("KingPricesModel", "charter", "[I", true)
  | 7 => ("KingPricesModel", "roads", "[I", true)
  | 8 => ("KingPricesModel", "far", "[I", true)
  | 9 => ("KingPricesModel", "owed", "[I", true)
  | 10 => ("KingPricesModel", "law", "[I", true)
  | 11 => ("KingPricesModel", "lawsTold", "I", false)
  | 12 => ("KingPricesModel", "at", "I", false)
  | 13 => ("KingPricesModel", "start", "I", false)
  | 14 => ("KingPricesModel", "sort", "I", false)
  | 15 => ("KingPricesModel", "value", "I", false)
  | 16 => ("KingPricesModel", "fault", "I", false)
  | 17 => ("KingPricesModel", "now", "[I", true)
  | 18 => ("KingPricesModel", "isKept", "[Z", true)
  | 19 => ("KingPricesModel", "row", "[I", true)
  | 20 => ("KingPricesModel", "tourLong", "I", false)
  | 21 => ("KingPricesModel", "tourDays", "I", false)
  | _ => ("KingPricesModel", "tourCode", "I", false)
def tyX6 : Nat → FieldType := fun k => match k with
  | 0 => .long
  | 1 => .array .byte
  | 2 => .int
  | 3 => .array .int
  | 4 => .array .int
  | 5 => .array .int
  | 6 => .array .int
  | 7 => .array .int
  | 8 => .array .int
  | 9 => .array .int
  | 10 => .array .int
  | 11 => .int
  | 12 => .int
  | 13 => .int
  | 14 => .int
  | 15 => .int
  | 16 => .int
  | 17 => .array .int
  | 18 => .array .boolean
  | 19 => .array .int
  | 20 => .int
  | 21 => .int
  | _ => .int
theorem nmX6 : ∀ a, a < 23 → ∀ b, b < 23 → a ≠ b → (TX6 a).2.1 ≠ (TX6 b).2.1 := by decide +kernel
theorem tyX6_ok : ∀ k, k < 23 → parseFieldDescriptor (TX6 k).2.2.1 = some (tyX6 k) := by decide +kernel
abbrev cX6_init : ByteArray := prog_8_method_1_code
def yX6_init : MethodName := ⟨RX6, "<init>", "()V"⟩
abbrev cX6_in : ByteArray := prog_8_method_3_code
def yX6_in : MethodName := ⟨RX6, "in", "(III)Z"⟩
abbrev cX6_type : ByteArray := prog_8_method_4_code
def yX6_type : MethodName := ⟨RX6, "type", "(I)I"⟩
abbrev cX6_clear : ByteArray := prog_8_method_5_code
def yX6_clear : MethodName := ⟨RX6, "clear", "()I"⟩
abbrev cX6_here : ByteArray := prog_8_method_6_code
def yX6_here : MethodName := ⟨RX6, "here", "()I"⟩
abbrev cX6_step : ByteArray := prog_8_method_7_code
def yX6_step : MethodName := ⟨RX6, "step", "()V"⟩
abbrev cX6_due : ByteArray := prog_8_method_8_code
def yX6_due : MethodName := ⟨RX6, "due", "(Z)I"⟩
abbrev cX6_number : ByteArray := prog_8_method_9_code
def yX6_number : MethodName := ⟨RX6, "number", "(II)I"⟩
abbrev cX6_mayBe : ByteArray := prog_8_method_10_code
def yX6_mayBe : MethodName := ⟨RX6, "mayBe", "(I)Z"⟩
abbrev cX6_another : ByteArray := prog_8_method_11_code
def yX6_another : MethodName := ⟨RX6, "another", "(I)I"⟩
abbrev cX6_readRow : ByteArray := prog_8_method_12_code
def yX6_readRow : MethodName := ⟨RX6, "readRow", "(I)V"⟩
abbrev cX6_plain : ByteArray := prog_8_method_13_code
def yX6_plain : MethodName := ⟨RX6, "plain", "()V"⟩
abbrev cX6_takeDraft : ByteArray := prog_8_method_14_code
def yX6_takeDraft : MethodName := ⟨RX6, "takeDraft", "()V"⟩
abbrev cX6_land : ByteArray := prog_8_method_15_code
def yX6_land : MethodName := ⟨RX6, "land", "()I"⟩
abbrev cX6_isVillage : ByteArray := prog_8_method_16_code
def yX6_isVillage : MethodName := ⟨RX6, "isVillage", "(I)Z"⟩
abbrev cX6_manyOf : ByteArray := prog_8_method_17_code
def yX6_manyOf : MethodName := ⟨RX6, "manyOf", "(I)I"⟩
abbrev cX6_spare : ByteArray := prog_8_method_18_code
def yX6_spare : MethodName := ⟨RX6, "spare", "(I)I"⟩
abbrev cX6_village : ByteArray := prog_8_method_19_code
def yX6_village : MethodName := ⟨RX6, "village", "(II)I"⟩
abbrev cX6_far : ByteArray := prog_8_method_20_code
def yX6_far : MethodName := ⟨RX6, "far", "(II)I"⟩
abbrev cX6_owes : ByteArray := prog_8_method_21_code
def yX6_owes : MethodName := ⟨RX6, "owes", "(II)I"⟩
abbrev cX6_know : ByteArray := prog_8_method_22_code
def yX6_know : MethodName := ⟨RX6, "know", "()V"⟩
abbrev cX6_pass : ByteArray := prog_8_method_23_code
def yX6_pass : MethodName := ⟨RX6, "pass", "(I)V"⟩
abbrev cX6_goes : ByteArray := prog_8_method_24_code
def yX6_goes : MethodName := ⟨RX6, "goes", "(I)I"⟩
abbrev cX6_stays : ByteArray := prog_8_method_25_code
def yX6_stays : MethodName := ⟨RX6, "stays", "()I"⟩
abbrev cX6_takes : ByteArray := prog_8_method_26_code
def yX6_takes : MethodName := ⟨RX6, "takes", "(I)I"⟩
abbrev cX6_shift : ByteArray := prog_8_method_27_code
def yX6_shift : MethodName := ⟨RX6, "shift", "(IIII)I"⟩
abbrev cX6_hides : ByteArray := prog_8_method_28_code
def yX6_hides : MethodName := ⟨RX6, "hides", "(II)I"⟩
abbrev cX6_shows : ByteArray := prog_8_method_29_code
def yX6_shows : MethodName := ⟨RX6, "shows", "(II)I"⟩
abbrev cX6_pays : ByteArray := prog_8_method_30_code
def yX6_pays : MethodName := ⟨RX6, "pays", "(I)I"⟩
abbrev cX6_sells : ByteArray := prog_8_method_31_code
def yX6_sells : MethodName := ⟨RX6, "sells", "(II)I"⟩
abbrev cX6_undo : ByteArray := prog_8_method_32_code
def yX6_undo : MethodName := ⟨RX6, "undo", "()I"⟩
abbrev cX6_now : ByteArray := prog_8_method_33_code
def yX6_now : MethodName := ⟨RX6, "now", "(I)I"⟩
abbrev cX6_takeRow : ByteArray := prog_8_method_34_code
def yX6_takeRow : MethodName := ⟨RX6, "takeRow", "(II)V"⟩
abbrev cX6_daysOf : ByteArray := prog_8_method_35_code
def yX6_daysOf : MethodName := ⟨RX6, "daysOf", "(II)I"⟩
abbrev cX6_findTour : ByteArray := prog_8_method_36_code
def yX6_findTour : MethodName := ⟨RX6, "findTour", "(I)V"⟩
abbrev cX6_tour : ByteArray := prog_8_method_37_code
def yX6_tour : MethodName := ⟨RX6, "tour", "(II)I"⟩
abbrev cX6_spareOf : ByteArray := prog_8_method_38_code
def yX6_spareOf : MethodName := ⟨RX6, "spareOf", "(I)I"⟩
abbrev cX6_from : ByteArray := prog_8_method_39_code
def yX6_from : MethodName := ⟨RX6, "from", "(I)I"⟩
abbrev cX6_had : ByteArray := prog_8_method_40_code
def yX6_had : MethodName := ⟨RX6, "had", "(II)I"⟩
abbrev cX6_part : ByteArray := prog_8_method_41_code
def yX6_part : MethodName := ⟨RX6, "part", "(III)I"⟩
abbrev cX6_odds : ByteArray := prog_8_method_42_code
def yX6_odds : MethodName := ⟨RX6, "odds", "(III)I"⟩
abbrev cX6_villageHas : ByteArray := prog_8_method_43_code
def yX6_villageHas : MethodName := ⟨RX6, "villageHas", "(IIII)I"⟩
abbrev cX6_buyerHas : ByteArray := prog_8_method_44_code
def yX6_buyerHas : MethodName := ⟨RX6, "buyerHas", "(IIII)I"⟩
abbrev cX6_rests : ByteArray := prog_8_method_45_code
def yX6_rests : MethodName := ⟨RX6, "rests", "(III)I"⟩
abbrev cX6_mixed : ByteArray := prog_8_method_46_code
def yX6_mixed : MethodName := ⟨RX6, "mixed", "(III)I"⟩
abbrev cX6_leastOf : ByteArray := prog_8_method_47_code
def yX6_leastOf : MethodName := ⟨RX6, "leastOf", "(I)I"⟩
abbrev cX6_ring : ByteArray := prog_8_method_48_code
def yX6_ring : MethodName := ⟨RX6, "ring", "(I)I"⟩
abbrev cX6_net : ByteArray := prog_8_method_49_code
def yX6_net : MethodName := ⟨RX6, "net", "(I)I"⟩
abbrev cX6_mark : ByteArray := prog_8_method_50_code
def yX6_mark : MethodName := ⟨RX6, "mark", "(II)I"⟩
abbrev cX6_keep : ByteArray := prog_8_method_51_code
def yX6_keep : MethodName := ⟨RX6, "keep", "(I)I"⟩
abbrev cX6_back : ByteArray := prog_8_method_52_code
def yX6_back : MethodName := ⟨RX6, "back", "(I)I"⟩
abbrev cX6_count : ByteArray := prog_8_method_53_code
def yX6_count : MethodName := ⟨RX6, "count", "(I)I"⟩
abbrev cX6_trace : ByteArray := prog_8_method_54_code
def yX6_trace : MethodName := ⟨RX6, "trace", "()J"⟩
def RJ6 : String := "java/lang/Integer"
abbrev cJ6_bitCount_0f7a4 : ByteArray := prog_9_method_49_code
def yJ6_bitCount_0f7a4 : MethodName := ⟨RJ6, "bitCount", "(I)I"⟩
def RJ9 : String := "java/lang/Math"
abbrev cJ9_max_7cf53 : ByteArray := prog_10_method_65_code
def yJ9_max_7cf53 : MethodName := ⟨RJ9, "max", "(II)I"⟩
abbrev cJ9_min_7cf53 : ByteArray := prog_10_method_69_code
def yJ9_min_7cf53 : MethodName := ⟨RJ9, "min", "(II)I"⟩
def RJ10 : String := "java/lang/System"
def RJ7 : String := "java/util/Arrays"
abbrev cJ7_fill_53178 : ByteArray := prog_12_method_103_code
def yJ7_fill_53178 : MethodName := ⟨RJ7, "fill", "([II)V"⟩
def RL : String := "KingPricesLaw"
abbrev cL_law : ByteArray := code
abbrev vwCl : List vw_C := [(RX0, TX0, 12), (RX1, TX1, 2), (RX2, TX2, 2), (RX3, TX3, 6), (RX4, TX4, 7), (RX5, TX5, 10), (RX6, TX6, 23)]
abbrev wsX00 : List Cond := u_ws RX0 TX0 12
abbrev wsX10 : List Cond := u_ws RX1 TX1 2
abbrev wsX20 : List Cond := u_ws RX2 TX2 2
abbrev wsX30 : List Cond := u_ws RX3 TX3 6
abbrev wsX40 : List Cond := u_ws RX4 TX4 7
abbrev wsX50 : List Cond := u_ws RX5 TX5 10
abbrev wsX60 : List Cond := u_ws RX6 TX6 23
theorem inX0 : ∀ w ∈ wsX00, w ∈ lw_tbl := by decide +kernel
theorem inX1 : ∀ w ∈ wsX10, w ∈ lw_tbl := by decide +kernel
theorem inX2 : ∀ w ∈ wsX20, w ∈ lw_tbl := by decide +kernel
theorem inX3 : ∀ w ∈ wsX30, w ∈ lw_tbl := by decide +kernel
theorem inX4 : ∀ w ∈ wsX40, w ∈ lw_tbl := by decide +kernel
theorem inX5 : ∀ w ∈ wsX50, w ∈ lw_tbl := by decide +kernel
theorem inX6 : ∀ w ∈ wsX60, w ∈ lw_tbl := by decide +kernel
end
section
theorem dX0_init_0 : decode cX0_init 0 = .ok (.aload_n 0, 1) := by decide +kernel
theorem dX0_init_1 : decode cX0_init 1 = .ok (.invokespecial 3, 3) := by decide +kernel
theorem dX0_init_4 : decode cX0_init 4 = .ok (.aload_n 0, 1) := by decide +kernel
theorem dX0_init_5 : decode cX0_init 5 = .ok (.bipush 6, 2) := by decide +kernel
theorem dX0_init_7 : decode cX0_init 7 = .ok (.newarray .int, 2) := by decide +kernel
theorem dX0_init_9 : decode cX0_init 9 = .ok (.putfield 9, 3) := by decide +kernel
theorem dX0_init_12 : decode cX0_init 12 = .ok (.aload_n 0, 1) := by decide +kernel
theorem dX0_init_13 : decode cX0_init 13 = .ok (.bipush 6, 2) := by decide +kernel
theorem dX0_init_15 : decode cX0_init 15 = .ok (.newarray .int, 2) := by decide +kernel
theorem dX0_init_17 : decode cX0_init 17 = .ok (.putfield 15, 3) := by decide +kernel
theorem dX0_init_20 : decode cX0_init 20 = .ok (.aload_n 0, 1) := by decide +kernel
theorem dX0_init_21 : decode cX0_init 21 = .ok (.bipush 6, 2) := by decide +kernel
theorem dX0_init_23 : decode cX0_init 23 = .ok (.newarray .int, 2) := by decide +kernel
theorem dX0_init_25 : decode cX0_init 25 = .ok (.putfield 18, 3) := by decide +kernel
theorem dX0_init_28 : decode cX0_init 28 = .ok (.aload_n 0, 1) := by decide +kernel
theorem dX0_init_29 : decode cX0_init 29 = .ok (.bipush 36, 2) := by decide +kernel
theorem dX0_init_31 : decode cX0_init 31 = .ok (.newarray .int, 2) := by decide +kernel
theorem dX0_init_33 : decode cX0_init 33 = .ok (.putfield 21, 3) := by decide +kernel
theorem dX0_init_36 : decode cX0_init 36 = .ok (.aload_n 0, 1) := by decide +kernel
theorem dX0_init_37 : decode cX0_init 37 = .ok (.bipush 36, 2) := by decide +kernel
theorem dX0_init_39 : decode cX0_init 39 = .ok (.newarray .int, 2) := by decide +kernel
theorem dX0_init_41 : decode cX0_init 41 = .ok (.putfield 24, 3) := by decide +kernel
theorem dX0_init_44 : decode cX0_init 44 = .ok (.aload_n 0, 1) := by decide +kernel
theorem dX0_init_45 : decode cX0_init 45 = .ok (.iconst 3, 1) := by decide +kernel
theorem dX0_init_46 : decode cX0_init 46 = .ok (.newarray .int, 2) := by decide +kernel
theorem dX0_init_48 : decode cX0_init 48 = .ok (.putfield 27, 3) := by decide +kernel
theorem dX0_init_51 : decode cX0_init 51 = .ok (.aload_n 0, 1) := by decide +kernel
theorem dX0_init_52 : decode cX0_init 52 = .ok (.invokevirtual 30, 3) := by decide +kernel
theorem dX0_init_55 : decode cX0_init 55 = .ok (.return_, 1) := by decide +kernel
theorem dX0_empty_0 : decode cX0_empty 0 = .ok (.aload_n 0, 1) := by decide +kernel
theorem dX0_empty_1 : decode cX0_empty 1 = .ok (.iconst 0, 1) := by decide +kernel
theorem dX0_empty_2 : decode cX0_empty 2 = .ok (.putfield 33, 3) := by decide +kernel
theorem dX0_empty_5 : decode cX0_empty 5 = .ok (.aload_n 0, 1) := by decide +kernel
theorem dX0_empty_6 : decode cX0_empty 6 = .ok (.iconst 0, 1) := by decide +kernel
theorem dX0_empty_7 : decode cX0_empty 7 = .ok (.putfield 37, 3) := by decide +kernel
theorem dX0_empty_10 : decode cX0_empty 10 = .ok (.aload_n 0, 1) := by decide +kernel
theorem dX0_empty_11 : decode cX0_empty 11 = .ok (.iconst 3, 1) := by decide +kernel
theorem dX0_empty_12 : decode cX0_empty 12 = .ok (.putfield 40, 3) := by decide +kernel
theorem dX0_empty_15 : decode cX0_empty 15 = .ok (.aload_n 0, 1) := by decide +kernel
theorem dX0_empty_16 : decode cX0_empty 16 = .ok (.bipush 8, 2) := by decide +kernel
theorem dX0_empty_18 : decode cX0_empty 18 = .ok (.putfield 43, 3) := by decide +kernel
theorem dX0_empty_21 : decode cX0_empty 21 = .ok (.aload_n 0, 1) := by decide +kernel
theorem dX0_empty_22 : decode cX0_empty 22 = .ok (.iconst 0, 1) := by decide +kernel
theorem dX0_empty_23 : decode cX0_empty 23 = .ok (.putfield 46, 3) := by decide +kernel
theorem dX0_empty_26 : decode cX0_empty 26 = .ok (.aload_n 0, 1) := by decide +kernel
theorem dX0_empty_27 : decode cX0_empty 27 = .ok (.iconst 0, 1) := by decide +kernel
theorem dX0_empty_28 : decode cX0_empty 28 = .ok (.putfield 49, 3) := by decide +kernel
theorem dX0_empty_31 : decode cX0_empty 31 = .ok (.aload_n 0, 1) := by decide +kernel
theorem dX0_empty_32 : decode cX0_empty 32 = .ok (.getfield 24, 3) := by decide +kernel
theorem dX0_empty_35 : decode cX0_empty 35 = .ok (.iconst 0, 1) := by decide +kernel
theorem dX0_empty_36 : decode cX0_empty 36 = .ok (.invokestatic 52, 3) := by decide +kernel
theorem dX0_empty_39 : decode cX0_empty 39 = .ok (.aload_n 0, 1) := by decide +kernel
theorem dX0_empty_40 : decode cX0_empty 40 = .ok (.getfield 21, 3) := by decide +kernel
theorem dX0_empty_43 : decode cX0_empty 43 = .ok (.sipush 1000, 3) := by decide +kernel
theorem dX0_empty_46 : decode cX0_empty 46 = .ok (.invokestatic 52, 3) := by decide +kernel
theorem dX0_empty_49 : decode cX0_empty 49 = .ok (.iconst 0, 1) := by decide +kernel
theorem dX0_empty_50 : decode cX0_empty 50 = .ok (.istore_n 1, 1) := by decide +kernel
theorem dX0_empty_51 : decode cX0_empty 51 = .ok (.iload_n 1, 1) := by decide +kernel
theorem dX0_empty_52 : decode cX0_empty 52 = .ok (.bipush 6, 2) := by decide +kernel
theorem dX0_empty_54 : decode cX0_empty 54 = .ok (.if_icmp .ge 21, 3) := by decide +kernel
theorem dX0_empty_57 : decode cX0_empty 57 = .ok (.aload_n 0, 1) := by decide +kernel
theorem dX0_empty_58 : decode cX0_empty 58 = .ok (.getfield 21, 3) := by decide +kernel
theorem dX0_empty_61 : decode cX0_empty 61 = .ok (.iload_n 1, 1) := by decide +kernel
theorem dX0_empty_62 : decode cX0_empty 62 = .ok (.bipush 6, 2) := by decide +kernel
theorem dX0_empty_64 : decode cX0_empty 64 = .ok (.imul, 1) := by decide +kernel
theorem dX0_empty_65 : decode cX0_empty 65 = .ok (.iload_n 1, 1) := by decide +kernel
theorem dX0_empty_66 : decode cX0_empty 66 = .ok (.iadd, 1) := by decide +kernel
theorem dX0_empty_67 : decode cX0_empty 67 = .ok (.iconst 0, 1) := by decide +kernel
theorem dX0_empty_68 : decode cX0_empty 68 = .ok (.iastore, 1) := by decide +kernel
theorem dX0_empty_69 : decode cX0_empty 69 = .ok (.iinc 1 1, 3) := by decide +kernel
theorem dX0_empty_72 : decode cX0_empty 72 = .ok (.goto (-21), 3) := by decide +kernel
theorem dX0_empty_75 : decode cX0_empty 75 = .ok (.return_, 1) := by decide +kernel
theorem dX0_knows_0 : decode cX0_knows 0 = .ok (.iconst 0, 1) := by decide +kernel
theorem dX0_knows_1 : decode cX0_knows 1 = .ok (.iload_n 1, 1) := by decide +kernel
theorem dX0_knows_2 : decode cX0_knows 2 = .ok (.if_icmp .gt 21, 3) := by decide +kernel
theorem dX0_knows_5 : decode cX0_knows 5 = .ok (.iload_n 1, 1) := by decide +kernel
theorem dX0_knows_6 : decode cX0_knows 6 = .ok (.aload_n 0, 1) := by decide +kernel
theorem dX0_knows_7 : decode cX0_knows 7 = .ok (.getfield 33, 3) := by decide +kernel
theorem dX0_knows_10 : decode cX0_knows 10 = .ok (.if_icmp .ge 13, 3) := by decide +kernel
theorem dX0_knows_13 : decode cX0_knows 13 = .ok (.iload_n 1, 1) := by decide +kernel
theorem dX0_knows_14 : decode cX0_knows 14 = .ok (.bipush 6, 2) := by decide +kernel
theorem dX0_knows_16 : decode cX0_knows 16 = .ok (.if_icmp .ge 7, 3) := by decide +kernel
theorem dX0_knows_19 : decode cX0_knows 19 = .ok (.iconst 1, 1) := by decide +kernel
theorem dX0_knows_20 : decode cX0_knows 20 = .ok (.goto 4, 3) := by decide +kernel
theorem dX0_knows_23 : decode cX0_knows 23 = .ok (.iconst 0, 1) := by decide +kernel
theorem dX0_knows_24 : decode cX0_knows 24 = .ok (.ireturn, 1) := by decide +kernel
theorem dX0_hensOf_0 : decode cX0_hensOf 0 = .ok (.aload_n 0, 1) := by decide +kernel
theorem dX0_hensOf_1 : decode cX0_hensOf 1 = .ok (.iload_n 1, 1) := by decide +kernel
theorem dX0_hensOf_2 : decode cX0_hensOf 2 = .ok (.invokevirtual 58, 3) := by decide +kernel
theorem dX0_hensOf_5 : decode cX0_hensOf 5 = .ok (.ifCond .eq 12, 3) := by decide +kernel
theorem dX0_hensOf_8 : decode cX0_hensOf 8 = .ok (.aload_n 0, 1) := by decide +kernel
theorem dX0_hensOf_9 : decode cX0_hensOf 9 = .ok (.getfield 9, 3) := by decide +kernel
theorem dX0_hensOf_12 : decode cX0_hensOf 12 = .ok (.iload_n 1, 1) := by decide +kernel
theorem dX0_hensOf_13 : decode cX0_hensOf 13 = .ok (.iaload, 1) := by decide +kernel
theorem dX0_hensOf_14 : decode cX0_hensOf 14 = .ok (.goto 4, 3) := by decide +kernel
theorem dX0_hensOf_17 : decode cX0_hensOf 17 = .ok (.iconst 0, 1) := by decide +kernel
theorem dX0_hensOf_18 : decode cX0_hensOf 18 = .ok (.ireturn, 1) := by decide +kernel
theorem dX0_needOf_0 : decode cX0_needOf 0 = .ok (.aload_n 0, 1) := by decide +kernel
theorem dX0_needOf_1 : decode cX0_needOf 1 = .ok (.iload_n 1, 1) := by decide +kernel
theorem dX0_needOf_2 : decode cX0_needOf 2 = .ok (.invokevirtual 58, 3) := by decide +kernel
theorem dX0_needOf_5 : decode cX0_needOf 5 = .ok (.ifCond .eq 12, 3) := by decide +kernel
theorem dX0_needOf_8 : decode cX0_needOf 8 = .ok (.aload_n 0, 1) := by decide +kernel
theorem dX0_needOf_9 : decode cX0_needOf 9 = .ok (.getfield 15, 3) := by decide +kernel
theorem dX0_needOf_12 : decode cX0_needOf 12 = .ok (.iload_n 1, 1) := by decide +kernel
theorem dX0_needOf_13 : decode cX0_needOf 13 = .ok (.iaload, 1) := by decide +kernel
theorem dX0_needOf_14 : decode cX0_needOf 14 = .ok (.goto 4, 3) := by decide +kernel
theorem dX0_needOf_17 : decode cX0_needOf 17 = .ok (.iconst 0, 1) := by decide +kernel
theorem dX0_needOf_18 : decode cX0_needOf 18 = .ok (.ireturn, 1) := by decide +kernel
theorem dX0_hasCharter_0 : decode cX0_hasCharter 0 = .ok (.aload_n 0, 1) := by decide +kernel
theorem dX0_hasCharter_1 : decode cX0_hasCharter 1 = .ok (.iload_n 1, 1) := by decide +kernel
theorem dX0_hasCharter_2 : decode cX0_hasCharter 2 = .ok (.invokevirtual 58, 3) := by decide +kernel
theorem dX0_hasCharter_5 : decode cX0_hasCharter 5 = .ok (.ifCond .eq 17, 3) := by decide +kernel
theorem dX0_hasCharter_8 : decode cX0_hasCharter 8 = .ok (.aload_n 0, 1) := by decide +kernel
theorem dX0_hasCharter_9 : decode cX0_hasCharter 9 = .ok (.getfield 18, 3) := by decide +kernel
theorem dX0_hasCharter_12 : decode cX0_hasCharter 12 = .ok (.iload_n 1, 1) := by decide +kernel
theorem dX0_hasCharter_13 : decode cX0_hasCharter 13 = .ok (.iaload, 1) := by decide +kernel
theorem dX0_hasCharter_14 : decode cX0_hasCharter 14 = .ok (.iconst 1, 1) := by decide +kernel
theorem dX0_hasCharter_15 : decode cX0_hasCharter 15 = .ok (.if_icmp .ne 7, 3) := by decide +kernel
theorem dX0_hasCharter_18 : decode cX0_hasCharter 18 = .ok (.iconst 1, 1) := by decide +kernel
theorem dX0_hasCharter_19 : decode cX0_hasCharter 19 = .ok (.goto 4, 3) := by decide +kernel
theorem dX0_hasCharter_22 : decode cX0_hasCharter 22 = .ok (.iconst 0, 1) := by decide +kernel
theorem dX0_hasCharter_23 : decode cX0_hasCharter 23 = .ok (.ireturn, 1) := by decide +kernel
theorem dX0_debt_0 : decode cX0_debt 0 = .ok (.aload_n 0, 1) := by decide +kernel
theorem dX0_debt_1 : decode cX0_debt 1 = .ok (.iload_n 1, 1) := by decide +kernel
theorem dX0_debt_2 : decode cX0_debt 2 = .ok (.invokevirtual 58, 3) := by decide +kernel
theorem dX0_debt_5 : decode cX0_debt 5 = .ok (.ifCond .eq 25, 3) := by decide +kernel
theorem dX0_debt_8 : decode cX0_debt 8 = .ok (.aload_n 0, 1) := by decide +kernel
theorem dX0_debt_9 : decode cX0_debt 9 = .ok (.iload_n 2, 1) := by decide +kernel
theorem dX0_debt_10 : decode cX0_debt 10 = .ok (.invokevirtual 58, 3) := by decide +kernel
theorem dX0_debt_13 : decode cX0_debt 13 = .ok (.ifCond .eq 17, 3) := by decide +kernel
theorem dX0_debt_16 : decode cX0_debt 16 = .ok (.aload_n 0, 1) := by decide +kernel
theorem dX0_debt_17 : decode cX0_debt 17 = .ok (.getfield 24, 3) := by decide +kernel
theorem dX0_debt_20 : decode cX0_debt 20 = .ok (.iload_n 1, 1) := by decide +kernel
theorem dX0_debt_21 : decode cX0_debt 21 = .ok (.bipush 6, 2) := by decide +kernel
theorem dX0_debt_23 : decode cX0_debt 23 = .ok (.imul, 1) := by decide +kernel
theorem dX0_debt_24 : decode cX0_debt 24 = .ok (.iload_n 2, 1) := by decide +kernel
theorem dX0_debt_25 : decode cX0_debt 25 = .ok (.iadd, 1) := by decide +kernel
theorem dX0_debt_26 : decode cX0_debt 26 = .ok (.iaload, 1) := by decide +kernel
theorem dX0_debt_27 : decode cX0_debt 27 = .ok (.goto 4, 3) := by decide +kernel
theorem dX0_debt_30 : decode cX0_debt 30 = .ok (.iconst 0, 1) := by decide +kernel
theorem dX0_debt_31 : decode cX0_debt 31 = .ok (.ireturn, 1) := by decide +kernel
theorem dX0_daysBetween_0 : decode cX0_daysBetween 0 = .ok (.aload_n 0, 1) := by decide +kernel
theorem dX0_daysBetween_1 : decode cX0_daysBetween 1 = .ok (.iload_n 1, 1) := by decide +kernel
theorem dX0_daysBetween_2 : decode cX0_daysBetween 2 = .ok (.invokevirtual 58, 3) := by decide +kernel
theorem dX0_daysBetween_5 : decode cX0_daysBetween 5 = .ok (.ifCond .eq 11, 3) := by decide +kernel
theorem dX0_daysBetween_8 : decode cX0_daysBetween 8 = .ok (.aload_n 0, 1) := by decide +kernel
theorem dX0_daysBetween_9 : decode cX0_daysBetween 9 = .ok (.iload_n 2, 1) := by decide +kernel
theorem dX0_daysBetween_10 : decode cX0_daysBetween 10 = .ok (.invokevirtual 58, 3) := by decide +kernel
theorem dX0_daysBetween_13 : decode cX0_daysBetween 13 = .ok (.ifCond .ne 6, 3) := by decide +kernel
theorem dX0_daysBetween_16 : decode cX0_daysBetween 16 = .ok (.bipush (-9), 2) := by decide +kernel
theorem dX0_daysBetween_18 : decode cX0_daysBetween 18 = .ok (.ireturn, 1) := by decide +kernel
theorem dX0_daysBetween_19 : decode cX0_daysBetween 19 = .ok (.aload_n 0, 1) := by decide +kernel
theorem dX0_daysBetween_20 : decode cX0_daysBetween 20 = .ok (.getfield 21, 3) := by decide +kernel
theorem dX0_daysBetween_23 : decode cX0_daysBetween 23 = .ok (.iload_n 1, 1) := by decide +kernel
theorem dX0_daysBetween_24 : decode cX0_daysBetween 24 = .ok (.bipush 6, 2) := by decide +kernel
theorem dX0_daysBetween_26 : decode cX0_daysBetween 26 = .ok (.imul, 1) := by decide +kernel
theorem dX0_daysBetween_27 : decode cX0_daysBetween 27 = .ok (.iload_n 2, 1) := by decide +kernel
theorem dX0_daysBetween_28 : decode cX0_daysBetween 28 = .ok (.iadd, 1) := by decide +kernel
theorem dX0_daysBetween_29 : decode cX0_daysBetween 29 = .ok (.iaload, 1) := by decide +kernel
theorem dX0_daysBetween_30 : decode cX0_daysBetween 30 = .ok (.istore_n 3, 1) := by decide +kernel
theorem dX0_daysBetween_31 : decode cX0_daysBetween 31 = .ok (.iload_n 3, 1) := by decide +kernel
theorem dX0_daysBetween_32 : decode cX0_daysBetween 32 = .ok (.sipush 1000, 3) := by decide +kernel
theorem dX0_daysBetween_35 : decode cX0_daysBetween 35 = .ok (.if_icmp .lt 8, 3) := by decide +kernel
theorem dX0_daysBetween_38 : decode cX0_daysBetween 38 = .ok (.bipush (-9), 2) := by decide +kernel
theorem dX0_daysBetween_40 : decode cX0_daysBetween 40 = .ok (.goto 4, 3) := by decide +kernel
theorem dX0_daysBetween_43 : decode cX0_daysBetween 43 = .ok (.iload_n 3, 1) := by decide +kernel
theorem dX0_daysBetween_44 : decode cX0_daysBetween 44 = .ok (.ireturn, 1) := by decide +kernel
theorem dX0_writtenFor_0 : decode cX0_writtenFor 0 = .ok (.aload_n 0, 1) := by decide +kernel
theorem dX0_writtenFor_1 : decode cX0_writtenFor 1 = .ok (.getfield 43, 3) := by decide +kernel
theorem dX0_writtenFor_4 : decode cX0_writtenFor 4 = .ok (.iload_n 1, 1) := by decide +kernel
theorem dX0_writtenFor_5 : decode cX0_writtenFor 5 = .ok (.imul, 1) := by decide +kernel
theorem dX0_writtenFor_6 : decode cX0_writtenFor 6 = .ok (.bipush 10, 2) := by decide +kernel
theorem dX0_writtenFor_8 : decode cX0_writtenFor 8 = .ok (.idiv, 1) := by decide +kernel
theorem dX0_writtenFor_9 : decode cX0_writtenFor 9 = .ok (.ireturn, 1) := by decide +kernel
theorem dX0_readAll_0 : decode cX0_readAll 0 = .ok (.aload_n 0, 1) := by decide +kernel
theorem dX0_readAll_1 : decode cX0_readAll 1 = .ok (.invokevirtual 30, 3) := by decide +kernel
theorem dX0_readAll_4 : decode cX0_readAll 4 = .ok (.aload_n 1, 1) := by decide +kernel
theorem dX0_readAll_5 : decode cX0_readAll 5 = .ok (.invokevirtual 62, 3) := by decide +kernel
theorem dX0_readAll_8 : decode cX0_readAll 8 = .ok (.iconst 0, 1) := by decide +kernel
theorem dX0_readAll_9 : decode cX0_readAll 9 = .ok (.istore_n 2, 1) := by decide +kernel
theorem dX0_readAll_10 : decode cX0_readAll 10 = .ok (.iload_n 2, 1) := by decide +kernel
theorem dX0_readAll_11 : decode cX0_readAll 11 = .ok (.sipush 180, 3) := by decide +kernel
theorem dX0_readAll_14 : decode cX0_readAll 14 = .ok (.if_icmp .ge 32, 3) := by decide +kernel
theorem dX0_readAll_17 : decode cX0_readAll 17 = .ok (.aload_n 1, 1) := by decide +kernel
theorem dX0_readAll_18 : decode cX0_readAll 18 = .ok (.getfield 67, 3) := by decide +kernel
theorem dX0_readAll_21 : decode cX0_readAll 21 = .ok (.ifCond .eq 25, 3) := by decide +kernel
theorem dX0_readAll_24 : decode cX0_readAll 24 = .ok (.aload_n 0, 1) := by decide +kernel
theorem dX0_readAll_25 : decode cX0_readAll 25 = .ok (.aload_n 1, 1) := by decide +kernel
theorem dX0_readAll_26 : decode cX0_readAll 26 = .ok (.invokevirtual 70, 3) := by decide +kernel
theorem dX0_readAll_29 : decode cX0_readAll 29 = .ok (.ifCond .ne 11, 3) := by decide +kernel
theorem dX0_readAll_32 : decode cX0_readAll 32 = .ok (.bipush (-10), 2) := by decide +kernel
theorem dX0_readAll_34 : decode cX0_readAll 34 = .ok (.aload_n 1, 1) := by decide +kernel
theorem dX0_readAll_35 : decode cX0_readAll 35 = .ok (.getfield 74, 3) := by decide +kernel
theorem dX0_readAll_38 : decode cX0_readAll 38 = .ok (.isub, 1) := by decide +kernel
theorem dX0_readAll_39 : decode cX0_readAll 39 = .ok (.ireturn, 1) := by decide +kernel
theorem dX0_readAll_40 : decode cX0_readAll 40 = .ok (.iinc 2 1, 3) := by decide +kernel
theorem dX0_readAll_43 : decode cX0_readAll 43 = .ok (.goto (-33), 3) := by decide +kernel
theorem dX0_readAll_46 : decode cX0_readAll 46 = .ok (.aload_n 0, 1) := by decide +kernel
theorem dX0_readAll_47 : decode cX0_readAll 47 = .ok (.invokevirtual 77, 3) := by decide +kernel
theorem dX0_readAll_50 : decode cX0_readAll 50 = .ok (.iload_n 2, 1) := by decide +kernel
theorem dX0_readAll_51 : decode cX0_readAll 51 = .ok (.ireturn, 1) := by decide +kernel
theorem dX0_readItem_0 : decode cX0_readItem 0 = .ok (.aload_n 1, 1) := by decide +kernel
theorem dX0_readItem_1 : decode cX0_readItem 1 = .ok (.getfield 80, 3) := by decide +kernel
theorem dX0_readItem_4 : decode cX0_readItem 4 = .ok (.istore_n 2, 1) := by decide +kernel
theorem dX0_readItem_5 : decode cX0_readItem 5 = .ok (.aload_n 1, 1) := by decide +kernel
theorem dX0_readItem_6 : decode cX0_readItem 6 = .ok (.getfield 67, 3) := by decide +kernel
theorem dX0_readItem_9 : decode cX0_readItem 9 = .ok (.iconst 1, 1) := by decide +kernel
theorem dX0_readItem_10 : decode cX0_readItem 10 = .ok (.if_icmp .ne 11, 3) := by decide +kernel
theorem dX0_readItem_13 : decode cX0_readItem 13 = .ok (.aload_n 0, 1) := by decide +kernel
theorem dX0_readItem_14 : decode cX0_readItem 14 = .ok (.iload_n 2, 1) := by decide +kernel
theorem dX0_readItem_15 : decode cX0_readItem 15 = .ok (.invokevirtual 83, 3) := by decide +kernel
theorem dX0_readItem_18 : decode cX0_readItem 18 = .ok (.ifCond .ne 5, 3) := by decide +kernel
theorem dX0_readItem_21 : decode cX0_readItem 21 = .ok (.iconst 0, 1) := by decide +kernel
theorem dX0_readItem_22 : decode cX0_readItem 22 = .ok (.ireturn, 1) := by decide +kernel
theorem dX0_readItem_23 : decode cX0_readItem 23 = .ok (.aload_n 1, 1) := by decide +kernel
theorem dX0_readItem_24 : decode cX0_readItem 24 = .ok (.invokevirtual 86, 3) := by decide +kernel
theorem dX0_readItem_27 : decode cX0_readItem 27 = .ok (.iload_n 2, 1) := by decide +kernel
theorem dX0_readItem_28 : decode cX0_readItem 28 = .ok (.invokestatic 89, 3) := by decide +kernel
theorem dX0_readItem_31 : decode cX0_readItem 31 = .ok (.ifCond .eq 7, 3) := by decide +kernel
theorem dX0_readItem_34 : decode cX0_readItem 34 = .ok (.iconst 1, 1) := by decide +kernel
theorem dX0_readItem_35 : decode cX0_readItem 35 = .ok (.goto 4, 3) := by decide +kernel
theorem dX0_readItem_38 : decode cX0_readItem 38 = .ok (.iconst 3, 1) := by decide +kernel
theorem dX0_readItem_39 : decode cX0_readItem 39 = .ok (.istore_n 3, 1) := by decide +kernel
theorem dX0_readItem_40 : decode cX0_readItem 40 = .ok (.iconst 0, 1) := by decide +kernel
theorem dX0_readItem_41 : decode cX0_readItem 41 = .ok (.istore 4, 2) := by decide +kernel
theorem dX0_readItem_43 : decode cX0_readItem 43 = .ok (.iload 4, 2) := by decide +kernel
theorem dX0_readItem_45 : decode cX0_readItem 45 = .ok (.iload_n 3, 1) := by decide +kernel
theorem dX0_readItem_46 : decode cX0_readItem 46 = .ok (.if_icmp .ge 58, 3) := by decide +kernel
theorem dX0_readItem_49 : decode cX0_readItem 49 = .ok (.iload 4, 2) := by decide +kernel
theorem dX0_readItem_51 : decode cX0_readItem 51 = .ok (.aload_n 0, 1) := by decide +kernel
theorem dX0_readItem_52 : decode cX0_readItem 52 = .ok (.getfield 27, 3) := by decide +kernel
theorem dX0_readItem_55 : decode cX0_readItem 55 = .ok (.arraylength, 1) := by decide +kernel
theorem dX0_readItem_56 : decode cX0_readItem 56 = .ok (.if_icmp .ge 48, 3) := by decide +kernel
theorem dX0_readItem_59 : decode cX0_readItem 59 = .ok (.aload_n 1, 1) := by decide +kernel
theorem dX0_readItem_60 : decode cX0_readItem 60 = .ok (.getfield 67, 3) := by decide +kernel
theorem dX0_readItem_63 : decode cX0_readItem 63 = .ok (.iconst 2, 1) := by decide +kernel
theorem dX0_readItem_64 : decode cX0_readItem 64 = .ok (.if_icmp .ne 17, 3) := by decide +kernel
theorem dX0_readItem_67 : decode cX0_readItem 67 = .ok (.aload_n 0, 1) := by decide +kernel
theorem dX0_readItem_68 : decode cX0_readItem 68 = .ok (.iload_n 2, 1) := by decide +kernel
theorem dX0_readItem_69 : decode cX0_readItem 69 = .ok (.iload 4, 2) := by decide +kernel
theorem dX0_readItem_71 : decode cX0_readItem 71 = .ok (.aload_n 1, 1) := by decide +kernel
theorem dX0_readItem_72 : decode cX0_readItem 72 = .ok (.getfield 80, 3) := by decide +kernel
theorem dX0_readItem_75 : decode cX0_readItem 75 = .ok (.invokevirtual 92, 3) := by decide +kernel
theorem dX0_readItem_78 : decode cX0_readItem 78 = .ok (.ifCond .ne 5, 3) := by decide +kernel
theorem dX0_readItem_81 : decode cX0_readItem 81 = .ok (.iconst 0, 1) := by decide +kernel
theorem dX0_readItem_82 : decode cX0_readItem 82 = .ok (.ireturn, 1) := by decide +kernel
theorem dX0_readItem_83 : decode cX0_readItem 83 = .ok (.aload_n 0, 1) := by decide +kernel
theorem dX0_readItem_84 : decode cX0_readItem 84 = .ok (.getfield 27, 3) := by decide +kernel
theorem dX0_readItem_87 : decode cX0_readItem 87 = .ok (.iload 4, 2) := by decide +kernel
theorem dX0_readItem_89 : decode cX0_readItem 89 = .ok (.aload_n 1, 1) := by decide +kernel
theorem dX0_readItem_90 : decode cX0_readItem 90 = .ok (.getfield 80, 3) := by decide +kernel
theorem dX0_readItem_93 : decode cX0_readItem 93 = .ok (.iastore, 1) := by decide +kernel
theorem dX0_readItem_94 : decode cX0_readItem 94 = .ok (.aload_n 1, 1) := by decide +kernel
theorem dX0_readItem_95 : decode cX0_readItem 95 = .ok (.invokevirtual 86, 3) := by decide +kernel
theorem dX0_readItem_98 : decode cX0_readItem 98 = .ok (.iinc 4 1, 3) := by decide +kernel
theorem dX0_readItem_101 : decode cX0_readItem 101 = .ok (.goto (-58), 3) := by decide +kernel
theorem dX0_readItem_104 : decode cX0_readItem 104 = .ok (.aload_n 1, 1) := by decide +kernel
theorem dX0_readItem_105 : decode cX0_readItem 105 = .ok (.getfield 67, 3) := by decide +kernel
theorem dX0_readItem_108 : decode cX0_readItem 108 = .ok (.iconst 3, 1) := by decide +kernel
theorem dX0_readItem_109 : decode cX0_readItem 109 = .ok (.if_icmp .eq 5, 3) := by decide +kernel
theorem dX0_readItem_112 : decode cX0_readItem 112 = .ok (.iconst 0, 1) := by decide +kernel
theorem dX0_readItem_113 : decode cX0_readItem 113 = .ok (.ireturn, 1) := by decide +kernel
theorem dX0_readItem_114 : decode cX0_readItem 114 = .ok (.aload_n 1, 1) := by decide +kernel
theorem dX0_readItem_115 : decode cX0_readItem 115 = .ok (.invokevirtual 86, 3) := by decide +kernel
theorem dX0_readItem_118 : decode cX0_readItem 118 = .ok (.aload_n 0, 1) := by decide +kernel
theorem dX0_readItem_119 : decode cX0_readItem 119 = .ok (.iload_n 2, 1) := by decide +kernel
theorem dX0_readItem_120 : decode cX0_readItem 120 = .ok (.invokevirtual 96, 3) := by decide +kernel
theorem dX0_readItem_123 : decode cX0_readItem 123 = .ok (.iconst 1, 1) := by decide +kernel
theorem dX0_readItem_124 : decode cX0_readItem 124 = .ok (.ireturn, 1) := by decide +kernel
theorem dX0_isToldOnce_0 : decode cX0_isToldOnce 0 = .ok (.iload_n 0, 1) := by decide +kernel
theorem dX0_isToldOnce_1 : decode cX0_isToldOnce 1 = .ok (.bipush 109, 2) := by decide +kernel
theorem dX0_isToldOnce_3 : decode cX0_isToldOnce 3 = .ok (.if_icmp .eq 15, 3) := by decide +kernel
theorem dX0_isToldOnce_6 : decode cX0_isToldOnce 6 = .ok (.iload_n 0, 1) := by decide +kernel
theorem dX0_isToldOnce_7 : decode cX0_isToldOnce 7 = .ok (.bipush 119, 2) := by decide +kernel
theorem dX0_isToldOnce_9 : decode cX0_isToldOnce 9 = .ok (.if_icmp .eq 9, 3) := by decide +kernel
theorem dX0_isToldOnce_12 : decode cX0_isToldOnce 12 = .ok (.iload_n 0, 1) := by decide +kernel
theorem dX0_isToldOnce_13 : decode cX0_isToldOnce 13 = .ok (.bipush 98, 2) := by decide +kernel
theorem dX0_isToldOnce_15 : decode cX0_isToldOnce 15 = .ok (.if_icmp .ne 7, 3) := by decide +kernel
theorem dX0_isToldOnce_18 : decode cX0_isToldOnce 18 = .ok (.iconst 1, 1) := by decide +kernel
theorem dX0_isToldOnce_19 : decode cX0_isToldOnce 19 = .ok (.goto 4, 3) := by decide +kernel
theorem dX0_isToldOnce_22 : decode cX0_isToldOnce 22 = .ok (.iconst 0, 1) := by decide +kernel
theorem dX0_isToldOnce_23 : decode cX0_isToldOnce 23 = .ok (.ireturn, 1) := by decide +kernel
theorem dX0_mayBegin_0 : decode cX0_mayBegin 0 = .ok (.iload_n 1, 1) := by decide +kernel
theorem dX0_mayBegin_1 : decode cX0_mayBegin 1 = .ok (.lookupswitch 67 #[(100, 65), (114, 50), (118, 35)], 35) := by decide +kernel
theorem dX0_mayBegin_36 : decode cX0_mayBegin 36 = .ok (.aload_n 0, 1) := by decide +kernel
theorem dX0_mayBegin_37 : decode cX0_mayBegin 37 = .ok (.getfield 33, 3) := by decide +kernel
theorem dX0_mayBegin_40 : decode cX0_mayBegin 40 = .ok (.bipush 6, 2) := by decide +kernel
theorem dX0_mayBegin_42 : decode cX0_mayBegin 42 = .ok (.if_icmp .ge 7, 3) := by decide +kernel
theorem dX0_mayBegin_45 : decode cX0_mayBegin 45 = .ok (.iconst 1, 1) := by decide +kernel
theorem dX0_mayBegin_46 : decode cX0_mayBegin 46 = .ok (.goto 4, 3) := by decide +kernel
theorem dX0_mayBegin_49 : decode cX0_mayBegin 49 = .ok (.iconst 0, 1) := by decide +kernel
theorem dX0_mayBegin_50 : decode cX0_mayBegin 50 = .ok (.ireturn, 1) := by decide +kernel
theorem dX0_mayBegin_51 : decode cX0_mayBegin 51 = .ok (.aload_n 0, 1) := by decide +kernel
theorem dX0_mayBegin_52 : decode cX0_mayBegin 52 = .ok (.getfield 37, 3) := by decide +kernel
theorem dX0_mayBegin_55 : decode cX0_mayBegin 55 = .ok (.bipush 10, 2) := by decide +kernel
theorem dX0_mayBegin_57 : decode cX0_mayBegin 57 = .ok (.if_icmp .ge 7, 3) := by decide +kernel
theorem dX0_mayBegin_60 : decode cX0_mayBegin 60 = .ok (.iconst 1, 1) := by decide +kernel
theorem dX0_mayBegin_61 : decode cX0_mayBegin 61 = .ok (.goto 4, 3) := by decide +kernel
theorem dX0_mayBegin_64 : decode cX0_mayBegin 64 = .ok (.iconst 0, 1) := by decide +kernel
theorem dX0_mayBegin_65 : decode cX0_mayBegin 65 = .ok (.ireturn, 1) := by decide +kernel
theorem dX0_mayBegin_66 : decode cX0_mayBegin 66 = .ok (.iconst 1, 1) := by decide +kernel
theorem dX0_mayBegin_67 : decode cX0_mayBegin 67 = .ok (.ireturn, 1) := by decide +kernel
theorem dX0_mayBegin_68 : decode cX0_mayBegin 68 = .ok (.iload_n 1, 1) := by decide +kernel
theorem dX0_mayBegin_69 : decode cX0_mayBegin 69 = .ok (.invokestatic 89, 3) := by decide +kernel
theorem dX0_mayBegin_72 : decode cX0_mayBegin 72 = .ok (.ifCond .eq 19, 3) := by decide +kernel
theorem dX0_mayBegin_75 : decode cX0_mayBegin 75 = .ok (.aload_n 0, 1) := by decide +kernel
theorem dX0_mayBegin_76 : decode cX0_mayBegin 76 = .ok (.getfield 49, 3) := by decide +kernel
theorem dX0_mayBegin_79 : decode cX0_mayBegin 79 = .ok (.iload_n 1, 1) := by decide +kernel
theorem dX0_mayBegin_80 : decode cX0_mayBegin 80 = .ok (.invokestatic 100, 3) := by decide +kernel
theorem dX0_mayBegin_83 : decode cX0_mayBegin 83 = .ok (.iand, 1) := by decide +kernel
theorem dX0_mayBegin_84 : decode cX0_mayBegin 84 = .ok (.ifCond .ne 7, 3) := by decide +kernel
theorem dX0_mayBegin_87 : decode cX0_mayBegin 87 = .ok (.iconst 1, 1) := by decide +kernel
theorem dX0_mayBegin_88 : decode cX0_mayBegin 88 = .ok (.goto 4, 3) := by decide +kernel
theorem dX0_mayBegin_91 : decode cX0_mayBegin 91 = .ok (.iconst 0, 1) := by decide +kernel
theorem dX0_mayBegin_92 : decode cX0_mayBegin 92 = .ok (.ireturn, 1) := by decide +kernel
theorem dX0_bitOf_0 : decode cX0_bitOf 0 = .ok (.iconst 1, 1) := by decide +kernel
theorem dX0_bitOf_1 : decode cX0_bitOf 1 = .ok (.iload_n 0, 1) := by decide +kernel
theorem dX0_bitOf_2 : decode cX0_bitOf 2 = .ok (.bipush 97, 2) := by decide +kernel
theorem dX0_bitOf_4 : decode cX0_bitOf 4 = .ok (.isub, 1) := by decide +kernel
theorem dX0_bitOf_5 : decode cX0_bitOf 5 = .ok (.ishl, 1) := by decide +kernel
theorem dX0_bitOf_6 : decode cX0_bitOf 6 = .ok (.ireturn, 1) := by decide +kernel
theorem dX0_mayBeTold_0 : decode cX0_mayBeTold 0 = .ok (.iload_n 1, 1) := by decide +kernel
theorem dX0_mayBeTold_1 : decode cX0_mayBeTold 1 = .ok (.lookupswitch 136 #[(100, 94), (109, 116), (114, 72), (118, 51), (119, 124)], 51) := by decide +kernel
theorem dX0_mayBeTold_52 : decode cX0_mayBeTold 52 = .ok (.iload_n 3, 1) := by decide +kernel
theorem dX0_mayBeTold_53 : decode cX0_mayBeTold 53 = .ok (.iload_n 2, 1) := by decide +kernel
theorem dX0_mayBeTold_54 : decode cX0_mayBeTold 54 = .ok (.iconst 2, 1) := by decide +kernel
theorem dX0_mayBeTold_55 : decode cX0_mayBeTold 55 = .ok (.if_icmp .ge 8, 3) := by decide +kernel
theorem dX0_mayBeTold_58 : decode cX0_mayBeTold 58 = .ok (.bipush 60, 2) := by decide +kernel
theorem dX0_mayBeTold_60 : decode cX0_mayBeTold 60 = .ok (.goto 4, 3) := by decide +kernel
theorem dX0_mayBeTold_63 : decode cX0_mayBeTold 63 = .ok (.iconst 1, 1) := by decide +kernel
theorem dX0_mayBeTold_64 : decode cX0_mayBeTold 64 = .ok (.if_icmp .gt 7, 3) := by decide +kernel
theorem dX0_mayBeTold_67 : decode cX0_mayBeTold 67 = .ok (.iconst 1, 1) := by decide +kernel
theorem dX0_mayBeTold_68 : decode cX0_mayBeTold 68 = .ok (.goto 4, 3) := by decide +kernel
theorem dX0_mayBeTold_71 : decode cX0_mayBeTold 71 = .ok (.iconst 0, 1) := by decide +kernel
theorem dX0_mayBeTold_72 : decode cX0_mayBeTold 72 = .ok (.ireturn, 1) := by decide +kernel
theorem dX0_mayBeTold_73 : decode cX0_mayBeTold 73 = .ok (.iload_n 2, 1) := by decide +kernel
theorem dX0_mayBeTold_74 : decode cX0_mayBeTold 74 = .ok (.iconst 2, 1) := by decide +kernel
theorem dX0_mayBeTold_75 : decode cX0_mayBeTold 75 = .ok (.if_icmp .ge 12, 3) := by decide +kernel
theorem dX0_mayBeTold_78 : decode cX0_mayBeTold 78 = .ok (.aload_n 0, 1) := by decide +kernel
theorem dX0_mayBeTold_79 : decode cX0_mayBeTold 79 = .ok (.iload_n 2, 1) := by decide +kernel
theorem dX0_mayBeTold_80 : decode cX0_mayBeTold 80 = .ok (.iload_n 3, 1) := by decide +kernel
theorem dX0_mayBeTold_81 : decode cX0_mayBeTold 81 = .ok (.invokevirtual 104, 3) := by decide +kernel
theorem dX0_mayBeTold_84 : decode cX0_mayBeTold 84 = .ok (.goto 10, 3) := by decide +kernel
theorem dX0_mayBeTold_87 : decode cX0_mayBeTold 87 = .ok (.iload_n 3, 1) := by decide +kernel
theorem dX0_mayBeTold_88 : decode cX0_mayBeTold 88 = .ok (.iconst 1, 1) := by decide +kernel
theorem dX0_mayBeTold_89 : decode cX0_mayBeTold 89 = .ok (.bipush 9, 2) := by decide +kernel
theorem dX0_mayBeTold_91 : decode cX0_mayBeTold 91 = .ok (.invokestatic 108, 3) := by decide +kernel
theorem dX0_mayBeTold_94 : decode cX0_mayBeTold 94 = .ok (.ireturn, 1) := by decide +kernel
theorem dX0_mayBeTold_95 : decode cX0_mayBeTold 95 = .ok (.iload_n 2, 1) := by decide +kernel
theorem dX0_mayBeTold_96 : decode cX0_mayBeTold 96 = .ok (.iconst 2, 1) := by decide +kernel
theorem dX0_mayBeTold_97 : decode cX0_mayBeTold 97 = .ok (.if_icmp .ge 12, 3) := by decide +kernel
theorem dX0_mayBeTold_100 : decode cX0_mayBeTold 100 = .ok (.aload_n 0, 1) := by decide +kernel
theorem dX0_mayBeTold_101 : decode cX0_mayBeTold 101 = .ok (.iload_n 2, 1) := by decide +kernel
theorem dX0_mayBeTold_102 : decode cX0_mayBeTold 102 = .ok (.iload_n 3, 1) := by decide +kernel
theorem dX0_mayBeTold_103 : decode cX0_mayBeTold 103 = .ok (.invokevirtual 104, 3) := by decide +kernel
theorem dX0_mayBeTold_106 : decode cX0_mayBeTold 106 = .ok (.goto 10, 3) := by decide +kernel
theorem dX0_mayBeTold_109 : decode cX0_mayBeTold 109 = .ok (.iload_n 3, 1) := by decide +kernel
theorem dX0_mayBeTold_110 : decode cX0_mayBeTold 110 = .ok (.iconst 1, 1) := by decide +kernel
theorem dX0_mayBeTold_111 : decode cX0_mayBeTold 111 = .ok (.bipush 99, 2) := by decide +kernel
theorem dX0_mayBeTold_113 : decode cX0_mayBeTold 113 = .ok (.invokestatic 108, 3) := by decide +kernel
theorem dX0_mayBeTold_116 : decode cX0_mayBeTold 116 = .ok (.ireturn, 1) := by decide +kernel
theorem dX0_mayBeTold_117 : decode cX0_mayBeTold 117 = .ok (.iload_n 3, 1) := by decide +kernel
theorem dX0_mayBeTold_118 : decode cX0_mayBeTold 118 = .ok (.iconst 1, 1) := by decide +kernel
theorem dX0_mayBeTold_119 : decode cX0_mayBeTold 119 = .ok (.bipush 9, 2) := by decide +kernel
theorem dX0_mayBeTold_121 : decode cX0_mayBeTold 121 = .ok (.invokestatic 108, 3) := by decide +kernel
theorem dX0_mayBeTold_124 : decode cX0_mayBeTold 124 = .ok (.ireturn, 1) := by decide +kernel
theorem dX0_mayBeTold_125 : decode cX0_mayBeTold 125 = .ok (.iload_n 3, 1) := by decide +kernel
theorem dX0_mayBeTold_126 : decode cX0_mayBeTold 126 = .ok (.bipush 10, 2) := by decide +kernel
theorem dX0_mayBeTold_128 : decode cX0_mayBeTold 128 = .ok (.if_icmp .gt 7, 3) := by decide +kernel
theorem dX0_mayBeTold_131 : decode cX0_mayBeTold 131 = .ok (.iconst 1, 1) := by decide +kernel
theorem dX0_mayBeTold_132 : decode cX0_mayBeTold 132 = .ok (.goto 4, 3) := by decide +kernel
theorem dX0_mayBeTold_135 : decode cX0_mayBeTold 135 = .ok (.iconst 0, 1) := by decide +kernel
theorem dX0_mayBeTold_136 : decode cX0_mayBeTold 136 = .ok (.ireturn, 1) := by decide +kernel
theorem dX0_mayBeTold_137 : decode cX0_mayBeTold 137 = .ok (.iload_n 3, 1) := by decide +kernel
theorem dX0_mayBeTold_138 : decode cX0_mayBeTold 138 = .ok (.bipush 99, 2) := by decide +kernel
theorem dX0_mayBeTold_140 : decode cX0_mayBeTold 140 = .ok (.if_icmp .gt 7, 3) := by decide +kernel
theorem dX0_mayBeTold_143 : decode cX0_mayBeTold 143 = .ok (.iconst 1, 1) := by decide +kernel
theorem dX0_mayBeTold_144 : decode cX0_mayBeTold 144 = .ok (.goto 4, 3) := by decide +kernel
theorem dX0_mayBeTold_147 : decode cX0_mayBeTold 147 = .ok (.iconst 0, 1) := by decide +kernel
theorem dX0_mayBeTold_148 : decode cX0_mayBeTold 148 = .ok (.ireturn, 1) := by decide +kernel
theorem dX0_mayBeEnd_0 : decode cX0_mayBeEnd 0 = .ok (.aload_n 0, 1) := by decide +kernel
theorem dX0_mayBeEnd_1 : decode cX0_mayBeEnd 1 = .ok (.iload_n 2, 1) := by decide +kernel
theorem dX0_mayBeEnd_2 : decode cX0_mayBeEnd 2 = .ok (.invokevirtual 58, 3) := by decide +kernel
theorem dX0_mayBeEnd_5 : decode cX0_mayBeEnd 5 = .ok (.ifCond .eq 21, 3) := by decide +kernel
theorem dX0_mayBeEnd_8 : decode cX0_mayBeEnd 8 = .ok (.iload_n 1, 1) := by decide +kernel
theorem dX0_mayBeEnd_9 : decode cX0_mayBeEnd 9 = .ok (.ifCond .eq 13, 3) := by decide +kernel
theorem dX0_mayBeEnd_12 : decode cX0_mayBeEnd 12 = .ok (.iload_n 2, 1) := by decide +kernel
theorem dX0_mayBeEnd_13 : decode cX0_mayBeEnd 13 = .ok (.aload_n 0, 1) := by decide +kernel
theorem dX0_mayBeEnd_14 : decode cX0_mayBeEnd 14 = .ok (.getfield 27, 3) := by decide +kernel
theorem dX0_mayBeEnd_17 : decode cX0_mayBeEnd 17 = .ok (.iconst 0, 1) := by decide +kernel
theorem dX0_mayBeEnd_18 : decode cX0_mayBeEnd 18 = .ok (.iaload, 1) := by decide +kernel
theorem dX0_mayBeEnd_19 : decode cX0_mayBeEnd 19 = .ok (.if_icmp .eq 7, 3) := by decide +kernel
theorem dX0_mayBeEnd_22 : decode cX0_mayBeEnd 22 = .ok (.iconst 1, 1) := by decide +kernel
theorem dX0_mayBeEnd_23 : decode cX0_mayBeEnd 23 = .ok (.goto 4, 3) := by decide +kernel
theorem dX0_mayBeEnd_26 : decode cX0_mayBeEnd 26 = .ok (.iconst 0, 1) := by decide +kernel
theorem dX0_mayBeEnd_27 : decode cX0_mayBeEnd 27 = .ok (.ireturn, 1) := by decide +kernel
theorem dX0_takeItem_0 : decode cX0_takeItem 0 = .ok (.iload_n 1, 1) := by decide +kernel
theorem dX0_takeItem_1 : decode cX0_takeItem 1 = .ok (.lookupswitch 98 #[(100, 65), (109, 72), (114, 58), (118, 51), (119, 85)], 51) := by decide +kernel
theorem dX0_takeItem_52 : decode cX0_takeItem 52 = .ok (.aload_n 0, 1) := by decide +kernel
theorem dX0_takeItem_53 : decode cX0_takeItem 53 = .ok (.invokevirtual 111, 3) := by decide +kernel
theorem dX0_takeItem_56 : decode cX0_takeItem 56 = .ok (.goto 53, 3) := by decide +kernel
theorem dX0_takeItem_59 : decode cX0_takeItem 59 = .ok (.aload_n 0, 1) := by decide +kernel
theorem dX0_takeItem_60 : decode cX0_takeItem 60 = .ok (.invokevirtual 114, 3) := by decide +kernel
theorem dX0_takeItem_63 : decode cX0_takeItem 63 = .ok (.goto 46, 3) := by decide +kernel
theorem dX0_takeItem_66 : decode cX0_takeItem 66 = .ok (.aload_n 0, 1) := by decide +kernel
theorem dX0_takeItem_67 : decode cX0_takeItem 67 = .ok (.invokevirtual 117, 3) := by decide +kernel
theorem dX0_takeItem_70 : decode cX0_takeItem 70 = .ok (.goto 39, 3) := by decide +kernel
theorem dX0_takeItem_73 : decode cX0_takeItem 73 = .ok (.aload_n 0, 1) := by decide +kernel
theorem dX0_takeItem_74 : decode cX0_takeItem 74 = .ok (.aload_n 0, 1) := by decide +kernel
theorem dX0_takeItem_75 : decode cX0_takeItem 75 = .ok (.getfield 27, 3) := by decide +kernel
theorem dX0_takeItem_78 : decode cX0_takeItem 78 = .ok (.iconst 0, 1) := by decide +kernel
theorem dX0_takeItem_79 : decode cX0_takeItem 79 = .ok (.iaload, 1) := by decide +kernel
theorem dX0_takeItem_80 : decode cX0_takeItem 80 = .ok (.putfield 40, 3) := by decide +kernel
theorem dX0_takeItem_83 : decode cX0_takeItem 83 = .ok (.goto 26, 3) := by decide +kernel
theorem dX0_takeItem_86 : decode cX0_takeItem 86 = .ok (.aload_n 0, 1) := by decide +kernel
theorem dX0_takeItem_87 : decode cX0_takeItem 87 = .ok (.aload_n 0, 1) := by decide +kernel
theorem dX0_takeItem_88 : decode cX0_takeItem 88 = .ok (.getfield 27, 3) := by decide +kernel
theorem dX0_takeItem_91 : decode cX0_takeItem 91 = .ok (.iconst 0, 1) := by decide +kernel
theorem dX0_takeItem_92 : decode cX0_takeItem 92 = .ok (.iaload, 1) := by decide +kernel
theorem dX0_takeItem_93 : decode cX0_takeItem 93 = .ok (.putfield 43, 3) := by decide +kernel
theorem dX0_takeItem_96 : decode cX0_takeItem 96 = .ok (.goto 13, 3) := by decide +kernel
theorem dX0_takeItem_99 : decode cX0_takeItem 99 = .ok (.aload_n 0, 1) := by decide +kernel
theorem dX0_takeItem_100 : decode cX0_takeItem 100 = .ok (.aload_n 0, 1) := by decide +kernel
theorem dX0_takeItem_101 : decode cX0_takeItem 101 = .ok (.getfield 27, 3) := by decide +kernel
theorem dX0_takeItem_104 : decode cX0_takeItem 104 = .ok (.iconst 0, 1) := by decide +kernel
theorem dX0_takeItem_105 : decode cX0_takeItem 105 = .ok (.iaload, 1) := by decide +kernel
theorem dX0_takeItem_106 : decode cX0_takeItem 106 = .ok (.putfield 46, 3) := by decide +kernel
theorem dX0_takeItem_109 : decode cX0_takeItem 109 = .ok (.iload_n 1, 1) := by decide +kernel
theorem dX0_takeItem_110 : decode cX0_takeItem 110 = .ok (.invokestatic 89, 3) := by decide +kernel
theorem dX0_takeItem_113 : decode cX0_takeItem 113 = .ok (.ifCond .eq 16, 3) := by decide +kernel
theorem dX0_takeItem_116 : decode cX0_takeItem 116 = .ok (.aload_n 0, 1) := by decide +kernel
theorem dX0_takeItem_117 : decode cX0_takeItem 117 = .ok (.dup, 1) := by decide +kernel
theorem dX0_takeItem_118 : decode cX0_takeItem 118 = .ok (.getfield 49, 3) := by decide +kernel
theorem dX0_takeItem_121 : decode cX0_takeItem 121 = .ok (.iload_n 1, 1) := by decide +kernel
theorem dX0_takeItem_122 : decode cX0_takeItem 122 = .ok (.invokestatic 100, 3) := by decide +kernel
theorem dX0_takeItem_125 : decode cX0_takeItem 125 = .ok (.ior, 1) := by decide +kernel
theorem dX0_takeItem_126 : decode cX0_takeItem 126 = .ok (.putfield 49, 3) := by decide +kernel
theorem dX0_takeItem_129 : decode cX0_takeItem 129 = .ok (.return_, 1) := by decide +kernel
theorem dX0_takeVillage_0 : decode cX0_takeVillage 0 = .ok (.aload_n 0, 1) := by decide +kernel
theorem dX0_takeVillage_1 : decode cX0_takeVillage 1 = .ok (.getfield 33, 3) := by decide +kernel
theorem dX0_takeVillage_4 : decode cX0_takeVillage 4 = .ok (.istore_n 1, 1) := by decide +kernel
theorem dX0_takeVillage_5 : decode cX0_takeVillage 5 = .ok (.iconst 0, 1) := by decide +kernel
theorem dX0_takeVillage_6 : decode cX0_takeVillage 6 = .ok (.iload_n 1, 1) := by decide +kernel
theorem dX0_takeVillage_7 : decode cX0_takeVillage 7 = .ok (.if_icmp .gt 55, 3) := by decide +kernel
theorem dX0_takeVillage_10 : decode cX0_takeVillage 10 = .ok (.iload_n 1, 1) := by decide +kernel
theorem dX0_takeVillage_11 : decode cX0_takeVillage 11 = .ok (.bipush 6, 2) := by decide +kernel
theorem dX0_takeVillage_13 : decode cX0_takeVillage 13 = .ok (.if_icmp .ge 49, 3) := by decide +kernel
theorem dX0_takeVillage_16 : decode cX0_takeVillage 16 = .ok (.aload_n 0, 1) := by decide +kernel
theorem dX0_takeVillage_17 : decode cX0_takeVillage 17 = .ok (.getfield 9, 3) := by decide +kernel
theorem dX0_takeVillage_20 : decode cX0_takeVillage 20 = .ok (.iload_n 1, 1) := by decide +kernel
theorem dX0_takeVillage_21 : decode cX0_takeVillage 21 = .ok (.aload_n 0, 1) := by decide +kernel
theorem dX0_takeVillage_22 : decode cX0_takeVillage 22 = .ok (.getfield 27, 3) := by decide +kernel
theorem dX0_takeVillage_25 : decode cX0_takeVillage 25 = .ok (.iconst 0, 1) := by decide +kernel
theorem dX0_takeVillage_26 : decode cX0_takeVillage 26 = .ok (.iaload, 1) := by decide +kernel
theorem dX0_takeVillage_27 : decode cX0_takeVillage 27 = .ok (.iastore, 1) := by decide +kernel
theorem dX0_takeVillage_28 : decode cX0_takeVillage 28 = .ok (.aload_n 0, 1) := by decide +kernel
theorem dX0_takeVillage_29 : decode cX0_takeVillage 29 = .ok (.getfield 15, 3) := by decide +kernel
theorem dX0_takeVillage_32 : decode cX0_takeVillage 32 = .ok (.iload_n 1, 1) := by decide +kernel
theorem dX0_takeVillage_33 : decode cX0_takeVillage 33 = .ok (.aload_n 0, 1) := by decide +kernel
theorem dX0_takeVillage_34 : decode cX0_takeVillage 34 = .ok (.getfield 27, 3) := by decide +kernel
theorem dX0_takeVillage_37 : decode cX0_takeVillage 37 = .ok (.iconst 1, 1) := by decide +kernel
theorem dX0_takeVillage_38 : decode cX0_takeVillage 38 = .ok (.iaload, 1) := by decide +kernel
theorem dX0_takeVillage_39 : decode cX0_takeVillage 39 = .ok (.iastore, 1) := by decide +kernel
theorem dX0_takeVillage_40 : decode cX0_takeVillage 40 = .ok (.aload_n 0, 1) := by decide +kernel
theorem dX0_takeVillage_41 : decode cX0_takeVillage 41 = .ok (.getfield 18, 3) := by decide +kernel
theorem dX0_takeVillage_44 : decode cX0_takeVillage 44 = .ok (.iload_n 1, 1) := by decide +kernel
theorem dX0_takeVillage_45 : decode cX0_takeVillage 45 = .ok (.aload_n 0, 1) := by decide +kernel
theorem dX0_takeVillage_46 : decode cX0_takeVillage 46 = .ok (.getfield 27, 3) := by decide +kernel
theorem dX0_takeVillage_49 : decode cX0_takeVillage 49 = .ok (.iconst 2, 1) := by decide +kernel
theorem dX0_takeVillage_50 : decode cX0_takeVillage 50 = .ok (.iaload, 1) := by decide +kernel
theorem dX0_takeVillage_51 : decode cX0_takeVillage 51 = .ok (.iastore, 1) := by decide +kernel
theorem dX0_takeVillage_52 : decode cX0_takeVillage 52 = .ok (.aload_n 0, 1) := by decide +kernel
theorem dX0_takeVillage_53 : decode cX0_takeVillage 53 = .ok (.dup, 1) := by decide +kernel
theorem dX0_takeVillage_54 : decode cX0_takeVillage 54 = .ok (.getfield 33, 3) := by decide +kernel
theorem dX0_takeVillage_57 : decode cX0_takeVillage 57 = .ok (.iconst 1, 1) := by decide +kernel
theorem dX0_takeVillage_58 : decode cX0_takeVillage 58 = .ok (.iadd, 1) := by decide +kernel
theorem dX0_takeVillage_59 : decode cX0_takeVillage 59 = .ok (.putfield 33, 3) := by decide +kernel
theorem dX0_takeVillage_62 : decode cX0_takeVillage 62 = .ok (.return_, 1) := by decide +kernel
theorem dX0_takeRoad_0 : decode cX0_takeRoad 0 = .ok (.aload_n 0, 1) := by decide +kernel
theorem dX0_takeRoad_1 : decode cX0_takeRoad 1 = .ok (.getfield 27, 3) := by decide +kernel
theorem dX0_takeRoad_4 : decode cX0_takeRoad 4 = .ok (.iconst 0, 1) := by decide +kernel
theorem dX0_takeRoad_5 : decode cX0_takeRoad 5 = .ok (.iaload, 1) := by decide +kernel
theorem dX0_takeRoad_6 : decode cX0_takeRoad 6 = .ok (.istore_n 1, 1) := by decide +kernel
theorem dX0_takeRoad_7 : decode cX0_takeRoad 7 = .ok (.aload_n 0, 1) := by decide +kernel
theorem dX0_takeRoad_8 : decode cX0_takeRoad 8 = .ok (.getfield 27, 3) := by decide +kernel
theorem dX0_takeRoad_11 : decode cX0_takeRoad 11 = .ok (.iconst 1, 1) := by decide +kernel
theorem dX0_takeRoad_12 : decode cX0_takeRoad 12 = .ok (.iaload, 1) := by decide +kernel
theorem dX0_takeRoad_13 : decode cX0_takeRoad 13 = .ok (.istore_n 2, 1) := by decide +kernel
theorem dX0_takeRoad_14 : decode cX0_takeRoad 14 = .ok (.aload_n 0, 1) := by decide +kernel
theorem dX0_takeRoad_15 : decode cX0_takeRoad 15 = .ok (.iload_n 1, 1) := by decide +kernel
theorem dX0_takeRoad_16 : decode cX0_takeRoad 16 = .ok (.invokevirtual 58, 3) := by decide +kernel
theorem dX0_takeRoad_19 : decode cX0_takeRoad 19 = .ok (.ifCond .eq 45, 3) := by decide +kernel
theorem dX0_takeRoad_22 : decode cX0_takeRoad 22 = .ok (.aload_n 0, 1) := by decide +kernel
theorem dX0_takeRoad_23 : decode cX0_takeRoad 23 = .ok (.iload_n 2, 1) := by decide +kernel
theorem dX0_takeRoad_24 : decode cX0_takeRoad 24 = .ok (.invokevirtual 58, 3) := by decide +kernel
theorem dX0_takeRoad_27 : decode cX0_takeRoad 27 = .ok (.ifCond .eq 37, 3) := by decide +kernel
theorem dX0_takeRoad_30 : decode cX0_takeRoad 30 = .ok (.aload_n 0, 1) := by decide +kernel
theorem dX0_takeRoad_31 : decode cX0_takeRoad 31 = .ok (.iload_n 1, 1) := by decide +kernel
theorem dX0_takeRoad_32 : decode cX0_takeRoad 32 = .ok (.iload_n 2, 1) := by decide +kernel
theorem dX0_takeRoad_33 : decode cX0_takeRoad 33 = .ok (.aload_n 0, 1) := by decide +kernel
theorem dX0_takeRoad_34 : decode cX0_takeRoad 34 = .ok (.getfield 27, 3) := by decide +kernel
theorem dX0_takeRoad_37 : decode cX0_takeRoad 37 = .ok (.iconst 2, 1) := by decide +kernel
theorem dX0_takeRoad_38 : decode cX0_takeRoad 38 = .ok (.iaload, 1) := by decide +kernel
theorem dX0_takeRoad_39 : decode cX0_takeRoad 39 = .ok (.invokevirtual 120, 3) := by decide +kernel
theorem dX0_takeRoad_42 : decode cX0_takeRoad 42 = .ok (.aload_n 0, 1) := by decide +kernel
theorem dX0_takeRoad_43 : decode cX0_takeRoad 43 = .ok (.iload_n 2, 1) := by decide +kernel
theorem dX0_takeRoad_44 : decode cX0_takeRoad 44 = .ok (.iload_n 1, 1) := by decide +kernel
theorem dX0_takeRoad_45 : decode cX0_takeRoad 45 = .ok (.aload_n 0, 1) := by decide +kernel
theorem dX0_takeRoad_46 : decode cX0_takeRoad 46 = .ok (.getfield 27, 3) := by decide +kernel
theorem dX0_takeRoad_49 : decode cX0_takeRoad 49 = .ok (.iconst 2, 1) := by decide +kernel
theorem dX0_takeRoad_50 : decode cX0_takeRoad 50 = .ok (.iaload, 1) := by decide +kernel
theorem dX0_takeRoad_51 : decode cX0_takeRoad 51 = .ok (.invokevirtual 120, 3) := by decide +kernel
theorem dX0_takeRoad_54 : decode cX0_takeRoad 54 = .ok (.aload_n 0, 1) := by decide +kernel
theorem dX0_takeRoad_55 : decode cX0_takeRoad 55 = .ok (.dup, 1) := by decide +kernel
theorem dX0_takeRoad_56 : decode cX0_takeRoad 56 = .ok (.getfield 37, 3) := by decide +kernel
theorem dX0_takeRoad_59 : decode cX0_takeRoad 59 = .ok (.iconst 1, 1) := by decide +kernel
theorem dX0_takeRoad_60 : decode cX0_takeRoad 60 = .ok (.iadd, 1) := by decide +kernel
theorem dX0_takeRoad_61 : decode cX0_takeRoad 61 = .ok (.putfield 37, 3) := by decide +kernel
theorem dX0_takeRoad_64 : decode cX0_takeRoad 64 = .ok (.return_, 1) := by decide +kernel
theorem dX0_takeDebt_0 : decode cX0_takeDebt 0 = .ok (.aload_n 0, 1) := by decide +kernel
theorem dX0_takeDebt_1 : decode cX0_takeDebt 1 = .ok (.getfield 27, 3) := by decide +kernel
theorem dX0_takeDebt_4 : decode cX0_takeDebt 4 = .ok (.iconst 0, 1) := by decide +kernel
theorem dX0_takeDebt_5 : decode cX0_takeDebt 5 = .ok (.iaload, 1) := by decide +kernel
theorem dX0_takeDebt_6 : decode cX0_takeDebt 6 = .ok (.istore_n 1, 1) := by decide +kernel
theorem dX0_takeDebt_7 : decode cX0_takeDebt 7 = .ok (.aload_n 0, 1) := by decide +kernel
theorem dX0_takeDebt_8 : decode cX0_takeDebt 8 = .ok (.getfield 27, 3) := by decide +kernel
theorem dX0_takeDebt_11 : decode cX0_takeDebt 11 = .ok (.iconst 1, 1) := by decide +kernel
theorem dX0_takeDebt_12 : decode cX0_takeDebt 12 = .ok (.iaload, 1) := by decide +kernel
theorem dX0_takeDebt_13 : decode cX0_takeDebt 13 = .ok (.istore_n 2, 1) := by decide +kernel
theorem dX0_takeDebt_14 : decode cX0_takeDebt 14 = .ok (.aload_n 0, 1) := by decide +kernel
theorem dX0_takeDebt_15 : decode cX0_takeDebt 15 = .ok (.iload_n 1, 1) := by decide +kernel
theorem dX0_takeDebt_16 : decode cX0_takeDebt 16 = .ok (.invokevirtual 58, 3) := by decide +kernel
theorem dX0_takeDebt_19 : decode cX0_takeDebt 19 = .ok (.ifCond .eq 41, 3) := by decide +kernel
theorem dX0_takeDebt_22 : decode cX0_takeDebt 22 = .ok (.aload_n 0, 1) := by decide +kernel
theorem dX0_takeDebt_23 : decode cX0_takeDebt 23 = .ok (.iload_n 2, 1) := by decide +kernel
theorem dX0_takeDebt_24 : decode cX0_takeDebt 24 = .ok (.invokevirtual 58, 3) := by decide +kernel
theorem dX0_takeDebt_27 : decode cX0_takeDebt 27 = .ok (.ifCond .eq 33, 3) := by decide +kernel
theorem dX0_takeDebt_30 : decode cX0_takeDebt 30 = .ok (.aload_n 0, 1) := by decide +kernel
theorem dX0_takeDebt_31 : decode cX0_takeDebt 31 = .ok (.getfield 24, 3) := by decide +kernel
theorem dX0_takeDebt_34 : decode cX0_takeDebt 34 = .ok (.iload_n 1, 1) := by decide +kernel
theorem dX0_takeDebt_35 : decode cX0_takeDebt 35 = .ok (.bipush 6, 2) := by decide +kernel
theorem dX0_takeDebt_37 : decode cX0_takeDebt 37 = .ok (.imul, 1) := by decide +kernel
theorem dX0_takeDebt_38 : decode cX0_takeDebt 38 = .ok (.iload_n 2, 1) := by decide +kernel
theorem dX0_takeDebt_39 : decode cX0_takeDebt 39 = .ok (.iadd, 1) := by decide +kernel
theorem dX0_takeDebt_40 : decode cX0_takeDebt 40 = .ok (.sipush 999, 3) := by decide +kernel
theorem dX0_takeDebt_43 : decode cX0_takeDebt 43 = .ok (.aload_n 0, 1) := by decide +kernel
theorem dX0_takeDebt_44 : decode cX0_takeDebt 44 = .ok (.iload_n 1, 1) := by decide +kernel
theorem dX0_takeDebt_45 : decode cX0_takeDebt 45 = .ok (.iload_n 2, 1) := by decide +kernel
theorem dX0_takeDebt_46 : decode cX0_takeDebt 46 = .ok (.invokevirtual 124, 3) := by decide +kernel
theorem dX0_takeDebt_49 : decode cX0_takeDebt 49 = .ok (.aload_n 0, 1) := by decide +kernel
theorem dX0_takeDebt_50 : decode cX0_takeDebt 50 = .ok (.getfield 27, 3) := by decide +kernel
theorem dX0_takeDebt_53 : decode cX0_takeDebt 53 = .ok (.iconst 2, 1) := by decide +kernel
theorem dX0_takeDebt_54 : decode cX0_takeDebt 54 = .ok (.iaload, 1) := by decide +kernel
theorem dX0_takeDebt_55 : decode cX0_takeDebt 55 = .ok (.iadd, 1) := by decide +kernel
theorem dX0_takeDebt_56 : decode cX0_takeDebt 56 = .ok (.invokestatic 128, 3) := by decide +kernel
theorem dX0_takeDebt_59 : decode cX0_takeDebt 59 = .ok (.iastore, 1) := by decide +kernel
theorem dX0_takeDebt_60 : decode cX0_takeDebt 60 = .ok (.return_, 1) := by decide +kernel
theorem dX0_shortenWay_0 : decode cX0_shortenWay 0 = .ok (.aload_n 0, 1) := by decide +kernel
theorem dX0_shortenWay_1 : decode cX0_shortenWay 1 = .ok (.iload_n 1, 1) := by decide +kernel
theorem dX0_shortenWay_2 : decode cX0_shortenWay 2 = .ok (.invokevirtual 58, 3) := by decide +kernel
theorem dX0_shortenWay_5 : decode cX0_shortenWay 5 = .ok (.ifCond .eq 37, 3) := by decide +kernel
theorem dX0_shortenWay_8 : decode cX0_shortenWay 8 = .ok (.aload_n 0, 1) := by decide +kernel
theorem dX0_shortenWay_9 : decode cX0_shortenWay 9 = .ok (.iload_n 2, 1) := by decide +kernel
theorem dX0_shortenWay_10 : decode cX0_shortenWay 10 = .ok (.invokevirtual 58, 3) := by decide +kernel
theorem dX0_shortenWay_13 : decode cX0_shortenWay 13 = .ok (.ifCond .eq 29, 3) := by decide +kernel
theorem dX0_shortenWay_16 : decode cX0_shortenWay 16 = .ok (.iload_n 1, 1) := by decide +kernel
theorem dX0_shortenWay_17 : decode cX0_shortenWay 17 = .ok (.bipush 6, 2) := by decide +kernel
theorem dX0_shortenWay_19 : decode cX0_shortenWay 19 = .ok (.imul, 1) := by decide +kernel
theorem dX0_shortenWay_20 : decode cX0_shortenWay 20 = .ok (.iload_n 2, 1) := by decide +kernel
theorem dX0_shortenWay_21 : decode cX0_shortenWay 21 = .ok (.iadd, 1) := by decide +kernel
theorem dX0_shortenWay_22 : decode cX0_shortenWay 22 = .ok (.istore 4, 2) := by decide +kernel
theorem dX0_shortenWay_24 : decode cX0_shortenWay 24 = .ok (.aload_n 0, 1) := by decide +kernel
theorem dX0_shortenWay_25 : decode cX0_shortenWay 25 = .ok (.getfield 21, 3) := by decide +kernel
theorem dX0_shortenWay_28 : decode cX0_shortenWay 28 = .ok (.iload 4, 2) := by decide +kernel
theorem dX0_shortenWay_30 : decode cX0_shortenWay 30 = .ok (.aload_n 0, 1) := by decide +kernel
theorem dX0_shortenWay_31 : decode cX0_shortenWay 31 = .ok (.getfield 21, 3) := by decide +kernel
theorem dX0_shortenWay_34 : decode cX0_shortenWay 34 = .ok (.iload 4, 2) := by decide +kernel
theorem dX0_shortenWay_36 : decode cX0_shortenWay 36 = .ok (.iaload, 1) := by decide +kernel
theorem dX0_shortenWay_37 : decode cX0_shortenWay 37 = .ok (.iload_n 3, 1) := by decide +kernel
theorem dX0_shortenWay_38 : decode cX0_shortenWay 38 = .ok (.invokestatic 128, 3) := by decide +kernel
theorem dX0_shortenWay_41 : decode cX0_shortenWay 41 = .ok (.iastore, 1) := by decide +kernel
theorem dX0_shortenWay_42 : decode cX0_shortenWay 42 = .ok (.return_, 1) := by decide +kernel
theorem dX0_findShortestWays_0 : decode cX0_findShortestWays 0 = .ok (.iconst 0, 1) := by decide +kernel
theorem dX0_findShortestWays_1 : decode cX0_findShortestWays 1 = .ok (.istore_n 1, 1) := by decide +kernel
theorem dX0_findShortestWays_2 : decode cX0_findShortestWays 2 = .ok (.iload_n 1, 1) := by decide +kernel
theorem dX0_findShortestWays_3 : decode cX0_findShortestWays 3 = .ok (.aload_n 0, 1) := by decide +kernel
theorem dX0_findShortestWays_4 : decode cX0_findShortestWays 4 = .ok (.getfield 33, 3) := by decide +kernel
theorem dX0_findShortestWays_7 : decode cX0_findShortestWays 7 = .ok (.if_icmp .ge 82, 3) := by decide +kernel
theorem dX0_findShortestWays_10 : decode cX0_findShortestWays 10 = .ok (.iconst 0, 1) := by decide +kernel
theorem dX0_findShortestWays_11 : decode cX0_findShortestWays 11 = .ok (.istore_n 2, 1) := by decide +kernel
theorem dX0_findShortestWays_12 : decode cX0_findShortestWays 12 = .ok (.iload_n 2, 1) := by decide +kernel
theorem dX0_findShortestWays_13 : decode cX0_findShortestWays 13 = .ok (.aload_n 0, 1) := by decide +kernel
theorem dX0_findShortestWays_14 : decode cX0_findShortestWays 14 = .ok (.getfield 33, 3) := by decide +kernel
theorem dX0_findShortestWays_17 : decode cX0_findShortestWays 17 = .ok (.if_icmp .ge 66, 3) := by decide +kernel
theorem dX0_findShortestWays_20 : decode cX0_findShortestWays 20 = .ok (.iconst 0, 1) := by decide +kernel
theorem dX0_findShortestWays_21 : decode cX0_findShortestWays 21 = .ok (.istore_n 3, 1) := by decide +kernel
theorem dX0_findShortestWays_22 : decode cX0_findShortestWays 22 = .ok (.iload_n 3, 1) := by decide +kernel
theorem dX0_findShortestWays_23 : decode cX0_findShortestWays 23 = .ok (.aload_n 0, 1) := by decide +kernel
theorem dX0_findShortestWays_24 : decode cX0_findShortestWays 24 = .ok (.getfield 33, 3) := by decide +kernel
theorem dX0_findShortestWays_27 : decode cX0_findShortestWays 27 = .ok (.if_icmp .ge 50, 3) := by decide +kernel
theorem dX0_findShortestWays_30 : decode cX0_findShortestWays 30 = .ok (.aload_n 0, 1) := by decide +kernel
theorem dX0_findShortestWays_31 : decode cX0_findShortestWays 31 = .ok (.iload_n 2, 1) := by decide +kernel
theorem dX0_findShortestWays_32 : decode cX0_findShortestWays 32 = .ok (.iload_n 1, 1) := by decide +kernel
theorem dX0_findShortestWays_33 : decode cX0_findShortestWays 33 = .ok (.invokevirtual 133, 3) := by decide +kernel
theorem dX0_findShortestWays_36 : decode cX0_findShortestWays 36 = .ok (.istore 4, 2) := by decide +kernel
theorem dX0_findShortestWays_38 : decode cX0_findShortestWays 38 = .ok (.aload_n 0, 1) := by decide +kernel
theorem dX0_findShortestWays_39 : decode cX0_findShortestWays 39 = .ok (.iload_n 1, 1) := by decide +kernel
theorem dX0_findShortestWays_40 : decode cX0_findShortestWays 40 = .ok (.iload_n 3, 1) := by decide +kernel
theorem dX0_findShortestWays_41 : decode cX0_findShortestWays 41 = .ok (.invokevirtual 133, 3) := by decide +kernel
theorem dX0_findShortestWays_44 : decode cX0_findShortestWays 44 = .ok (.istore 5, 2) := by decide +kernel
theorem dX0_findShortestWays_46 : decode cX0_findShortestWays 46 = .ok (.iload 4, 2) := by decide +kernel
theorem dX0_findShortestWays_48 : decode cX0_findShortestWays 48 = .ok (.bipush (-9), 2) := by decide +kernel
theorem dX0_findShortestWays_50 : decode cX0_findShortestWays 50 = .ok (.if_icmp .eq 21, 3) := by decide +kernel
theorem dX0_findShortestWays_53 : decode cX0_findShortestWays 53 = .ok (.iload 5, 2) := by decide +kernel
theorem dX0_findShortestWays_55 : decode cX0_findShortestWays 55 = .ok (.bipush (-9), 2) := by decide +kernel
theorem dX0_findShortestWays_57 : decode cX0_findShortestWays 57 = .ok (.if_icmp .eq 14, 3) := by decide +kernel
theorem dX0_findShortestWays_60 : decode cX0_findShortestWays 60 = .ok (.aload_n 0, 1) := by decide +kernel
theorem dX0_findShortestWays_61 : decode cX0_findShortestWays 61 = .ok (.iload_n 2, 1) := by decide +kernel
theorem dX0_findShortestWays_62 : decode cX0_findShortestWays 62 = .ok (.iload_n 3, 1) := by decide +kernel
theorem dX0_findShortestWays_63 : decode cX0_findShortestWays 63 = .ok (.iload 4, 2) := by decide +kernel
theorem dX0_findShortestWays_65 : decode cX0_findShortestWays 65 = .ok (.iload 5, 2) := by decide +kernel
theorem dX0_findShortestWays_67 : decode cX0_findShortestWays 67 = .ok (.iadd, 1) := by decide +kernel
theorem dX0_findShortestWays_68 : decode cX0_findShortestWays 68 = .ok (.invokevirtual 120, 3) := by decide +kernel
theorem dX0_findShortestWays_71 : decode cX0_findShortestWays 71 = .ok (.iinc 3 1, 3) := by decide +kernel
theorem dX0_findShortestWays_74 : decode cX0_findShortestWays 74 = .ok (.goto (-52), 3) := by decide +kernel
theorem dX0_findShortestWays_77 : decode cX0_findShortestWays 77 = .ok (.iinc 2 1, 3) := by decide +kernel
theorem dX0_findShortestWays_80 : decode cX0_findShortestWays 80 = .ok (.goto (-68), 3) := by decide +kernel
theorem dX0_findShortestWays_83 : decode cX0_findShortestWays 83 = .ok (.iinc 1 1, 3) := by decide +kernel
theorem dX0_findShortestWays_86 : decode cX0_findShortestWays 86 = .ok (.goto (-84), 3) := by decide +kernel
theorem dX0_findShortestWays_89 : decode cX0_findShortestWays 89 = .ok (.return_, 1) := by decide +kernel
theorem dX1_init_0 : decode cX1_init 0 = .ok (.aload_n 0, 1) := by decide +kernel
theorem dX1_init_1 : decode cX1_init 1 = .ok (.invokespecial 3, 3) := by decide +kernel
theorem dX1_init_4 : decode cX1_init 4 = .ok (.aload_n 0, 1) := by decide +kernel
theorem dX1_init_5 : decode cX1_init 5 = .ok (.bipush 6, 2) := by decide +kernel
theorem dX1_init_7 : decode cX1_init 7 = .ok (.newarray .int, 2) := by decide +kernel
theorem dX1_init_9 : decode cX1_init 9 = .ok (.putfield 9, 3) := by decide +kernel
theorem dX1_init_12 : decode cX1_init 12 = .ok (.return_, 1) := by decide +kernel
theorem dX1_find_0 : decode cX1_find 0 = .ok (.aload_n 0, 1) := by decide +kernel
theorem dX1_find_1 : decode cX1_find 1 = .ok (.iconst 2, 1) := by decide +kernel
theorem dX1_find_2 : decode cX1_find 2 = .ok (.putfield 15, 3) := by decide +kernel
theorem dX1_find_5 : decode cX1_find 5 = .ok (.aload_n 0, 1) := by decide +kernel
theorem dX1_find_6 : decode cX1_find 6 = .ok (.getfield 15, 3) := by decide +kernel
theorem dX1_find_9 : decode cX1_find 9 = .ok (.aload_n 1, 1) := by decide +kernel
theorem dX1_find_10 : decode cX1_find 10 = .ok (.getfield 19, 3) := by decide +kernel
theorem dX1_find_13 : decode cX1_find 13 = .ok (.if_icmp .gt 53, 3) := by decide +kernel
theorem dX1_find_16 : decode cX1_find 16 = .ok (.iconst 0, 1) := by decide +kernel
theorem dX1_find_17 : decode cX1_find 17 = .ok (.istore_n 2, 1) := by decide +kernel
theorem dX1_find_18 : decode cX1_find 18 = .ok (.iload_n 2, 1) := by decide +kernel
theorem dX1_find_19 : decode cX1_find 19 = .ok (.aload_n 1, 1) := by decide +kernel
theorem dX1_find_20 : decode cX1_find 20 = .ok (.getfield 19, 3) := by decide +kernel
theorem dX1_find_23 : decode cX1_find 23 = .ok (.if_icmp .ge 30, 3) := by decide +kernel
theorem dX1_find_26 : decode cX1_find 26 = .ok (.aload_n 0, 1) := by decide +kernel
theorem dX1_find_27 : decode cX1_find 27 = .ok (.getfield 9, 3) := by decide +kernel
theorem dX1_find_30 : decode cX1_find 30 = .ok (.iconst 0, 1) := by decide +kernel
theorem dX1_find_31 : decode cX1_find 31 = .ok (.iload_n 2, 1) := by decide +kernel
theorem dX1_find_32 : decode cX1_find 32 = .ok (.iastore, 1) := by decide +kernel
theorem dX1_find_33 : decode cX1_find 33 = .ok (.aload_n 0, 1) := by decide +kernel
theorem dX1_find_34 : decode cX1_find 34 = .ok (.aload_n 1, 1) := by decide +kernel
theorem dX1_find_35 : decode cX1_find 35 = .ok (.iconst 1, 1) := by decide +kernel
theorem dX1_find_36 : decode cX1_find 36 = .ok (.iconst 1, 1) := by decide +kernel
theorem dX1_find_37 : decode cX1_find 37 = .ok (.iload_n 2, 1) := by decide +kernel
theorem dX1_find_38 : decode cX1_find 38 = .ok (.ishl, 1) := by decide +kernel
theorem dX1_find_39 : decode cX1_find 39 = .ok (.invokevirtual 24, 3) := by decide +kernel
theorem dX1_find_42 : decode cX1_find 42 = .ok (.ifCond .eq 5, 3) := by decide +kernel
theorem dX1_find_45 : decode cX1_find 45 = .ok (.iconst 1, 1) := by decide +kernel
theorem dX1_find_46 : decode cX1_find 46 = .ok (.ireturn, 1) := by decide +kernel
theorem dX1_find_47 : decode cX1_find 47 = .ok (.iinc 2 1, 3) := by decide +kernel
theorem dX1_find_50 : decode cX1_find 50 = .ok (.goto (-32), 3) := by decide +kernel
theorem dX1_find_53 : decode cX1_find 53 = .ok (.aload_n 0, 1) := by decide +kernel
theorem dX1_find_54 : decode cX1_find 54 = .ok (.dup, 1) := by decide +kernel
theorem dX1_find_55 : decode cX1_find 55 = .ok (.getfield 15, 3) := by decide +kernel
theorem dX1_find_58 : decode cX1_find 58 = .ok (.iconst 1, 1) := by decide +kernel
theorem dX1_find_59 : decode cX1_find 59 = .ok (.iadd, 1) := by decide +kernel
theorem dX1_find_60 : decode cX1_find 60 = .ok (.putfield 15, 3) := by decide +kernel
theorem dX1_find_63 : decode cX1_find 63 = .ok (.goto (-58), 3) := by decide +kernel
theorem dX1_find_66 : decode cX1_find 66 = .ok (.iconst 0, 1) := by decide +kernel
theorem dX1_find_67 : decode cX1_find 67 = .ok (.ireturn, 1) := by decide +kernel
theorem dX1_at_0 : decode cX1_at 0 = .ok (.iconst 0, 1) := by decide +kernel
theorem dX1_at_1 : decode cX1_at 1 = .ok (.iload_n 1, 1) := by decide +kernel
theorem dX1_at_2 : decode cX1_at 2 = .ok (.if_icmp .gt 29, 3) := by decide +kernel
theorem dX1_at_5 : decode cX1_at 5 = .ok (.iload_n 1, 1) := by decide +kernel
theorem dX1_at_6 : decode cX1_at 6 = .ok (.aload_n 0, 1) := by decide +kernel
theorem dX1_at_7 : decode cX1_at 7 = .ok (.getfield 15, 3) := by decide +kernel
theorem dX1_at_10 : decode cX1_at 10 = .ok (.if_icmp .ge 21, 3) := by decide +kernel
theorem dX1_at_13 : decode cX1_at 13 = .ok (.iload_n 1, 1) := by decide +kernel
theorem dX1_at_14 : decode cX1_at 14 = .ok (.aload_n 0, 1) := by decide +kernel
theorem dX1_at_15 : decode cX1_at 15 = .ok (.getfield 9, 3) := by decide +kernel
theorem dX1_at_18 : decode cX1_at 18 = .ok (.arraylength, 1) := by decide +kernel
theorem dX1_at_19 : decode cX1_at 19 = .ok (.if_icmp .ge 12, 3) := by decide +kernel
theorem dX1_at_22 : decode cX1_at 22 = .ok (.aload_n 0, 1) := by decide +kernel
theorem dX1_at_23 : decode cX1_at 23 = .ok (.getfield 9, 3) := by decide +kernel
theorem dX1_at_26 : decode cX1_at 26 = .ok (.iload_n 1, 1) := by decide +kernel
theorem dX1_at_27 : decode cX1_at 27 = .ok (.iaload, 1) := by decide +kernel
theorem dX1_at_28 : decode cX1_at 28 = .ok (.goto 5, 3) := by decide +kernel
theorem dX1_at_31 : decode cX1_at 31 = .ok (.bipush (-9), 2) := by decide +kernel
theorem dX1_at_33 : decode cX1_at 33 = .ok (.ireturn, 1) := by decide +kernel
theorem dX1_leastDebt_0 : decode cX1_leastDebt 0 = .ok (.sipush 999, 3) := by decide +kernel
theorem dX1_leastDebt_3 : decode cX1_leastDebt 3 = .ok (.istore_n 2, 1) := by decide +kernel
theorem dX1_leastDebt_4 : decode cX1_leastDebt 4 = .ok (.iconst 0, 1) := by decide +kernel
theorem dX1_leastDebt_5 : decode cX1_leastDebt 5 = .ok (.istore_n 3, 1) := by decide +kernel
theorem dX1_leastDebt_6 : decode cX1_leastDebt 6 = .ok (.iload_n 3, 1) := by decide +kernel
theorem dX1_leastDebt_7 : decode cX1_leastDebt 7 = .ok (.aload_n 0, 1) := by decide +kernel
theorem dX1_leastDebt_8 : decode cX1_leastDebt 8 = .ok (.getfield 15, 3) := by decide +kernel
theorem dX1_leastDebt_11 : decode cX1_leastDebt 11 = .ok (.if_icmp .ge 48, 3) := by decide +kernel
theorem dX1_leastDebt_14 : decode cX1_leastDebt 14 = .ok (.iload_n 3, 1) := by decide +kernel
theorem dX1_leastDebt_15 : decode cX1_leastDebt 15 = .ok (.iconst 1, 1) := by decide +kernel
theorem dX1_leastDebt_16 : decode cX1_leastDebt 16 = .ok (.iadd, 1) := by decide +kernel
theorem dX1_leastDebt_17 : decode cX1_leastDebt 17 = .ok (.aload_n 0, 1) := by decide +kernel
theorem dX1_leastDebt_18 : decode cX1_leastDebt 18 = .ok (.getfield 15, 3) := by decide +kernel
theorem dX1_leastDebt_21 : decode cX1_leastDebt 21 = .ok (.if_icmp .ge 9, 3) := by decide +kernel
theorem dX1_leastDebt_24 : decode cX1_leastDebt 24 = .ok (.iload_n 3, 1) := by decide +kernel
theorem dX1_leastDebt_25 : decode cX1_leastDebt 25 = .ok (.iconst 1, 1) := by decide +kernel
theorem dX1_leastDebt_26 : decode cX1_leastDebt 26 = .ok (.iadd, 1) := by decide +kernel
theorem dX1_leastDebt_27 : decode cX1_leastDebt 27 = .ok (.goto 4, 3) := by decide +kernel
theorem dX1_leastDebt_30 : decode cX1_leastDebt 30 = .ok (.iconst 0, 1) := by decide +kernel
theorem dX1_leastDebt_31 : decode cX1_leastDebt 31 = .ok (.istore 4, 2) := by decide +kernel
theorem dX1_leastDebt_33 : decode cX1_leastDebt 33 = .ok (.iload_n 2, 1) := by decide +kernel
theorem dX1_leastDebt_34 : decode cX1_leastDebt 34 = .ok (.aload_n 1, 1) := by decide +kernel
theorem dX1_leastDebt_35 : decode cX1_leastDebt 35 = .ok (.aload_n 0, 1) := by decide +kernel
theorem dX1_leastDebt_36 : decode cX1_leastDebt 36 = .ok (.iload_n 3, 1) := by decide +kernel
theorem dX1_leastDebt_37 : decode cX1_leastDebt 37 = .ok (.invokevirtual 28, 3) := by decide +kernel
theorem dX1_leastDebt_40 : decode cX1_leastDebt 40 = .ok (.aload_n 0, 1) := by decide +kernel
theorem dX1_leastDebt_41 : decode cX1_leastDebt 41 = .ok (.iload 4, 2) := by decide +kernel
theorem dX1_leastDebt_43 : decode cX1_leastDebt 43 = .ok (.invokevirtual 28, 3) := by decide +kernel
theorem dX1_leastDebt_46 : decode cX1_leastDebt 46 = .ok (.invokevirtual 32, 3) := by decide +kernel
theorem dX1_leastDebt_49 : decode cX1_leastDebt 49 = .ok (.invokestatic 36, 3) := by decide +kernel
theorem dX1_leastDebt_52 : decode cX1_leastDebt 52 = .ok (.istore_n 2, 1) := by decide +kernel
theorem dX1_leastDebt_53 : decode cX1_leastDebt 53 = .ok (.iinc 3 1, 3) := by decide +kernel
theorem dX1_leastDebt_56 : decode cX1_leastDebt 56 = .ok (.goto (-50), 3) := by decide +kernel
theorem dX1_leastDebt_59 : decode cX1_leastDebt 59 = .ok (.iload_n 2, 1) := by decide +kernel
theorem dX1_leastDebt_60 : decode cX1_leastDebt 60 = .ok (.ireturn, 1) := by decide +kernel
theorem dX1_goOn_0 : decode cX1_goOn 0 = .ok (.iload_n 2, 1) := by decide +kernel
theorem dX1_goOn_1 : decode cX1_goOn 1 = .ok (.iconst 1, 1) := by decide +kernel
theorem dX1_goOn_2 : decode cX1_goOn 2 = .ok (.if_icmp .lt 20, 3) := by decide +kernel
theorem dX1_goOn_5 : decode cX1_goOn 5 = .ok (.iload_n 2, 1) := by decide +kernel
theorem dX1_goOn_6 : decode cX1_goOn 6 = .ok (.aload_n 0, 1) := by decide +kernel
theorem dX1_goOn_7 : decode cX1_goOn 7 = .ok (.getfield 15, 3) := by decide +kernel
theorem dX1_goOn_10 : decode cX1_goOn 10 = .ok (.if_icmp .gt 12, 3) := by decide +kernel
theorem dX1_goOn_13 : decode cX1_goOn 13 = .ok (.iload_n 2, 1) := by decide +kernel
theorem dX1_goOn_14 : decode cX1_goOn 14 = .ok (.aload_n 0, 1) := by decide +kernel
theorem dX1_goOn_15 : decode cX1_goOn 15 = .ok (.getfield 9, 3) := by decide +kernel
theorem dX1_goOn_18 : decode cX1_goOn 18 = .ok (.arraylength, 1) := by decide +kernel
theorem dX1_goOn_19 : decode cX1_goOn 19 = .ok (.if_icmp .le 5, 3) := by decide +kernel
theorem dX1_goOn_22 : decode cX1_goOn 22 = .ok (.iconst 0, 1) := by decide +kernel
theorem dX1_goOn_23 : decode cX1_goOn 23 = .ok (.ireturn, 1) := by decide +kernel
theorem dX1_goOn_24 : decode cX1_goOn 24 = .ok (.aload_n 0, 1) := by decide +kernel
theorem dX1_goOn_25 : decode cX1_goOn 25 = .ok (.getfield 9, 3) := by decide +kernel
theorem dX1_goOn_28 : decode cX1_goOn 28 = .ok (.iload_n 2, 1) := by decide +kernel
theorem dX1_goOn_29 : decode cX1_goOn 29 = .ok (.iconst 1, 1) := by decide +kernel
theorem dX1_goOn_30 : decode cX1_goOn 30 = .ok (.isub, 1) := by decide +kernel
theorem dX1_goOn_31 : decode cX1_goOn 31 = .ok (.iaload, 1) := by decide +kernel
theorem dX1_goOn_32 : decode cX1_goOn 32 = .ok (.istore 4, 2) := by decide +kernel
theorem dX1_goOn_34 : decode cX1_goOn 34 = .ok (.iload_n 2, 1) := by decide +kernel
theorem dX1_goOn_35 : decode cX1_goOn 35 = .ok (.aload_n 0, 1) := by decide +kernel
theorem dX1_goOn_36 : decode cX1_goOn 36 = .ok (.getfield 15, 3) := by decide +kernel
theorem dX1_goOn_39 : decode cX1_goOn 39 = .ok (.if_icmp .eq 12, 3) := by decide +kernel
theorem dX1_goOn_42 : decode cX1_goOn 42 = .ok (.iload_n 2, 1) := by decide +kernel
theorem dX1_goOn_43 : decode cX1_goOn 43 = .ok (.aload_n 0, 1) := by decide +kernel
theorem dX1_goOn_44 : decode cX1_goOn 44 = .ok (.getfield 9, 3) := by decide +kernel
theorem dX1_goOn_47 : decode cX1_goOn 47 = .ok (.arraylength, 1) := by decide +kernel
theorem dX1_goOn_48 : decode cX1_goOn 48 = .ok (.if_icmp .ne 24, 3) := by decide +kernel
theorem dX1_goOn_51 : decode cX1_goOn 51 = .ok (.aload_n 1, 1) := by decide +kernel
theorem dX1_goOn_52 : decode cX1_goOn 52 = .ok (.iload 4, 2) := by decide +kernel
theorem dX1_goOn_54 : decode cX1_goOn 54 = .ok (.aload_n 0, 1) := by decide +kernel
theorem dX1_goOn_55 : decode cX1_goOn 55 = .ok (.getfield 9, 3) := by decide +kernel
theorem dX1_goOn_58 : decode cX1_goOn 58 = .ok (.iconst 0, 1) := by decide +kernel
theorem dX1_goOn_59 : decode cX1_goOn 59 = .ok (.iaload, 1) := by decide +kernel
theorem dX1_goOn_60 : decode cX1_goOn 60 = .ok (.invokevirtual 32, 3) := by decide +kernel
theorem dX1_goOn_63 : decode cX1_goOn 63 = .ok (.ifCond .le 7, 3) := by decide +kernel
theorem dX1_goOn_66 : decode cX1_goOn 66 = .ok (.iconst 1, 1) := by decide +kernel
theorem dX1_goOn_67 : decode cX1_goOn 67 = .ok (.goto 4, 3) := by decide +kernel
theorem dX1_goOn_70 : decode cX1_goOn 70 = .ok (.iconst 0, 1) := by decide +kernel
theorem dX1_goOn_71 : decode cX1_goOn 71 = .ok (.ireturn, 1) := by decide +kernel
theorem dX1_goOn_72 : decode cX1_goOn 72 = .ok (.aload_n 0, 1) := by decide +kernel
theorem dX1_goOn_73 : decode cX1_goOn 73 = .ok (.getfield 9, 3) := by decide +kernel
theorem dX1_goOn_76 : decode cX1_goOn 76 = .ok (.iconst 0, 1) := by decide +kernel
theorem dX1_goOn_77 : decode cX1_goOn 77 = .ok (.iaload, 1) := by decide +kernel
theorem dX1_goOn_78 : decode cX1_goOn 78 = .ok (.iconst 1, 1) := by decide +kernel
theorem dX1_goOn_79 : decode cX1_goOn 79 = .ok (.iadd, 1) := by decide +kernel
theorem dX1_goOn_80 : decode cX1_goOn 80 = .ok (.istore 5, 2) := by decide +kernel
theorem dX1_goOn_82 : decode cX1_goOn 82 = .ok (.iload 5, 2) := by decide +kernel
theorem dX1_goOn_84 : decode cX1_goOn 84 = .ok (.aload_n 1, 1) := by decide +kernel
theorem dX1_goOn_85 : decode cX1_goOn 85 = .ok (.getfield 19, 3) := by decide +kernel
theorem dX1_goOn_88 : decode cX1_goOn 88 = .ok (.if_icmp .ge 56, 3) := by decide +kernel
theorem dX1_goOn_91 : decode cX1_goOn 91 = .ok (.iload_n 3, 1) := by decide +kernel
theorem dX1_goOn_92 : decode cX1_goOn 92 = .ok (.iload 5, 2) := by decide +kernel
theorem dX1_goOn_94 : decode cX1_goOn 94 = .ok (.ishr, 1) := by decide +kernel
theorem dX1_goOn_95 : decode cX1_goOn 95 = .ok (.iconst 1, 1) := by decide +kernel
theorem dX1_goOn_96 : decode cX1_goOn 96 = .ok (.iand, 1) := by decide +kernel
theorem dX1_goOn_97 : decode cX1_goOn 97 = .ok (.ifCond .ne 41, 3) := by decide +kernel
theorem dX1_goOn_100 : decode cX1_goOn 100 = .ok (.aload_n 1, 1) := by decide +kernel
theorem dX1_goOn_101 : decode cX1_goOn 101 = .ok (.iload 4, 2) := by decide +kernel
theorem dX1_goOn_103 : decode cX1_goOn 103 = .ok (.iload 5, 2) := by decide +kernel
theorem dX1_goOn_105 : decode cX1_goOn 105 = .ok (.invokevirtual 32, 3) := by decide +kernel
theorem dX1_goOn_108 : decode cX1_goOn 108 = .ok (.ifCond .le 30, 3) := by decide +kernel
theorem dX1_goOn_111 : decode cX1_goOn 111 = .ok (.aload_n 0, 1) := by decide +kernel
theorem dX1_goOn_112 : decode cX1_goOn 112 = .ok (.getfield 9, 3) := by decide +kernel
theorem dX1_goOn_115 : decode cX1_goOn 115 = .ok (.iload_n 2, 1) := by decide +kernel
theorem dX1_goOn_116 : decode cX1_goOn 116 = .ok (.iload 5, 2) := by decide +kernel
theorem dX1_goOn_118 : decode cX1_goOn 118 = .ok (.iastore, 1) := by decide +kernel
theorem dX1_goOn_119 : decode cX1_goOn 119 = .ok (.aload_n 0, 1) := by decide +kernel
theorem dX1_goOn_120 : decode cX1_goOn 120 = .ok (.aload_n 1, 1) := by decide +kernel
theorem dX1_goOn_121 : decode cX1_goOn 121 = .ok (.iload_n 2, 1) := by decide +kernel
theorem dX1_goOn_122 : decode cX1_goOn 122 = .ok (.iconst 1, 1) := by decide +kernel
theorem dX1_goOn_123 : decode cX1_goOn 123 = .ok (.iadd, 1) := by decide +kernel
theorem dX1_goOn_124 : decode cX1_goOn 124 = .ok (.iload_n 3, 1) := by decide +kernel
theorem dX1_goOn_125 : decode cX1_goOn 125 = .ok (.iconst 1, 1) := by decide +kernel
theorem dX1_goOn_126 : decode cX1_goOn 126 = .ok (.iload 5, 2) := by decide +kernel
theorem dX1_goOn_128 : decode cX1_goOn 128 = .ok (.ishl, 1) := by decide +kernel
theorem dX1_goOn_129 : decode cX1_goOn 129 = .ok (.ior, 1) := by decide +kernel
theorem dX1_goOn_130 : decode cX1_goOn 130 = .ok (.invokevirtual 24, 3) := by decide +kernel
theorem dX1_goOn_133 : decode cX1_goOn 133 = .ok (.ifCond .eq 5, 3) := by decide +kernel
theorem dX1_goOn_136 : decode cX1_goOn 136 = .ok (.iconst 1, 1) := by decide +kernel
theorem dX1_goOn_137 : decode cX1_goOn 137 = .ok (.ireturn, 1) := by decide +kernel
theorem dX1_goOn_138 : decode cX1_goOn 138 = .ok (.iinc 5 1, 3) := by decide +kernel
theorem dX1_goOn_141 : decode cX1_goOn 141 = .ok (.goto (-59), 3) := by decide +kernel
theorem dX1_goOn_144 : decode cX1_goOn 144 = .ok (.iconst 0, 1) := by decide +kernel
theorem dX1_goOn_145 : decode cX1_goOn 145 = .ok (.ireturn, 1) := by decide +kernel
theorem dX2_init_0 : decode cX2_init 0 = .ok (.aload_n 0, 1) := by decide +kernel
theorem dX2_init_1 : decode cX2_init 1 = .ok (.invokespecial 3, 3) := by decide +kernel
theorem dX2_init_4 : decode cX2_init 4 = .ok (.aload_n 0, 1) := by decide +kernel
theorem dX2_init_5 : decode cX2_init 5 = .ok (.sipush 308, 3) := by decide +kernel
theorem dX2_init_8 : decode cX2_init 8 = .ok (.newarray .int, 2) := by decide +kernel
theorem dX2_init_10 : decode cX2_init 10 = .ok (.putfield 9, 3) := by decide +kernel
theorem dX2_init_13 : decode cX2_init 13 = .ok (.return_, 1) := by decide +kernel
theorem dX2_begin_0 : decode cX2_begin 0 = .ok (.aload_n 0, 1) := by decide +kernel
theorem dX2_begin_1 : decode cX2_begin 1 = .ok (.getfield 9, 3) := by decide +kernel
theorem dX2_begin_4 : decode cX2_begin 4 = .ok (.iconst 0, 1) := by decide +kernel
theorem dX2_begin_5 : decode cX2_begin 5 = .ok (.invokestatic 15, 3) := by decide +kernel
theorem dX2_begin_8 : decode cX2_begin 8 = .ok (.aload_n 0, 1) := by decide +kernel
theorem dX2_begin_9 : decode cX2_begin 9 = .ok (.iconst 0, 1) := by decide +kernel
theorem dX2_begin_10 : decode cX2_begin 10 = .ok (.putfield 21, 3) := by decide +kernel
theorem dX2_begin_13 : decode cX2_begin 13 = .ok (.aload_n 0, 1) := by decide +kernel
theorem dX2_begin_14 : decode cX2_begin 14 = .ok (.iconst 0, 1) := by decide +kernel
theorem dX2_begin_15 : decode cX2_begin 15 = .ok (.aload_n 1, 1) := by decide +kernel
theorem dX2_begin_16 : decode cX2_begin 16 = .ok (.getfield 25, 3) := by decide +kernel
theorem dX2_begin_19 : decode cX2_begin 19 = .ok (.ifCond .le 7, 3) := by decide +kernel
theorem dX2_begin_22 : decode cX2_begin 22 = .ok (.iconst 0, 1) := by decide +kernel
theorem dX2_begin_23 : decode cX2_begin 23 = .ok (.goto 5, 3) := by decide +kernel
theorem dX2_begin_26 : decode cX2_begin 26 = .ok (.bipush (-9), 2) := by decide +kernel
theorem dX2_begin_28 : decode cX2_begin 28 = .ok (.invokevirtual 30, 3) := by decide +kernel
theorem dX2_begin_31 : decode cX2_begin 31 = .ok (.aload_n 0, 1) := by decide +kernel
theorem dX2_begin_32 : decode cX2_begin 32 = .ok (.iconst 2, 1) := by decide +kernel
theorem dX2_begin_33 : decode cX2_begin 33 = .ok (.aload_n 1, 1) := by decide +kernel
theorem dX2_begin_34 : decode cX2_begin 34 = .ok (.getfield 34, 3) := by decide +kernel
theorem dX2_begin_37 : decode cX2_begin 37 = .ok (.invokevirtual 30, 3) := by decide +kernel
theorem dX2_begin_40 : decode cX2_begin 40 = .ok (.iconst 0, 1) := by decide +kernel
theorem dX2_begin_41 : decode cX2_begin 41 = .ok (.istore_n 2, 1) := by decide +kernel
theorem dX2_begin_42 : decode cX2_begin 42 = .ok (.iload_n 2, 1) := by decide +kernel
theorem dX2_begin_43 : decode cX2_begin 43 = .ok (.aload_n 1, 1) := by decide +kernel
theorem dX2_begin_44 : decode cX2_begin 44 = .ok (.getfield 25, 3) := by decide +kernel
theorem dX2_begin_47 : decode cX2_begin 47 = .ok (.if_icmp .ge 21, 3) := by decide +kernel
theorem dX2_begin_50 : decode cX2_begin 50 = .ok (.aload_n 0, 1) := by decide +kernel
theorem dX2_begin_51 : decode cX2_begin 51 = .ok (.iconst 4, 1) := by decide +kernel
theorem dX2_begin_52 : decode cX2_begin 52 = .ok (.iload_n 2, 1) := by decide +kernel
theorem dX2_begin_53 : decode cX2_begin 53 = .ok (.iadd, 1) := by decide +kernel
theorem dX2_begin_54 : decode cX2_begin 54 = .ok (.aload_n 1, 1) := by decide +kernel
theorem dX2_begin_55 : decode cX2_begin 55 = .ok (.iload_n 2, 1) := by decide +kernel
theorem dX2_begin_56 : decode cX2_begin 56 = .ok (.invokevirtual 37, 3) := by decide +kernel
theorem dX2_begin_59 : decode cX2_begin 59 = .ok (.invokevirtual 30, 3) := by decide +kernel
theorem dX2_begin_62 : decode cX2_begin 62 = .ok (.iinc 2 1, 3) := by decide +kernel
theorem dX2_begin_65 : decode cX2_begin 65 = .ok (.goto (-23), 3) := by decide +kernel
theorem dX2_begin_68 : decode cX2_begin 68 = .ok (.return_, 1) := by decide +kernel
theorem dX2_get_0 : decode cX2_get 0 = .ok (.iconst 0, 1) := by decide +kernel
theorem dX2_get_1 : decode cX2_get 1 = .ok (.iload_n 1, 1) := by decide +kernel
theorem dX2_get_2 : decode cX2_get 2 = .ok (.if_icmp .gt 18, 3) := by decide +kernel
theorem dX2_get_5 : decode cX2_get 5 = .ok (.iload_n 1, 1) := by decide +kernel
theorem dX2_get_6 : decode cX2_get 6 = .ok (.bipush 28, 2) := by decide +kernel
theorem dX2_get_8 : decode cX2_get 8 = .ok (.if_icmp .ge 12, 3) := by decide +kernel
theorem dX2_get_11 : decode cX2_get 11 = .ok (.aload_n 0, 1) := by decide +kernel
theorem dX2_get_12 : decode cX2_get 12 = .ok (.getfield 9, 3) := by decide +kernel
theorem dX2_get_15 : decode cX2_get 15 = .ok (.iload_n 1, 1) := by decide +kernel
theorem dX2_get_16 : decode cX2_get 16 = .ok (.iaload, 1) := by decide +kernel
theorem dX2_get_17 : decode cX2_get 17 = .ok (.goto 4, 3) := by decide +kernel
theorem dX2_get_20 : decode cX2_get 20 = .ok (.iconst 0, 1) := by decide +kernel
theorem dX2_get_21 : decode cX2_get 21 = .ok (.ireturn, 1) := by decide +kernel
theorem dX2_put_0 : decode cX2_put 0 = .ok (.iconst 0, 1) := by decide +kernel
theorem dX2_put_1 : decode cX2_put 1 = .ok (.iload_n 1, 1) := by decide +kernel
theorem dX2_put_2 : decode cX2_put 2 = .ok (.if_icmp .gt 16, 3) := by decide +kernel
theorem dX2_put_5 : decode cX2_put 5 = .ok (.iload_n 1, 1) := by decide +kernel
theorem dX2_put_6 : decode cX2_put 6 = .ok (.bipush 28, 2) := by decide +kernel
theorem dX2_put_8 : decode cX2_put 8 = .ok (.if_icmp .ge 10, 3) := by decide +kernel
theorem dX2_put_11 : decode cX2_put 11 = .ok (.aload_n 0, 1) := by decide +kernel
theorem dX2_put_12 : decode cX2_put 12 = .ok (.getfield 9, 3) := by decide +kernel
theorem dX2_put_15 : decode cX2_put 15 = .ok (.iload_n 1, 1) := by decide +kernel
theorem dX2_put_16 : decode cX2_put 16 = .ok (.iload_n 2, 1) := by decide +kernel
theorem dX2_put_17 : decode cX2_put 17 = .ok (.iastore, 1) := by decide +kernel
theorem dX2_put_18 : decode cX2_put 18 = .ok (.return_, 1) := by decide +kernel
theorem dX2_add_0 : decode cX2_add 0 = .ok (.aload_n 0, 1) := by decide +kernel
theorem dX2_add_1 : decode cX2_add 1 = .ok (.iload_n 1, 1) := by decide +kernel
theorem dX2_add_2 : decode cX2_add 2 = .ok (.aload_n 0, 1) := by decide +kernel
theorem dX2_add_3 : decode cX2_add 3 = .ok (.iload_n 1, 1) := by decide +kernel
theorem dX2_add_4 : decode cX2_add 4 = .ok (.invokevirtual 41, 3) := by decide +kernel
theorem dX2_add_7 : decode cX2_add 7 = .ok (.iload_n 2, 1) := by decide +kernel
theorem dX2_add_8 : decode cX2_add 8 = .ok (.iadd, 1) := by decide +kernel
theorem dX2_add_9 : decode cX2_add 9 = .ok (.invokevirtual 30, 3) := by decide +kernel
theorem dX2_add_12 : decode cX2_add 12 = .ok (.return_, 1) := by decide +kernel
theorem dX2_letDaysPass_0 : decode cX2_letDaysPass 0 = .ok (.iload_n 1, 1) := by decide +kernel
theorem dX2_letDaysPass_1 : decode cX2_letDaysPass 1 = .ok (.iload_n 2, 1) := by decide +kernel
theorem dX2_letDaysPass_2 : decode cX2_letDaysPass 2 = .ok (.imul, 1) := by decide +kernel
theorem dX2_letDaysPass_3 : decode cX2_letDaysPass 3 = .ok (.istore_n 3, 1) := by decide +kernel
theorem dX2_letDaysPass_4 : decode cX2_letDaysPass 4 = .ok (.iload_n 3, 1) := by decide +kernel
theorem dX2_letDaysPass_5 : decode cX2_letDaysPass 5 = .ok (.aload_n 0, 1) := by decide +kernel
theorem dX2_letDaysPass_6 : decode cX2_letDaysPass 6 = .ok (.iconst 2, 1) := by decide +kernel
theorem dX2_letDaysPass_7 : decode cX2_letDaysPass 7 = .ok (.invokevirtual 41, 3) := by decide +kernel
theorem dX2_letDaysPass_10 : decode cX2_letDaysPass 10 = .ok (.invokestatic 44, 3) := by decide +kernel
theorem dX2_letDaysPass_13 : decode cX2_letDaysPass 13 = .ok (.istore 4, 2) := by decide +kernel
theorem dX2_letDaysPass_15 : decode cX2_letDaysPass 15 = .ok (.aload_n 0, 1) := by decide +kernel
theorem dX2_letDaysPass_16 : decode cX2_letDaysPass 16 = .ok (.iconst 1, 1) := by decide +kernel
theorem dX2_letDaysPass_17 : decode cX2_letDaysPass 17 = .ok (.iload_n 1, 1) := by decide +kernel
theorem dX2_letDaysPass_18 : decode cX2_letDaysPass 18 = .ok (.invokevirtual 50, 3) := by decide +kernel
theorem dX2_letDaysPass_21 : decode cX2_letDaysPass 21 = .ok (.aload_n 0, 1) := by decide +kernel
theorem dX2_letDaysPass_22 : decode cX2_letDaysPass 22 = .ok (.iconst 2, 1) := by decide +kernel
theorem dX2_letDaysPass_23 : decode cX2_letDaysPass 23 = .ok (.iload 4, 2) := by decide +kernel
theorem dX2_letDaysPass_25 : decode cX2_letDaysPass 25 = .ok (.ineg, 1) := by decide +kernel
theorem dX2_letDaysPass_26 : decode cX2_letDaysPass 26 = .ok (.invokevirtual 50, 3) := by decide +kernel
theorem dX2_letDaysPass_29 : decode cX2_letDaysPass 29 = .ok (.aload_n 0, 1) := by decide +kernel
theorem dX2_letDaysPass_30 : decode cX2_letDaysPass 30 = .ok (.iconst 3, 1) := by decide +kernel
theorem dX2_letDaysPass_31 : decode cX2_letDaysPass 31 = .ok (.sipush 9999, 3) := by decide +kernel
theorem dX2_letDaysPass_34 : decode cX2_letDaysPass 34 = .ok (.aload_n 0, 1) := by decide +kernel
theorem dX2_letDaysPass_35 : decode cX2_letDaysPass 35 = .ok (.iconst 3, 1) := by decide +kernel
theorem dX2_letDaysPass_36 : decode cX2_letDaysPass 36 = .ok (.invokevirtual 41, 3) := by decide +kernel
theorem dX2_letDaysPass_39 : decode cX2_letDaysPass 39 = .ok (.iload_n 3, 1) := by decide +kernel
theorem dX2_letDaysPass_40 : decode cX2_letDaysPass 40 = .ok (.iadd, 1) := by decide +kernel
theorem dX2_letDaysPass_41 : decode cX2_letDaysPass 41 = .ok (.iload 4, 2) := by decide +kernel
theorem dX2_letDaysPass_43 : decode cX2_letDaysPass 43 = .ok (.isub, 1) := by decide +kernel
theorem dX2_letDaysPass_44 : decode cX2_letDaysPass 44 = .ok (.invokestatic 44, 3) := by decide +kernel
theorem dX2_letDaysPass_47 : decode cX2_letDaysPass 47 = .ok (.invokevirtual 30, 3) := by decide +kernel
theorem dX2_letDaysPass_50 : decode cX2_letDaysPass 50 = .ok (.return_, 1) := by decide +kernel
theorem dX2_remember_0 : decode cX2_remember 0 = .ok (.aload_n 0, 1) := by decide +kernel
theorem dX2_remember_1 : decode cX2_remember 1 = .ok (.getfield 9, 3) := by decide +kernel
theorem dX2_remember_4 : decode cX2_remember 4 = .ok (.iconst 0, 1) := by decide +kernel
theorem dX2_remember_5 : decode cX2_remember 5 = .ok (.aload_n 0, 1) := by decide +kernel
theorem dX2_remember_6 : decode cX2_remember 6 = .ok (.getfield 9, 3) := by decide +kernel
theorem dX2_remember_9 : decode cX2_remember 9 = .ok (.bipush 28, 2) := by decide +kernel
theorem dX2_remember_11 : decode cX2_remember 11 = .ok (.sipush 280, 3) := by decide +kernel
theorem dX2_remember_14 : decode cX2_remember 14 = .ok (.invokestatic 53, 3) := by decide +kernel
theorem dX2_remember_17 : decode cX2_remember 17 = .ok (.aload_n 0, 1) := by decide +kernel
theorem dX2_remember_18 : decode cX2_remember 18 = .ok (.bipush 10, 2) := by decide +kernel
theorem dX2_remember_20 : decode cX2_remember 20 = .ok (.aload_n 0, 1) := by decide +kernel
theorem dX2_remember_21 : decode cX2_remember 21 = .ok (.getfield 21, 3) := by decide +kernel
theorem dX2_remember_24 : decode cX2_remember 24 = .ok (.iconst 1, 1) := by decide +kernel
theorem dX2_remember_25 : decode cX2_remember 25 = .ok (.iadd, 1) := by decide +kernel
theorem dX2_remember_26 : decode cX2_remember 26 = .ok (.invokestatic 44, 3) := by decide +kernel
theorem dX2_remember_29 : decode cX2_remember 29 = .ok (.putfield 21, 3) := by decide +kernel
theorem dX2_remember_32 : decode cX2_remember 32 = .ok (.return_, 1) := by decide +kernel
theorem dX2_goBack_0 : decode cX2_goBack 0 = .ok (.aload_n 0, 1) := by decide +kernel
theorem dX2_goBack_1 : decode cX2_goBack 1 = .ok (.getfield 21, 3) := by decide +kernel
theorem dX2_goBack_4 : decode cX2_goBack 4 = .ok (.iconst 1, 1) := by decide +kernel
theorem dX2_goBack_5 : decode cX2_goBack 5 = .ok (.if_icmp .ge 5, 3) := by decide +kernel
theorem dX2_goBack_8 : decode cX2_goBack 8 = .ok (.iconst 0, 1) := by decide +kernel
theorem dX2_goBack_9 : decode cX2_goBack 9 = .ok (.ireturn, 1) := by decide +kernel
theorem dX2_goBack_10 : decode cX2_goBack 10 = .ok (.aload_n 0, 1) := by decide +kernel
theorem dX2_goBack_11 : decode cX2_goBack 11 = .ok (.getfield 9, 3) := by decide +kernel
theorem dX2_goBack_14 : decode cX2_goBack 14 = .ok (.bipush 28, 2) := by decide +kernel
theorem dX2_goBack_16 : decode cX2_goBack 16 = .ok (.aload_n 0, 1) := by decide +kernel
theorem dX2_goBack_17 : decode cX2_goBack 17 = .ok (.getfield 9, 3) := by decide +kernel
theorem dX2_goBack_20 : decode cX2_goBack 20 = .ok (.iconst 0, 1) := by decide +kernel
theorem dX2_goBack_21 : decode cX2_goBack 21 = .ok (.sipush 280, 3) := by decide +kernel
theorem dX2_goBack_24 : decode cX2_goBack 24 = .ok (.invokestatic 53, 3) := by decide +kernel
theorem dX2_goBack_27 : decode cX2_goBack 27 = .ok (.aload_n 0, 1) := by decide +kernel
theorem dX2_goBack_28 : decode cX2_goBack 28 = .ok (.dup, 1) := by decide +kernel
theorem dX2_goBack_29 : decode cX2_goBack 29 = .ok (.getfield 21, 3) := by decide +kernel
theorem dX2_goBack_32 : decode cX2_goBack 32 = .ok (.iconst 1, 1) := by decide +kernel
theorem dX2_goBack_33 : decode cX2_goBack 33 = .ok (.isub, 1) := by decide +kernel
theorem dX2_goBack_34 : decode cX2_goBack 34 = .ok (.putfield 21, 3) := by decide +kernel
theorem dX2_goBack_37 : decode cX2_goBack 37 = .ok (.iconst 1, 1) := by decide +kernel
theorem dX2_goBack_38 : decode cX2_goBack 38 = .ok (.ireturn, 1) := by decide +kernel
theorem dX2_copyFrom_0 : decode cX2_copyFrom 0 = .ok (.aload_n 1, 1) := by decide +kernel
theorem dX2_copyFrom_1 : decode cX2_copyFrom 1 = .ok (.getfield 9, 3) := by decide +kernel
theorem dX2_copyFrom_4 : decode cX2_copyFrom 4 = .ok (.iconst 0, 1) := by decide +kernel
theorem dX2_copyFrom_5 : decode cX2_copyFrom 5 = .ok (.aload_n 0, 1) := by decide +kernel
theorem dX2_copyFrom_6 : decode cX2_copyFrom 6 = .ok (.getfield 9, 3) := by decide +kernel
theorem dX2_copyFrom_9 : decode cX2_copyFrom 9 = .ok (.iconst 0, 1) := by decide +kernel
theorem dX2_copyFrom_10 : decode cX2_copyFrom 10 = .ok (.aload_n 0, 1) := by decide +kernel
theorem dX2_copyFrom_11 : decode cX2_copyFrom 11 = .ok (.getfield 9, 3) := by decide +kernel
theorem dX2_copyFrom_14 : decode cX2_copyFrom 14 = .ok (.arraylength, 1) := by decide +kernel
theorem dX2_copyFrom_15 : decode cX2_copyFrom 15 = .ok (.invokestatic 53, 3) := by decide +kernel
theorem dX2_copyFrom_18 : decode cX2_copyFrom 18 = .ok (.aload_n 0, 1) := by decide +kernel
theorem dX2_copyFrom_19 : decode cX2_copyFrom 19 = .ok (.aload_n 1, 1) := by decide +kernel
theorem dX2_copyFrom_20 : decode cX2_copyFrom 20 = .ok (.getfield 21, 3) := by decide +kernel
theorem dX2_copyFrom_23 : decode cX2_copyFrom 23 = .ok (.putfield 21, 3) := by decide +kernel
theorem dX2_copyFrom_26 : decode cX2_copyFrom 26 = .ok (.return_, 1) := by decide +kernel
theorem dX3_init_0 : decode cX3_init 0 = .ok (.aload_n 0, 1) := by decide +kernel
theorem dX3_init_1 : decode cX3_init 1 = .ok (.invokespecial 3, 3) := by decide +kernel
theorem dX3_init_4 : decode cX3_init 4 = .ok (.aload_n 0, 1) := by decide +kernel
theorem dX3_init_5 : decode cX3_init 5 = .ok (.sipush 180, 3) := by decide +kernel
theorem dX3_init_8 : decode cX3_init 8 = .ok (.newarray .int, 2) := by decide +kernel
theorem dX3_init_10 : decode cX3_init 10 = .ok (.putfield 9, 3) := by decide +kernel
theorem dX3_init_13 : decode cX3_init 13 = .ok (.return_, 1) := by decide +kernel
theorem dX3_append_0 : decode cX3_append 0 = .ok (.aload_n 0, 1) := by decide +kernel
theorem dX3_append_1 : decode cX3_append 1 = .ok (.getfield 15, 3) := by decide +kernel
theorem dX3_append_4 : decode cX3_append 4 = .ok (.ifCond .lt 15, 3) := by decide +kernel
theorem dX3_append_7 : decode cX3_append 7 = .ok (.aload_n 0, 1) := by decide +kernel
theorem dX3_append_8 : decode cX3_append 8 = .ok (.getfield 15, 3) := by decide +kernel
theorem dX3_append_11 : decode cX3_append 11 = .ok (.aload_n 0, 1) := by decide +kernel
theorem dX3_append_12 : decode cX3_append 12 = .ok (.getfield 9, 3) := by decide +kernel
theorem dX3_append_15 : decode cX3_append 15 = .ok (.arraylength, 1) := by decide +kernel
theorem dX3_append_16 : decode cX3_append 16 = .ok (.if_icmp .lt 5, 3) := by decide +kernel
theorem dX3_append_19 : decode cX3_append 19 = .ok (.iconst 0, 1) := by decide +kernel
theorem dX3_append_20 : decode cX3_append 20 = .ok (.ireturn, 1) := by decide +kernel
theorem dX3_append_21 : decode cX3_append 21 = .ok (.aload_n 0, 1) := by decide +kernel
theorem dX3_append_22 : decode cX3_append 22 = .ok (.getfield 9, 3) := by decide +kernel
theorem dX3_append_25 : decode cX3_append 25 = .ok (.aload_n 0, 1) := by decide +kernel
theorem dX3_append_26 : decode cX3_append 26 = .ok (.getfield 15, 3) := by decide +kernel
theorem dX3_append_29 : decode cX3_append 29 = .ok (.iload_n 1, 1) := by decide +kernel
theorem dX3_append_30 : decode cX3_append 30 = .ok (.iastore, 1) := by decide +kernel
theorem dX3_append_31 : decode cX3_append 31 = .ok (.aload_n 0, 1) := by decide +kernel
theorem dX3_append_32 : decode cX3_append 32 = .ok (.dup, 1) := by decide +kernel
theorem dX3_append_33 : decode cX3_append 33 = .ok (.getfield 15, 3) := by decide +kernel
theorem dX3_append_36 : decode cX3_append 36 = .ok (.iconst 1, 1) := by decide +kernel
theorem dX3_append_37 : decode cX3_append 37 = .ok (.iadd, 1) := by decide +kernel
theorem dX3_append_38 : decode cX3_append 38 = .ok (.putfield 15, 3) := by decide +kernel
theorem dX3_append_41 : decode cX3_append 41 = .ok (.iconst 1, 1) := by decide +kernel
theorem dX3_append_42 : decode cX3_append 42 = .ok (.ireturn, 1) := by decide +kernel
theorem dX3_toFirstToken_0 : decode cX3_toFirstToken 0 = .ok (.aload_n 0, 1) := by decide +kernel
theorem dX3_toFirstToken_1 : decode cX3_toFirstToken 1 = .ok (.iconst 0, 1) := by decide +kernel
theorem dX3_toFirstToken_2 : decode cX3_toFirstToken 2 = .ok (.putfield 19, 3) := by decide +kernel
theorem dX3_toFirstToken_5 : decode cX3_toFirstToken 5 = .ok (.aload_n 0, 1) := by decide +kernel
theorem dX3_toFirstToken_6 : decode cX3_toFirstToken 6 = .ok (.invokevirtual 22, 3) := by decide +kernel
theorem dX3_toFirstToken_9 : decode cX3_toFirstToken 9 = .ok (.return_, 1) := by decide +kernel
theorem dX3_toNextToken_0 : decode cX3_toNextToken 0 = .ok (.aload_n 0, 1) := by decide +kernel
theorem dX3_toNextToken_1 : decode cX3_toNextToken 1 = .ok (.getfield 19, 3) := by decide +kernel
theorem dX3_toNextToken_4 : decode cX3_toNextToken 4 = .ok (.aload_n 0, 1) := by decide +kernel
theorem dX3_toNextToken_5 : decode cX3_toNextToken 5 = .ok (.getfield 15, 3) := by decide +kernel
theorem dX3_toNextToken_8 : decode cX3_toNextToken 8 = .ok (.if_icmp .ge 29, 3) := by decide +kernel
theorem dX3_toNextToken_11 : decode cX3_toNextToken 11 = .ok (.aload_n 0, 1) := by decide +kernel
theorem dX3_toNextToken_12 : decode cX3_toNextToken 12 = .ok (.aload_n 0, 1) := by decide +kernel
theorem dX3_toNextToken_13 : decode cX3_toNextToken 13 = .ok (.getfield 19, 3) := by decide +kernel
theorem dX3_toNextToken_16 : decode cX3_toNextToken 16 = .ok (.invokevirtual 25, 3) := by decide +kernel
theorem dX3_toNextToken_19 : decode cX3_toNextToken 19 = .ok (.bipush 32, 2) := by decide +kernel
theorem dX3_toNextToken_21 : decode cX3_toNextToken 21 = .ok (.if_icmp .ne 16, 3) := by decide +kernel
theorem dX3_toNextToken_24 : decode cX3_toNextToken 24 = .ok (.aload_n 0, 1) := by decide +kernel
theorem dX3_toNextToken_25 : decode cX3_toNextToken 25 = .ok (.dup, 1) := by decide +kernel
theorem dX3_toNextToken_26 : decode cX3_toNextToken 26 = .ok (.getfield 19, 3) := by decide +kernel
theorem dX3_toNextToken_29 : decode cX3_toNextToken 29 = .ok (.iconst 1, 1) := by decide +kernel
theorem dX3_toNextToken_30 : decode cX3_toNextToken 30 = .ok (.iadd, 1) := by decide +kernel
theorem dX3_toNextToken_31 : decode cX3_toNextToken 31 = .ok (.putfield 19, 3) := by decide +kernel
theorem dX3_toNextToken_34 : decode cX3_toNextToken 34 = .ok (.goto (-34), 3) := by decide +kernel
theorem dX3_toNextToken_37 : decode cX3_toNextToken 37 = .ok (.aload_n 0, 1) := by decide +kernel
theorem dX3_toNextToken_38 : decode cX3_toNextToken 38 = .ok (.aload_n 0, 1) := by decide +kernel
theorem dX3_toNextToken_39 : decode cX3_toNextToken 39 = .ok (.getfield 19, 3) := by decide +kernel
theorem dX3_toNextToken_42 : decode cX3_toNextToken 42 = .ok (.putfield 29, 3) := by decide +kernel
theorem dX3_toNextToken_45 : decode cX3_toNextToken 45 = .ok (.aload_n 0, 1) := by decide +kernel
theorem dX3_toNextToken_46 : decode cX3_toNextToken 46 = .ok (.iconst 0, 1) := by decide +kernel
theorem dX3_toNextToken_47 : decode cX3_toNextToken 47 = .ok (.putfield 32, 3) := by decide +kernel
theorem dX3_toNextToken_50 : decode cX3_toNextToken 50 = .ok (.aload_n 0, 1) := by decide +kernel
theorem dX3_toNextToken_51 : decode cX3_toNextToken 51 = .ok (.aload_n 0, 1) := by decide +kernel
theorem dX3_toNextToken_52 : decode cX3_toNextToken 52 = .ok (.getfield 19, 3) := by decide +kernel
theorem dX3_toNextToken_55 : decode cX3_toNextToken 55 = .ok (.invokevirtual 25, 3) := by decide +kernel
theorem dX3_toNextToken_58 : decode cX3_toNextToken 58 = .ok (.istore_n 1, 1) := by decide +kernel
theorem dX3_toNextToken_59 : decode cX3_toNextToken 59 = .ok (.aload_n 0, 1) := by decide +kernel
theorem dX3_toNextToken_60 : decode cX3_toNextToken 60 = .ok (.getfield 19, 3) := by decide +kernel
theorem dX3_toNextToken_63 : decode cX3_toNextToken 63 = .ok (.aload_n 0, 1) := by decide +kernel
theorem dX3_toNextToken_64 : decode cX3_toNextToken 64 = .ok (.getfield 15, 3) := by decide +kernel
theorem dX3_toNextToken_67 : decode cX3_toNextToken 67 = .ok (.if_icmp .lt 11, 3) := by decide +kernel
theorem dX3_toNextToken_70 : decode cX3_toNextToken 70 = .ok (.aload_n 0, 1) := by decide +kernel
theorem dX3_toNextToken_71 : decode cX3_toNextToken 71 = .ok (.iconst 0, 1) := by decide +kernel
theorem dX3_toNextToken_72 : decode cX3_toNextToken 72 = .ok (.putfield 35, 3) := by decide +kernel
theorem dX3_toNextToken_75 : decode cX3_toNextToken 75 = .ok (.goto 64, 3) := by decide +kernel
theorem dX3_toNextToken_78 : decode cX3_toNextToken 78 = .ok (.iload_n 1, 1) := by decide +kernel
theorem dX3_toNextToken_79 : decode cX3_toNextToken 79 = .ok (.bipush 97, 2) := by decide +kernel
theorem dX3_toNextToken_81 : decode cX3_toNextToken 81 = .ok (.bipush 122, 2) := by decide +kernel
theorem dX3_toNextToken_83 : decode cX3_toNextToken 83 = .ok (.invokestatic 38, 3) := by decide +kernel
theorem dX3_toNextToken_86 : decode cX3_toNextToken 86 = .ok (.ifCond .eq 10, 3) := by decide +kernel
theorem dX3_toNextToken_89 : decode cX3_toNextToken 89 = .ok (.aload_n 0, 1) := by decide +kernel
theorem dX3_toNextToken_90 : decode cX3_toNextToken 90 = .ok (.invokevirtual 42, 3) := by decide +kernel
theorem dX3_toNextToken_93 : decode cX3_toNextToken 93 = .ok (.goto 46, 3) := by decide +kernel
theorem dX3_toNextToken_96 : decode cX3_toNextToken 96 = .ok (.iload_n 1, 1) := by decide +kernel
theorem dX3_toNextToken_97 : decode cX3_toNextToken 97 = .ok (.bipush 48, 2) := by decide +kernel
theorem dX3_toNextToken_99 : decode cX3_toNextToken 99 = .ok (.bipush 57, 2) := by decide +kernel
theorem dX3_toNextToken_101 : decode cX3_toNextToken 101 = .ok (.invokestatic 38, 3) := by decide +kernel
theorem dX3_toNextToken_104 : decode cX3_toNextToken 104 = .ok (.ifCond .eq 10, 3) := by decide +kernel
theorem dX3_toNextToken_107 : decode cX3_toNextToken 107 = .ok (.aload_n 0, 1) := by decide +kernel
theorem dX3_toNextToken_108 : decode cX3_toNextToken 108 = .ok (.invokevirtual 45, 3) := by decide +kernel
theorem dX3_toNextToken_111 : decode cX3_toNextToken 111 = .ok (.goto 28, 3) := by decide +kernel
theorem dX3_toNextToken_114 : decode cX3_toNextToken 114 = .ok (.aload_n 0, 1) := by decide +kernel
theorem dX3_toNextToken_115 : decode cX3_toNextToken 115 = .ok (.iload_n 1, 1) := by decide +kernel
theorem dX3_toNextToken_116 : decode cX3_toNextToken 116 = .ok (.bipush 59, 2) := by decide +kernel
theorem dX3_toNextToken_118 : decode cX3_toNextToken 118 = .ok (.if_icmp .ne 7, 3) := by decide +kernel
theorem dX3_toNextToken_121 : decode cX3_toNextToken 121 = .ok (.iconst 3, 1) := by decide +kernel
theorem dX3_toNextToken_122 : decode cX3_toNextToken 122 = .ok (.goto 4, 3) := by decide +kernel
theorem dX3_toNextToken_125 : decode cX3_toNextToken 125 = .ok (.iconst 4, 1) := by decide +kernel
theorem dX3_toNextToken_126 : decode cX3_toNextToken 126 = .ok (.putfield 35, 3) := by decide +kernel
theorem dX3_toNextToken_129 : decode cX3_toNextToken 129 = .ok (.aload_n 0, 1) := by decide +kernel
theorem dX3_toNextToken_130 : decode cX3_toNextToken 130 = .ok (.dup, 1) := by decide +kernel
theorem dX3_toNextToken_131 : decode cX3_toNextToken 131 = .ok (.getfield 19, 3) := by decide +kernel
theorem dX3_toNextToken_134 : decode cX3_toNextToken 134 = .ok (.iconst 1, 1) := by decide +kernel
theorem dX3_toNextToken_135 : decode cX3_toNextToken 135 = .ok (.iadd, 1) := by decide +kernel
theorem dX3_toNextToken_136 : decode cX3_toNextToken 136 = .ok (.putfield 19, 3) := by decide +kernel
theorem dX3_toNextToken_139 : decode cX3_toNextToken 139 = .ok (.return_, 1) := by decide +kernel
theorem dX3_readLetters_0 : decode cX3_readLetters 0 = .ok (.aload_n 0, 1) := by decide +kernel
theorem dX3_readLetters_1 : decode cX3_readLetters 1 = .ok (.getfield 19, 3) := by decide +kernel
theorem dX3_readLetters_4 : decode cX3_readLetters 4 = .ok (.aload_n 0, 1) := by decide +kernel
theorem dX3_readLetters_5 : decode cX3_readLetters 5 = .ok (.getfield 15, 3) := by decide +kernel
theorem dX3_readLetters_8 : decode cX3_readLetters 8 = .ok (.if_icmp .ge 34, 3) := by decide +kernel
theorem dX3_readLetters_11 : decode cX3_readLetters 11 = .ok (.aload_n 0, 1) := by decide +kernel
theorem dX3_readLetters_12 : decode cX3_readLetters 12 = .ok (.aload_n 0, 1) := by decide +kernel
theorem dX3_readLetters_13 : decode cX3_readLetters 13 = .ok (.getfield 19, 3) := by decide +kernel
theorem dX3_readLetters_16 : decode cX3_readLetters 16 = .ok (.invokevirtual 25, 3) := by decide +kernel
theorem dX3_readLetters_19 : decode cX3_readLetters 19 = .ok (.bipush 97, 2) := by decide +kernel
theorem dX3_readLetters_21 : decode cX3_readLetters 21 = .ok (.bipush 122, 2) := by decide +kernel
theorem dX3_readLetters_23 : decode cX3_readLetters 23 = .ok (.invokestatic 38, 3) := by decide +kernel
theorem dX3_readLetters_26 : decode cX3_readLetters 26 = .ok (.ifCond .eq 16, 3) := by decide +kernel
theorem dX3_readLetters_29 : decode cX3_readLetters 29 = .ok (.aload_n 0, 1) := by decide +kernel
theorem dX3_readLetters_30 : decode cX3_readLetters 30 = .ok (.dup, 1) := by decide +kernel
theorem dX3_readLetters_31 : decode cX3_readLetters 31 = .ok (.getfield 19, 3) := by decide +kernel
theorem dX3_readLetters_34 : decode cX3_readLetters 34 = .ok (.iconst 1, 1) := by decide +kernel
theorem dX3_readLetters_35 : decode cX3_readLetters 35 = .ok (.iadd, 1) := by decide +kernel
theorem dX3_readLetters_36 : decode cX3_readLetters 36 = .ok (.putfield 19, 3) := by decide +kernel
theorem dX3_readLetters_39 : decode cX3_readLetters 39 = .ok (.goto (-39), 3) := by decide +kernel
theorem dX3_readLetters_42 : decode cX3_readLetters 42 = .ok (.aload_n 0, 1) := by decide +kernel
theorem dX3_readLetters_43 : decode cX3_readLetters 43 = .ok (.iconst 1, 1) := by decide +kernel
theorem dX3_readLetters_44 : decode cX3_readLetters 44 = .ok (.putfield 35, 3) := by decide +kernel
theorem dX3_readLetters_47 : decode cX3_readLetters 47 = .ok (.aload_n 0, 1) := by decide +kernel
theorem dX3_readLetters_48 : decode cX3_readLetters 48 = .ok (.aload_n 0, 1) := by decide +kernel
theorem dX3_readLetters_49 : decode cX3_readLetters 49 = .ok (.getfield 19, 3) := by decide +kernel
theorem dX3_readLetters_52 : decode cX3_readLetters 52 = .ok (.aload_n 0, 1) := by decide +kernel
theorem dX3_readLetters_53 : decode cX3_readLetters 53 = .ok (.getfield 29, 3) := by decide +kernel
theorem dX3_readLetters_56 : decode cX3_readLetters 56 = .ok (.isub, 1) := by decide +kernel
theorem dX3_readLetters_57 : decode cX3_readLetters 57 = .ok (.iconst 1, 1) := by decide +kernel
theorem dX3_readLetters_58 : decode cX3_readLetters 58 = .ok (.if_icmp .ne 14, 3) := by decide +kernel
theorem dX3_readLetters_61 : decode cX3_readLetters 61 = .ok (.aload_n 0, 1) := by decide +kernel
theorem dX3_readLetters_62 : decode cX3_readLetters 62 = .ok (.aload_n 0, 1) := by decide +kernel
theorem dX3_readLetters_63 : decode cX3_readLetters 63 = .ok (.getfield 29, 3) := by decide +kernel
theorem dX3_readLetters_66 : decode cX3_readLetters 66 = .ok (.invokevirtual 25, 3) := by decide +kernel
theorem dX3_readLetters_69 : decode cX3_readLetters 69 = .ok (.goto 4, 3) := by decide +kernel
theorem dX3_readLetters_72 : decode cX3_readLetters 72 = .ok (.iconst 0, 1) := by decide +kernel
theorem dX3_readLetters_73 : decode cX3_readLetters 73 = .ok (.putfield 32, 3) := by decide +kernel
theorem dX3_readLetters_76 : decode cX3_readLetters 76 = .ok (.return_, 1) := by decide +kernel
theorem dX3_readNumber_0 : decode cX3_readNumber 0 = .ok (.aload_n 0, 1) := by decide +kernel
theorem dX3_readNumber_1 : decode cX3_readNumber 1 = .ok (.getfield 19, 3) := by decide +kernel
theorem dX3_readNumber_4 : decode cX3_readNumber 4 = .ok (.aload_n 0, 1) := by decide +kernel
theorem dX3_readNumber_5 : decode cX3_readNumber 5 = .ok (.getfield 15, 3) := by decide +kernel
theorem dX3_readNumber_8 : decode cX3_readNumber 8 = .ok (.if_icmp .ge 62, 3) := by decide +kernel
theorem dX3_readNumber_11 : decode cX3_readNumber 11 = .ok (.aload_n 0, 1) := by decide +kernel
theorem dX3_readNumber_12 : decode cX3_readNumber 12 = .ok (.aload_n 0, 1) := by decide +kernel
theorem dX3_readNumber_13 : decode cX3_readNumber 13 = .ok (.getfield 19, 3) := by decide +kernel
theorem dX3_readNumber_16 : decode cX3_readNumber 16 = .ok (.invokevirtual 25, 3) := by decide +kernel
theorem dX3_readNumber_19 : decode cX3_readNumber 19 = .ok (.bipush 48, 2) := by decide +kernel
theorem dX3_readNumber_21 : decode cX3_readNumber 21 = .ok (.bipush 57, 2) := by decide +kernel
theorem dX3_readNumber_23 : decode cX3_readNumber 23 = .ok (.invokestatic 38, 3) := by decide +kernel
theorem dX3_readNumber_26 : decode cX3_readNumber 26 = .ok (.ifCond .eq 44, 3) := by decide +kernel
theorem dX3_readNumber_29 : decode cX3_readNumber 29 = .ok (.aload_n 0, 1) := by decide +kernel
theorem dX3_readNumber_30 : decode cX3_readNumber 30 = .ok (.bipush 100, 2) := by decide +kernel
theorem dX3_readNumber_32 : decode cX3_readNumber 32 = .ok (.aload_n 0, 1) := by decide +kernel
theorem dX3_readNumber_33 : decode cX3_readNumber 33 = .ok (.getfield 32, 3) := by decide +kernel
theorem dX3_readNumber_36 : decode cX3_readNumber 36 = .ok (.bipush 10, 2) := by decide +kernel
theorem dX3_readNumber_38 : decode cX3_readNumber 38 = .ok (.imul, 1) := by decide +kernel
theorem dX3_readNumber_39 : decode cX3_readNumber 39 = .ok (.aload_n 0, 1) := by decide +kernel
theorem dX3_readNumber_40 : decode cX3_readNumber 40 = .ok (.aload_n 0, 1) := by decide +kernel
theorem dX3_readNumber_41 : decode cX3_readNumber 41 = .ok (.getfield 19, 3) := by decide +kernel
theorem dX3_readNumber_44 : decode cX3_readNumber 44 = .ok (.invokevirtual 25, 3) := by decide +kernel
theorem dX3_readNumber_47 : decode cX3_readNumber 47 = .ok (.iadd, 1) := by decide +kernel
theorem dX3_readNumber_48 : decode cX3_readNumber 48 = .ok (.bipush 48, 2) := by decide +kernel
theorem dX3_readNumber_50 : decode cX3_readNumber 50 = .ok (.isub, 1) := by decide +kernel
theorem dX3_readNumber_51 : decode cX3_readNumber 51 = .ok (.invokestatic 48, 3) := by decide +kernel
theorem dX3_readNumber_54 : decode cX3_readNumber 54 = .ok (.putfield 32, 3) := by decide +kernel
theorem dX3_readNumber_57 : decode cX3_readNumber 57 = .ok (.aload_n 0, 1) := by decide +kernel
theorem dX3_readNumber_58 : decode cX3_readNumber 58 = .ok (.dup, 1) := by decide +kernel
theorem dX3_readNumber_59 : decode cX3_readNumber 59 = .ok (.getfield 19, 3) := by decide +kernel
theorem dX3_readNumber_62 : decode cX3_readNumber 62 = .ok (.iconst 1, 1) := by decide +kernel
theorem dX3_readNumber_63 : decode cX3_readNumber 63 = .ok (.iadd, 1) := by decide +kernel
theorem dX3_readNumber_64 : decode cX3_readNumber 64 = .ok (.putfield 19, 3) := by decide +kernel
theorem dX3_readNumber_67 : decode cX3_readNumber 67 = .ok (.goto (-67), 3) := by decide +kernel
theorem dX3_readNumber_70 : decode cX3_readNumber 70 = .ok (.aload_n 0, 1) := by decide +kernel
theorem dX3_readNumber_71 : decode cX3_readNumber 71 = .ok (.getfield 19, 3) := by decide +kernel
theorem dX3_readNumber_74 : decode cX3_readNumber 74 = .ok (.aload_n 0, 1) := by decide +kernel
theorem dX3_readNumber_75 : decode cX3_readNumber 75 = .ok (.getfield 29, 3) := by decide +kernel
theorem dX3_readNumber_78 : decode cX3_readNumber 78 = .ok (.isub, 1) := by decide +kernel
theorem dX3_readNumber_79 : decode cX3_readNumber 79 = .ok (.iconst 1, 1) := by decide +kernel
theorem dX3_readNumber_80 : decode cX3_readNumber 80 = .ok (.if_icmp .le 20, 3) := by decide +kernel
theorem dX3_readNumber_83 : decode cX3_readNumber 83 = .ok (.aload_n 0, 1) := by decide +kernel
theorem dX3_readNumber_84 : decode cX3_readNumber 84 = .ok (.aload_n 0, 1) := by decide +kernel
theorem dX3_readNumber_85 : decode cX3_readNumber 85 = .ok (.getfield 29, 3) := by decide +kernel
theorem dX3_readNumber_88 : decode cX3_readNumber 88 = .ok (.invokevirtual 25, 3) := by decide +kernel
theorem dX3_readNumber_91 : decode cX3_readNumber 91 = .ok (.bipush 48, 2) := by decide +kernel
theorem dX3_readNumber_93 : decode cX3_readNumber 93 = .ok (.if_icmp .ne 7, 3) := by decide +kernel
theorem dX3_readNumber_96 : decode cX3_readNumber 96 = .ok (.iconst 1, 1) := by decide +kernel
theorem dX3_readNumber_97 : decode cX3_readNumber 97 = .ok (.goto 4, 3) := by decide +kernel
theorem dX3_readNumber_100 : decode cX3_readNumber 100 = .ok (.iconst 0, 1) := by decide +kernel
theorem dX3_readNumber_101 : decode cX3_readNumber 101 = .ok (.istore_n 1, 1) := by decide +kernel
theorem dX3_readNumber_102 : decode cX3_readNumber 102 = .ok (.aload_n 0, 1) := by decide +kernel
theorem dX3_readNumber_103 : decode cX3_readNumber 103 = .ok (.aload_n 0, 1) := by decide +kernel
theorem dX3_readNumber_104 : decode cX3_readNumber 104 = .ok (.getfield 32, 3) := by decide +kernel
theorem dX3_readNumber_107 : decode cX3_readNumber 107 = .ok (.bipush 99, 2) := by decide +kernel
theorem dX3_readNumber_109 : decode cX3_readNumber 109 = .ok (.if_icmp .gt 7, 3) := by decide +kernel
theorem dX3_readNumber_112 : decode cX3_readNumber 112 = .ok (.iload_n 1, 1) := by decide +kernel
theorem dX3_readNumber_113 : decode cX3_readNumber 113 = .ok (.ifCond .eq 7, 3) := by decide +kernel
theorem dX3_readNumber_116 : decode cX3_readNumber 116 = .ok (.iconst 4, 1) := by decide +kernel
theorem dX3_readNumber_117 : decode cX3_readNumber 117 = .ok (.goto 4, 3) := by decide +kernel
theorem dX3_readNumber_120 : decode cX3_readNumber 120 = .ok (.iconst 2, 1) := by decide +kernel
theorem dX3_readNumber_121 : decode cX3_readNumber 121 = .ok (.putfield 35, 3) := by decide +kernel
theorem dX3_readNumber_124 : decode cX3_readNumber 124 = .ok (.return_, 1) := by decide +kernel
theorem dX3_byteAt_0 : decode cX3_byteAt 0 = .ok (.iconst 0, 1) := by decide +kernel
theorem dX3_byteAt_1 : decode cX3_byteAt 1 = .ok (.iload_n 1, 1) := by decide +kernel
theorem dX3_byteAt_2 : decode cX3_byteAt 2 = .ok (.if_icmp .gt 21, 3) := by decide +kernel
theorem dX3_byteAt_5 : decode cX3_byteAt 5 = .ok (.iload_n 1, 1) := by decide +kernel
theorem dX3_byteAt_6 : decode cX3_byteAt 6 = .ok (.aload_n 0, 1) := by decide +kernel
theorem dX3_byteAt_7 : decode cX3_byteAt 7 = .ok (.getfield 9, 3) := by decide +kernel
theorem dX3_byteAt_10 : decode cX3_byteAt 10 = .ok (.arraylength, 1) := by decide +kernel
theorem dX3_byteAt_11 : decode cX3_byteAt 11 = .ok (.if_icmp .ge 12, 3) := by decide +kernel
theorem dX3_byteAt_14 : decode cX3_byteAt 14 = .ok (.aload_n 0, 1) := by decide +kernel
theorem dX3_byteAt_15 : decode cX3_byteAt 15 = .ok (.getfield 9, 3) := by decide +kernel
theorem dX3_byteAt_18 : decode cX3_byteAt 18 = .ok (.iload_n 1, 1) := by decide +kernel
theorem dX3_byteAt_19 : decode cX3_byteAt 19 = .ok (.iaload, 1) := by decide +kernel
theorem dX3_byteAt_20 : decode cX3_byteAt 20 = .ok (.goto 4, 3) := by decide +kernel
theorem dX3_byteAt_23 : decode cX3_byteAt 23 = .ok (.iconst 0, 1) := by decide +kernel
theorem dX3_byteAt_24 : decode cX3_byteAt 24 = .ok (.ireturn, 1) := by decide +kernel
theorem dX4_init_0 : decode cX4_init 0 = .ok (.aload_n 0, 1) := by decide +kernel
theorem dX4_init_1 : decode cX4_init 1 = .ok (.invokespecial 3, 3) := by decide +kernel
theorem dX4_init_4 : decode cX4_init 4 = .ok (.aload_n 0, 1) := by decide +kernel
theorem dX4_init_5 : decode cX4_init 5 = .ok (.bipush 6, 2) := by decide +kernel
theorem dX4_init_7 : decode cX4_init 7 = .ok (.newarray .int, 2) := by decide +kernel
theorem dX4_init_9 : decode cX4_init 9 = .ok (.putfield 9, 3) := by decide +kernel
theorem dX4_init_12 : decode cX4_init 12 = .ok (.aload_n 0, 1) := by decide +kernel
theorem dX4_init_13 : decode cX4_init 13 = .ok (.bipush 6, 2) := by decide +kernel
theorem dX4_init_15 : decode cX4_init 15 = .ok (.newarray .int, 2) := by decide +kernel
theorem dX4_init_17 : decode cX4_init 17 = .ok (.putfield 15, 3) := by decide +kernel
theorem dX4_init_20 : decode cX4_init 20 = .ok (.aload_n 0, 1) := by decide +kernel
theorem dX4_init_21 : decode cX4_init 21 = .ok (.bipush 6, 2) := by decide +kernel
theorem dX4_init_23 : decode cX4_init 23 = .ok (.newarray .int, 2) := by decide +kernel
theorem dX4_init_25 : decode cX4_init 25 = .ok (.putfield 18, 3) := by decide +kernel
theorem dX4_init_28 : decode cX4_init 28 = .ok (.return_, 1) := by decide +kernel
theorem dX4_find_0 : decode cX4_find 0 = .ok (.aload_n 0, 1) := by decide +kernel
theorem dX4_find_1 : decode cX4_find 1 = .ok (.iconst 0, 1) := by decide +kernel
theorem dX4_find_2 : decode cX4_find 2 = .ok (.putfield 21, 3) := by decide +kernel
theorem dX4_find_5 : decode cX4_find 5 = .ok (.iconst 0, 1) := by decide +kernel
theorem dX4_find_6 : decode cX4_find 6 = .ok (.istore 7, 2) := by decide +kernel
theorem dX4_find_8 : decode cX4_find 8 = .ok (.iload 7, 2) := by decide +kernel
theorem dX4_find_10 : decode cX4_find 10 = .ok (.aload_n 0, 1) := by decide +kernel
theorem dX4_find_11 : decode cX4_find 11 = .ok (.getfield 9, 3) := by decide +kernel
theorem dX4_find_14 : decode cX4_find 14 = .ok (.arraylength, 1) := by decide +kernel
theorem dX4_find_15 : decode cX4_find 15 = .ok (.if_icmp .ge 49, 3) := by decide +kernel
theorem dX4_find_18 : decode cX4_find 18 = .ok (.aload_n 0, 1) := by decide +kernel
theorem dX4_find_19 : decode cX4_find 19 = .ok (.getfield 9, 3) := by decide +kernel
theorem dX4_find_22 : decode cX4_find 22 = .ok (.iload 7, 2) := by decide +kernel
theorem dX4_find_24 : decode cX4_find 24 = .ok (.iload 7, 2) := by decide +kernel
theorem dX4_find_26 : decode cX4_find 26 = .ok (.aload_n 2, 1) := by decide +kernel
theorem dX4_find_27 : decode cX4_find 27 = .ok (.arraylength, 1) := by decide +kernel
theorem dX4_find_28 : decode cX4_find 28 = .ok (.if_icmp .ge 10, 3) := by decide +kernel
theorem dX4_find_31 : decode cX4_find 31 = .ok (.aload_n 2, 1) := by decide +kernel
theorem dX4_find_32 : decode cX4_find 32 = .ok (.iload 7, 2) := by decide +kernel
theorem dX4_find_34 : decode cX4_find 34 = .ok (.iaload, 1) := by decide +kernel
theorem dX4_find_35 : decode cX4_find 35 = .ok (.goto 4, 3) := by decide +kernel
theorem dX4_find_38 : decode cX4_find 38 = .ok (.iconst 0, 1) := by decide +kernel
theorem dX4_find_39 : decode cX4_find 39 = .ok (.iastore, 1) := by decide +kernel
theorem dX4_find_40 : decode cX4_find 40 = .ok (.aload_n 0, 1) := by decide +kernel
theorem dX4_find_41 : decode cX4_find 41 = .ok (.aload_n 0, 1) := by decide +kernel
theorem dX4_find_42 : decode cX4_find 42 = .ok (.getfield 21, 3) := by decide +kernel
theorem dX4_find_45 : decode cX4_find 45 = .ok (.aload_n 0, 1) := by decide +kernel
theorem dX4_find_46 : decode cX4_find 46 = .ok (.getfield 9, 3) := by decide +kernel
theorem dX4_find_49 : decode cX4_find 49 = .ok (.iload 7, 2) := by decide +kernel
theorem dX4_find_51 : decode cX4_find 51 = .ok (.iaload, 1) := by decide +kernel
theorem dX4_find_52 : decode cX4_find 52 = .ok (.invokestatic 25, 3) := by decide +kernel
theorem dX4_find_55 : decode cX4_find 55 = .ok (.putfield 21, 3) := by decide +kernel
theorem dX4_find_58 : decode cX4_find 58 = .ok (.iinc 7 1, 3) := by decide +kernel
theorem dX4_find_61 : decode cX4_find 61 = .ok (.goto (-53), 3) := by decide +kernel
theorem dX4_find_64 : decode cX4_find 64 = .ok (.aload_n 0, 1) := by decide +kernel
theorem dX4_find_65 : decode cX4_find 65 = .ok (.iload 6, 2) := by decide +kernel
theorem dX4_find_67 : decode cX4_find 67 = .ok (.putfield 31, 3) := by decide +kernel
theorem dX4_find_70 : decode cX4_find 70 = .ok (.aload_n 0, 1) := by decide +kernel
theorem dX4_find_71 : decode cX4_find 71 = .ok (.bipush (-9), 2) := by decide +kernel
theorem dX4_find_73 : decode cX4_find 73 = .ok (.putfield 34, 3) := by decide +kernel
theorem dX4_find_76 : decode cX4_find 76 = .ok (.aload_n 0, 1) := by decide +kernel
theorem dX4_find_77 : decode cX4_find 77 = .ok (.iload_n 3, 1) := by decide +kernel
theorem dX4_find_78 : decode cX4_find 78 = .ok (.putfield 37, 3) := by decide +kernel
theorem dX4_find_81 : decode cX4_find 81 = .ok (.aload_n 0, 1) := by decide +kernel
theorem dX4_find_82 : decode cX4_find 82 = .ok (.getfield 37, 3) := by decide +kernel
theorem dX4_find_85 : decode cX4_find 85 = .ok (.aload_n 1, 1) := by decide +kernel
theorem dX4_find_86 : decode cX4_find 86 = .ok (.getfield 40, 3) := by decide +kernel
theorem dX4_find_89 : decode cX4_find 89 = .ok (.if_icmp .gt 39, 3) := by decide +kernel
theorem dX4_find_92 : decode cX4_find 92 = .ok (.aload_n 0, 1) := by decide +kernel
theorem dX4_find_93 : decode cX4_find 93 = .ok (.aload_n 1, 1) := by decide +kernel
theorem dX4_find_94 : decode cX4_find 94 = .ok (.iconst 0, 1) := by decide +kernel
theorem dX4_find_95 : decode cX4_find 95 = .ok (.iconst 0, 1) := by decide +kernel
theorem dX4_find_96 : decode cX4_find 96 = .ok (.iload 4, 2) := by decide +kernel
theorem dX4_find_98 : decode cX4_find 98 = .ok (.iload 5, 2) := by decide +kernel
theorem dX4_find_100 : decode cX4_find 100 = .ok (.iconst 0, 1) := by decide +kernel
theorem dX4_find_101 : decode cX4_find 101 = .ok (.invokevirtual 45, 3) := by decide +kernel
theorem dX4_find_104 : decode cX4_find 104 = .ok (.aload_n 0, 1) := by decide +kernel
theorem dX4_find_105 : decode cX4_find 105 = .ok (.getfield 34, 3) := by decide +kernel
theorem dX4_find_108 : decode cX4_find 108 = .ok (.bipush (-9), 2) := by decide +kernel
theorem dX4_find_110 : decode cX4_find 110 = .ok (.if_icmp .eq 5, 3) := by decide +kernel
theorem dX4_find_113 : decode cX4_find 113 = .ok (.iconst 1, 1) := by decide +kernel
theorem dX4_find_114 : decode cX4_find 114 = .ok (.ireturn, 1) := by decide +kernel
theorem dX4_find_115 : decode cX4_find 115 = .ok (.aload_n 0, 1) := by decide +kernel
theorem dX4_find_116 : decode cX4_find 116 = .ok (.dup, 1) := by decide +kernel
theorem dX4_find_117 : decode cX4_find 117 = .ok (.getfield 37, 3) := by decide +kernel
theorem dX4_find_120 : decode cX4_find 120 = .ok (.iconst 1, 1) := by decide +kernel
theorem dX4_find_121 : decode cX4_find 121 = .ok (.iadd, 1) := by decide +kernel
theorem dX4_find_122 : decode cX4_find 122 = .ok (.putfield 37, 3) := by decide +kernel
theorem dX4_find_125 : decode cX4_find 125 = .ok (.goto (-44), 3) := by decide +kernel
theorem dX4_find_128 : decode cX4_find 128 = .ok (.iconst 0, 1) := by decide +kernel
theorem dX4_find_129 : decode cX4_find 129 = .ok (.ireturn, 1) := by decide +kernel
theorem dX4_at_0 : decode cX4_at 0 = .ok (.iconst 0, 1) := by decide +kernel
theorem dX4_at_1 : decode cX4_at 1 = .ok (.iload_n 1, 1) := by decide +kernel
theorem dX4_at_2 : decode cX4_at 2 = .ok (.if_icmp .gt 29, 3) := by decide +kernel
theorem dX4_at_5 : decode cX4_at 5 = .ok (.iload_n 1, 1) := by decide +kernel
theorem dX4_at_6 : decode cX4_at 6 = .ok (.aload_n 0, 1) := by decide +kernel
theorem dX4_at_7 : decode cX4_at 7 = .ok (.getfield 37, 3) := by decide +kernel
theorem dX4_at_10 : decode cX4_at 10 = .ok (.if_icmp .ge 21, 3) := by decide +kernel
theorem dX4_at_13 : decode cX4_at 13 = .ok (.iload_n 1, 1) := by decide +kernel
theorem dX4_at_14 : decode cX4_at 14 = .ok (.aload_n 0, 1) := by decide +kernel
theorem dX4_at_15 : decode cX4_at 15 = .ok (.getfield 18, 3) := by decide +kernel
theorem dX4_at_18 : decode cX4_at 18 = .ok (.arraylength, 1) := by decide +kernel
theorem dX4_at_19 : decode cX4_at 19 = .ok (.if_icmp .ge 12, 3) := by decide +kernel
theorem dX4_at_22 : decode cX4_at 22 = .ok (.aload_n 0, 1) := by decide +kernel
theorem dX4_at_23 : decode cX4_at 23 = .ok (.getfield 18, 3) := by decide +kernel
theorem dX4_at_26 : decode cX4_at 26 = .ok (.iload_n 1, 1) := by decide +kernel
theorem dX4_at_27 : decode cX4_at 27 = .ok (.iaload, 1) := by decide +kernel
theorem dX4_at_28 : decode cX4_at 28 = .ok (.goto 5, 3) := by decide +kernel
theorem dX4_at_31 : decode cX4_at 31 = .ok (.bipush (-9), 2) := by decide +kernel
theorem dX4_at_33 : decode cX4_at 33 = .ok (.ireturn, 1) := by decide +kernel
theorem dX4_goOn_0 : decode cX4_goOn 0 = .ok (.iload 5, 2) := by decide +kernel
theorem dX4_goOn_2 : decode cX4_goOn 2 = .ok (.aload_n 1, 1) := by decide +kernel
theorem dX4_goOn_3 : decode cX4_goOn 3 = .ok (.getfield 49, 3) := by decide +kernel
theorem dX4_goOn_6 : decode cX4_goOn 6 = .ok (.iload 6, 2) := by decide +kernel
theorem dX4_goOn_8 : decode cX4_goOn 8 = .ok (.imul, 1) := by decide +kernel
theorem dX4_goOn_9 : decode cX4_goOn 9 = .ok (.iadd, 1) := by decide +kernel
theorem dX4_goOn_10 : decode cX4_goOn 10 = .ok (.istore 7, 2) := by decide +kernel
theorem dX4_goOn_12 : decode cX4_goOn 12 = .ok (.iload 7, 2) := by decide +kernel
theorem dX4_goOn_14 : decode cX4_goOn 14 = .ok (.aload_n 0, 1) := by decide +kernel
theorem dX4_goOn_15 : decode cX4_goOn 15 = .ok (.getfield 37, 3) := by decide +kernel
theorem dX4_goOn_18 : decode cX4_goOn 18 = .ok (.iload_n 2, 1) := by decide +kernel
theorem dX4_goOn_19 : decode cX4_goOn 19 = .ok (.isub, 1) := by decide +kernel
theorem dX4_goOn_20 : decode cX4_goOn 20 = .ok (.aload_n 0, 1) := by decide +kernel
theorem dX4_goOn_21 : decode cX4_goOn 21 = .ok (.getfield 21, 3) := by decide +kernel
theorem dX4_goOn_24 : decode cX4_goOn 24 = .ok (.imul, 1) := by decide +kernel
theorem dX4_goOn_25 : decode cX4_goOn 25 = .ok (.iadd, 1) := by decide +kernel
theorem dX4_goOn_26 : decode cX4_goOn 26 = .ok (.aload_n 0, 1) := by decide +kernel
theorem dX4_goOn_27 : decode cX4_goOn 27 = .ok (.getfield 31, 3) := by decide +kernel
theorem dX4_goOn_30 : decode cX4_goOn 30 = .ok (.if_icmp .ge 4, 3) := by decide +kernel
theorem dX4_goOn_33 : decode cX4_goOn 33 = .ok (.return_, 1) := by decide +kernel
theorem dX4_goOn_34 : decode cX4_goOn 34 = .ok (.iload_n 2, 1) := by decide +kernel
theorem dX4_goOn_35 : decode cX4_goOn 35 = .ok (.aload_n 0, 1) := by decide +kernel
theorem dX4_goOn_36 : decode cX4_goOn 36 = .ok (.getfield 37, 3) := by decide +kernel
theorem dX4_goOn_39 : decode cX4_goOn 39 = .ok (.if_icmp .ge 12, 3) := by decide +kernel
theorem dX4_goOn_42 : decode cX4_goOn 42 = .ok (.iload_n 2, 1) := by decide +kernel
theorem dX4_goOn_43 : decode cX4_goOn 43 = .ok (.aload_n 0, 1) := by decide +kernel
theorem dX4_goOn_44 : decode cX4_goOn 44 = .ok (.getfield 15, 3) := by decide +kernel
theorem dX4_goOn_47 : decode cX4_goOn 47 = .ok (.arraylength, 1) := by decide +kernel
theorem dX4_goOn_48 : decode cX4_goOn 48 = .ok (.if_icmp .lt 28, 3) := by decide +kernel
theorem dX4_goOn_51 : decode cX4_goOn 51 = .ok (.aload_n 0, 1) := by decide +kernel
theorem dX4_goOn_52 : decode cX4_goOn 52 = .ok (.getfield 15, 3) := by decide +kernel
theorem dX4_goOn_55 : decode cX4_goOn 55 = .ok (.iconst 0, 1) := by decide +kernel
theorem dX4_goOn_56 : decode cX4_goOn 56 = .ok (.aload_n 0, 1) := by decide +kernel
theorem dX4_goOn_57 : decode cX4_goOn 57 = .ok (.getfield 18, 3) := by decide +kernel
theorem dX4_goOn_60 : decode cX4_goOn 60 = .ok (.iconst 0, 1) := by decide +kernel
theorem dX4_goOn_61 : decode cX4_goOn 61 = .ok (.aload_n 0, 1) := by decide +kernel
theorem dX4_goOn_62 : decode cX4_goOn 62 = .ok (.getfield 15, 3) := by decide +kernel
theorem dX4_goOn_65 : decode cX4_goOn 65 = .ok (.arraylength, 1) := by decide +kernel
theorem dX4_goOn_66 : decode cX4_goOn 66 = .ok (.invokestatic 52, 3) := by decide +kernel
theorem dX4_goOn_69 : decode cX4_goOn 69 = .ok (.aload_n 0, 1) := by decide +kernel
theorem dX4_goOn_70 : decode cX4_goOn 70 = .ok (.iload 6, 2) := by decide +kernel
theorem dX4_goOn_72 : decode cX4_goOn 72 = .ok (.putfield 34, 3) := by decide +kernel
theorem dX4_goOn_75 : decode cX4_goOn 75 = .ok (.return_, 1) := by decide +kernel
theorem dX4_goOn_76 : decode cX4_goOn 76 = .ok (.iconst 0, 1) := by decide +kernel
theorem dX4_goOn_77 : decode cX4_goOn 77 = .ok (.istore 8, 2) := by decide +kernel
theorem dX4_goOn_79 : decode cX4_goOn 79 = .ok (.iload 8, 2) := by decide +kernel
theorem dX4_goOn_81 : decode cX4_goOn 81 = .ok (.aload_n 1, 1) := by decide +kernel
theorem dX4_goOn_82 : decode cX4_goOn 82 = .ok (.getfield 40, 3) := by decide +kernel
theorem dX4_goOn_85 : decode cX4_goOn 85 = .ok (.if_icmp .ge 112, 3) := by decide +kernel
theorem dX4_goOn_88 : decode cX4_goOn 88 = .ok (.iload 8, 2) := by decide +kernel
theorem dX4_goOn_90 : decode cX4_goOn 90 = .ok (.aload_n 0, 1) := by decide +kernel
theorem dX4_goOn_91 : decode cX4_goOn 91 = .ok (.getfield 9, 3) := by decide +kernel
theorem dX4_goOn_94 : decode cX4_goOn 94 = .ok (.arraylength, 1) := by decide +kernel
theorem dX4_goOn_95 : decode cX4_goOn 95 = .ok (.if_icmp .ge 102, 3) := by decide +kernel
theorem dX4_goOn_98 : decode cX4_goOn 98 = .ok (.aload_n 1, 1) := by decide +kernel
theorem dX4_goOn_99 : decode cX4_goOn 99 = .ok (.iload 4, 2) := by decide +kernel
theorem dX4_goOn_101 : decode cX4_goOn 101 = .ok (.iload 8, 2) := by decide +kernel
theorem dX4_goOn_103 : decode cX4_goOn 103 = .ok (.invokevirtual 58, 3) := by decide +kernel
theorem dX4_goOn_106 : decode cX4_goOn 106 = .ok (.istore 9, 2) := by decide +kernel
theorem dX4_goOn_108 : decode cX4_goOn 108 = .ok (.iload 9, 2) := by decide +kernel
theorem dX4_goOn_110 : decode cX4_goOn 110 = .ok (.bipush (-9), 2) := by decide +kernel
theorem dX4_goOn_112 : decode cX4_goOn 112 = .ok (.if_icmp .eq 79, 3) := by decide +kernel
theorem dX4_goOn_115 : decode cX4_goOn 115 = .ok (.iload_n 3, 1) := by decide +kernel
theorem dX4_goOn_116 : decode cX4_goOn 116 = .ok (.iload 8, 2) := by decide +kernel
theorem dX4_goOn_118 : decode cX4_goOn 118 = .ok (.ishr, 1) := by decide +kernel
theorem dX4_goOn_119 : decode cX4_goOn 119 = .ok (.iconst 1, 1) := by decide +kernel
theorem dX4_goOn_120 : decode cX4_goOn 120 = .ok (.iand, 1) := by decide +kernel
theorem dX4_goOn_121 : decode cX4_goOn 121 = .ok (.ifCond .ne 70, 3) := by decide +kernel
theorem dX4_goOn_124 : decode cX4_goOn 124 = .ok (.aload_n 0, 1) := by decide +kernel
theorem dX4_goOn_125 : decode cX4_goOn 125 = .ok (.aload_n 1, 1) := by decide +kernel
theorem dX4_goOn_126 : decode cX4_goOn 126 = .ok (.iload 8, 2) := by decide +kernel
theorem dX4_goOn_128 : decode cX4_goOn 128 = .ok (.iload 9, 2) := by decide +kernel
theorem dX4_goOn_130 : decode cX4_goOn 130 = .ok (.iload 5, 2) := by decide +kernel
theorem dX4_goOn_132 : decode cX4_goOn 132 = .ok (.iload 6, 2) := by decide +kernel
theorem dX4_goOn_134 : decode cX4_goOn 134 = .ok (.invokevirtual 61, 3) := by decide +kernel
theorem dX4_goOn_137 : decode cX4_goOn 137 = .ok (.ifCond .eq 54, 3) := by decide +kernel
theorem dX4_goOn_140 : decode cX4_goOn 140 = .ok (.aload_n 0, 1) := by decide +kernel
theorem dX4_goOn_141 : decode cX4_goOn 141 = .ok (.getfield 15, 3) := by decide +kernel
theorem dX4_goOn_144 : decode cX4_goOn 144 = .ok (.iload_n 2, 1) := by decide +kernel
theorem dX4_goOn_145 : decode cX4_goOn 145 = .ok (.iload 8, 2) := by decide +kernel
theorem dX4_goOn_147 : decode cX4_goOn 147 = .ok (.iastore, 1) := by decide +kernel
theorem dX4_goOn_148 : decode cX4_goOn 148 = .ok (.iload 5, 2) := by decide +kernel
theorem dX4_goOn_150 : decode cX4_goOn 150 = .ok (.aload_n 1, 1) := by decide +kernel
theorem dX4_goOn_151 : decode cX4_goOn 151 = .ok (.getfield 49, 3) := by decide +kernel
theorem dX4_goOn_154 : decode cX4_goOn 154 = .ok (.iload 9, 2) := by decide +kernel
theorem dX4_goOn_156 : decode cX4_goOn 156 = .ok (.imul, 1) := by decide +kernel
theorem dX4_goOn_157 : decode cX4_goOn 157 = .ok (.isub, 1) := by decide +kernel
theorem dX4_goOn_158 : decode cX4_goOn 158 = .ok (.aload_n 0, 1) := by decide +kernel
theorem dX4_goOn_159 : decode cX4_goOn 159 = .ok (.getfield 9, 3) := by decide +kernel
theorem dX4_goOn_162 : decode cX4_goOn 162 = .ok (.iload 8, 2) := by decide +kernel
theorem dX4_goOn_164 : decode cX4_goOn 164 = .ok (.iaload, 1) := by decide +kernel
theorem dX4_goOn_165 : decode cX4_goOn 165 = .ok (.iadd, 1) := by decide +kernel
theorem dX4_goOn_166 : decode cX4_goOn 166 = .ok (.istore 10, 2) := by decide +kernel
theorem dX4_goOn_168 : decode cX4_goOn 168 = .ok (.aload_n 0, 1) := by decide +kernel
theorem dX4_goOn_169 : decode cX4_goOn 169 = .ok (.aload_n 1, 1) := by decide +kernel
theorem dX4_goOn_170 : decode cX4_goOn 170 = .ok (.iload_n 2, 1) := by decide +kernel
theorem dX4_goOn_171 : decode cX4_goOn 171 = .ok (.iconst 1, 1) := by decide +kernel
theorem dX4_goOn_172 : decode cX4_goOn 172 = .ok (.iadd, 1) := by decide +kernel
theorem dX4_goOn_173 : decode cX4_goOn 173 = .ok (.iload_n 3, 1) := by decide +kernel
theorem dX4_goOn_174 : decode cX4_goOn 174 = .ok (.iconst 1, 1) := by decide +kernel
theorem dX4_goOn_175 : decode cX4_goOn 175 = .ok (.iload 8, 2) := by decide +kernel
theorem dX4_goOn_177 : decode cX4_goOn 177 = .ok (.ishl, 1) := by decide +kernel
theorem dX4_goOn_178 : decode cX4_goOn 178 = .ok (.ior, 1) := by decide +kernel
theorem dX4_goOn_179 : decode cX4_goOn 179 = .ok (.iload 8, 2) := by decide +kernel
theorem dX4_goOn_181 : decode cX4_goOn 181 = .ok (.iload 10, 2) := by decide +kernel
theorem dX4_goOn_183 : decode cX4_goOn 183 = .ok (.iload 6, 2) := by decide +kernel
theorem dX4_goOn_185 : decode cX4_goOn 185 = .ok (.iload 9, 2) := by decide +kernel
theorem dX4_goOn_187 : decode cX4_goOn 187 = .ok (.iadd, 1) := by decide +kernel
theorem dX4_goOn_188 : decode cX4_goOn 188 = .ok (.invokevirtual 45, 3) := by decide +kernel
theorem dX4_goOn_191 : decode cX4_goOn 191 = .ok (.iinc 8 1, 3) := by decide +kernel
theorem dX4_goOn_194 : decode cX4_goOn 194 = .ok (.goto (-115), 3) := by decide +kernel
theorem dX4_goOn_197 : decode cX4_goOn 197 = .ok (.return_, 1) := by decide +kernel
theorem dX4_isWorthGoing_0 : decode cX4_isWorthGoing 0 = .ok (.aload_n 0, 1) := by decide +kernel
theorem dX4_isWorthGoing_1 : decode cX4_isWorthGoing 1 = .ok (.getfield 34, 3) := by decide +kernel
theorem dX4_isWorthGoing_4 : decode cX4_isWorthGoing 4 = .ok (.bipush (-9), 2) := by decide +kernel
theorem dX4_isWorthGoing_6 : decode cX4_isWorthGoing 6 = .ok (.if_icmp .eq 14, 3) := by decide +kernel
theorem dX4_isWorthGoing_9 : decode cX4_isWorthGoing 9 = .ok (.iload 5, 2) := by decide +kernel
theorem dX4_isWorthGoing_11 : decode cX4_isWorthGoing 11 = .ok (.iload_n 3, 1) := by decide +kernel
theorem dX4_isWorthGoing_12 : decode cX4_isWorthGoing 12 = .ok (.iadd, 1) := by decide +kernel
theorem dX4_isWorthGoing_13 : decode cX4_isWorthGoing 13 = .ok (.aload_n 0, 1) := by decide +kernel
theorem dX4_isWorthGoing_14 : decode cX4_isWorthGoing 14 = .ok (.getfield 34, 3) := by decide +kernel
theorem dX4_isWorthGoing_17 : decode cX4_isWorthGoing 17 = .ok (.if_icmp .ge 7, 3) := by decide +kernel
theorem dX4_isWorthGoing_20 : decode cX4_isWorthGoing 20 = .ok (.iconst 1, 1) := by decide +kernel
theorem dX4_isWorthGoing_21 : decode cX4_isWorthGoing 21 = .ok (.goto 4, 3) := by decide +kernel
theorem dX4_isWorthGoing_24 : decode cX4_isWorthGoing 24 = .ok (.iconst 0, 1) := by decide +kernel
theorem dX4_isWorthGoing_25 : decode cX4_isWorthGoing 25 = .ok (.istore 6, 2) := by decide +kernel
theorem dX4_isWorthGoing_27 : decode cX4_isWorthGoing 27 = .ok (.iload 6, 2) := by decide +kernel
theorem dX4_isWorthGoing_29 : decode cX4_isWorthGoing 29 = .ok (.ifCond .eq 41, 3) := by decide +kernel
theorem dX4_isWorthGoing_32 : decode cX4_isWorthGoing 32 = .ok (.iconst 0, 1) := by decide +kernel
theorem dX4_isWorthGoing_33 : decode cX4_isWorthGoing 33 = .ok (.iload_n 2, 1) := by decide +kernel
theorem dX4_isWorthGoing_34 : decode cX4_isWorthGoing 34 = .ok (.if_icmp .gt 36, 3) := by decide +kernel
theorem dX4_isWorthGoing_37 : decode cX4_isWorthGoing 37 = .ok (.iload_n 2, 1) := by decide +kernel
theorem dX4_isWorthGoing_38 : decode cX4_isWorthGoing 38 = .ok (.aload_n 0, 1) := by decide +kernel
theorem dX4_isWorthGoing_39 : decode cX4_isWorthGoing 39 = .ok (.getfield 9, 3) := by decide +kernel
theorem dX4_isWorthGoing_42 : decode cX4_isWorthGoing 42 = .ok (.arraylength, 1) := by decide +kernel
theorem dX4_isWorthGoing_43 : decode cX4_isWorthGoing 43 = .ok (.if_icmp .ge 27, 3) := by decide +kernel
theorem dX4_isWorthGoing_46 : decode cX4_isWorthGoing 46 = .ok (.aload_n 0, 1) := by decide +kernel
theorem dX4_isWorthGoing_47 : decode cX4_isWorthGoing 47 = .ok (.getfield 9, 3) := by decide +kernel
theorem dX4_isWorthGoing_50 : decode cX4_isWorthGoing 50 = .ok (.iload_n 2, 1) := by decide +kernel
theorem dX4_isWorthGoing_51 : decode cX4_isWorthGoing 51 = .ok (.iaload, 1) := by decide +kernel
theorem dX4_isWorthGoing_52 : decode cX4_isWorthGoing 52 = .ok (.ifCond .le 18, 3) := by decide +kernel
theorem dX4_isWorthGoing_55 : decode cX4_isWorthGoing 55 = .ok (.iload 4, 2) := by decide +kernel
theorem dX4_isWorthGoing_57 : decode cX4_isWorthGoing 57 = .ok (.aload_n 1, 1) := by decide +kernel
theorem dX4_isWorthGoing_58 : decode cX4_isWorthGoing 58 = .ok (.getfield 49, 3) := by decide +kernel
theorem dX4_isWorthGoing_61 : decode cX4_isWorthGoing 61 = .ok (.iload_n 3, 1) := by decide +kernel
theorem dX4_isWorthGoing_62 : decode cX4_isWorthGoing 62 = .ok (.imul, 1) := by decide +kernel
theorem dX4_isWorthGoing_63 : decode cX4_isWorthGoing 63 = .ok (.if_icmp .lt 7, 3) := by decide +kernel
theorem dX4_isWorthGoing_66 : decode cX4_isWorthGoing 66 = .ok (.iconst 1, 1) := by decide +kernel
theorem dX4_isWorthGoing_67 : decode cX4_isWorthGoing 67 = .ok (.goto 4, 3) := by decide +kernel
theorem dX4_isWorthGoing_70 : decode cX4_isWorthGoing 70 = .ok (.iconst 0, 1) := by decide +kernel
theorem dX4_isWorthGoing_71 : decode cX4_isWorthGoing 71 = .ok (.ireturn, 1) := by decide +kernel
theorem dJ6_bitCount_0f7a4_0 : decode cJ6_bitCount_0f7a4 0 = .ok (.iload_n 0, 1) := by decide +kernel
theorem dJ6_bitCount_0f7a4_1 : decode cJ6_bitCount_0f7a4 1 = .ok (.iload_n 0, 1) := by decide +kernel
theorem dJ6_bitCount_0f7a4_2 : decode cJ6_bitCount_0f7a4 2 = .ok (.iconst 1, 1) := by decide +kernel
theorem dJ6_bitCount_0f7a4_3 : decode cJ6_bitCount_0f7a4 3 = .ok (.iushr, 1) := by decide +kernel
theorem dJ6_bitCount_0f7a4_4 : decode cJ6_bitCount_0f7a4 4 = .ok (.ldc_w 265, 3) := by decide +kernel
theorem dJ6_bitCount_0f7a4_7 : decode cJ6_bitCount_0f7a4 7 = .ok (.iand, 1) := by decide +kernel
theorem dJ6_bitCount_0f7a4_8 : decode cJ6_bitCount_0f7a4 8 = .ok (.isub, 1) := by decide +kernel
theorem dJ6_bitCount_0f7a4_9 : decode cJ6_bitCount_0f7a4 9 = .ok (.istore_n 0, 1) := by decide +kernel
theorem dJ6_bitCount_0f7a4_10 : decode cJ6_bitCount_0f7a4 10 = .ok (.iload_n 0, 1) := by decide +kernel
theorem dJ6_bitCount_0f7a4_11 : decode cJ6_bitCount_0f7a4 11 = .ok (.ldc_w 266, 3) := by decide +kernel
theorem dJ6_bitCount_0f7a4_14 : decode cJ6_bitCount_0f7a4 14 = .ok (.iand, 1) := by decide +kernel
theorem dJ6_bitCount_0f7a4_15 : decode cJ6_bitCount_0f7a4 15 = .ok (.iload_n 0, 1) := by decide +kernel
theorem dJ6_bitCount_0f7a4_16 : decode cJ6_bitCount_0f7a4 16 = .ok (.iconst 2, 1) := by decide +kernel
theorem dJ6_bitCount_0f7a4_17 : decode cJ6_bitCount_0f7a4 17 = .ok (.iushr, 1) := by decide +kernel
theorem dJ6_bitCount_0f7a4_18 : decode cJ6_bitCount_0f7a4 18 = .ok (.ldc_w 266, 3) := by decide +kernel
theorem dJ6_bitCount_0f7a4_21 : decode cJ6_bitCount_0f7a4 21 = .ok (.iand, 1) := by decide +kernel
theorem dJ6_bitCount_0f7a4_22 : decode cJ6_bitCount_0f7a4 22 = .ok (.iadd, 1) := by decide +kernel
theorem dJ6_bitCount_0f7a4_23 : decode cJ6_bitCount_0f7a4 23 = .ok (.istore_n 0, 1) := by decide +kernel
theorem dJ6_bitCount_0f7a4_24 : decode cJ6_bitCount_0f7a4 24 = .ok (.iload_n 0, 1) := by decide +kernel
theorem dJ6_bitCount_0f7a4_25 : decode cJ6_bitCount_0f7a4 25 = .ok (.iload_n 0, 1) := by decide +kernel
theorem dJ6_bitCount_0f7a4_26 : decode cJ6_bitCount_0f7a4 26 = .ok (.iconst 4, 1) := by decide +kernel
theorem dJ6_bitCount_0f7a4_27 : decode cJ6_bitCount_0f7a4 27 = .ok (.iushr, 1) := by decide +kernel
theorem dJ6_bitCount_0f7a4_28 : decode cJ6_bitCount_0f7a4 28 = .ok (.iadd, 1) := by decide +kernel
theorem dJ6_bitCount_0f7a4_29 : decode cJ6_bitCount_0f7a4 29 = .ok (.ldc_w 267, 3) := by decide +kernel
theorem dJ6_bitCount_0f7a4_32 : decode cJ6_bitCount_0f7a4 32 = .ok (.iand, 1) := by decide +kernel
theorem dJ6_bitCount_0f7a4_33 : decode cJ6_bitCount_0f7a4 33 = .ok (.istore_n 0, 1) := by decide +kernel
theorem dJ6_bitCount_0f7a4_34 : decode cJ6_bitCount_0f7a4 34 = .ok (.iload_n 0, 1) := by decide +kernel
theorem dJ6_bitCount_0f7a4_35 : decode cJ6_bitCount_0f7a4 35 = .ok (.iload_n 0, 1) := by decide +kernel
theorem dJ6_bitCount_0f7a4_36 : decode cJ6_bitCount_0f7a4 36 = .ok (.bipush 8, 2) := by decide +kernel
theorem dJ6_bitCount_0f7a4_38 : decode cJ6_bitCount_0f7a4 38 = .ok (.iushr, 1) := by decide +kernel
theorem dJ6_bitCount_0f7a4_39 : decode cJ6_bitCount_0f7a4 39 = .ok (.iadd, 1) := by decide +kernel
theorem dJ6_bitCount_0f7a4_40 : decode cJ6_bitCount_0f7a4 40 = .ok (.istore_n 0, 1) := by decide +kernel
theorem dJ6_bitCount_0f7a4_41 : decode cJ6_bitCount_0f7a4 41 = .ok (.iload_n 0, 1) := by decide +kernel
theorem dJ6_bitCount_0f7a4_42 : decode cJ6_bitCount_0f7a4 42 = .ok (.iload_n 0, 1) := by decide +kernel
theorem dJ6_bitCount_0f7a4_43 : decode cJ6_bitCount_0f7a4 43 = .ok (.bipush 16, 2) := by decide +kernel
theorem dJ6_bitCount_0f7a4_45 : decode cJ6_bitCount_0f7a4 45 = .ok (.iushr, 1) := by decide +kernel
theorem dJ6_bitCount_0f7a4_46 : decode cJ6_bitCount_0f7a4 46 = .ok (.iadd, 1) := by decide +kernel
theorem dJ6_bitCount_0f7a4_47 : decode cJ6_bitCount_0f7a4 47 = .ok (.istore_n 0, 1) := by decide +kernel
theorem dJ6_bitCount_0f7a4_48 : decode cJ6_bitCount_0f7a4 48 = .ok (.iload_n 0, 1) := by decide +kernel
theorem dJ6_bitCount_0f7a4_49 : decode cJ6_bitCount_0f7a4 49 = .ok (.bipush 63, 2) := by decide +kernel
theorem dJ6_bitCount_0f7a4_51 : decode cJ6_bitCount_0f7a4 51 = .ok (.iand, 1) := by decide +kernel
theorem dJ6_bitCount_0f7a4_52 : decode cJ6_bitCount_0f7a4 52 = .ok (.ireturn, 1) := by decide +kernel
theorem dJ9_max_7cf53_0 : decode cJ9_max_7cf53 0 = .ok (.iload_n 0, 1) := by decide +kernel
theorem dJ9_max_7cf53_1 : decode cJ9_max_7cf53 1 = .ok (.iload_n 1, 1) := by decide +kernel
theorem dJ9_max_7cf53_2 : decode cJ9_max_7cf53 2 = .ok (.if_icmp .lt 7, 3) := by decide +kernel
theorem dJ9_max_7cf53_5 : decode cJ9_max_7cf53 5 = .ok (.iload_n 0, 1) := by decide +kernel
theorem dJ9_max_7cf53_6 : decode cJ9_max_7cf53 6 = .ok (.goto 4, 3) := by decide +kernel
theorem dJ9_max_7cf53_9 : decode cJ9_max_7cf53 9 = .ok (.iload_n 1, 1) := by decide +kernel
theorem dJ9_max_7cf53_10 : decode cJ9_max_7cf53 10 = .ok (.ireturn, 1) := by decide +kernel
theorem dJ9_min_7cf53_0 : decode cJ9_min_7cf53 0 = .ok (.iload_n 0, 1) := by decide +kernel
theorem dJ9_min_7cf53_1 : decode cJ9_min_7cf53 1 = .ok (.iload_n 1, 1) := by decide +kernel
theorem dJ9_min_7cf53_2 : decode cJ9_min_7cf53 2 = .ok (.if_icmp .gt 7, 3) := by decide +kernel
theorem dJ9_min_7cf53_5 : decode cJ9_min_7cf53 5 = .ok (.iload_n 0, 1) := by decide +kernel
theorem dJ9_min_7cf53_6 : decode cJ9_min_7cf53 6 = .ok (.goto 4, 3) := by decide +kernel
theorem dJ9_min_7cf53_9 : decode cJ9_min_7cf53 9 = .ok (.iload_n 1, 1) := by decide +kernel
theorem dJ9_min_7cf53_10 : decode cJ9_min_7cf53 10 = .ok (.ireturn, 1) := by decide +kernel
theorem dJ7_fill_53178_0 : decode cJ7_fill_53178 0 = .ok (.iconst 0, 1) := by decide +kernel
theorem dJ7_fill_53178_1 : decode cJ7_fill_53178 1 = .ok (.istore_n 2, 1) := by decide +kernel
theorem dJ7_fill_53178_2 : decode cJ7_fill_53178 2 = .ok (.aload_n 0, 1) := by decide +kernel
theorem dJ7_fill_53178_3 : decode cJ7_fill_53178 3 = .ok (.arraylength, 1) := by decide +kernel
theorem dJ7_fill_53178_4 : decode cJ7_fill_53178 4 = .ok (.istore_n 3, 1) := by decide +kernel
theorem dJ7_fill_53178_5 : decode cJ7_fill_53178 5 = .ok (.iload_n 2, 1) := by decide +kernel
theorem dJ7_fill_53178_6 : decode cJ7_fill_53178 6 = .ok (.iload_n 3, 1) := by decide +kernel
theorem dJ7_fill_53178_7 : decode cJ7_fill_53178 7 = .ok (.if_icmp .ge 13, 3) := by decide +kernel
theorem dJ7_fill_53178_10 : decode cJ7_fill_53178 10 = .ok (.aload_n 0, 1) := by decide +kernel
theorem dJ7_fill_53178_11 : decode cJ7_fill_53178 11 = .ok (.iload_n 2, 1) := by decide +kernel
theorem dJ7_fill_53178_12 : decode cJ7_fill_53178 12 = .ok (.iload_n 1, 1) := by decide +kernel
theorem dJ7_fill_53178_13 : decode cJ7_fill_53178 13 = .ok (.iastore, 1) := by decide +kernel
theorem dJ7_fill_53178_14 : decode cJ7_fill_53178 14 = .ok (.iinc 2 1, 3) := by decide +kernel
theorem dJ7_fill_53178_17 : decode cJ7_fill_53178 17 = .ok (.goto (-12), 3) := by decide +kernel
theorem dJ7_fill_53178_20 : decode cJ7_fill_53178 20 = .ok (.return_, 1) := by decide +kernel
end
section
theorem dX5_init_0 : decode cX5_init 0 = .ok (.aload_n 0, 1) := by decide +kernel
theorem dX5_init_1 : decode cX5_init 1 = .ok (.invokespecial 1, 3) := by decide +kernel
theorem dX5_init_4 : decode cX5_init 4 = .ok (.aload_n 0, 1) := by decide +kernel
theorem dX5_init_5 : decode cX5_init 5 = .ok (.new 7, 3) := by decide +kernel
theorem dX5_init_8 : decode cX5_init 8 = .ok (.dup, 1) := by decide +kernel
theorem dX5_init_9 : decode cX5_init 9 = .ok (.invokespecial 9, 3) := by decide +kernel
theorem dX5_init_12 : decode cX5_init 12 = .ok (.putfield 10, 3) := by decide +kernel
theorem dX5_init_15 : decode cX5_init 15 = .ok (.aload_n 0, 1) := by decide +kernel
theorem dX5_init_16 : decode cX5_init 16 = .ok (.new 16, 3) := by decide +kernel
theorem dX5_init_19 : decode cX5_init 19 = .ok (.dup, 1) := by decide +kernel
theorem dX5_init_20 : decode cX5_init 20 = .ok (.invokespecial 18, 3) := by decide +kernel
theorem dX5_init_23 : decode cX5_init 23 = .ok (.putfield 19, 3) := by decide +kernel
theorem dX5_init_26 : decode cX5_init 26 = .ok (.aload_n 0, 1) := by decide +kernel
theorem dX5_init_27 : decode cX5_init 27 = .ok (.iconst 2, 1) := by decide +kernel
theorem dX5_init_28 : decode cX5_init 28 = .ok (.anewarray 16, 3) := by decide +kernel
theorem dX5_init_31 : decode cX5_init 31 = .ok (.dup, 1) := by decide +kernel
theorem dX5_init_32 : decode cX5_init 32 = .ok (.iconst 0, 1) := by decide +kernel
theorem dX5_init_33 : decode cX5_init 33 = .ok (.new 16, 3) := by decide +kernel
theorem dX5_init_36 : decode cX5_init 36 = .ok (.dup, 1) := by decide +kernel
theorem dX5_init_37 : decode cX5_init 37 = .ok (.invokespecial 18, 3) := by decide +kernel
theorem dX5_init_40 : decode cX5_init 40 = .ok (.aastore, 1) := by decide +kernel
theorem dX5_init_41 : decode cX5_init 41 = .ok (.dup, 1) := by decide +kernel
theorem dX5_init_42 : decode cX5_init 42 = .ok (.iconst 1, 1) := by decide +kernel
theorem dX5_init_43 : decode cX5_init 43 = .ok (.new 16, 3) := by decide +kernel
theorem dX5_init_46 : decode cX5_init 46 = .ok (.dup, 1) := by decide +kernel
theorem dX5_init_47 : decode cX5_init 47 = .ok (.invokespecial 18, 3) := by decide +kernel
theorem dX5_init_50 : decode cX5_init 50 = .ok (.aastore, 1) := by decide +kernel
theorem dX5_init_51 : decode cX5_init 51 = .ok (.putfield 23, 3) := by decide +kernel
theorem dX5_init_54 : decode cX5_init 54 = .ok (.aload_n 0, 1) := by decide +kernel
theorem dX5_init_55 : decode cX5_init 55 = .ok (.bipush 6, 2) := by decide +kernel
theorem dX5_init_57 : decode cX5_init 57 = .ok (.newarray .int, 2) := by decide +kernel
theorem dX5_init_59 : decode cX5_init 59 = .ok (.putfield 27, 3) := by decide +kernel
theorem dX5_init_62 : decode cX5_init 62 = .ok (.aload_n 0, 1) := by decide +kernel
theorem dX5_init_63 : decode cX5_init 63 = .ok (.new 31, 3) := by decide +kernel
theorem dX5_init_66 : decode cX5_init 66 = .ok (.dup, 1) := by decide +kernel
theorem dX5_init_67 : decode cX5_init 67 = .ok (.invokespecial 33, 3) := by decide +kernel
theorem dX5_init_70 : decode cX5_init 70 = .ok (.putfield 34, 3) := by decide +kernel
theorem dX5_init_73 : decode cX5_init 73 = .ok (.aload_n 0, 1) := by decide +kernel
theorem dX5_init_74 : decode cX5_init 74 = .ok (.new 38, 3) := by decide +kernel
theorem dX5_init_77 : decode cX5_init 77 = .ok (.dup, 1) := by decide +kernel
theorem dX5_init_78 : decode cX5_init 78 = .ok (.invokespecial 40, 3) := by decide +kernel
theorem dX5_init_81 : decode cX5_init 81 = .ok (.putfield 41, 3) := by decide +kernel
theorem dX5_init_84 : decode cX5_init 84 = .ok (.aload_n 0, 1) := by decide +kernel
theorem dX5_init_85 : decode cX5_init 85 = .ok (.new 45, 3) := by decide +kernel
theorem dX5_init_88 : decode cX5_init 88 = .ok (.dup, 1) := by decide +kernel
theorem dX5_init_89 : decode cX5_init 89 = .ok (.invokespecial 47, 3) := by decide +kernel
theorem dX5_init_92 : decode cX5_init 92 = .ok (.putfield 48, 3) := by decide +kernel
theorem dX5_init_95 : decode cX5_init 95 = .ok (.aload_n 0, 1) := by decide +kernel
theorem dX5_init_96 : decode cX5_init 96 = .ok (.new 45, 3) := by decide +kernel
theorem dX5_init_99 : decode cX5_init 99 = .ok (.dup, 1) := by decide +kernel
theorem dX5_init_100 : decode cX5_init 100 = .ok (.invokespecial 47, 3) := by decide +kernel
theorem dX5_init_103 : decode cX5_init 103 = .ok (.putfield 52, 3) := by decide +kernel
theorem dX5_init_106 : decode cX5_init 106 = .ok (.aload_n 0, 1) := by decide +kernel
theorem dX5_init_107 : decode cX5_init 107 = .ok (.getfield 19, 3) := by decide +kernel
theorem dX5_init_110 : decode cX5_init 110 = .ok (.aload_n 0, 1) := by decide +kernel
theorem dX5_init_111 : decode cX5_init 111 = .ok (.getfield 48, 3) := by decide +kernel
theorem dX5_init_114 : decode cX5_init 114 = .ok (.invokevirtual 55, 3) := by decide +kernel
theorem dX5_init_117 : decode cX5_init 117 = .ok (.return_, 1) := by decide +kernel
theorem dX5_type_0 : decode cX5_type 0 = .ok (.iload_n 1, 1) := by decide +kernel
theorem dX5_type_1 : decode cX5_type 1 = .ok (.iconst 0, 1) := by decide +kernel
theorem dX5_type_2 : decode cX5_type 2 = .ok (.sipush 255, 3) := by decide +kernel
theorem dX5_type_5 : decode cX5_type 5 = .ok (.invokestatic 59, 3) := by decide +kernel
theorem dX5_type_8 : decode cX5_type 8 = .ok (.ifCond .ne 5, 3) := by decide +kernel
theorem dX5_type_11 : decode cX5_type 11 = .ok (.iconst (-1), 1) := by decide +kernel
theorem dX5_type_12 : decode cX5_type 12 = .ok (.ireturn, 1) := by decide +kernel
theorem dX5_type_13 : decode cX5_type 13 = .ok (.aload_n 0, 1) := by decide +kernel
theorem dX5_type_14 : decode cX5_type 14 = .ok (.getfield 10, 3) := by decide +kernel
theorem dX5_type_17 : decode cX5_type 17 = .ok (.iload_n 1, 1) := by decide +kernel
theorem dX5_type_18 : decode cX5_type 18 = .ok (.invokevirtual 63, 3) := by decide +kernel
theorem dX5_type_21 : decode cX5_type 21 = .ok (.ifCond .eq 13, 3) := by decide +kernel
theorem dX5_type_24 : decode cX5_type 24 = .ok (.aload_n 0, 1) := by decide +kernel
theorem dX5_type_25 : decode cX5_type 25 = .ok (.getfield 10, 3) := by decide +kernel
theorem dX5_type_28 : decode cX5_type 28 = .ok (.getfield 67, 3) := by decide +kernel
theorem dX5_type_31 : decode cX5_type 31 = .ok (.goto 5, 3) := by decide +kernel
theorem dX5_type_34 : decode cX5_type 34 = .ok (.bipush (-3), 2) := by decide +kernel
theorem dX5_type_36 : decode cX5_type 36 = .ok (.ireturn, 1) := by decide +kernel
theorem dX5_clear_0 : decode cX5_clear 0 = .ok (.aload_n 0, 1) := by decide +kernel
theorem dX5_clear_1 : decode cX5_clear 1 = .ok (.getfield 10, 3) := by decide +kernel
theorem dX5_clear_4 : decode cX5_clear 4 = .ok (.getfield 67, 3) := by decide +kernel
theorem dX5_clear_7 : decode cX5_clear 7 = .ok (.istore_n 1, 1) := by decide +kernel
theorem dX5_clear_8 : decode cX5_clear 8 = .ok (.aload_n 0, 1) := by decide +kernel
theorem dX5_clear_9 : decode cX5_clear 9 = .ok (.getfield 10, 3) := by decide +kernel
theorem dX5_clear_12 : decode cX5_clear 12 = .ok (.iconst 0, 1) := by decide +kernel
theorem dX5_clear_13 : decode cX5_clear 13 = .ok (.putfield 67, 3) := by decide +kernel
theorem dX5_clear_16 : decode cX5_clear 16 = .ok (.iload_n 1, 1) := by decide +kernel
theorem dX5_clear_17 : decode cX5_clear 17 = .ok (.ireturn, 1) := by decide +kernel
theorem dX5_land_0 : decode cX5_land 0 = .ok (.aload_n 0, 1) := by decide +kernel
theorem dX5_land_1 : decode cX5_land 1 = .ok (.getfield 52, 3) := by decide +kernel
theorem dX5_land_4 : decode cX5_land 4 = .ok (.aload_n 0, 1) := by decide +kernel
theorem dX5_land_5 : decode cX5_land 5 = .ok (.getfield 10, 3) := by decide +kernel
theorem dX5_land_8 : decode cX5_land 8 = .ok (.invokevirtual 71, 3) := by decide +kernel
theorem dX5_land_11 : decode cX5_land 11 = .ok (.istore_n 1, 1) := by decide +kernel
theorem dX5_land_12 : decode cX5_land 12 = .ok (.iload_n 1, 1) := by decide +kernel
theorem dX5_land_13 : decode cX5_land 13 = .ok (.ifCond .ge 5, 3) := by decide +kernel
theorem dX5_land_16 : decode cX5_land 16 = .ok (.iload_n 1, 1) := by decide +kernel
theorem dX5_land_17 : decode cX5_land 17 = .ok (.ireturn, 1) := by decide +kernel
theorem dX5_land_18 : decode cX5_land 18 = .ok (.aload_n 0, 1) := by decide +kernel
theorem dX5_land_19 : decode cX5_land 19 = .ok (.getfield 48, 3) := by decide +kernel
theorem dX5_land_22 : decode cX5_land 22 = .ok (.astore_n 2, 1) := by decide +kernel
theorem dX5_land_23 : decode cX5_land 23 = .ok (.aload_n 0, 1) := by decide +kernel
theorem dX5_land_24 : decode cX5_land 24 = .ok (.aload_n 0, 1) := by decide +kernel
theorem dX5_land_25 : decode cX5_land 25 = .ok (.getfield 52, 3) := by decide +kernel
theorem dX5_land_28 : decode cX5_land 28 = .ok (.putfield 48, 3) := by decide +kernel
theorem dX5_land_31 : decode cX5_land 31 = .ok (.aload_n 0, 1) := by decide +kernel
theorem dX5_land_32 : decode cX5_land 32 = .ok (.aload_n 2, 1) := by decide +kernel
theorem dX5_land_33 : decode cX5_land 33 = .ok (.putfield 52, 3) := by decide +kernel
theorem dX5_land_36 : decode cX5_land 36 = .ok (.aload_n 0, 1) := by decide +kernel
theorem dX5_land_37 : decode cX5_land 37 = .ok (.getfield 10, 3) := by decide +kernel
theorem dX5_land_40 : decode cX5_land 40 = .ok (.iconst 0, 1) := by decide +kernel
theorem dX5_land_41 : decode cX5_land 41 = .ok (.putfield 67, 3) := by decide +kernel
theorem dX5_land_44 : decode cX5_land 44 = .ok (.aload_n 0, 1) := by decide +kernel
theorem dX5_land_45 : decode cX5_land 45 = .ok (.getfield 19, 3) := by decide +kernel
theorem dX5_land_48 : decode cX5_land 48 = .ok (.aload_n 0, 1) := by decide +kernel
theorem dX5_land_49 : decode cX5_land 49 = .ok (.getfield 48, 3) := by decide +kernel
theorem dX5_land_52 : decode cX5_land 52 = .ok (.invokevirtual 55, 3) := by decide +kernel
theorem dX5_land_55 : decode cX5_land 55 = .ok (.aload_n 0, 1) := by decide +kernel
theorem dX5_land_56 : decode cX5_land 56 = .ok (.iconst 0, 1) := by decide +kernel
theorem dX5_land_57 : decode cX5_land 57 = .ok (.putfield 75, 3) := by decide +kernel
theorem dX5_land_60 : decode cX5_land 60 = .ok (.iload_n 1, 1) := by decide +kernel
theorem dX5_land_61 : decode cX5_land 61 = .ok (.ireturn, 1) := by decide +kernel
theorem dX5_village_0 : decode cX5_village 0 = .ok (.aload_n 0, 1) := by decide +kernel
theorem dX5_village_1 : decode cX5_village 1 = .ok (.getfield 48, 3) := by decide +kernel
theorem dX5_village_4 : decode cX5_village 4 = .ok (.iload_n 1, 1) := by decide +kernel
theorem dX5_village_5 : decode cX5_village 5 = .ok (.invokevirtual 78, 3) := by decide +kernel
theorem dX5_village_8 : decode cX5_village 8 = .ok (.ifCond .ne 5, 3) := by decide +kernel
theorem dX5_village_11 : decode cX5_village 11 = .ok (.iconst (-1), 1) := by decide +kernel
theorem dX5_village_12 : decode cX5_village 12 = .ok (.ireturn, 1) := by decide +kernel
theorem dX5_village_13 : decode cX5_village 13 = .ok (.iload_n 2, 1) := by decide +kernel
theorem dX5_village_14 : decode cX5_village 14 = .ok (.tableswitch 121 0 6 #[42, 53, 65, 74, 91, 103, 115], 42) := by decide +kernel
theorem dX5_village_56 : decode cX5_village 56 = .ok (.aload_n 0, 1) := by decide +kernel
theorem dX5_village_57 : decode cX5_village 57 = .ok (.getfield 19, 3) := by decide +kernel
theorem dX5_village_60 : decode cX5_village 60 = .ok (.iconst 4, 1) := by decide +kernel
theorem dX5_village_61 : decode cX5_village 61 = .ok (.iload_n 1, 1) := by decide +kernel
theorem dX5_village_62 : decode cX5_village 62 = .ok (.iadd, 1) := by decide +kernel
theorem dX5_village_63 : decode cX5_village 63 = .ok (.invokevirtual 81, 3) := by decide +kernel
theorem dX5_village_66 : decode cX5_village 66 = .ok (.ireturn, 1) := by decide +kernel
theorem dX5_village_67 : decode cX5_village 67 = .ok (.aload_n 0, 1) := by decide +kernel
theorem dX5_village_68 : decode cX5_village 68 = .ok (.getfield 19, 3) := by decide +kernel
theorem dX5_village_71 : decode cX5_village 71 = .ok (.bipush 10, 2) := by decide +kernel
theorem dX5_village_73 : decode cX5_village 73 = .ok (.iload_n 1, 1) := by decide +kernel
theorem dX5_village_74 : decode cX5_village 74 = .ok (.iadd, 1) := by decide +kernel
theorem dX5_village_75 : decode cX5_village 75 = .ok (.invokevirtual 81, 3) := by decide +kernel
theorem dX5_village_78 : decode cX5_village 78 = .ok (.ireturn, 1) := by decide +kernel
theorem dX5_village_79 : decode cX5_village 79 = .ok (.aload_n 0, 1) := by decide +kernel
theorem dX5_village_80 : decode cX5_village 80 = .ok (.getfield 48, 3) := by decide +kernel
theorem dX5_village_83 : decode cX5_village 83 = .ok (.iload_n 1, 1) := by decide +kernel
theorem dX5_village_84 : decode cX5_village 84 = .ok (.invokevirtual 85, 3) := by decide +kernel
theorem dX5_village_87 : decode cX5_village 87 = .ok (.ireturn, 1) := by decide +kernel
theorem dX5_village_88 : decode cX5_village 88 = .ok (.aload_n 0, 1) := by decide +kernel
theorem dX5_village_89 : decode cX5_village 89 = .ok (.getfield 48, 3) := by decide +kernel
theorem dX5_village_92 : decode cX5_village 92 = .ok (.iload_n 1, 1) := by decide +kernel
theorem dX5_village_93 : decode cX5_village 93 = .ok (.invokevirtual 88, 3) := by decide +kernel
theorem dX5_village_96 : decode cX5_village 96 = .ok (.ifCond .eq 7, 3) := by decide +kernel
theorem dX5_village_99 : decode cX5_village 99 = .ok (.iconst 1, 1) := by decide +kernel
theorem dX5_village_100 : decode cX5_village 100 = .ok (.goto 4, 3) := by decide +kernel
theorem dX5_village_103 : decode cX5_village 103 = .ok (.iconst 0, 1) := by decide +kernel
theorem dX5_village_104 : decode cX5_village 104 = .ok (.ireturn, 1) := by decide +kernel
theorem dX5_village_105 : decode cX5_village 105 = .ok (.aload_n 0, 1) := by decide +kernel
theorem dX5_village_106 : decode cX5_village 106 = .ok (.getfield 19, 3) := by decide +kernel
theorem dX5_village_109 : decode cX5_village 109 = .ok (.bipush 16, 2) := by decide +kernel
theorem dX5_village_111 : decode cX5_village 111 = .ok (.iload_n 1, 1) := by decide +kernel
theorem dX5_village_112 : decode cX5_village 112 = .ok (.iadd, 1) := by decide +kernel
theorem dX5_village_113 : decode cX5_village 113 = .ok (.invokevirtual 81, 3) := by decide +kernel
theorem dX5_village_116 : decode cX5_village 116 = .ok (.ireturn, 1) := by decide +kernel
theorem dX5_village_117 : decode cX5_village 117 = .ok (.aload_n 0, 1) := by decide +kernel
theorem dX5_village_118 : decode cX5_village 118 = .ok (.getfield 19, 3) := by decide +kernel
theorem dX5_village_121 : decode cX5_village 121 = .ok (.bipush 22, 2) := by decide +kernel
theorem dX5_village_123 : decode cX5_village 123 = .ok (.iload_n 1, 1) := by decide +kernel
theorem dX5_village_124 : decode cX5_village 124 = .ok (.iadd, 1) := by decide +kernel
theorem dX5_village_125 : decode cX5_village 125 = .ok (.invokevirtual 81, 3) := by decide +kernel
theorem dX5_village_128 : decode cX5_village 128 = .ok (.ireturn, 1) := by decide +kernel
theorem dX5_village_129 : decode cX5_village 129 = .ok (.aload_n 0, 1) := by decide +kernel
theorem dX5_village_130 : decode cX5_village 130 = .ok (.iload_n 1, 1) := by decide +kernel
theorem dX5_village_131 : decode cX5_village 131 = .ok (.invokevirtual 91, 3) := by decide +kernel
theorem dX5_village_134 : decode cX5_village 134 = .ok (.ireturn, 1) := by decide +kernel
theorem dX5_village_135 : decode cX5_village 135 = .ok (.iconst (-1), 1) := by decide +kernel
theorem dX5_village_136 : decode cX5_village 136 = .ok (.ireturn, 1) := by decide +kernel
theorem dX5_far_0 : decode cX5_far 0 = .ok (.aload_n 0, 1) := by decide +kernel
theorem dX5_far_1 : decode cX5_far 1 = .ok (.getfield 48, 3) := by decide +kernel
theorem dX5_far_4 : decode cX5_far 4 = .ok (.iload_n 1, 1) := by decide +kernel
theorem dX5_far_5 : decode cX5_far 5 = .ok (.invokevirtual 78, 3) := by decide +kernel
theorem dX5_far_8 : decode cX5_far 8 = .ok (.ifCond .eq 14, 3) := by decide +kernel
theorem dX5_far_11 : decode cX5_far 11 = .ok (.aload_n 0, 1) := by decide +kernel
theorem dX5_far_12 : decode cX5_far 12 = .ok (.getfield 48, 3) := by decide +kernel
theorem dX5_far_15 : decode cX5_far 15 = .ok (.iload_n 2, 1) := by decide +kernel
theorem dX5_far_16 : decode cX5_far 16 = .ok (.invokevirtual 78, 3) := by decide +kernel
theorem dX5_far_19 : decode cX5_far 19 = .ok (.ifCond .ne 5, 3) := by decide +kernel
theorem dX5_far_22 : decode cX5_far 22 = .ok (.iconst (-1), 1) := by decide +kernel
theorem dX5_far_23 : decode cX5_far 23 = .ok (.ireturn, 1) := by decide +kernel
theorem dX5_far_24 : decode cX5_far 24 = .ok (.aload_n 0, 1) := by decide +kernel
theorem dX5_far_25 : decode cX5_far 25 = .ok (.getfield 48, 3) := by decide +kernel
theorem dX5_far_28 : decode cX5_far 28 = .ok (.iload_n 1, 1) := by decide +kernel
theorem dX5_far_29 : decode cX5_far 29 = .ok (.iload_n 2, 1) := by decide +kernel
theorem dX5_far_30 : decode cX5_far 30 = .ok (.invokevirtual 94, 3) := by decide +kernel
theorem dX5_far_33 : decode cX5_far 33 = .ok (.ireturn, 1) := by decide +kernel
theorem dX5_owes_0 : decode cX5_owes 0 = .ok (.aload_n 0, 1) := by decide +kernel
theorem dX5_owes_1 : decode cX5_owes 1 = .ok (.getfield 48, 3) := by decide +kernel
theorem dX5_owes_4 : decode cX5_owes 4 = .ok (.iload_n 1, 1) := by decide +kernel
theorem dX5_owes_5 : decode cX5_owes 5 = .ok (.invokevirtual 78, 3) := by decide +kernel
theorem dX5_owes_8 : decode cX5_owes 8 = .ok (.ifCond .eq 19, 3) := by decide +kernel
theorem dX5_owes_11 : decode cX5_owes 11 = .ok (.aload_n 0, 1) := by decide +kernel
theorem dX5_owes_12 : decode cX5_owes 12 = .ok (.getfield 48, 3) := by decide +kernel
theorem dX5_owes_15 : decode cX5_owes 15 = .ok (.iload_n 2, 1) := by decide +kernel
theorem dX5_owes_16 : decode cX5_owes 16 = .ok (.invokevirtual 78, 3) := by decide +kernel
theorem dX5_owes_19 : decode cX5_owes 19 = .ok (.ifCond .eq 8, 3) := by decide +kernel
theorem dX5_owes_22 : decode cX5_owes 22 = .ok (.iload_n 1, 1) := by decide +kernel
theorem dX5_owes_23 : decode cX5_owes 23 = .ok (.iload_n 2, 1) := by decide +kernel
theorem dX5_owes_24 : decode cX5_owes 24 = .ok (.if_icmp .ne 5, 3) := by decide +kernel
theorem dX5_owes_27 : decode cX5_owes 27 = .ok (.iconst (-1), 1) := by decide +kernel
theorem dX5_owes_28 : decode cX5_owes 28 = .ok (.ireturn, 1) := by decide +kernel
theorem dX5_owes_29 : decode cX5_owes 29 = .ok (.aload_n 0, 1) := by decide +kernel
theorem dX5_owes_30 : decode cX5_owes 30 = .ok (.getfield 48, 3) := by decide +kernel
theorem dX5_owes_33 : decode cX5_owes 33 = .ok (.iload_n 1, 1) := by decide +kernel
theorem dX5_owes_34 : decode cX5_owes 34 = .ok (.iload_n 2, 1) := by decide +kernel
theorem dX5_owes_35 : decode cX5_owes 35 = .ok (.invokevirtual 98, 3) := by decide +kernel
theorem dX5_owes_38 : decode cX5_owes 38 = .ok (.ireturn, 1) := by decide +kernel
theorem dX5_goes_0 : decode cX5_goes 0 = .ok (.aload_n 0, 1) := by decide +kernel
theorem dX5_goes_1 : decode cX5_goes 1 = .ok (.getfield 48, 3) := by decide +kernel
theorem dX5_goes_4 : decode cX5_goes 4 = .ok (.iload_n 1, 1) := by decide +kernel
theorem dX5_goes_5 : decode cX5_goes 5 = .ok (.invokevirtual 78, 3) := by decide +kernel
theorem dX5_goes_8 : decode cX5_goes 8 = .ok (.ifCond .ne 5, 3) := by decide +kernel
theorem dX5_goes_11 : decode cX5_goes 11 = .ok (.iconst (-1), 1) := by decide +kernel
theorem dX5_goes_12 : decode cX5_goes 12 = .ok (.ireturn, 1) := by decide +kernel
theorem dX5_goes_13 : decode cX5_goes 13 = .ok (.aload_n 0, 1) := by decide +kernel
theorem dX5_goes_14 : decode cX5_goes 14 = .ok (.getfield 48, 3) := by decide +kernel
theorem dX5_goes_17 : decode cX5_goes 17 = .ok (.aload_n 0, 1) := by decide +kernel
theorem dX5_goes_18 : decode cX5_goes 18 = .ok (.getfield 19, 3) := by decide +kernel
theorem dX5_goes_21 : decode cX5_goes 21 = .ok (.iconst 0, 1) := by decide +kernel
theorem dX5_goes_22 : decode cX5_goes 22 = .ok (.invokevirtual 81, 3) := by decide +kernel
theorem dX5_goes_25 : decode cX5_goes 25 = .ok (.iload_n 1, 1) := by decide +kernel
theorem dX5_goes_26 : decode cX5_goes 26 = .ok (.invokevirtual 94, 3) := by decide +kernel
theorem dX5_goes_29 : decode cX5_goes 29 = .ok (.istore_n 2, 1) := by decide +kernel
theorem dX5_goes_30 : decode cX5_goes 30 = .ok (.iload_n 2, 1) := by decide +kernel
theorem dX5_goes_31 : decode cX5_goes 31 = .ok (.bipush (-9), 2) := by decide +kernel
theorem dX5_goes_33 : decode cX5_goes 33 = .ok (.if_icmp .eq 23, 3) := by decide +kernel
theorem dX5_goes_36 : decode cX5_goes 36 = .ok (.iload_n 2, 1) := by decide +kernel
theorem dX5_goes_37 : decode cX5_goes 37 = .ok (.ifCond .eq 19, 3) := by decide +kernel
theorem dX5_goes_40 : decode cX5_goes 40 = .ok (.aload_n 0, 1) := by decide +kernel
theorem dX5_goes_41 : decode cX5_goes 41 = .ok (.getfield 19, 3) := by decide +kernel
theorem dX5_goes_44 : decode cX5_goes 44 = .ok (.iconst 1, 1) := by decide +kernel
theorem dX5_goes_45 : decode cX5_goes 45 = .ok (.invokevirtual 81, 3) := by decide +kernel
theorem dX5_goes_48 : decode cX5_goes 48 = .ok (.iload_n 2, 1) := by decide +kernel
theorem dX5_goes_49 : decode cX5_goes 49 = .ok (.iadd, 1) := by decide +kernel
theorem dX5_goes_50 : decode cX5_goes 50 = .ok (.sipush 999, 3) := by decide +kernel
theorem dX5_goes_53 : decode cX5_goes 53 = .ok (.if_icmp .le 6, 3) := by decide +kernel
theorem dX5_goes_56 : decode cX5_goes 56 = .ok (.bipush (-2), 2) := by decide +kernel
theorem dX5_goes_58 : decode cX5_goes 58 = .ok (.ireturn, 1) := by decide +kernel
theorem dX5_goes_59 : decode cX5_goes 59 = .ok (.aload_n 0, 1) := by decide +kernel
theorem dX5_goes_60 : decode cX5_goes 60 = .ok (.getfield 19, 3) := by decide +kernel
theorem dX5_goes_63 : decode cX5_goes 63 = .ok (.invokevirtual 101, 3) := by decide +kernel
theorem dX5_goes_66 : decode cX5_goes 66 = .ok (.aload_n 0, 1) := by decide +kernel
theorem dX5_goes_67 : decode cX5_goes 67 = .ok (.getfield 19, 3) := by decide +kernel
theorem dX5_goes_70 : decode cX5_goes 70 = .ok (.iload_n 2, 1) := by decide +kernel
theorem dX5_goes_71 : decode cX5_goes 71 = .ok (.aload_n 0, 1) := by decide +kernel
theorem dX5_goes_72 : decode cX5_goes 72 = .ok (.getfield 48, 3) := by decide +kernel
theorem dX5_goes_75 : decode cX5_goes 75 = .ok (.getfield 104, 3) := by decide +kernel
theorem dX5_goes_78 : decode cX5_goes 78 = .ok (.invokevirtual 107, 3) := by decide +kernel
theorem dX5_goes_81 : decode cX5_goes 81 = .ok (.aload_n 0, 1) := by decide +kernel
theorem dX5_goes_82 : decode cX5_goes 82 = .ok (.getfield 19, 3) := by decide +kernel
theorem dX5_goes_85 : decode cX5_goes 85 = .ok (.iconst 0, 1) := by decide +kernel
theorem dX5_goes_86 : decode cX5_goes 86 = .ok (.iload_n 1, 1) := by decide +kernel
theorem dX5_goes_87 : decode cX5_goes 87 = .ok (.invokevirtual 111, 3) := by decide +kernel
theorem dX5_goes_90 : decode cX5_goes 90 = .ok (.aload_n 0, 1) := by decide +kernel
theorem dX5_goes_91 : decode cX5_goes 91 = .ok (.getfield 19, 3) := by decide +kernel
theorem dX5_goes_94 : decode cX5_goes 94 = .ok (.iconst 1, 1) := by decide +kernel
theorem dX5_goes_95 : decode cX5_goes 95 = .ok (.invokevirtual 81, 3) := by decide +kernel
theorem dX5_goes_98 : decode cX5_goes 98 = .ok (.ireturn, 1) := by decide +kernel
theorem dX5_stays_0 : decode cX5_stays 0 = .ok (.aload_n 0, 1) := by decide +kernel
theorem dX5_stays_1 : decode cX5_stays 1 = .ok (.getfield 48, 3) := by decide +kernel
theorem dX5_stays_4 : decode cX5_stays 4 = .ok (.getfield 114, 3) := by decide +kernel
theorem dX5_stays_7 : decode cX5_stays 7 = .ok (.ifCond .eq 17, 3) := by decide +kernel
theorem dX5_stays_10 : decode cX5_stays 10 = .ok (.aload_n 0, 1) := by decide +kernel
theorem dX5_stays_11 : decode cX5_stays 11 = .ok (.getfield 19, 3) := by decide +kernel
theorem dX5_stays_14 : decode cX5_stays 14 = .ok (.iconst 1, 1) := by decide +kernel
theorem dX5_stays_15 : decode cX5_stays 15 = .ok (.invokevirtual 81, 3) := by decide +kernel
theorem dX5_stays_18 : decode cX5_stays 18 = .ok (.sipush 999, 3) := by decide +kernel
theorem dX5_stays_21 : decode cX5_stays 21 = .ok (.if_icmp .lt 6, 3) := by decide +kernel
theorem dX5_stays_24 : decode cX5_stays 24 = .ok (.bipush (-2), 2) := by decide +kernel
theorem dX5_stays_26 : decode cX5_stays 26 = .ok (.ireturn, 1) := by decide +kernel
theorem dX5_stays_27 : decode cX5_stays 27 = .ok (.aload_n 0, 1) := by decide +kernel
theorem dX5_stays_28 : decode cX5_stays 28 = .ok (.getfield 19, 3) := by decide +kernel
theorem dX5_stays_31 : decode cX5_stays 31 = .ok (.invokevirtual 101, 3) := by decide +kernel
theorem dX5_stays_34 : decode cX5_stays 34 = .ok (.aload_n 0, 1) := by decide +kernel
theorem dX5_stays_35 : decode cX5_stays 35 = .ok (.getfield 19, 3) := by decide +kernel
theorem dX5_stays_38 : decode cX5_stays 38 = .ok (.iconst 1, 1) := by decide +kernel
theorem dX5_stays_39 : decode cX5_stays 39 = .ok (.aload_n 0, 1) := by decide +kernel
theorem dX5_stays_40 : decode cX5_stays 40 = .ok (.getfield 48, 3) := by decide +kernel
theorem dX5_stays_43 : decode cX5_stays 43 = .ok (.getfield 104, 3) := by decide +kernel
theorem dX5_stays_46 : decode cX5_stays 46 = .ok (.invokevirtual 107, 3) := by decide +kernel
theorem dX5_stays_49 : decode cX5_stays 49 = .ok (.aload_n 0, 1) := by decide +kernel
theorem dX5_stays_50 : decode cX5_stays 50 = .ok (.getfield 19, 3) := by decide +kernel
theorem dX5_stays_53 : decode cX5_stays 53 = .ok (.iconst 1, 1) := by decide +kernel
theorem dX5_stays_54 : decode cX5_stays 54 = .ok (.invokevirtual 81, 3) := by decide +kernel
theorem dX5_stays_57 : decode cX5_stays 57 = .ok (.ireturn, 1) := by decide +kernel
theorem dX5_takes_0 : decode cX5_takes 0 = .ok (.iload_n 1, 1) := by decide +kernel
theorem dX5_takes_1 : decode cX5_takes 1 = .ok (.iconst 1, 1) := by decide +kernel
theorem dX5_takes_2 : decode cX5_takes 2 = .ok (.bipush 60, 2) := by decide +kernel
theorem dX5_takes_4 : decode cX5_takes 4 = .ok (.invokestatic 59, 3) := by decide +kernel
theorem dX5_takes_7 : decode cX5_takes 7 = .ok (.ifCond .ne 5, 3) := by decide +kernel
theorem dX5_takes_10 : decode cX5_takes 10 = .ok (.iconst (-1), 1) := by decide +kernel
theorem dX5_takes_11 : decode cX5_takes 11 = .ok (.ireturn, 1) := by decide +kernel
theorem dX5_takes_12 : decode cX5_takes 12 = .ok (.aload_n 0, 1) := by decide +kernel
theorem dX5_takes_13 : decode cX5_takes 13 = .ok (.getfield 19, 3) := by decide +kernel
theorem dX5_takes_16 : decode cX5_takes 16 = .ok (.iconst 0, 1) := by decide +kernel
theorem dX5_takes_17 : decode cX5_takes 17 = .ok (.invokevirtual 81, 3) := by decide +kernel
theorem dX5_takes_20 : decode cX5_takes 20 = .ok (.istore_n 2, 1) := by decide +kernel
theorem dX5_takes_21 : decode cX5_takes 21 = .ok (.aload_n 0, 1) := by decide +kernel
theorem dX5_takes_22 : decode cX5_takes 22 = .ok (.getfield 48, 3) := by decide +kernel
theorem dX5_takes_25 : decode cX5_takes 25 = .ok (.iload_n 1, 1) := by decide +kernel
theorem dX5_takes_26 : decode cX5_takes 26 = .ok (.invokevirtual 117, 3) := by decide +kernel
theorem dX5_takes_29 : decode cX5_takes 29 = .ok (.istore_n 3, 1) := by decide +kernel
theorem dX5_takes_30 : decode cX5_takes 30 = .ok (.aload_n 0, 1) := by decide +kernel
theorem dX5_takes_31 : decode cX5_takes 31 = .ok (.getfield 48, 3) := by decide +kernel
theorem dX5_takes_34 : decode cX5_takes 34 = .ok (.iload_n 2, 1) := by decide +kernel
theorem dX5_takes_35 : decode cX5_takes 35 = .ok (.invokevirtual 78, 3) := by decide +kernel
theorem dX5_takes_38 : decode cX5_takes 38 = .ok (.ifCond .eq 28, 3) := by decide +kernel
theorem dX5_takes_41 : decode cX5_takes 41 = .ok (.aload_n 0, 1) := by decide +kernel
theorem dX5_takes_42 : decode cX5_takes 42 = .ok (.getfield 48, 3) := by decide +kernel
theorem dX5_takes_45 : decode cX5_takes 45 = .ok (.iload_n 2, 1) := by decide +kernel
theorem dX5_takes_46 : decode cX5_takes 46 = .ok (.invokevirtual 88, 3) := by decide +kernel
theorem dX5_takes_49 : decode cX5_takes 49 = .ok (.ifCond .ne 17, 3) := by decide +kernel
theorem dX5_takes_52 : decode cX5_takes 52 = .ok (.aload_n 0, 1) := by decide +kernel
theorem dX5_takes_53 : decode cX5_takes 53 = .ok (.getfield 19, 3) := by decide +kernel
theorem dX5_takes_56 : decode cX5_takes 56 = .ok (.iconst 4, 1) := by decide +kernel
theorem dX5_takes_57 : decode cX5_takes 57 = .ok (.iload_n 2, 1) := by decide +kernel
theorem dX5_takes_58 : decode cX5_takes 58 = .ok (.iadd, 1) := by decide +kernel
theorem dX5_takes_59 : decode cX5_takes 59 = .ok (.invokevirtual 81, 3) := by decide +kernel
theorem dX5_takes_62 : decode cX5_takes 62 = .ok (.iload_n 1, 1) := by decide +kernel
theorem dX5_takes_63 : decode cX5_takes 63 = .ok (.if_icmp .ge 6, 3) := by decide +kernel
theorem dX5_takes_66 : decode cX5_takes 66 = .ok (.bipush (-2), 2) := by decide +kernel
theorem dX5_takes_68 : decode cX5_takes 68 = .ok (.ireturn, 1) := by decide +kernel
theorem dX5_takes_69 : decode cX5_takes 69 = .ok (.aload_n 0, 1) := by decide +kernel
theorem dX5_takes_70 : decode cX5_takes 70 = .ok (.getfield 19, 3) := by decide +kernel
theorem dX5_takes_73 : decode cX5_takes 73 = .ok (.iconst 2, 1) := by decide +kernel
theorem dX5_takes_74 : decode cX5_takes 74 = .ok (.invokevirtual 81, 3) := by decide +kernel
theorem dX5_takes_77 : decode cX5_takes 77 = .ok (.iload_n 1, 1) := by decide +kernel
theorem dX5_takes_78 : decode cX5_takes 78 = .ok (.iadd, 1) := by decide +kernel
theorem dX5_takes_79 : decode cX5_takes 79 = .ok (.sipush 999, 3) := by decide +kernel
theorem dX5_takes_82 : decode cX5_takes 82 = .ok (.if_icmp .gt 22, 3) := by decide +kernel
theorem dX5_takes_85 : decode cX5_takes 85 = .ok (.aload_n 0, 1) := by decide +kernel
theorem dX5_takes_86 : decode cX5_takes 86 = .ok (.getfield 19, 3) := by decide +kernel
theorem dX5_takes_89 : decode cX5_takes 89 = .ok (.bipush 16, 2) := by decide +kernel
theorem dX5_takes_91 : decode cX5_takes 91 = .ok (.iload_n 2, 1) := by decide +kernel
theorem dX5_takes_92 : decode cX5_takes 92 = .ok (.iadd, 1) := by decide +kernel
theorem dX5_takes_93 : decode cX5_takes 93 = .ok (.invokevirtual 81, 3) := by decide +kernel
theorem dX5_takes_96 : decode cX5_takes 96 = .ok (.iload_n 3, 1) := by decide +kernel
theorem dX5_takes_97 : decode cX5_takes 97 = .ok (.iadd, 1) := by decide +kernel
theorem dX5_takes_98 : decode cX5_takes 98 = .ok (.sipush 999, 3) := by decide +kernel
theorem dX5_takes_101 : decode cX5_takes 101 = .ok (.if_icmp .le 6, 3) := by decide +kernel
theorem dX5_takes_104 : decode cX5_takes 104 = .ok (.bipush (-2), 2) := by decide +kernel
theorem dX5_takes_106 : decode cX5_takes 106 = .ok (.ireturn, 1) := by decide +kernel
theorem dX5_takes_107 : decode cX5_takes 107 = .ok (.aload_n 0, 1) := by decide +kernel
theorem dX5_takes_108 : decode cX5_takes 108 = .ok (.getfield 19, 3) := by decide +kernel
theorem dX5_takes_111 : decode cX5_takes 111 = .ok (.invokevirtual 101, 3) := by decide +kernel
theorem dX5_takes_114 : decode cX5_takes 114 = .ok (.aload_n 0, 1) := by decide +kernel
theorem dX5_takes_115 : decode cX5_takes 115 = .ok (.getfield 19, 3) := by decide +kernel
theorem dX5_takes_118 : decode cX5_takes 118 = .ok (.iconst 4, 1) := by decide +kernel
theorem dX5_takes_119 : decode cX5_takes 119 = .ok (.iload_n 2, 1) := by decide +kernel
theorem dX5_takes_120 : decode cX5_takes 120 = .ok (.iadd, 1) := by decide +kernel
theorem dX5_takes_121 : decode cX5_takes 121 = .ok (.iload_n 1, 1) := by decide +kernel
theorem dX5_takes_122 : decode cX5_takes 122 = .ok (.ineg, 1) := by decide +kernel
theorem dX5_takes_123 : decode cX5_takes 123 = .ok (.invokevirtual 120, 3) := by decide +kernel
theorem dX5_takes_126 : decode cX5_takes 126 = .ok (.aload_n 0, 1) := by decide +kernel
theorem dX5_takes_127 : decode cX5_takes 127 = .ok (.getfield 19, 3) := by decide +kernel
theorem dX5_takes_130 : decode cX5_takes 130 = .ok (.iconst 2, 1) := by decide +kernel
theorem dX5_takes_131 : decode cX5_takes 131 = .ok (.iload_n 1, 1) := by decide +kernel
theorem dX5_takes_132 : decode cX5_takes 132 = .ok (.invokevirtual 120, 3) := by decide +kernel
theorem dX5_takes_135 : decode cX5_takes 135 = .ok (.aload_n 0, 1) := by decide +kernel
theorem dX5_takes_136 : decode cX5_takes 136 = .ok (.getfield 19, 3) := by decide +kernel
theorem dX5_takes_139 : decode cX5_takes 139 = .ok (.bipush 16, 2) := by decide +kernel
theorem dX5_takes_141 : decode cX5_takes 141 = .ok (.iload_n 2, 1) := by decide +kernel
theorem dX5_takes_142 : decode cX5_takes 142 = .ok (.iadd, 1) := by decide +kernel
theorem dX5_takes_143 : decode cX5_takes 143 = .ok (.iload_n 3, 1) := by decide +kernel
theorem dX5_takes_144 : decode cX5_takes 144 = .ok (.invokevirtual 120, 3) := by decide +kernel
theorem dX5_takes_147 : decode cX5_takes 147 = .ok (.iload_n 3, 1) := by decide +kernel
theorem dX5_takes_148 : decode cX5_takes 148 = .ok (.ireturn, 1) := by decide +kernel
theorem dX5_hides_0 : decode cX5_hides 0 = .ok (.aload_n 0, 1) := by decide +kernel
theorem dX5_hides_1 : decode cX5_hides 1 = .ok (.iload_n 1, 1) := by decide +kernel
theorem dX5_hides_2 : decode cX5_hides 2 = .ok (.iload_n 2, 1) := by decide +kernel
theorem dX5_hides_3 : decode cX5_hides 3 = .ok (.iconst 4, 1) := by decide +kernel
theorem dX5_hides_4 : decode cX5_hides 4 = .ok (.bipush 10, 2) := by decide +kernel
theorem dX5_hides_6 : decode cX5_hides 6 = .ok (.invokevirtual 123, 3) := by decide +kernel
theorem dX5_hides_9 : decode cX5_hides 9 = .ok (.ireturn, 1) := by decide +kernel
theorem dX5_shows_0 : decode cX5_shows 0 = .ok (.aload_n 0, 1) := by decide +kernel
theorem dX5_shows_1 : decode cX5_shows 1 = .ok (.iload_n 1, 1) := by decide +kernel
theorem dX5_shows_2 : decode cX5_shows 2 = .ok (.iload_n 2, 1) := by decide +kernel
theorem dX5_shows_3 : decode cX5_shows 3 = .ok (.bipush 10, 2) := by decide +kernel
theorem dX5_shows_5 : decode cX5_shows 5 = .ok (.iconst 4, 1) := by decide +kernel
theorem dX5_shows_6 : decode cX5_shows 6 = .ok (.invokevirtual 123, 3) := by decide +kernel
theorem dX5_shows_9 : decode cX5_shows 9 = .ok (.ireturn, 1) := by decide +kernel
theorem dX5_pays_0 : decode cX5_pays 0 = .ok (.aload_n 0, 1) := by decide +kernel
theorem dX5_pays_1 : decode cX5_pays 1 = .ok (.getfield 48, 3) := by decide +kernel
theorem dX5_pays_4 : decode cX5_pays 4 = .ok (.iload_n 1, 1) := by decide +kernel
theorem dX5_pays_5 : decode cX5_pays 5 = .ok (.invokevirtual 78, 3) := by decide +kernel
theorem dX5_pays_8 : decode cX5_pays 8 = .ok (.ifCond .ne 5, 3) := by decide +kernel
theorem dX5_pays_11 : decode cX5_pays 11 = .ok (.iconst (-1), 1) := by decide +kernel
theorem dX5_pays_12 : decode cX5_pays 12 = .ok (.ireturn, 1) := by decide +kernel
theorem dX5_pays_13 : decode cX5_pays 13 = .ok (.aload_n 0, 1) := by decide +kernel
theorem dX5_pays_14 : decode cX5_pays 14 = .ok (.getfield 19, 3) := by decide +kernel
theorem dX5_pays_17 : decode cX5_pays 17 = .ok (.bipush 16, 2) := by decide +kernel
theorem dX5_pays_19 : decode cX5_pays 19 = .ok (.iload_n 1, 1) := by decide +kernel
theorem dX5_pays_20 : decode cX5_pays 20 = .ok (.iadd, 1) := by decide +kernel
theorem dX5_pays_21 : decode cX5_pays 21 = .ok (.invokevirtual 81, 3) := by decide +kernel
theorem dX5_pays_24 : decode cX5_pays 24 = .ok (.istore_n 2, 1) := by decide +kernel
theorem dX5_pays_25 : decode cX5_pays 25 = .ok (.aload_n 0, 1) := by decide +kernel
theorem dX5_pays_26 : decode cX5_pays 26 = .ok (.getfield 19, 3) := by decide +kernel
theorem dX5_pays_29 : decode cX5_pays 29 = .ok (.invokevirtual 101, 3) := by decide +kernel
theorem dX5_pays_32 : decode cX5_pays 32 = .ok (.aload_n 0, 1) := by decide +kernel
theorem dX5_pays_33 : decode cX5_pays 33 = .ok (.getfield 19, 3) := by decide +kernel
theorem dX5_pays_36 : decode cX5_pays 36 = .ok (.bipush 16, 2) := by decide +kernel
theorem dX5_pays_38 : decode cX5_pays 38 = .ok (.iload_n 1, 1) := by decide +kernel
theorem dX5_pays_39 : decode cX5_pays 39 = .ok (.iadd, 1) := by decide +kernel
theorem dX5_pays_40 : decode cX5_pays 40 = .ok (.iconst 0, 1) := by decide +kernel
theorem dX5_pays_41 : decode cX5_pays 41 = .ok (.invokevirtual 111, 3) := by decide +kernel
theorem dX5_pays_44 : decode cX5_pays 44 = .ok (.iload_n 2, 1) := by decide +kernel
theorem dX5_pays_45 : decode cX5_pays 45 = .ok (.ireturn, 1) := by decide +kernel
theorem dX5_sells_0 : decode cX5_sells 0 = .ok (.aload_n 0, 1) := by decide +kernel
theorem dX5_sells_1 : decode cX5_sells 1 = .ok (.getfield 48, 3) := by decide +kernel
theorem dX5_sells_4 : decode cX5_sells 4 = .ok (.iload_n 1, 1) := by decide +kernel
theorem dX5_sells_5 : decode cX5_sells 5 = .ok (.invokevirtual 78, 3) := by decide +kernel
theorem dX5_sells_8 : decode cX5_sells 8 = .ok (.ifCond .eq 13, 3) := by decide +kernel
theorem dX5_sells_11 : decode cX5_sells 11 = .ok (.iload_n 2, 1) := by decide +kernel
theorem dX5_sells_12 : decode cX5_sells 12 = .ok (.iconst 1, 1) := by decide +kernel
theorem dX5_sells_13 : decode cX5_sells 13 = .ok (.bipush 99, 2) := by decide +kernel
theorem dX5_sells_15 : decode cX5_sells 15 = .ok (.invokestatic 59, 3) := by decide +kernel
theorem dX5_sells_18 : decode cX5_sells 18 = .ok (.ifCond .ne 5, 3) := by decide +kernel
theorem dX5_sells_21 : decode cX5_sells 21 = .ok (.iconst (-1), 1) := by decide +kernel
theorem dX5_sells_22 : decode cX5_sells 22 = .ok (.ireturn, 1) := by decide +kernel
theorem dX5_sells_23 : decode cX5_sells 23 = .ok (.aload_n 0, 1) := by decide +kernel
theorem dX5_sells_24 : decode cX5_sells 24 = .ok (.getfield 19, 3) := by decide +kernel
theorem dX5_sells_27 : decode cX5_sells 27 = .ok (.bipush 16, 2) := by decide +kernel
theorem dX5_sells_29 : decode cX5_sells 29 = .ok (.iload_n 1, 1) := by decide +kernel
theorem dX5_sells_30 : decode cX5_sells 30 = .ok (.iadd, 1) := by decide +kernel
theorem dX5_sells_31 : decode cX5_sells 31 = .ok (.invokevirtual 81, 3) := by decide +kernel
theorem dX5_sells_34 : decode cX5_sells 34 = .ok (.iload_n 2, 1) := by decide +kernel
theorem dX5_sells_35 : decode cX5_sells 35 = .ok (.if_icmp .ge 6, 3) := by decide +kernel
theorem dX5_sells_38 : decode cX5_sells 38 = .ok (.bipush (-2), 2) := by decide +kernel
theorem dX5_sells_40 : decode cX5_sells 40 = .ok (.ireturn, 1) := by decide +kernel
theorem dX5_sells_41 : decode cX5_sells 41 = .ok (.aload_n 0, 1) := by decide +kernel
theorem dX5_sells_42 : decode cX5_sells 42 = .ok (.getfield 19, 3) := by decide +kernel
theorem dX5_sells_45 : decode cX5_sells 45 = .ok (.invokevirtual 101, 3) := by decide +kernel
theorem dX5_sells_48 : decode cX5_sells 48 = .ok (.aload_n 0, 1) := by decide +kernel
theorem dX5_sells_49 : decode cX5_sells 49 = .ok (.getfield 19, 3) := by decide +kernel
theorem dX5_sells_52 : decode cX5_sells 52 = .ok (.bipush 16, 2) := by decide +kernel
theorem dX5_sells_54 : decode cX5_sells 54 = .ok (.iload_n 1, 1) := by decide +kernel
theorem dX5_sells_55 : decode cX5_sells 55 = .ok (.iadd, 1) := by decide +kernel
theorem dX5_sells_56 : decode cX5_sells 56 = .ok (.iload_n 2, 1) := by decide +kernel
theorem dX5_sells_57 : decode cX5_sells 57 = .ok (.ineg, 1) := by decide +kernel
theorem dX5_sells_58 : decode cX5_sells 58 = .ok (.invokevirtual 120, 3) := by decide +kernel
theorem dX5_sells_61 : decode cX5_sells 61 = .ok (.aload_n 0, 1) := by decide +kernel
theorem dX5_sells_62 : decode cX5_sells 62 = .ok (.getfield 19, 3) := by decide +kernel
theorem dX5_sells_65 : decode cX5_sells 65 = .ok (.bipush 22, 2) := by decide +kernel
theorem dX5_sells_67 : decode cX5_sells 67 = .ok (.iload_n 1, 1) := by decide +kernel
theorem dX5_sells_68 : decode cX5_sells 68 = .ok (.iadd, 1) := by decide +kernel
theorem dX5_sells_69 : decode cX5_sells 69 = .ok (.iload_n 2, 1) := by decide +kernel
theorem dX5_sells_70 : decode cX5_sells 70 = .ok (.iconst 3, 1) := by decide +kernel
theorem dX5_sells_71 : decode cX5_sells 71 = .ok (.idiv, 1) := by decide +kernel
theorem dX5_sells_72 : decode cX5_sells 72 = .ok (.invokevirtual 120, 3) := by decide +kernel
theorem dX5_sells_75 : decode cX5_sells 75 = .ok (.aload_n 0, 1) := by decide +kernel
theorem dX5_sells_76 : decode cX5_sells 76 = .ok (.getfield 19, 3) := by decide +kernel
theorem dX5_sells_79 : decode cX5_sells 79 = .ok (.bipush 22, 2) := by decide +kernel
theorem dX5_sells_81 : decode cX5_sells 81 = .ok (.iload_n 1, 1) := by decide +kernel
theorem dX5_sells_82 : decode cX5_sells 82 = .ok (.iadd, 1) := by decide +kernel
theorem dX5_sells_83 : decode cX5_sells 83 = .ok (.invokevirtual 81, 3) := by decide +kernel
theorem dX5_sells_86 : decode cX5_sells 86 = .ok (.ireturn, 1) := by decide +kernel
theorem dX5_undo_0 : decode cX5_undo 0 = .ok (.aload_n 0, 1) := by decide +kernel
theorem dX5_undo_1 : decode cX5_undo 1 = .ok (.getfield 19, 3) := by decide +kernel
theorem dX5_undo_4 : decode cX5_undo 4 = .ok (.invokevirtual 127, 3) := by decide +kernel
theorem dX5_undo_7 : decode cX5_undo 7 = .ok (.ifCond .eq 13, 3) := by decide +kernel
theorem dX5_undo_10 : decode cX5_undo 10 = .ok (.aload_n 0, 1) := by decide +kernel
theorem dX5_undo_11 : decode cX5_undo 11 = .ok (.getfield 19, 3) := by decide +kernel
theorem dX5_undo_14 : decode cX5_undo 14 = .ok (.getfield 131, 3) := by decide +kernel
theorem dX5_undo_17 : decode cX5_undo 17 = .ok (.goto 5, 3) := by decide +kernel
theorem dX5_undo_20 : decode cX5_undo 20 = .ok (.bipush (-2), 2) := by decide +kernel
theorem dX5_undo_22 : decode cX5_undo 22 = .ok (.ireturn, 1) := by decide +kernel
theorem dX5_now_0 : decode cX5_now 0 = .ok (.iload_n 1, 1) := by decide +kernel
theorem dX5_now_1 : decode cX5_now 1 = .ok (.tableswitch 121 0 6 #[43, 52, 61, 70, 79, 111, 116], 43) := by decide +kernel
theorem dX5_now_44 : decode cX5_now 44 = .ok (.aload_n 0, 1) := by decide +kernel
theorem dX5_now_45 : decode cX5_now 45 = .ok (.getfield 19, 3) := by decide +kernel
theorem dX5_now_48 : decode cX5_now 48 = .ok (.iconst 0, 1) := by decide +kernel
theorem dX5_now_49 : decode cX5_now 49 = .ok (.invokevirtual 81, 3) := by decide +kernel
theorem dX5_now_52 : decode cX5_now 52 = .ok (.ireturn, 1) := by decide +kernel
theorem dX5_now_53 : decode cX5_now 53 = .ok (.aload_n 0, 1) := by decide +kernel
theorem dX5_now_54 : decode cX5_now 54 = .ok (.getfield 19, 3) := by decide +kernel
theorem dX5_now_57 : decode cX5_now 57 = .ok (.iconst 1, 1) := by decide +kernel
theorem dX5_now_58 : decode cX5_now 58 = .ok (.invokevirtual 81, 3) := by decide +kernel
theorem dX5_now_61 : decode cX5_now 61 = .ok (.ireturn, 1) := by decide +kernel
theorem dX5_now_62 : decode cX5_now 62 = .ok (.aload_n 0, 1) := by decide +kernel
theorem dX5_now_63 : decode cX5_now 63 = .ok (.getfield 19, 3) := by decide +kernel
theorem dX5_now_66 : decode cX5_now 66 = .ok (.iconst 2, 1) := by decide +kernel
theorem dX5_now_67 : decode cX5_now 67 = .ok (.invokevirtual 81, 3) := by decide +kernel
theorem dX5_now_70 : decode cX5_now 70 = .ok (.ireturn, 1) := by decide +kernel
theorem dX5_now_71 : decode cX5_now 71 = .ok (.aload_n 0, 1) := by decide +kernel
theorem dX5_now_72 : decode cX5_now 72 = .ok (.getfield 19, 3) := by decide +kernel
theorem dX5_now_75 : decode cX5_now 75 = .ok (.iconst 3, 1) := by decide +kernel
theorem dX5_now_76 : decode cX5_now 76 = .ok (.invokevirtual 81, 3) := by decide +kernel
theorem dX5_now_79 : decode cX5_now 79 = .ok (.ireturn, 1) := by decide +kernel
theorem dX5_now_80 : decode cX5_now 80 = .ok (.aload_n 0, 1) := by decide +kernel
theorem dX5_now_81 : decode cX5_now 81 = .ok (.getfield 48, 3) := by decide +kernel
theorem dX5_now_84 : decode cX5_now 84 = .ok (.getfield 104, 3) := by decide +kernel
theorem dX5_now_87 : decode cX5_now 87 = .ok (.iconst 1, 1) := by decide +kernel
theorem dX5_now_88 : decode cX5_now 88 = .ok (.if_icmp .ge 7, 3) := by decide +kernel
theorem dX5_now_91 : decode cX5_now 91 = .ok (.iconst 0, 1) := by decide +kernel
theorem dX5_now_92 : decode cX5_now 92 = .ok (.goto 19, 3) := by decide +kernel
theorem dX5_now_95 : decode cX5_now 95 = .ok (.aload_n 0, 1) := by decide +kernel
theorem dX5_now_96 : decode cX5_now 96 = .ok (.getfield 19, 3) := by decide +kernel
theorem dX5_now_99 : decode cX5_now 99 = .ok (.iconst 2, 1) := by decide +kernel
theorem dX5_now_100 : decode cX5_now 100 = .ok (.invokevirtual 81, 3) := by decide +kernel
theorem dX5_now_103 : decode cX5_now 103 = .ok (.aload_n 0, 1) := by decide +kernel
theorem dX5_now_104 : decode cX5_now 104 = .ok (.getfield 48, 3) := by decide +kernel
theorem dX5_now_107 : decode cX5_now 107 = .ok (.getfield 104, 3) := by decide +kernel
theorem dX5_now_110 : decode cX5_now 110 = .ok (.idiv, 1) := by decide +kernel
theorem dX5_now_111 : decode cX5_now 111 = .ok (.ireturn, 1) := by decide +kernel
theorem dX5_now_112 : decode cX5_now 112 = .ok (.aload_n 0, 1) := by decide +kernel
theorem dX5_now_113 : decode cX5_now 113 = .ok (.invokevirtual 134, 3) := by decide +kernel
theorem dX5_now_116 : decode cX5_now 116 = .ok (.ireturn, 1) := by decide +kernel
theorem dX5_now_117 : decode cX5_now 117 = .ok (.aload_n 0, 1) := by decide +kernel
theorem dX5_now_118 : decode cX5_now 118 = .ok (.invokevirtual 138, 3) := by decide +kernel
theorem dX5_now_121 : decode cX5_now 121 = .ok (.ireturn, 1) := by decide +kernel
theorem dX5_now_122 : decode cX5_now 122 = .ok (.iconst (-1), 1) := by decide +kernel
theorem dX5_now_123 : decode cX5_now 123 = .ok (.ireturn, 1) := by decide +kernel
theorem dX5_tour_0 : decode cX5_tour 0 = .ok (.iload_n 1, 1) := by decide +kernel
theorem dX5_tour_1 : decode cX5_tour 1 = .ok (.iconst 1, 1) := by decide +kernel
theorem dX5_tour_2 : decode cX5_tour 2 = .ok (.bipush 60, 2) := by decide +kernel
theorem dX5_tour_4 : decode cX5_tour 4 = .ok (.invokestatic 59, 3) := by decide +kernel
theorem dX5_tour_7 : decode cX5_tour 7 = .ok (.ifCond .eq 13, 3) := by decide +kernel
theorem dX5_tour_10 : decode cX5_tour 10 = .ok (.iload_n 2, 1) := by decide +kernel
theorem dX5_tour_11 : decode cX5_tour 11 = .ok (.bipush (-2), 2) := by decide +kernel
theorem dX5_tour_13 : decode cX5_tour 13 = .ok (.iconst 5, 1) := by decide +kernel
theorem dX5_tour_14 : decode cX5_tour 14 = .ok (.invokestatic 59, 3) := by decide +kernel
theorem dX5_tour_17 : decode cX5_tour 17 = .ok (.ifCond .ne 5, 3) := by decide +kernel
theorem dX5_tour_20 : decode cX5_tour 20 = .ok (.iconst (-1), 1) := by decide +kernel
theorem dX5_tour_21 : decode cX5_tour 21 = .ok (.ireturn, 1) := by decide +kernel
theorem dX5_tour_22 : decode cX5_tour 22 = .ok (.aload_n 0, 1) := by decide +kernel
theorem dX5_tour_23 : decode cX5_tour 23 = .ok (.invokevirtual 141, 3) := by decide +kernel
theorem dX5_tour_26 : decode cX5_tour 26 = .ok (.aload_n 0, 1) := by decide +kernel
theorem dX5_tour_27 : decode cX5_tour 27 = .ok (.getfield 19, 3) := by decide +kernel
theorem dX5_tour_30 : decode cX5_tour 30 = .ok (.iconst 2, 1) := by decide +kernel
theorem dX5_tour_31 : decode cX5_tour 31 = .ok (.invokevirtual 81, 3) := by decide +kernel
theorem dX5_tour_34 : decode cX5_tour 34 = .ok (.istore_n 3, 1) := by decide +kernel
theorem dX5_tour_35 : decode cX5_tour 35 = .ok (.aload_n 0, 1) := by decide +kernel
theorem dX5_tour_36 : decode cX5_tour 36 = .ok (.getfield 48, 3) := by decide +kernel
theorem dX5_tour_39 : decode cX5_tour 39 = .ok (.getfield 104, 3) := by decide +kernel
theorem dX5_tour_42 : decode cX5_tour 42 = .ok (.iload_n 1, 1) := by decide +kernel
theorem dX5_tour_43 : decode cX5_tour 43 = .ok (.imul, 1) := by decide +kernel
theorem dX5_tour_44 : decode cX5_tour 44 = .ok (.istore 4, 2) := by decide +kernel
theorem dX5_tour_46 : decode cX5_tour 46 = .ok (.aload_n 0, 1) := by decide +kernel
theorem dX5_tour_47 : decode cX5_tour 47 = .ok (.iload 4, 2) := by decide +kernel
theorem dX5_tour_49 : decode cX5_tour 49 = .ok (.iload_n 3, 1) := by decide +kernel
theorem dX5_tour_50 : decode cX5_tour 50 = .ok (.isub, 1) := by decide +kernel
theorem dX5_tour_51 : decode cX5_tour 51 = .ok (.invokevirtual 144, 3) := by decide +kernel
theorem dX5_tour_54 : decode cX5_tour 54 = .ok (.istore 5, 2) := by decide +kernel
theorem dX5_tour_56 : decode cX5_tour 56 = .ok (.iload 5, 2) := by decide +kernel
theorem dX5_tour_58 : decode cX5_tour 58 = .ok (.bipush (-9), 2) := by decide +kernel
theorem dX5_tour_60 : decode cX5_tour 60 = .ok (.if_icmp .ne 6, 3) := by decide +kernel
theorem dX5_tour_63 : decode cX5_tour 63 = .ok (.bipush (-9), 2) := by decide +kernel
theorem dX5_tour_65 : decode cX5_tour 65 = .ok (.ireturn, 1) := by decide +kernel
theorem dX5_tour_66 : decode cX5_tour 66 = .ok (.aload_n 0, 1) := by decide +kernel
theorem dX5_tour_67 : decode cX5_tour 67 = .ok (.getfield 34, 3) := by decide +kernel
theorem dX5_tour_70 : decode cX5_tour 70 = .ok (.aload_n 0, 1) := by decide +kernel
theorem dX5_tour_71 : decode cX5_tour 71 = .ok (.getfield 48, 3) := by decide +kernel
theorem dX5_tour_74 : decode cX5_tour 74 = .ok (.aload_n 0, 1) := by decide +kernel
theorem dX5_tour_75 : decode cX5_tour 75 = .ok (.getfield 27, 3) := by decide +kernel
theorem dX5_tour_78 : decode cX5_tour 78 = .ok (.iload 5, 2) := by decide +kernel
theorem dX5_tour_80 : decode cX5_tour 80 = .ok (.invokestatic 147, 3) := by decide +kernel
theorem dX5_tour_83 : decode cX5_tour 83 = .ok (.aload_n 0, 1) := by decide +kernel
theorem dX5_tour_84 : decode cX5_tour 84 = .ok (.getfield 19, 3) := by decide +kernel
theorem dX5_tour_87 : decode cX5_tour 87 = .ok (.iconst 0, 1) := by decide +kernel
theorem dX5_tour_88 : decode cX5_tour 88 = .ok (.invokevirtual 81, 3) := by decide +kernel
theorem dX5_tour_91 : decode cX5_tour 91 = .ok (.iload_n 3, 1) := by decide +kernel
theorem dX5_tour_92 : decode cX5_tour 92 = .ok (.iload 4, 2) := by decide +kernel
theorem dX5_tour_94 : decode cX5_tour 94 = .ok (.invokevirtual 152, 3) := by decide +kernel
theorem dX5_tour_97 : decode cX5_tour 97 = .ok (.ifCond .ne 6, 3) := by decide +kernel
theorem dX5_tour_100 : decode cX5_tour 100 = .ok (.bipush (-9), 2) := by decide +kernel
theorem dX5_tour_102 : decode cX5_tour 102 = .ok (.ireturn, 1) := by decide +kernel
theorem dX5_tour_103 : decode cX5_tour 103 = .ok (.iload_n 2, 1) := by decide +kernel
theorem dX5_tour_104 : decode cX5_tour 104 = .ok (.bipush (-2), 2) := by decide +kernel
theorem dX5_tour_106 : decode cX5_tour 106 = .ok (.if_icmp .ne 11, 3) := by decide +kernel
theorem dX5_tour_109 : decode cX5_tour 109 = .ok (.aload_n 0, 1) := by decide +kernel
theorem dX5_tour_110 : decode cX5_tour 110 = .ok (.getfield 34, 3) := by decide +kernel
theorem dX5_tour_113 : decode cX5_tour 113 = .ok (.getfield 156, 3) := by decide +kernel
theorem dX5_tour_116 : decode cX5_tour 116 = .ok (.ireturn, 1) := by decide +kernel
theorem dX5_tour_117 : decode cX5_tour 117 = .ok (.iload_n 2, 1) := by decide +kernel
theorem dX5_tour_118 : decode cX5_tour 118 = .ok (.iconst (-1), 1) := by decide +kernel
theorem dX5_tour_119 : decode cX5_tour 119 = .ok (.if_icmp .ne 13, 3) := by decide +kernel
theorem dX5_tour_122 : decode cX5_tour 122 = .ok (.aload_n 0, 1) := by decide +kernel
theorem dX5_tour_123 : decode cX5_tour 123 = .ok (.getfield 34, 3) := by decide +kernel
theorem dX5_tour_126 : decode cX5_tour 126 = .ok (.getfield 159, 3) := by decide +kernel
theorem dX5_tour_129 : decode cX5_tour 129 = .ok (.goto 11, 3) := by decide +kernel
theorem dX5_tour_132 : decode cX5_tour 132 = .ok (.aload_n 0, 1) := by decide +kernel
theorem dX5_tour_133 : decode cX5_tour 133 = .ok (.getfield 34, 3) := by decide +kernel
theorem dX5_tour_136 : decode cX5_tour 136 = .ok (.iload_n 2, 1) := by decide +kernel
theorem dX5_tour_137 : decode cX5_tour 137 = .ok (.invokevirtual 162, 3) := by decide +kernel
theorem dX5_tour_140 : decode cX5_tour 140 = .ok (.ireturn, 1) := by decide +kernel
theorem dX5_from_0 : decode cX5_from 0 = .ok (.iload_n 1, 1) := by decide +kernel
theorem dX5_from_1 : decode cX5_from 1 = .ok (.iconst 0, 1) := by decide +kernel
theorem dX5_from_2 : decode cX5_from 2 = .ok (.sipush 360, 3) := by decide +kernel
theorem dX5_from_5 : decode cX5_from 5 = .ok (.invokestatic 59, 3) := by decide +kernel
theorem dX5_from_8 : decode cX5_from 8 = .ok (.ifCond .ne 5, 3) := by decide +kernel
theorem dX5_from_11 : decode cX5_from 11 = .ok (.iconst (-1), 1) := by decide +kernel
theorem dX5_from_12 : decode cX5_from 12 = .ok (.ireturn, 1) := by decide +kernel
theorem dX5_from_13 : decode cX5_from 13 = .ok (.aload_n 0, 1) := by decide +kernel
theorem dX5_from_14 : decode cX5_from 14 = .ok (.invokevirtual 141, 3) := by decide +kernel
theorem dX5_from_17 : decode cX5_from 17 = .ok (.aload_n 0, 1) := by decide +kernel
theorem dX5_from_18 : decode cX5_from 18 = .ok (.iload_n 1, 1) := by decide +kernel
theorem dX5_from_19 : decode cX5_from 19 = .ok (.invokevirtual 144, 3) := by decide +kernel
theorem dX5_from_22 : decode cX5_from 22 = .ok (.ireturn, 1) := by decide +kernel
theorem dX5_had_0 : decode cX5_had 0 = .ok (.iload_n 1, 1) := by decide +kernel
theorem dX5_had_1 : decode cX5_had 1 = .ok (.iconst 0, 1) := by decide +kernel
theorem dX5_had_2 : decode cX5_had 2 = .ok (.bipush 60, 2) := by decide +kernel
theorem dX5_had_4 : decode cX5_had 4 = .ok (.invokestatic 59, 3) := by decide +kernel
theorem dX5_had_7 : decode cX5_had 7 = .ok (.ifCond .eq 12, 3) := by decide +kernel
theorem dX5_had_10 : decode cX5_had 10 = .ok (.iload_n 2, 1) := by decide +kernel
theorem dX5_had_11 : decode cX5_had 11 = .ok (.iconst 0, 1) := by decide +kernel
theorem dX5_had_12 : decode cX5_had 12 = .ok (.iconst 1, 1) := by decide +kernel
theorem dX5_had_13 : decode cX5_had 13 = .ok (.invokestatic 59, 3) := by decide +kernel
theorem dX5_had_16 : decode cX5_had 16 = .ok (.ifCond .ne 5, 3) := by decide +kernel
theorem dX5_had_19 : decode cX5_had 19 = .ok (.iconst (-1), 1) := by decide +kernel
theorem dX5_had_20 : decode cX5_had 20 = .ok (.ireturn, 1) := by decide +kernel
theorem dX5_had_21 : decode cX5_had 21 = .ok (.bipush (-9), 2) := by decide +kernel
theorem dX5_had_23 : decode cX5_had 23 = .ok (.istore_n 3, 1) := by decide +kernel
theorem dX5_had_24 : decode cX5_had 24 = .ok (.iconst 1, 1) := by decide +kernel
theorem dX5_had_25 : decode cX5_had 25 = .ok (.istore 4, 2) := by decide +kernel
theorem dX5_had_27 : decode cX5_had 27 = .ok (.iload 4, 2) := by decide +kernel
theorem dX5_had_29 : decode cX5_had 29 = .ok (.bipush 60, 2) := by decide +kernel
theorem dX5_had_31 : decode cX5_had 31 = .ok (.if_icmp .gt 36, 3) := by decide +kernel
theorem dX5_had_34 : decode cX5_had 34 = .ok (.aload_n 0, 1) := by decide +kernel
theorem dX5_had_35 : decode cX5_had 35 = .ok (.getfield 48, 3) := by decide +kernel
theorem dX5_had_38 : decode cX5_had 38 = .ok (.iload 4, 2) := by decide +kernel
theorem dX5_had_40 : decode cX5_had 40 = .ok (.invokevirtual 117, 3) := by decide +kernel
theorem dX5_had_43 : decode cX5_had 43 = .ok (.iload_n 1, 1) := by decide +kernel
theorem dX5_had_44 : decode cX5_had 44 = .ok (.if_icmp .ne 17, 3) := by decide +kernel
theorem dX5_had_47 : decode cX5_had 47 = .ok (.iload_n 2, 1) := by decide +kernel
theorem dX5_had_48 : decode cX5_had 48 = .ok (.iconst 1, 1) := by decide +kernel
theorem dX5_had_49 : decode cX5_had 49 = .ok (.if_icmp .eq 9, 3) := by decide +kernel
theorem dX5_had_52 : decode cX5_had 52 = .ok (.iload_n 3, 1) := by decide +kernel
theorem dX5_had_53 : decode cX5_had 53 = .ok (.bipush (-9), 2) := by decide +kernel
theorem dX5_had_55 : decode cX5_had 55 = .ok (.if_icmp .ne 6, 3) := by decide +kernel
theorem dX5_had_58 : decode cX5_had 58 = .ok (.iload 4, 2) := by decide +kernel
theorem dX5_had_60 : decode cX5_had 60 = .ok (.istore_n 3, 1) := by decide +kernel
theorem dX5_had_61 : decode cX5_had 61 = .ok (.iinc 4 1, 3) := by decide +kernel
theorem dX5_had_64 : decode cX5_had 64 = .ok (.goto (-37), 3) := by decide +kernel
theorem dX5_had_67 : decode cX5_had 67 = .ok (.iload_n 3, 1) := by decide +kernel
theorem dX5_had_68 : decode cX5_had 68 = .ok (.ireturn, 1) := by decide +kernel
theorem dX5_odds_0 : decode cX5_odds 0 = .ok (.iload_n 1, 1) := by decide +kernel
theorem dX5_odds_1 : decode cX5_odds 1 = .ok (.iconst 0, 1) := by decide +kernel
theorem dX5_odds_2 : decode cX5_odds 2 = .ok (.bipush 10, 2) := by decide +kernel
theorem dX5_odds_4 : decode cX5_odds 4 = .ok (.invokestatic 59, 3) := by decide +kernel
theorem dX5_odds_7 : decode cX5_odds 7 = .ok (.ifCond .eq 23, 3) := by decide +kernel
theorem dX5_odds_10 : decode cX5_odds 10 = .ok (.iload_n 2, 1) := by decide +kernel
theorem dX5_odds_11 : decode cX5_odds 11 = .ok (.iconst 0, 1) := by decide +kernel
theorem dX5_odds_12 : decode cX5_odds 12 = .ok (.sipush 360, 3) := by decide +kernel
theorem dX5_odds_15 : decode cX5_odds 15 = .ok (.invokestatic 59, 3) := by decide +kernel
theorem dX5_odds_18 : decode cX5_odds 18 = .ok (.ifCond .eq 12, 3) := by decide +kernel
theorem dX5_odds_21 : decode cX5_odds 21 = .ok (.iload_n 3, 1) := by decide +kernel
theorem dX5_odds_22 : decode cX5_odds 22 = .ok (.iconst 0, 1) := by decide +kernel
theorem dX5_odds_23 : decode cX5_odds 23 = .ok (.iconst 1, 1) := by decide +kernel
theorem dX5_odds_24 : decode cX5_odds 24 = .ok (.invokestatic 59, 3) := by decide +kernel
theorem dX5_odds_27 : decode cX5_odds 27 = .ok (.ifCond .ne 5, 3) := by decide +kernel
theorem dX5_odds_30 : decode cX5_odds 30 = .ok (.iconst (-1), 1) := by decide +kernel
theorem dX5_odds_31 : decode cX5_odds 31 = .ok (.ireturn, 1) := by decide +kernel
theorem dX5_odds_32 : decode cX5_odds 32 = .ok (.aload_n 0, 1) := by decide +kernel
theorem dX5_odds_33 : decode cX5_odds 33 = .ok (.invokevirtual 141, 3) := by decide +kernel
theorem dX5_odds_36 : decode cX5_odds 36 = .ok (.iconst 0, 1) := by decide +kernel
theorem dX5_odds_37 : decode cX5_odds 37 = .ok (.istore 4, 2) := by decide +kernel
theorem dX5_odds_39 : decode cX5_odds 39 = .ok (.iconst 1, 1) := by decide +kernel
theorem dX5_odds_40 : decode cX5_odds 40 = .ok (.istore 5, 2) := by decide +kernel
theorem dX5_odds_42 : decode cX5_odds 42 = .ok (.iconst 0, 1) := by decide +kernel
theorem dX5_odds_43 : decode cX5_odds 43 = .ok (.istore 6, 2) := by decide +kernel
theorem dX5_odds_45 : decode cX5_odds 45 = .ok (.iload 6, 2) := by decide +kernel
theorem dX5_odds_47 : decode cX5_odds 47 = .ok (.aload_n 0, 1) := by decide +kernel
theorem dX5_odds_48 : decode cX5_odds 48 = .ok (.getfield 48, 3) := by decide +kernel
theorem dX5_odds_51 : decode cX5_odds 51 = .ok (.getfield 114, 3) := by decide +kernel
theorem dX5_odds_54 : decode cX5_odds 54 = .ok (.if_icmp .ge 16, 3) := by decide +kernel
theorem dX5_odds_57 : decode cX5_odds 57 = .ok (.iload 5, 2) := by decide +kernel
theorem dX5_odds_59 : decode cX5_odds 59 = .ok (.bipush 10, 2) := by decide +kernel
theorem dX5_odds_61 : decode cX5_odds 61 = .ok (.imul, 1) := by decide +kernel
theorem dX5_odds_62 : decode cX5_odds 62 = .ok (.istore 5, 2) := by decide +kernel
theorem dX5_odds_64 : decode cX5_odds 64 = .ok (.iinc 6 1, 3) := by decide +kernel
theorem dX5_odds_67 : decode cX5_odds 67 = .ok (.goto (-22), 3) := by decide +kernel
theorem dX5_odds_70 : decode cX5_odds 70 = .ok (.iconst 0, 1) := by decide +kernel
theorem dX5_odds_71 : decode cX5_odds 71 = .ok (.istore 6, 2) := by decide +kernel
theorem dX5_odds_73 : decode cX5_odds 73 = .ok (.iload 6, 2) := by decide +kernel
theorem dX5_odds_75 : decode cX5_odds 75 = .ok (.iconst 1, 1) := by decide +kernel
theorem dX5_odds_76 : decode cX5_odds 76 = .ok (.aload_n 0, 1) := by decide +kernel
theorem dX5_odds_77 : decode cX5_odds 77 = .ok (.getfield 48, 3) := by decide +kernel
theorem dX5_odds_80 : decode cX5_odds 80 = .ok (.getfield 114, 3) := by decide +kernel
theorem dX5_odds_83 : decode cX5_odds 83 = .ok (.ishl, 1) := by decide +kernel
theorem dX5_odds_84 : decode cX5_odds 84 = .ok (.if_icmp .ge 31, 3) := by decide +kernel
theorem dX5_odds_87 : decode cX5_odds 87 = .ok (.aload_n 0, 1) := by decide +kernel
theorem dX5_odds_88 : decode cX5_odds 88 = .ok (.iload 6, 2) := by decide +kernel
theorem dX5_odds_90 : decode cX5_odds 90 = .ok (.invokevirtual 165, 3) := by decide +kernel
theorem dX5_odds_93 : decode cX5_odds 93 = .ok (.iload_n 2, 1) := by decide +kernel
theorem dX5_odds_94 : decode cX5_odds 94 = .ok (.if_icmp .lt 15, 3) := by decide +kernel
theorem dX5_odds_97 : decode cX5_odds 97 = .ok (.iload 4, 2) := by decide +kernel
theorem dX5_odds_99 : decode cX5_odds 99 = .ok (.aload_n 0, 1) := by decide +kernel
theorem dX5_odds_100 : decode cX5_odds 100 = .ok (.iload 6, 2) := by decide +kernel
theorem dX5_odds_102 : decode cX5_odds 102 = .ok (.iload_n 1, 1) := by decide +kernel
theorem dX5_odds_103 : decode cX5_odds 103 = .ok (.invokevirtual 168, 3) := by decide +kernel
theorem dX5_odds_106 : decode cX5_odds 106 = .ok (.iadd, 1) := by decide +kernel
theorem dX5_odds_107 : decode cX5_odds 107 = .ok (.istore 4, 2) := by decide +kernel
theorem dX5_odds_109 : decode cX5_odds 109 = .ok (.iinc 6 1, 3) := by decide +kernel
theorem dX5_odds_112 : decode cX5_odds 112 = .ok (.goto (-39), 3) := by decide +kernel
theorem dX5_odds_115 : decode cX5_odds 115 = .ok (.iload 4, 2) := by decide +kernel
theorem dX5_odds_117 : decode cX5_odds 117 = .ok (.iload 5, 2) := by decide +kernel
theorem dX5_odds_119 : decode cX5_odds 119 = .ok (.iload_n 3, 1) := by decide +kernel
theorem dX5_odds_120 : decode cX5_odds 120 = .ok (.invokestatic 171, 3) := by decide +kernel
theorem dX5_odds_123 : decode cX5_odds 123 = .ok (.ireturn, 1) := by decide +kernel
theorem dX5_rests_0 : decode cX5_rests 0 = .ok (.iload_n 1, 1) := by decide +kernel
theorem dX5_rests_1 : decode cX5_rests 1 = .ok (.iconst 1, 1) := by decide +kernel
theorem dX5_rests_2 : decode cX5_rests 2 = .ok (.bipush 60, 2) := by decide +kernel
theorem dX5_rests_4 : decode cX5_rests 4 = .ok (.invokestatic 59, 3) := by decide +kernel
theorem dX5_rests_7 : decode cX5_rests 7 = .ok (.ifCond .eq 23, 3) := by decide +kernel
theorem dX5_rests_10 : decode cX5_rests 10 = .ok (.iload_n 2, 1) := by decide +kernel
theorem dX5_rests_11 : decode cX5_rests 11 = .ok (.iconst 0, 1) := by decide +kernel
theorem dX5_rests_12 : decode cX5_rests 12 = .ok (.bipush 60, 2) := by decide +kernel
theorem dX5_rests_14 : decode cX5_rests 14 = .ok (.invokestatic 59, 3) := by decide +kernel
theorem dX5_rests_17 : decode cX5_rests 17 = .ok (.ifCond .eq 13, 3) := by decide +kernel
theorem dX5_rests_20 : decode cX5_rests 20 = .ok (.iload_n 3, 1) := by decide +kernel
theorem dX5_rests_21 : decode cX5_rests 21 = .ok (.iconst 0, 1) := by decide +kernel
theorem dX5_rests_22 : decode cX5_rests 22 = .ok (.bipush 60, 2) := by decide +kernel
theorem dX5_rests_24 : decode cX5_rests 24 = .ok (.invokestatic 59, 3) := by decide +kernel
theorem dX5_rests_27 : decode cX5_rests 27 = .ok (.ifCond .ne 5, 3) := by decide +kernel
theorem dX5_rests_30 : decode cX5_rests 30 = .ok (.iconst (-1), 1) := by decide +kernel
theorem dX5_rests_31 : decode cX5_rests 31 = .ok (.ireturn, 1) := by decide +kernel
theorem dX5_rests_32 : decode cX5_rests 32 = .ok (.iconst 0, 1) := by decide +kernel
theorem dX5_rests_33 : decode cX5_rests 33 = .ok (.istore 4, 2) := by decide +kernel
theorem dX5_rests_35 : decode cX5_rests 35 = .ok (.iconst 0, 1) := by decide +kernel
theorem dX5_rests_36 : decode cX5_rests 36 = .ok (.istore 5, 2) := by decide +kernel
theorem dX5_rests_38 : decode cX5_rests 38 = .ok (.iload 5, 2) := by decide +kernel
theorem dX5_rests_40 : decode cX5_rests 40 = .ok (.iconst 4, 1) := by decide +kernel
theorem dX5_rests_41 : decode cX5_rests 41 = .ok (.if_icmp .ge 128, 3) := by decide +kernel
theorem dX5_rests_44 : decode cX5_rests 44 = .ok (.iload 5, 2) := by decide +kernel
theorem dX5_rests_46 : decode cX5_rests 46 = .ok (.iconst 2, 1) := by decide +kernel
theorem dX5_rests_47 : decode cX5_rests 47 = .ok (.iand, 1) := by decide +kernel
theorem dX5_rests_48 : decode cX5_rests 48 = .ok (.ifCond .eq 7, 3) := by decide +kernel
theorem dX5_rests_51 : decode cX5_rests 51 = .ok (.iconst 1, 1) := by decide +kernel
theorem dX5_rests_52 : decode cX5_rests 52 = .ok (.goto 4, 3) := by decide +kernel
theorem dX5_rests_55 : decode cX5_rests 55 = .ok (.iconst 0, 1) := by decide +kernel
theorem dX5_rests_56 : decode cX5_rests 56 = .ok (.istore 6, 2) := by decide +kernel
theorem dX5_rests_58 : decode cX5_rests 58 = .ok (.iload 5, 2) := by decide +kernel
theorem dX5_rests_60 : decode cX5_rests 60 = .ok (.iconst 1, 1) := by decide +kernel
theorem dX5_rests_61 : decode cX5_rests 61 = .ok (.iand, 1) := by decide +kernel
theorem dX5_rests_62 : decode cX5_rests 62 = .ok (.ifCond .eq 7, 3) := by decide +kernel
theorem dX5_rests_65 : decode cX5_rests 65 = .ok (.iconst 1, 1) := by decide +kernel
theorem dX5_rests_66 : decode cX5_rests 66 = .ok (.goto 4, 3) := by decide +kernel
theorem dX5_rests_69 : decode cX5_rests 69 = .ok (.iconst 0, 1) := by decide +kernel
theorem dX5_rests_70 : decode cX5_rests 70 = .ok (.istore 7, 2) := by decide +kernel
theorem dX5_rests_72 : decode cX5_rests 72 = .ok (.iload 6, 2) := by decide +kernel
theorem dX5_rests_74 : decode cX5_rests 74 = .ok (.iload 7, 2) := by decide +kernel
theorem dX5_rests_76 : decode cX5_rests 76 = .ok (.iload_n 1, 1) := by decide +kernel
theorem dX5_rests_77 : decode cX5_rests 77 = .ok (.iload_n 3, 1) := by decide +kernel
theorem dX5_rests_78 : decode cX5_rests 78 = .ok (.invokestatic 175, 3) := by decide +kernel
theorem dX5_rests_81 : decode cX5_rests 81 = .ok (.iload 6, 2) := by decide +kernel
theorem dX5_rests_83 : decode cX5_rests 83 = .ok (.ifCond .ne 7, 3) := by decide +kernel
theorem dX5_rests_86 : decode cX5_rests 86 = .ok (.iconst 1, 1) := by decide +kernel
theorem dX5_rests_87 : decode cX5_rests 87 = .ok (.goto 4, 3) := by decide +kernel
theorem dX5_rests_90 : decode cX5_rests 90 = .ok (.iconst 0, 1) := by decide +kernel
theorem dX5_rests_91 : decode cX5_rests 91 = .ok (.iload 7, 2) := by decide +kernel
theorem dX5_rests_93 : decode cX5_rests 93 = .ok (.iload_n 1, 1) := by decide +kernel
theorem dX5_rests_94 : decode cX5_rests 94 = .ok (.iload_n 3, 1) := by decide +kernel
theorem dX5_rests_95 : decode cX5_rests 95 = .ok (.invokestatic 175, 3) := by decide +kernel
theorem dX5_rests_98 : decode cX5_rests 98 = .ok (.if_icmp .lt 7, 3) := by decide +kernel
theorem dX5_rests_101 : decode cX5_rests 101 = .ok (.iconst 1, 1) := by decide +kernel
theorem dX5_rests_102 : decode cX5_rests 102 = .ok (.goto 4, 3) := by decide +kernel
theorem dX5_rests_105 : decode cX5_rests 105 = .ok (.iconst 0, 1) := by decide +kernel
theorem dX5_rests_106 : decode cX5_rests 106 = .ok (.istore 8, 2) := by decide +kernel
theorem dX5_rests_108 : decode cX5_rests 108 = .ok (.iload 6, 2) := by decide +kernel
theorem dX5_rests_110 : decode cX5_rests 110 = .ok (.iload 7, 2) := by decide +kernel
theorem dX5_rests_112 : decode cX5_rests 112 = .ok (.iload_n 1, 1) := by decide +kernel
theorem dX5_rests_113 : decode cX5_rests 113 = .ok (.iload_n 2, 1) := by decide +kernel
theorem dX5_rests_114 : decode cX5_rests 114 = .ok (.invokestatic 179, 3) := by decide +kernel
theorem dX5_rests_117 : decode cX5_rests 117 = .ok (.iload 6, 2) := by decide +kernel
theorem dX5_rests_119 : decode cX5_rests 119 = .ok (.iload 7, 2) := by decide +kernel
theorem dX5_rests_121 : decode cX5_rests 121 = .ok (.ifCond .ne 7, 3) := by decide +kernel
theorem dX5_rests_124 : decode cX5_rests 124 = .ok (.iconst 1, 1) := by decide +kernel
theorem dX5_rests_125 : decode cX5_rests 125 = .ok (.goto 4, 3) := by decide +kernel
theorem dX5_rests_128 : decode cX5_rests 128 = .ok (.iconst 0, 1) := by decide +kernel
theorem dX5_rests_129 : decode cX5_rests 129 = .ok (.iload_n 1, 1) := by decide +kernel
theorem dX5_rests_130 : decode cX5_rests 130 = .ok (.iload_n 2, 1) := by decide +kernel
theorem dX5_rests_131 : decode cX5_rests 131 = .ok (.invokestatic 179, 3) := by decide +kernel
theorem dX5_rests_134 : decode cX5_rests 134 = .ok (.if_icmp .lt 7, 3) := by decide +kernel
theorem dX5_rests_137 : decode cX5_rests 137 = .ok (.iconst 1, 1) := by decide +kernel
theorem dX5_rests_138 : decode cX5_rests 138 = .ok (.goto 4, 3) := by decide +kernel
theorem dX5_rests_141 : decode cX5_rests 141 = .ok (.iconst 0, 1) := by decide +kernel
theorem dX5_rests_142 : decode cX5_rests 142 = .ok (.istore 9, 2) := by decide +kernel
theorem dX5_rests_144 : decode cX5_rests 144 = .ok (.iload 8, 2) := by decide +kernel
theorem dX5_rests_146 : decode cX5_rests 146 = .ok (.ifCond .eq 17, 3) := by decide +kernel
theorem dX5_rests_149 : decode cX5_rests 149 = .ok (.iload 9, 2) := by decide +kernel
theorem dX5_rests_151 : decode cX5_rests 151 = .ok (.ifCond .eq 12, 3) := by decide +kernel
theorem dX5_rests_154 : decode cX5_rests 154 = .ok (.iload 4, 2) := by decide +kernel
theorem dX5_rests_156 : decode cX5_rests 156 = .ok (.iconst 1, 1) := by decide +kernel
theorem dX5_rests_157 : decode cX5_rests 157 = .ok (.iload 5, 2) := by decide +kernel
theorem dX5_rests_159 : decode cX5_rests 159 = .ok (.ishl, 1) := by decide +kernel
theorem dX5_rests_160 : decode cX5_rests 160 = .ok (.ior, 1) := by decide +kernel
theorem dX5_rests_161 : decode cX5_rests 161 = .ok (.istore 4, 2) := by decide +kernel
theorem dX5_rests_163 : decode cX5_rests 163 = .ok (.iinc 5 1, 3) := by decide +kernel
theorem dX5_rests_166 : decode cX5_rests 166 = .ok (.goto (-128), 3) := by decide +kernel
theorem dX5_rests_169 : decode cX5_rests 169 = .ok (.iload 4, 2) := by decide +kernel
theorem dX5_rests_171 : decode cX5_rests 171 = .ok (.ireturn, 1) := by decide +kernel
theorem dX5_mixed_0 : decode cX5_mixed 0 = .ok (.iload_n 1, 1) := by decide +kernel
theorem dX5_mixed_1 : decode cX5_mixed 1 = .ok (.iconst 1, 1) := by decide +kernel
theorem dX5_mixed_2 : decode cX5_mixed 2 = .ok (.bipush 60, 2) := by decide +kernel
theorem dX5_mixed_4 : decode cX5_mixed 4 = .ok (.invokestatic 59, 3) := by decide +kernel
theorem dX5_mixed_7 : decode cX5_mixed 7 = .ok (.ifCond .eq 22, 3) := by decide +kernel
theorem dX5_mixed_10 : decode cX5_mixed 10 = .ok (.iload_n 2, 1) := by decide +kernel
theorem dX5_mixed_11 : decode cX5_mixed 11 = .ok (.iconst 0, 1) := by decide +kernel
theorem dX5_mixed_12 : decode cX5_mixed 12 = .ok (.bipush 60, 2) := by decide +kernel
theorem dX5_mixed_14 : decode cX5_mixed 14 = .ok (.invokestatic 59, 3) := by decide +kernel
theorem dX5_mixed_17 : decode cX5_mixed 17 = .ok (.ifCond .eq 12, 3) := by decide +kernel
theorem dX5_mixed_20 : decode cX5_mixed 20 = .ok (.iload_n 3, 1) := by decide +kernel
theorem dX5_mixed_21 : decode cX5_mixed 21 = .ok (.iconst 0, 1) := by decide +kernel
theorem dX5_mixed_22 : decode cX5_mixed 22 = .ok (.iconst 1, 1) := by decide +kernel
theorem dX5_mixed_23 : decode cX5_mixed 23 = .ok (.invokestatic 59, 3) := by decide +kernel
theorem dX5_mixed_26 : decode cX5_mixed 26 = .ok (.ifCond .ne 5, 3) := by decide +kernel
theorem dX5_mixed_29 : decode cX5_mixed 29 = .ok (.iconst (-1), 1) := by decide +kernel
theorem dX5_mixed_30 : decode cX5_mixed 30 = .ok (.ireturn, 1) := by decide +kernel
theorem dX5_mixed_31 : decode cX5_mixed 31 = .ok (.iload_n 1, 1) := by decide +kernel
theorem dX5_mixed_32 : decode cX5_mixed 32 = .ok (.iload_n 1, 1) := by decide +kernel
theorem dX5_mixed_33 : decode cX5_mixed 33 = .ok (.iload_n 2, 1) := by decide +kernel
theorem dX5_mixed_34 : decode cX5_mixed 34 = .ok (.iadd, 1) := by decide +kernel
theorem dX5_mixed_35 : decode cX5_mixed 35 = .ok (.iload_n 3, 1) := by decide +kernel
theorem dX5_mixed_36 : decode cX5_mixed 36 = .ok (.invokestatic 171, 3) := by decide +kernel
theorem dX5_mixed_39 : decode cX5_mixed 39 = .ok (.ireturn, 1) := by decide +kernel
theorem dX5_ring_0 : decode cX5_ring 0 = .ok (.iload_n 1, 1) := by decide +kernel
theorem dX5_ring_1 : decode cX5_ring 1 = .ok (.bipush (-2), 2) := by decide +kernel
theorem dX5_ring_3 : decode cX5_ring 3 = .ok (.iconst 5, 1) := by decide +kernel
theorem dX5_ring_4 : decode cX5_ring 4 = .ok (.invokestatic 59, 3) := by decide +kernel
theorem dX5_ring_7 : decode cX5_ring 7 = .ok (.ifCond .ne 5, 3) := by decide +kernel
theorem dX5_ring_10 : decode cX5_ring 10 = .ok (.iconst (-1), 1) := by decide +kernel
theorem dX5_ring_11 : decode cX5_ring 11 = .ok (.ireturn, 1) := by decide +kernel
theorem dX5_ring_12 : decode cX5_ring 12 = .ok (.aload_n 0, 1) := by decide +kernel
theorem dX5_ring_13 : decode cX5_ring 13 = .ok (.getfield 41, 3) := by decide +kernel
theorem dX5_ring_16 : decode cX5_ring 16 = .ok (.aload_n 0, 1) := by decide +kernel
theorem dX5_ring_17 : decode cX5_ring 17 = .ok (.getfield 48, 3) := by decide +kernel
theorem dX5_ring_20 : decode cX5_ring 20 = .ok (.invokevirtual 182, 3) := by decide +kernel
theorem dX5_ring_23 : decode cX5_ring 23 = .ok (.ifCond .ne 6, 3) := by decide +kernel
theorem dX5_ring_26 : decode cX5_ring 26 = .ok (.bipush (-9), 2) := by decide +kernel
theorem dX5_ring_28 : decode cX5_ring 28 = .ok (.ireturn, 1) := by decide +kernel
theorem dX5_ring_29 : decode cX5_ring 29 = .ok (.iload_n 1, 1) := by decide +kernel
theorem dX5_ring_30 : decode cX5_ring 30 = .ok (.bipush (-2), 2) := by decide +kernel
theorem dX5_ring_32 : decode cX5_ring 32 = .ok (.if_icmp .ne 15, 3) := by decide +kernel
theorem dX5_ring_35 : decode cX5_ring 35 = .ok (.aload_n 0, 1) := by decide +kernel
theorem dX5_ring_36 : decode cX5_ring 36 = .ok (.getfield 41, 3) := by decide +kernel
theorem dX5_ring_39 : decode cX5_ring 39 = .ok (.aload_n 0, 1) := by decide +kernel
theorem dX5_ring_40 : decode cX5_ring 40 = .ok (.getfield 48, 3) := by decide +kernel
theorem dX5_ring_43 : decode cX5_ring 43 = .ok (.invokevirtual 185, 3) := by decide +kernel
theorem dX5_ring_46 : decode cX5_ring 46 = .ok (.ireturn, 1) := by decide +kernel
theorem dX5_ring_47 : decode cX5_ring 47 = .ok (.iload_n 1, 1) := by decide +kernel
theorem dX5_ring_48 : decode cX5_ring 48 = .ok (.iconst (-1), 1) := by decide +kernel
theorem dX5_ring_49 : decode cX5_ring 49 = .ok (.if_icmp .ne 13, 3) := by decide +kernel
theorem dX5_ring_52 : decode cX5_ring 52 = .ok (.aload_n 0, 1) := by decide +kernel
theorem dX5_ring_53 : decode cX5_ring 53 = .ok (.getfield 41, 3) := by decide +kernel
theorem dX5_ring_56 : decode cX5_ring 56 = .ok (.getfield 189, 3) := by decide +kernel
theorem dX5_ring_59 : decode cX5_ring 59 = .ok (.goto 11, 3) := by decide +kernel
theorem dX5_ring_62 : decode cX5_ring 62 = .ok (.aload_n 0, 1) := by decide +kernel
theorem dX5_ring_63 : decode cX5_ring 63 = .ok (.getfield 41, 3) := by decide +kernel
theorem dX5_ring_66 : decode cX5_ring 66 = .ok (.iload_n 1, 1) := by decide +kernel
theorem dX5_ring_67 : decode cX5_ring 67 = .ok (.invokevirtual 190, 3) := by decide +kernel
theorem dX5_ring_70 : decode cX5_ring 70 = .ok (.ireturn, 1) := by decide +kernel
theorem dX5_net_0 : decode cX5_net 0 = .ok (.aload_n 0, 1) := by decide +kernel
theorem dX5_net_1 : decode cX5_net 1 = .ok (.getfield 48, 3) := by decide +kernel
theorem dX5_net_4 : decode cX5_net 4 = .ok (.iload_n 1, 1) := by decide +kernel
theorem dX5_net_5 : decode cX5_net 5 = .ok (.invokevirtual 78, 3) := by decide +kernel
theorem dX5_net_8 : decode cX5_net 8 = .ok (.ifCond .ne 6, 3) := by decide +kernel
theorem dX5_net_11 : decode cX5_net 11 = .ok (.ldc 191, 2) := by decide +kernel
theorem dX5_net_13 : decode cX5_net 13 = .ok (.ireturn, 1) := by decide +kernel
theorem dX5_net_14 : decode cX5_net 14 = .ok (.iconst 0, 1) := by decide +kernel
theorem dX5_net_15 : decode cX5_net 15 = .ok (.istore_n 2, 1) := by decide +kernel
theorem dX5_net_16 : decode cX5_net 16 = .ok (.iconst 0, 1) := by decide +kernel
theorem dX5_net_17 : decode cX5_net 17 = .ok (.istore_n 3, 1) := by decide +kernel
theorem dX5_net_18 : decode cX5_net 18 = .ok (.iload_n 3, 1) := by decide +kernel
theorem dX5_net_19 : decode cX5_net 19 = .ok (.aload_n 0, 1) := by decide +kernel
theorem dX5_net_20 : decode cX5_net 20 = .ok (.getfield 48, 3) := by decide +kernel
theorem dX5_net_23 : decode cX5_net 23 = .ok (.getfield 114, 3) := by decide +kernel
theorem dX5_net_26 : decode cX5_net 26 = .ok (.if_icmp .ge 31, 3) := by decide +kernel
theorem dX5_net_29 : decode cX5_net 29 = .ok (.iload_n 2, 1) := by decide +kernel
theorem dX5_net_30 : decode cX5_net 30 = .ok (.aload_n 0, 1) := by decide +kernel
theorem dX5_net_31 : decode cX5_net 31 = .ok (.getfield 48, 3) := by decide +kernel
theorem dX5_net_34 : decode cX5_net 34 = .ok (.iload_n 3, 1) := by decide +kernel
theorem dX5_net_35 : decode cX5_net 35 = .ok (.iload_n 1, 1) := by decide +kernel
theorem dX5_net_36 : decode cX5_net 36 = .ok (.invokevirtual 98, 3) := by decide +kernel
theorem dX5_net_39 : decode cX5_net 39 = .ok (.aload_n 0, 1) := by decide +kernel
theorem dX5_net_40 : decode cX5_net 40 = .ok (.getfield 48, 3) := by decide +kernel
theorem dX5_net_43 : decode cX5_net 43 = .ok (.iload_n 1, 1) := by decide +kernel
theorem dX5_net_44 : decode cX5_net 44 = .ok (.iload_n 3, 1) := by decide +kernel
theorem dX5_net_45 : decode cX5_net 45 = .ok (.invokevirtual 98, 3) := by decide +kernel
theorem dX5_net_48 : decode cX5_net 48 = .ok (.isub, 1) := by decide +kernel
theorem dX5_net_49 : decode cX5_net 49 = .ok (.iadd, 1) := by decide +kernel
theorem dX5_net_50 : decode cX5_net 50 = .ok (.istore_n 2, 1) := by decide +kernel
theorem dX5_net_51 : decode cX5_net 51 = .ok (.iinc 3 1, 3) := by decide +kernel
theorem dX5_net_54 : decode cX5_net 54 = .ok (.goto (-36), 3) := by decide +kernel
theorem dX5_net_57 : decode cX5_net 57 = .ok (.iload_n 2, 1) := by decide +kernel
theorem dX5_net_58 : decode cX5_net 58 = .ok (.ireturn, 1) := by decide +kernel
theorem dX5_mark_0 : decode cX5_mark 0 = .ok (.iload_n 1, 1) := by decide +kernel
theorem dX5_mark_1 : decode cX5_mark 1 = .ok (.iconst 0, 1) := by decide +kernel
theorem dX5_mark_2 : decode cX5_mark 2 = .ok (.iconst 5, 1) := by decide +kernel
theorem dX5_mark_3 : decode cX5_mark 3 = .ok (.invokestatic 59, 3) := by decide +kernel
theorem dX5_mark_6 : decode cX5_mark 6 = .ok (.ifCond .eq 14, 3) := by decide +kernel
theorem dX5_mark_9 : decode cX5_mark 9 = .ok (.aload_n 0, 1) := by decide +kernel
theorem dX5_mark_10 : decode cX5_mark 10 = .ok (.getfield 48, 3) := by decide +kernel
theorem dX5_mark_13 : decode cX5_mark 13 = .ok (.iload_n 2, 1) := by decide +kernel
theorem dX5_mark_14 : decode cX5_mark 14 = .ok (.invokevirtual 78, 3) := by decide +kernel
theorem dX5_mark_17 : decode cX5_mark 17 = .ok (.ifCond .ne 6, 3) := by decide +kernel
theorem dX5_mark_20 : decode cX5_mark 20 = .ok (.ldc 191, 2) := by decide +kernel
theorem dX5_mark_22 : decode cX5_mark 22 = .ok (.ireturn, 1) := by decide +kernel
theorem dX5_mark_23 : decode cX5_mark 23 = .ok (.aload_n 0, 1) := by decide +kernel
theorem dX5_mark_24 : decode cX5_mark 24 = .ok (.iload_n 1, 1) := by decide +kernel
theorem dX5_mark_25 : decode cX5_mark 25 = .ok (.iload_n 2, 1) := by decide +kernel
theorem dX5_mark_26 : decode cX5_mark 26 = .ok (.iconst 0, 1) := by decide +kernel
theorem dX5_mark_27 : decode cX5_mark 27 = .ok (.invokevirtual 192, 3) := by decide +kernel
theorem dX5_mark_30 : decode cX5_mark 30 = .ok (.ireturn, 1) := by decide +kernel
theorem dX5_keep_0 : decode cX5_keep 0 = .ok (.iload_n 1, 1) := by decide +kernel
theorem dX5_keep_1 : decode cX5_keep 1 = .ok (.iconst 0, 1) := by decide +kernel
theorem dX5_keep_2 : decode cX5_keep 2 = .ok (.iconst 1, 1) := by decide +kernel
theorem dX5_keep_3 : decode cX5_keep 3 = .ok (.invokestatic 59, 3) := by decide +kernel
theorem dX5_keep_6 : decode cX5_keep 6 = .ok (.ifCond .ne 5, 3) := by decide +kernel
theorem dX5_keep_9 : decode cX5_keep 9 = .ok (.iconst (-1), 1) := by decide +kernel
theorem dX5_keep_10 : decode cX5_keep 10 = .ok (.ireturn, 1) := by decide +kernel
theorem dX5_keep_11 : decode cX5_keep 11 = .ok (.aload_n 0, 1) := by decide +kernel
theorem dX5_keep_12 : decode cX5_keep 12 = .ok (.getfield 23, 3) := by decide +kernel
theorem dX5_keep_15 : decode cX5_keep 15 = .ok (.iload_n 1, 1) := by decide +kernel
theorem dX5_keep_16 : decode cX5_keep 16 = .ok (.aaload, 1) := by decide +kernel
theorem dX5_keep_17 : decode cX5_keep 17 = .ok (.aload_n 0, 1) := by decide +kernel
theorem dX5_keep_18 : decode cX5_keep 18 = .ok (.getfield 19, 3) := by decide +kernel
theorem dX5_keep_21 : decode cX5_keep 21 = .ok (.invokevirtual 195, 3) := by decide +kernel
theorem dX5_keep_24 : decode cX5_keep 24 = .ok (.aload_n 0, 1) := by decide +kernel
theorem dX5_keep_25 : decode cX5_keep 25 = .ok (.dup, 1) := by decide +kernel
theorem dX5_keep_26 : decode cX5_keep 26 = .ok (.getfield 75, 3) := by decide +kernel
theorem dX5_keep_29 : decode cX5_keep 29 = .ok (.iconst 1, 1) := by decide +kernel
theorem dX5_keep_30 : decode cX5_keep 30 = .ok (.iload_n 1, 1) := by decide +kernel
theorem dX5_keep_31 : decode cX5_keep 31 = .ok (.ishl, 1) := by decide +kernel
theorem dX5_keep_32 : decode cX5_keep 32 = .ok (.ior, 1) := by decide +kernel
theorem dX5_keep_33 : decode cX5_keep 33 = .ok (.putfield 75, 3) := by decide +kernel
theorem dX5_keep_36 : decode cX5_keep 36 = .ok (.aload_n 0, 1) := by decide +kernel
theorem dX5_keep_37 : decode cX5_keep 37 = .ok (.getfield 19, 3) := by decide +kernel
theorem dX5_keep_40 : decode cX5_keep 40 = .ok (.iconst 1, 1) := by decide +kernel
theorem dX5_keep_41 : decode cX5_keep 41 = .ok (.invokevirtual 81, 3) := by decide +kernel
theorem dX5_keep_44 : decode cX5_keep 44 = .ok (.ireturn, 1) := by decide +kernel
theorem dX5_back_0 : decode cX5_back 0 = .ok (.iload_n 1, 1) := by decide +kernel
theorem dX5_back_1 : decode cX5_back 1 = .ok (.iconst 0, 1) := by decide +kernel
theorem dX5_back_2 : decode cX5_back 2 = .ok (.iconst 1, 1) := by decide +kernel
theorem dX5_back_3 : decode cX5_back 3 = .ok (.invokestatic 59, 3) := by decide +kernel
theorem dX5_back_6 : decode cX5_back 6 = .ok (.ifCond .ne 5, 3) := by decide +kernel
theorem dX5_back_9 : decode cX5_back 9 = .ok (.iconst (-1), 1) := by decide +kernel
theorem dX5_back_10 : decode cX5_back 10 = .ok (.ireturn, 1) := by decide +kernel
theorem dX5_back_11 : decode cX5_back 11 = .ok (.aload_n 0, 1) := by decide +kernel
theorem dX5_back_12 : decode cX5_back 12 = .ok (.getfield 75, 3) := by decide +kernel
theorem dX5_back_15 : decode cX5_back 15 = .ok (.iload_n 1, 1) := by decide +kernel
theorem dX5_back_16 : decode cX5_back 16 = .ok (.ishr, 1) := by decide +kernel
theorem dX5_back_17 : decode cX5_back 17 = .ok (.iconst 1, 1) := by decide +kernel
theorem dX5_back_18 : decode cX5_back 18 = .ok (.iand, 1) := by decide +kernel
theorem dX5_back_19 : decode cX5_back 19 = .ok (.ifCond .ne 6, 3) := by decide +kernel
theorem dX5_back_22 : decode cX5_back 22 = .ok (.bipush (-2), 2) := by decide +kernel
theorem dX5_back_24 : decode cX5_back 24 = .ok (.ireturn, 1) := by decide +kernel
theorem dX5_back_25 : decode cX5_back 25 = .ok (.aload_n 0, 1) := by decide +kernel
theorem dX5_back_26 : decode cX5_back 26 = .ok (.getfield 19, 3) := by decide +kernel
theorem dX5_back_29 : decode cX5_back 29 = .ok (.aload_n 0, 1) := by decide +kernel
theorem dX5_back_30 : decode cX5_back 30 = .ok (.getfield 23, 3) := by decide +kernel
theorem dX5_back_33 : decode cX5_back 33 = .ok (.iload_n 1, 1) := by decide +kernel
theorem dX5_back_34 : decode cX5_back 34 = .ok (.aaload, 1) := by decide +kernel
theorem dX5_back_35 : decode cX5_back 35 = .ok (.invokevirtual 195, 3) := by decide +kernel
theorem dX5_back_38 : decode cX5_back 38 = .ok (.aload_n 0, 1) := by decide +kernel
theorem dX5_back_39 : decode cX5_back 39 = .ok (.getfield 19, 3) := by decide +kernel
theorem dX5_back_42 : decode cX5_back 42 = .ok (.iconst 1, 1) := by decide +kernel
theorem dX5_back_43 : decode cX5_back 43 = .ok (.invokevirtual 81, 3) := by decide +kernel
theorem dX5_back_46 : decode cX5_back 46 = .ok (.ireturn, 1) := by decide +kernel
theorem dX5_count_0 : decode cX5_count 0 = .ok (.iload_n 1, 1) := by decide +kernel
theorem dX5_count_1 : decode cX5_count 1 = .ok (.tableswitch 87 0 5 #[39, 47, 55, 63, 71, 79], 39) := by decide +kernel
theorem dX5_count_40 : decode cX5_count 40 = .ok (.aload_n 0, 1) := by decide +kernel
theorem dX5_count_41 : decode cX5_count 41 = .ok (.getfield 48, 3) := by decide +kernel
theorem dX5_count_44 : decode cX5_count 44 = .ok (.getfield 114, 3) := by decide +kernel
theorem dX5_count_47 : decode cX5_count 47 = .ok (.ireturn, 1) := by decide +kernel
theorem dX5_count_48 : decode cX5_count 48 = .ok (.aload_n 0, 1) := by decide +kernel
theorem dX5_count_49 : decode cX5_count 49 = .ok (.getfield 48, 3) := by decide +kernel
theorem dX5_count_52 : decode cX5_count 52 = .ok (.getfield 199, 3) := by decide +kernel
theorem dX5_count_55 : decode cX5_count 55 = .ok (.ireturn, 1) := by decide +kernel
theorem dX5_count_56 : decode cX5_count 56 = .ok (.aload_n 0, 1) := by decide +kernel
theorem dX5_count_57 : decode cX5_count 57 = .ok (.getfield 48, 3) := by decide +kernel
theorem dX5_count_60 : decode cX5_count 60 = .ok (.getfield 104, 3) := by decide +kernel
theorem dX5_count_63 : decode cX5_count 63 = .ok (.ireturn, 1) := by decide +kernel
theorem dX5_count_64 : decode cX5_count 64 = .ok (.aload_n 0, 1) := by decide +kernel
theorem dX5_count_65 : decode cX5_count 65 = .ok (.getfield 48, 3) := by decide +kernel
theorem dX5_count_68 : decode cX5_count 68 = .ok (.getfield 202, 3) := by decide +kernel
theorem dX5_count_71 : decode cX5_count 71 = .ok (.ireturn, 1) := by decide +kernel
theorem dX5_count_72 : decode cX5_count 72 = .ok (.aload_n 0, 1) := by decide +kernel
theorem dX5_count_73 : decode cX5_count 73 = .ok (.getfield 19, 3) := by decide +kernel
theorem dX5_count_76 : decode cX5_count 76 = .ok (.getfield 131, 3) := by decide +kernel
theorem dX5_count_79 : decode cX5_count 79 = .ok (.ireturn, 1) := by decide +kernel
theorem dX5_count_80 : decode cX5_count 80 = .ok (.aload_n 0, 1) := by decide +kernel
theorem dX5_count_81 : decode cX5_count 81 = .ok (.getfield 10, 3) := by decide +kernel
theorem dX5_count_84 : decode cX5_count 84 = .ok (.getfield 67, 3) := by decide +kernel
theorem dX5_count_87 : decode cX5_count 87 = .ok (.ireturn, 1) := by decide +kernel
theorem dX5_count_88 : decode cX5_count 88 = .ok (.iconst (-1), 1) := by decide +kernel
theorem dX5_count_89 : decode cX5_count 89 = .ok (.ireturn, 1) := by decide +kernel
theorem dX5_trace_0 : decode cX5_trace 0 = .ok (.aload_n 0, 1) := by decide +kernel
theorem dX5_trace_1 : decode cX5_trace 1 = .ok (.getfield 205, 3) := by decide +kernel
theorem dX5_trace_4 : decode cX5_trace 4 = .ok (.lreturn, 1) := by decide +kernel
theorem dX5_isWithin_0 : decode cX5_isWithin 0 = .ok (.iload_n 1, 1) := by decide +kernel
theorem dX5_isWithin_1 : decode cX5_isWithin 1 = .ok (.iload_n 0, 1) := by decide +kernel
theorem dX5_isWithin_2 : decode cX5_isWithin 2 = .ok (.if_icmp .gt 12, 3) := by decide +kernel
theorem dX5_isWithin_5 : decode cX5_isWithin 5 = .ok (.iload_n 0, 1) := by decide +kernel
theorem dX5_isWithin_6 : decode cX5_isWithin 6 = .ok (.iload_n 2, 1) := by decide +kernel
theorem dX5_isWithin_7 : decode cX5_isWithin 7 = .ok (.if_icmp .gt 7, 3) := by decide +kernel
theorem dX5_isWithin_10 : decode cX5_isWithin 10 = .ok (.iconst 1, 1) := by decide +kernel
theorem dX5_isWithin_11 : decode cX5_isWithin 11 = .ok (.goto 4, 3) := by decide +kernel
theorem dX5_isWithin_14 : decode cX5_isWithin 14 = .ok (.iconst 0, 1) := by decide +kernel
theorem dX5_isWithin_15 : decode cX5_isWithin 15 = .ok (.ireturn, 1) := by decide +kernel
theorem dX5_moveHens_0 : decode cX5_moveHens 0 = .ok (.aload_n 0, 1) := by decide +kernel
theorem dX5_moveHens_1 : decode cX5_moveHens 1 = .ok (.getfield 48, 3) := by decide +kernel
theorem dX5_moveHens_4 : decode cX5_moveHens 4 = .ok (.iload_n 1, 1) := by decide +kernel
theorem dX5_moveHens_5 : decode cX5_moveHens 5 = .ok (.invokevirtual 78, 3) := by decide +kernel
theorem dX5_moveHens_8 : decode cX5_moveHens 8 = .ok (.ifCond .eq 13, 3) := by decide +kernel
theorem dX5_moveHens_11 : decode cX5_moveHens 11 = .ok (.iload_n 2, 1) := by decide +kernel
theorem dX5_moveHens_12 : decode cX5_moveHens 12 = .ok (.iconst 1, 1) := by decide +kernel
theorem dX5_moveHens_13 : decode cX5_moveHens 13 = .ok (.bipush 60, 2) := by decide +kernel
theorem dX5_moveHens_15 : decode cX5_moveHens 15 = .ok (.invokestatic 59, 3) := by decide +kernel
theorem dX5_moveHens_18 : decode cX5_moveHens 18 = .ok (.ifCond .ne 5, 3) := by decide +kernel
theorem dX5_moveHens_21 : decode cX5_moveHens 21 = .ok (.iconst (-1), 1) := by decide +kernel
theorem dX5_moveHens_22 : decode cX5_moveHens 22 = .ok (.ireturn, 1) := by decide +kernel
theorem dX5_moveHens_23 : decode cX5_moveHens 23 = .ok (.aload_n 0, 1) := by decide +kernel
theorem dX5_moveHens_24 : decode cX5_moveHens 24 = .ok (.getfield 19, 3) := by decide +kernel
theorem dX5_moveHens_27 : decode cX5_moveHens 27 = .ok (.iload_n 3, 1) := by decide +kernel
theorem dX5_moveHens_28 : decode cX5_moveHens 28 = .ok (.iload_n 1, 1) := by decide +kernel
theorem dX5_moveHens_29 : decode cX5_moveHens 29 = .ok (.iadd, 1) := by decide +kernel
theorem dX5_moveHens_30 : decode cX5_moveHens 30 = .ok (.invokevirtual 81, 3) := by decide +kernel
theorem dX5_moveHens_33 : decode cX5_moveHens 33 = .ok (.iload_n 2, 1) := by decide +kernel
theorem dX5_moveHens_34 : decode cX5_moveHens 34 = .ok (.if_icmp .ge 6, 3) := by decide +kernel
theorem dX5_moveHens_37 : decode cX5_moveHens 37 = .ok (.bipush (-2), 2) := by decide +kernel
theorem dX5_moveHens_39 : decode cX5_moveHens 39 = .ok (.ireturn, 1) := by decide +kernel
theorem dX5_moveHens_40 : decode cX5_moveHens 40 = .ok (.aload_n 0, 1) := by decide +kernel
theorem dX5_moveHens_41 : decode cX5_moveHens 41 = .ok (.getfield 19, 3) := by decide +kernel
theorem dX5_moveHens_44 : decode cX5_moveHens 44 = .ok (.invokevirtual 101, 3) := by decide +kernel
theorem dX5_moveHens_47 : decode cX5_moveHens 47 = .ok (.aload_n 0, 1) := by decide +kernel
theorem dX5_moveHens_48 : decode cX5_moveHens 48 = .ok (.getfield 19, 3) := by decide +kernel
theorem dX5_moveHens_51 : decode cX5_moveHens 51 = .ok (.iload_n 3, 1) := by decide +kernel
theorem dX5_moveHens_52 : decode cX5_moveHens 52 = .ok (.iload_n 1, 1) := by decide +kernel
theorem dX5_moveHens_53 : decode cX5_moveHens 53 = .ok (.iadd, 1) := by decide +kernel
theorem dX5_moveHens_54 : decode cX5_moveHens 54 = .ok (.iload_n 2, 1) := by decide +kernel
theorem dX5_moveHens_55 : decode cX5_moveHens 55 = .ok (.ineg, 1) := by decide +kernel
theorem dX5_moveHens_56 : decode cX5_moveHens 56 = .ok (.invokevirtual 120, 3) := by decide +kernel
theorem dX5_moveHens_59 : decode cX5_moveHens 59 = .ok (.aload_n 0, 1) := by decide +kernel
theorem dX5_moveHens_60 : decode cX5_moveHens 60 = .ok (.getfield 19, 3) := by decide +kernel
theorem dX5_moveHens_63 : decode cX5_moveHens 63 = .ok (.iload 4, 2) := by decide +kernel
theorem dX5_moveHens_65 : decode cX5_moveHens 65 = .ok (.iload_n 1, 1) := by decide +kernel
theorem dX5_moveHens_66 : decode cX5_moveHens 66 = .ok (.iadd, 1) := by decide +kernel
theorem dX5_moveHens_67 : decode cX5_moveHens 67 = .ok (.iload_n 2, 1) := by decide +kernel
theorem dX5_moveHens_68 : decode cX5_moveHens 68 = .ok (.invokevirtual 120, 3) := by decide +kernel
theorem dX5_moveHens_71 : decode cX5_moveHens 71 = .ok (.aload_n 0, 1) := by decide +kernel
theorem dX5_moveHens_72 : decode cX5_moveHens 72 = .ok (.getfield 19, 3) := by decide +kernel
theorem dX5_moveHens_75 : decode cX5_moveHens 75 = .ok (.iload 4, 2) := by decide +kernel
theorem dX5_moveHens_77 : decode cX5_moveHens 77 = .ok (.iload_n 1, 1) := by decide +kernel
theorem dX5_moveHens_78 : decode cX5_moveHens 78 = .ok (.iadd, 1) := by decide +kernel
theorem dX5_moveHens_79 : decode cX5_moveHens 79 = .ok (.invokevirtual 81, 3) := by decide +kernel
theorem dX5_moveHens_82 : decode cX5_moveHens 82 = .ok (.ireturn, 1) := by decide +kernel
theorem dX5_spareOf_0 : decode cX5_spareOf 0 = .ok (.aload_n 0, 1) := by decide +kernel
theorem dX5_spareOf_1 : decode cX5_spareOf 1 = .ok (.getfield 48, 3) := by decide +kernel
theorem dX5_spareOf_4 : decode cX5_spareOf 4 = .ok (.iload_n 1, 1) := by decide +kernel
theorem dX5_spareOf_5 : decode cX5_spareOf 5 = .ok (.invokevirtual 88, 3) := by decide +kernel
theorem dX5_spareOf_8 : decode cX5_spareOf 8 = .ok (.ifCond .eq 5, 3) := by decide +kernel
theorem dX5_spareOf_11 : decode cX5_spareOf 11 = .ok (.iconst 0, 1) := by decide +kernel
theorem dX5_spareOf_12 : decode cX5_spareOf 12 = .ok (.ireturn, 1) := by decide +kernel
theorem dX5_spareOf_13 : decode cX5_spareOf 13 = .ok (.aload_n 0, 1) := by decide +kernel
theorem dX5_spareOf_14 : decode cX5_spareOf 14 = .ok (.getfield 19, 3) := by decide +kernel
theorem dX5_spareOf_17 : decode cX5_spareOf 17 = .ok (.iconst 4, 1) := by decide +kernel
theorem dX5_spareOf_18 : decode cX5_spareOf 18 = .ok (.iload_n 1, 1) := by decide +kernel
theorem dX5_spareOf_19 : decode cX5_spareOf 19 = .ok (.iadd, 1) := by decide +kernel
theorem dX5_spareOf_20 : decode cX5_spareOf 20 = .ok (.invokevirtual 81, 3) := by decide +kernel
theorem dX5_spareOf_23 : decode cX5_spareOf 23 = .ok (.istore_n 2, 1) := by decide +kernel
theorem dX5_spareOf_24 : decode cX5_spareOf 24 = .ok (.iload_n 2, 1) := by decide +kernel
theorem dX5_spareOf_25 : decode cX5_spareOf 25 = .ok (.aload_n 0, 1) := by decide +kernel
theorem dX5_spareOf_26 : decode cX5_spareOf 26 = .ok (.getfield 19, 3) := by decide +kernel
theorem dX5_spareOf_29 : decode cX5_spareOf 29 = .ok (.bipush 10, 2) := by decide +kernel
theorem dX5_spareOf_31 : decode cX5_spareOf 31 = .ok (.iload_n 1, 1) := by decide +kernel
theorem dX5_spareOf_32 : decode cX5_spareOf 32 = .ok (.iadd, 1) := by decide +kernel
theorem dX5_spareOf_33 : decode cX5_spareOf 33 = .ok (.invokevirtual 81, 3) := by decide +kernel
theorem dX5_spareOf_36 : decode cX5_spareOf 36 = .ok (.iadd, 1) := by decide +kernel
theorem dX5_spareOf_37 : decode cX5_spareOf 37 = .ok (.aload_n 0, 1) := by decide +kernel
theorem dX5_spareOf_38 : decode cX5_spareOf 38 = .ok (.getfield 48, 3) := by decide +kernel
theorem dX5_spareOf_41 : decode cX5_spareOf 41 = .ok (.iload_n 1, 1) := by decide +kernel
theorem dX5_spareOf_42 : decode cX5_spareOf 42 = .ok (.invokevirtual 85, 3) := by decide +kernel
theorem dX5_spareOf_45 : decode cX5_spareOf 45 = .ok (.isub, 1) := by decide +kernel
theorem dX5_spareOf_46 : decode cX5_spareOf 46 = .ok (.istore_n 3, 1) := by decide +kernel
theorem dX5_spareOf_47 : decode cX5_spareOf 47 = .ok (.iconst 0, 1) := by decide +kernel
theorem dX5_spareOf_48 : decode cX5_spareOf 48 = .ok (.iload_n 2, 1) := by decide +kernel
theorem dX5_spareOf_49 : decode cX5_spareOf 49 = .ok (.iload_n 3, 1) := by decide +kernel
theorem dX5_spareOf_50 : decode cX5_spareOf 50 = .ok (.invokestatic 209, 3) := by decide +kernel
theorem dX5_spareOf_53 : decode cX5_spareOf 53 = .ok (.invokestatic 214, 3) := by decide +kernel
theorem dX5_spareOf_56 : decode cX5_spareOf 56 = .ok (.ireturn, 1) := by decide +kernel
theorem dX5_fillSpares_0 : decode cX5_fillSpares 0 = .ok (.iconst 0, 1) := by decide +kernel
theorem dX5_fillSpares_1 : decode cX5_fillSpares 1 = .ok (.istore_n 1, 1) := by decide +kernel
theorem dX5_fillSpares_2 : decode cX5_fillSpares 2 = .ok (.iload_n 1, 1) := by decide +kernel
theorem dX5_fillSpares_3 : decode cX5_fillSpares 3 = .ok (.bipush 6, 2) := by decide +kernel
theorem dX5_fillSpares_5 : decode cX5_fillSpares 5 = .ok (.if_icmp .ge 35, 3) := by decide +kernel
theorem dX5_fillSpares_8 : decode cX5_fillSpares 8 = .ok (.aload_n 0, 1) := by decide +kernel
theorem dX5_fillSpares_9 : decode cX5_fillSpares 9 = .ok (.getfield 27, 3) := by decide +kernel
theorem dX5_fillSpares_12 : decode cX5_fillSpares 12 = .ok (.iload_n 1, 1) := by decide +kernel
theorem dX5_fillSpares_13 : decode cX5_fillSpares 13 = .ok (.iload_n 1, 1) := by decide +kernel
theorem dX5_fillSpares_14 : decode cX5_fillSpares 14 = .ok (.aload_n 0, 1) := by decide +kernel
theorem dX5_fillSpares_15 : decode cX5_fillSpares 15 = .ok (.getfield 48, 3) := by decide +kernel
theorem dX5_fillSpares_18 : decode cX5_fillSpares 18 = .ok (.getfield 114, 3) := by decide +kernel
theorem dX5_fillSpares_21 : decode cX5_fillSpares 21 = .ok (.if_icmp .ge 11, 3) := by decide +kernel
theorem dX5_fillSpares_24 : decode cX5_fillSpares 24 = .ok (.aload_n 0, 1) := by decide +kernel
theorem dX5_fillSpares_25 : decode cX5_fillSpares 25 = .ok (.iload_n 1, 1) := by decide +kernel
theorem dX5_fillSpares_26 : decode cX5_fillSpares 26 = .ok (.invokevirtual 91, 3) := by decide +kernel
theorem dX5_fillSpares_29 : decode cX5_fillSpares 29 = .ok (.goto 4, 3) := by decide +kernel
theorem dX5_fillSpares_32 : decode cX5_fillSpares 32 = .ok (.iconst 0, 1) := by decide +kernel
theorem dX5_fillSpares_33 : decode cX5_fillSpares 33 = .ok (.iastore, 1) := by decide +kernel
theorem dX5_fillSpares_34 : decode cX5_fillSpares 34 = .ok (.iinc 1 1, 3) := by decide +kernel
theorem dX5_fillSpares_37 : decode cX5_fillSpares 37 = .ok (.goto (-35), 3) := by decide +kernel
theorem dX5_fillSpares_40 : decode cX5_fillSpares 40 = .ok (.return_, 1) := by decide +kernel
theorem dX5_allSpare_0 : decode cX5_allSpare 0 = .ok (.iconst 0, 1) := by decide +kernel
theorem dX5_allSpare_1 : decode cX5_allSpare 1 = .ok (.istore_n 1, 1) := by decide +kernel
theorem dX5_allSpare_2 : decode cX5_allSpare 2 = .ok (.iconst 0, 1) := by decide +kernel
theorem dX5_allSpare_3 : decode cX5_allSpare 3 = .ok (.istore_n 2, 1) := by decide +kernel
theorem dX5_allSpare_4 : decode cX5_allSpare 4 = .ok (.iload_n 2, 1) := by decide +kernel
theorem dX5_allSpare_5 : decode cX5_allSpare 5 = .ok (.aload_n 0, 1) := by decide +kernel
theorem dX5_allSpare_6 : decode cX5_allSpare 6 = .ok (.getfield 48, 3) := by decide +kernel
theorem dX5_allSpare_9 : decode cX5_allSpare 9 = .ok (.getfield 114, 3) := by decide +kernel
theorem dX5_allSpare_12 : decode cX5_allSpare 12 = .ok (.if_icmp .ge 17, 3) := by decide +kernel
theorem dX5_allSpare_15 : decode cX5_allSpare 15 = .ok (.iload_n 1, 1) := by decide +kernel
theorem dX5_allSpare_16 : decode cX5_allSpare 16 = .ok (.aload_n 0, 1) := by decide +kernel
theorem dX5_allSpare_17 : decode cX5_allSpare 17 = .ok (.iload_n 2, 1) := by decide +kernel
theorem dX5_allSpare_18 : decode cX5_allSpare 18 = .ok (.invokevirtual 91, 3) := by decide +kernel
theorem dX5_allSpare_21 : decode cX5_allSpare 21 = .ok (.iadd, 1) := by decide +kernel
theorem dX5_allSpare_22 : decode cX5_allSpare 22 = .ok (.istore_n 1, 1) := by decide +kernel
theorem dX5_allSpare_23 : decode cX5_allSpare 23 = .ok (.iinc 2 1, 3) := by decide +kernel
theorem dX5_allSpare_26 : decode cX5_allSpare 26 = .ok (.goto (-22), 3) := by decide +kernel
theorem dX5_allSpare_29 : decode cX5_allSpare 29 = .ok (.iload_n 1, 1) := by decide +kernel
theorem dX5_allSpare_30 : decode cX5_allSpare 30 = .ok (.ireturn, 1) := by decide +kernel
theorem dX5_allTallies_0 : decode cX5_allTallies 0 = .ok (.iconst 0, 1) := by decide +kernel
theorem dX5_allTallies_1 : decode cX5_allTallies 1 = .ok (.istore_n 1, 1) := by decide +kernel
theorem dX5_allTallies_2 : decode cX5_allTallies 2 = .ok (.iconst 0, 1) := by decide +kernel
theorem dX5_allTallies_3 : decode cX5_allTallies 3 = .ok (.istore_n 2, 1) := by decide +kernel
theorem dX5_allTallies_4 : decode cX5_allTallies 4 = .ok (.iload_n 2, 1) := by decide +kernel
theorem dX5_allTallies_5 : decode cX5_allTallies 5 = .ok (.aload_n 0, 1) := by decide +kernel
theorem dX5_allTallies_6 : decode cX5_allTallies 6 = .ok (.getfield 48, 3) := by decide +kernel
theorem dX5_allTallies_9 : decode cX5_allTallies 9 = .ok (.getfield 114, 3) := by decide +kernel
theorem dX5_allTallies_12 : decode cX5_allTallies 12 = .ok (.if_icmp .ge 23, 3) := by decide +kernel
theorem dX5_allTallies_15 : decode cX5_allTallies 15 = .ok (.iload_n 1, 1) := by decide +kernel
theorem dX5_allTallies_16 : decode cX5_allTallies 16 = .ok (.aload_n 0, 1) := by decide +kernel
theorem dX5_allTallies_17 : decode cX5_allTallies 17 = .ok (.getfield 19, 3) := by decide +kernel
theorem dX5_allTallies_20 : decode cX5_allTallies 20 = .ok (.bipush 16, 2) := by decide +kernel
theorem dX5_allTallies_22 : decode cX5_allTallies 22 = .ok (.iload_n 2, 1) := by decide +kernel
theorem dX5_allTallies_23 : decode cX5_allTallies 23 = .ok (.iadd, 1) := by decide +kernel
theorem dX5_allTallies_24 : decode cX5_allTallies 24 = .ok (.invokevirtual 81, 3) := by decide +kernel
theorem dX5_allTallies_27 : decode cX5_allTallies 27 = .ok (.iadd, 1) := by decide +kernel
theorem dX5_allTallies_28 : decode cX5_allTallies 28 = .ok (.istore_n 1, 1) := by decide +kernel
theorem dX5_allTallies_29 : decode cX5_allTallies 29 = .ok (.iinc 2 1, 3) := by decide +kernel
theorem dX5_allTallies_32 : decode cX5_allTallies 32 = .ok (.goto (-28), 3) := by decide +kernel
theorem dX5_allTallies_35 : decode cX5_allTallies 35 = .ok (.iload_n 1, 1) := by decide +kernel
theorem dX5_allTallies_36 : decode cX5_allTallies 36 = .ok (.ireturn, 1) := by decide +kernel
theorem dX5_spareTogether_0 : decode cX5_spareTogether 0 = .ok (.iconst 0, 1) := by decide +kernel
theorem dX5_spareTogether_1 : decode cX5_spareTogether 1 = .ok (.istore_n 2, 1) := by decide +kernel
theorem dX5_spareTogether_2 : decode cX5_spareTogether 2 = .ok (.iconst 0, 1) := by decide +kernel
theorem dX5_spareTogether_3 : decode cX5_spareTogether 3 = .ok (.istore_n 3, 1) := by decide +kernel
theorem dX5_spareTogether_4 : decode cX5_spareTogether 4 = .ok (.iload_n 3, 1) := by decide +kernel
theorem dX5_spareTogether_5 : decode cX5_spareTogether 5 = .ok (.bipush 6, 2) := by decide +kernel
theorem dX5_spareTogether_7 : decode cX5_spareTogether 7 = .ok (.if_icmp .ge 26, 3) := by decide +kernel
theorem dX5_spareTogether_10 : decode cX5_spareTogether 10 = .ok (.iload_n 1, 1) := by decide +kernel
theorem dX5_spareTogether_11 : decode cX5_spareTogether 11 = .ok (.iload_n 3, 1) := by decide +kernel
theorem dX5_spareTogether_12 : decode cX5_spareTogether 12 = .ok (.ishr, 1) := by decide +kernel
theorem dX5_spareTogether_13 : decode cX5_spareTogether 13 = .ok (.iconst 1, 1) := by decide +kernel
theorem dX5_spareTogether_14 : decode cX5_spareTogether 14 = .ok (.iand, 1) := by decide +kernel
theorem dX5_spareTogether_15 : decode cX5_spareTogether 15 = .ok (.ifCond .eq 12, 3) := by decide +kernel
theorem dX5_spareTogether_18 : decode cX5_spareTogether 18 = .ok (.iload_n 2, 1) := by decide +kernel
theorem dX5_spareTogether_19 : decode cX5_spareTogether 19 = .ok (.aload_n 0, 1) := by decide +kernel
theorem dX5_spareTogether_20 : decode cX5_spareTogether 20 = .ok (.getfield 27, 3) := by decide +kernel
theorem dX5_spareTogether_23 : decode cX5_spareTogether 23 = .ok (.iload_n 3, 1) := by decide +kernel
theorem dX5_spareTogether_24 : decode cX5_spareTogether 24 = .ok (.iaload, 1) := by decide +kernel
theorem dX5_spareTogether_25 : decode cX5_spareTogether 25 = .ok (.iadd, 1) := by decide +kernel
theorem dX5_spareTogether_26 : decode cX5_spareTogether 26 = .ok (.istore_n 2, 1) := by decide +kernel
theorem dX5_spareTogether_27 : decode cX5_spareTogether 27 = .ok (.iinc 3 1, 3) := by decide +kernel
theorem dX5_spareTogether_30 : decode cX5_spareTogether 30 = .ok (.goto (-26), 3) := by decide +kernel
theorem dX5_spareTogether_33 : decode cX5_spareTogether 33 = .ok (.iload_n 2, 1) := by decide +kernel
theorem dX5_spareTogether_34 : decode cX5_spareTogether 34 = .ok (.ireturn, 1) := by decide +kernel
theorem dX5_fewestWith_0 : decode cX5_fewestWith 0 = .ok (.bipush (-9), 2) := by decide +kernel
theorem dX5_fewestWith_2 : decode cX5_fewestWith 2 = .ok (.istore_n 2, 1) := by decide +kernel
theorem dX5_fewestWith_3 : decode cX5_fewestWith 3 = .ok (.iconst 0, 1) := by decide +kernel
theorem dX5_fewestWith_4 : decode cX5_fewestWith 4 = .ok (.istore_n 3, 1) := by decide +kernel
theorem dX5_fewestWith_5 : decode cX5_fewestWith 5 = .ok (.iload_n 3, 1) := by decide +kernel
theorem dX5_fewestWith_6 : decode cX5_fewestWith 6 = .ok (.iconst 1, 1) := by decide +kernel
theorem dX5_fewestWith_7 : decode cX5_fewestWith 7 = .ok (.aload_n 0, 1) := by decide +kernel
theorem dX5_fewestWith_8 : decode cX5_fewestWith 8 = .ok (.getfield 48, 3) := by decide +kernel
theorem dX5_fewestWith_11 : decode cX5_fewestWith 11 = .ok (.getfield 114, 3) := by decide +kernel
theorem dX5_fewestWith_14 : decode cX5_fewestWith 14 = .ok (.ishl, 1) := by decide +kernel
theorem dX5_fewestWith_15 : decode cX5_fewestWith 15 = .ok (.if_icmp .ge 49, 3) := by decide +kernel
theorem dX5_fewestWith_18 : decode cX5_fewestWith 18 = .ok (.iload_n 2, 1) := by decide +kernel
theorem dX5_fewestWith_19 : decode cX5_fewestWith 19 = .ok (.bipush (-9), 2) := by decide +kernel
theorem dX5_fewestWith_21 : decode cX5_fewestWith 21 = .ok (.if_icmp .eq 14, 3) := by decide +kernel
theorem dX5_fewestWith_24 : decode cX5_fewestWith 24 = .ok (.iload_n 3, 1) := by decide +kernel
theorem dX5_fewestWith_25 : decode cX5_fewestWith 25 = .ok (.invokestatic 147, 3) := by decide +kernel
theorem dX5_fewestWith_28 : decode cX5_fewestWith 28 = .ok (.iload_n 2, 1) := by decide +kernel
theorem dX5_fewestWith_29 : decode cX5_fewestWith 29 = .ok (.invokestatic 147, 3) := by decide +kernel
theorem dX5_fewestWith_32 : decode cX5_fewestWith 32 = .ok (.if_icmp .ge 7, 3) := by decide +kernel
theorem dX5_fewestWith_35 : decode cX5_fewestWith 35 = .ok (.iconst 1, 1) := by decide +kernel
theorem dX5_fewestWith_36 : decode cX5_fewestWith 36 = .ok (.goto 4, 3) := by decide +kernel
theorem dX5_fewestWith_39 : decode cX5_fewestWith 39 = .ok (.iconst 0, 1) := by decide +kernel
theorem dX5_fewestWith_40 : decode cX5_fewestWith 40 = .ok (.istore 4, 2) := by decide +kernel
theorem dX5_fewestWith_42 : decode cX5_fewestWith 42 = .ok (.iload 4, 2) := by decide +kernel
theorem dX5_fewestWith_44 : decode cX5_fewestWith 44 = .ok (.ifCond .eq 14, 3) := by decide +kernel
theorem dX5_fewestWith_47 : decode cX5_fewestWith 47 = .ok (.aload_n 0, 1) := by decide +kernel
theorem dX5_fewestWith_48 : decode cX5_fewestWith 48 = .ok (.iload_n 3, 1) := by decide +kernel
theorem dX5_fewestWith_49 : decode cX5_fewestWith 49 = .ok (.invokevirtual 165, 3) := by decide +kernel
theorem dX5_fewestWith_52 : decode cX5_fewestWith 52 = .ok (.iload_n 1, 1) := by decide +kernel
theorem dX5_fewestWith_53 : decode cX5_fewestWith 53 = .ok (.if_icmp .lt 5, 3) := by decide +kernel
theorem dX5_fewestWith_56 : decode cX5_fewestWith 56 = .ok (.iload_n 3, 1) := by decide +kernel
theorem dX5_fewestWith_57 : decode cX5_fewestWith 57 = .ok (.istore_n 2, 1) := by decide +kernel
theorem dX5_fewestWith_58 : decode cX5_fewestWith 58 = .ok (.iinc 3 1, 3) := by decide +kernel
theorem dX5_fewestWith_61 : decode cX5_fewestWith 61 = .ok (.goto (-56), 3) := by decide +kernel
theorem dX5_fewestWith_64 : decode cX5_fewestWith 64 = .ok (.iload_n 2, 1) := by decide +kernel
theorem dX5_fewestWith_65 : decode cX5_fewestWith 65 = .ok (.ireturn, 1) := by decide +kernel
theorem dX5_chanceOf_0 : decode cX5_chanceOf 0 = .ok (.iconst 1, 1) := by decide +kernel
theorem dX5_chanceOf_1 : decode cX5_chanceOf 1 = .ok (.istore_n 3, 1) := by decide +kernel
theorem dX5_chanceOf_2 : decode cX5_chanceOf 2 = .ok (.iconst 0, 1) := by decide +kernel
theorem dX5_chanceOf_3 : decode cX5_chanceOf 3 = .ok (.istore 4, 2) := by decide +kernel
theorem dX5_chanceOf_5 : decode cX5_chanceOf 5 = .ok (.iload 4, 2) := by decide +kernel
theorem dX5_chanceOf_7 : decode cX5_chanceOf 7 = .ok (.aload_n 0, 1) := by decide +kernel
theorem dX5_chanceOf_8 : decode cX5_chanceOf 8 = .ok (.getfield 48, 3) := by decide +kernel
theorem dX5_chanceOf_11 : decode cX5_chanceOf 11 = .ok (.getfield 114, 3) := by decide +kernel
theorem dX5_chanceOf_14 : decode cX5_chanceOf 14 = .ok (.if_icmp .ge 29, 3) := by decide +kernel
theorem dX5_chanceOf_17 : decode cX5_chanceOf 17 = .ok (.iload_n 3, 1) := by decide +kernel
theorem dX5_chanceOf_18 : decode cX5_chanceOf 18 = .ok (.iload_n 1, 1) := by decide +kernel
theorem dX5_chanceOf_19 : decode cX5_chanceOf 19 = .ok (.iload 4, 2) := by decide +kernel
theorem dX5_chanceOf_21 : decode cX5_chanceOf 21 = .ok (.ishr, 1) := by decide +kernel
theorem dX5_chanceOf_22 : decode cX5_chanceOf 22 = .ok (.iconst 1, 1) := by decide +kernel
theorem dX5_chanceOf_23 : decode cX5_chanceOf 23 = .ok (.iand, 1) := by decide +kernel
theorem dX5_chanceOf_24 : decode cX5_chanceOf 24 = .ok (.ifCond .eq 10, 3) := by decide +kernel
theorem dX5_chanceOf_27 : decode cX5_chanceOf 27 = .ok (.bipush 10, 2) := by decide +kernel
theorem dX5_chanceOf_29 : decode cX5_chanceOf 29 = .ok (.iload_n 2, 1) := by decide +kernel
theorem dX5_chanceOf_30 : decode cX5_chanceOf 30 = .ok (.isub, 1) := by decide +kernel
theorem dX5_chanceOf_31 : decode cX5_chanceOf 31 = .ok (.goto 4, 3) := by decide +kernel
theorem dX5_chanceOf_34 : decode cX5_chanceOf 34 = .ok (.iload_n 2, 1) := by decide +kernel
theorem dX5_chanceOf_35 : decode cX5_chanceOf 35 = .ok (.imul, 1) := by decide +kernel
theorem dX5_chanceOf_36 : decode cX5_chanceOf 36 = .ok (.istore_n 3, 1) := by decide +kernel
theorem dX5_chanceOf_37 : decode cX5_chanceOf 37 = .ok (.iinc 4 1, 3) := by decide +kernel
theorem dX5_chanceOf_40 : decode cX5_chanceOf 40 = .ok (.goto (-35), 3) := by decide +kernel
theorem dX5_chanceOf_43 : decode cX5_chanceOf 43 = .ok (.iload_n 3, 1) := by decide +kernel
theorem dX5_chanceOf_44 : decode cX5_chanceOf 44 = .ok (.ireturn, 1) := by decide +kernel
theorem dX5_partOfFraction_0 : decode cX5_partOfFraction 0 = .ok (.iload_n 0, 1) := by decide +kernel
theorem dX5_partOfFraction_1 : decode cX5_partOfFraction 1 = .ok (.iload_n 1, 1) := by decide +kernel
theorem dX5_partOfFraction_2 : decode cX5_partOfFraction 2 = .ok (.invokestatic 217, 3) := by decide +kernel
theorem dX5_partOfFraction_5 : decode cX5_partOfFraction 5 = .ok (.istore_n 3, 1) := by decide +kernel
theorem dX5_partOfFraction_6 : decode cX5_partOfFraction 6 = .ok (.iload_n 3, 1) := by decide +kernel
theorem dX5_partOfFraction_7 : decode cX5_partOfFraction 7 = .ok (.iconst 1, 1) := by decide +kernel
theorem dX5_partOfFraction_8 : decode cX5_partOfFraction 8 = .ok (.if_icmp .ge 5, 3) := by decide +kernel
theorem dX5_partOfFraction_11 : decode cX5_partOfFraction 11 = .ok (.iconst 0, 1) := by decide +kernel
theorem dX5_partOfFraction_12 : decode cX5_partOfFraction 12 = .ok (.ireturn, 1) := by decide +kernel
theorem dX5_partOfFraction_13 : decode cX5_partOfFraction 13 = .ok (.iload_n 2, 1) := by decide +kernel
theorem dX5_partOfFraction_14 : decode cX5_partOfFraction 14 = .ok (.ifCond .ne 7, 3) := by decide +kernel
theorem dX5_partOfFraction_17 : decode cX5_partOfFraction 17 = .ok (.iload_n 0, 1) := by decide +kernel
theorem dX5_partOfFraction_18 : decode cX5_partOfFraction 18 = .ok (.goto 4, 3) := by decide +kernel
theorem dX5_partOfFraction_21 : decode cX5_partOfFraction 21 = .ok (.iload_n 1, 1) := by decide +kernel
theorem dX5_partOfFraction_22 : decode cX5_partOfFraction 22 = .ok (.iload_n 3, 1) := by decide +kernel
theorem dX5_partOfFraction_23 : decode cX5_partOfFraction 23 = .ok (.idiv, 1) := by decide +kernel
theorem dX5_partOfFraction_24 : decode cX5_partOfFraction 24 = .ok (.ireturn, 1) := by decide +kernel
theorem dX5_greatestDivisor_0 : decode cX5_greatestDivisor 0 = .ok (.iload_n 0, 1) := by decide +kernel
theorem dX5_greatestDivisor_1 : decode cX5_greatestDivisor 1 = .ok (.istore_n 2, 1) := by decide +kernel
theorem dX5_greatestDivisor_2 : decode cX5_greatestDivisor 2 = .ok (.iload_n 1, 1) := by decide +kernel
theorem dX5_greatestDivisor_3 : decode cX5_greatestDivisor 3 = .ok (.istore_n 3, 1) := by decide +kernel
theorem dX5_greatestDivisor_4 : decode cX5_greatestDivisor 4 = .ok (.iconst 0, 1) := by decide +kernel
theorem dX5_greatestDivisor_5 : decode cX5_greatestDivisor 5 = .ok (.istore 4, 2) := by decide +kernel
theorem dX5_greatestDivisor_7 : decode cX5_greatestDivisor 7 = .ok (.iload 4, 2) := by decide +kernel
theorem dX5_greatestDivisor_9 : decode cX5_greatestDivisor 9 = .ok (.bipush 64, 2) := by decide +kernel
theorem dX5_greatestDivisor_11 : decode cX5_greatestDivisor 11 = .ok (.if_icmp .ge 23, 3) := by decide +kernel
theorem dX5_greatestDivisor_14 : decode cX5_greatestDivisor 14 = .ok (.iload_n 3, 1) := by decide +kernel
theorem dX5_greatestDivisor_15 : decode cX5_greatestDivisor 15 = .ok (.ifCond .eq 19, 3) := by decide +kernel
theorem dX5_greatestDivisor_18 : decode cX5_greatestDivisor 18 = .ok (.iload_n 2, 1) := by decide +kernel
theorem dX5_greatestDivisor_19 : decode cX5_greatestDivisor 19 = .ok (.iload_n 3, 1) := by decide +kernel
theorem dX5_greatestDivisor_20 : decode cX5_greatestDivisor 20 = .ok (.irem, 1) := by decide +kernel
theorem dX5_greatestDivisor_21 : decode cX5_greatestDivisor 21 = .ok (.istore 5, 2) := by decide +kernel
theorem dX5_greatestDivisor_23 : decode cX5_greatestDivisor 23 = .ok (.iload_n 3, 1) := by decide +kernel
theorem dX5_greatestDivisor_24 : decode cX5_greatestDivisor 24 = .ok (.istore_n 2, 1) := by decide +kernel
theorem dX5_greatestDivisor_25 : decode cX5_greatestDivisor 25 = .ok (.iload 5, 2) := by decide +kernel
theorem dX5_greatestDivisor_27 : decode cX5_greatestDivisor 27 = .ok (.istore_n 3, 1) := by decide +kernel
theorem dX5_greatestDivisor_28 : decode cX5_greatestDivisor 28 = .ok (.iinc 4 1, 3) := by decide +kernel
theorem dX5_greatestDivisor_31 : decode cX5_greatestDivisor 31 = .ok (.goto (-24), 3) := by decide +kernel
theorem dX5_greatestDivisor_34 : decode cX5_greatestDivisor 34 = .ok (.iload_n 2, 1) := by decide +kernel
theorem dX5_greatestDivisor_35 : decode cX5_greatestDivisor 35 = .ok (.ireturn, 1) := by decide +kernel
theorem dX5_villageHas_0 : decode cX5_villageHas 0 = .ok (.iload_n 0, 1) := by decide +kernel
theorem dX5_villageHas_1 : decode cX5_villageHas 1 = .ok (.ifCond .ne 6, 3) := by decide +kernel
theorem dX5_villageHas_4 : decode cX5_villageHas 4 = .ok (.iload_n 2, 1) := by decide +kernel
theorem dX5_villageHas_5 : decode cX5_villageHas 5 = .ok (.ineg, 1) := by decide +kernel
theorem dX5_villageHas_6 : decode cX5_villageHas 6 = .ok (.ireturn, 1) := by decide +kernel
theorem dX5_villageHas_7 : decode cX5_villageHas 7 = .ok (.iload_n 1, 1) := by decide +kernel
theorem dX5_villageHas_8 : decode cX5_villageHas 8 = .ok (.ifCond .eq 10, 3) := by decide +kernel
theorem dX5_villageHas_11 : decode cX5_villageHas 11 = .ok (.iload_n 2, 1) := by decide +kernel
theorem dX5_villageHas_12 : decode cX5_villageHas 12 = .ok (.iload_n 3, 1) := by decide +kernel
theorem dX5_villageHas_13 : decode cX5_villageHas 13 = .ok (.iadd, 1) := by decide +kernel
theorem dX5_villageHas_14 : decode cX5_villageHas 14 = .ok (.ineg, 1) := by decide +kernel
theorem dX5_villageHas_15 : decode cX5_villageHas 15 = .ok (.goto 4, 3) := by decide +kernel
theorem dX5_villageHas_18 : decode cX5_villageHas 18 = .ok (.iconst 0, 1) := by decide +kernel
theorem dX5_villageHas_19 : decode cX5_villageHas 19 = .ok (.ireturn, 1) := by decide +kernel
theorem dX5_buyerHas_0 : decode cX5_buyerHas 0 = .ok (.iload_n 0, 1) := by decide +kernel
theorem dX5_buyerHas_1 : decode cX5_buyerHas 1 = .ok (.ifCond .eq 11, 3) := by decide +kernel
theorem dX5_buyerHas_4 : decode cX5_buyerHas 4 = .ok (.iload_n 1, 1) := by decide +kernel
theorem dX5_buyerHas_5 : decode cX5_buyerHas 5 = .ok (.ifCond .ne 7, 3) := by decide +kernel
theorem dX5_buyerHas_8 : decode cX5_buyerHas 8 = .ok (.iconst 0, 1) := by decide +kernel
theorem dX5_buyerHas_9 : decode cX5_buyerHas 9 = .ok (.goto 4, 3) := by decide +kernel
theorem dX5_buyerHas_12 : decode cX5_buyerHas 12 = .ok (.iload_n 2, 1) := by decide +kernel
theorem dX5_buyerHas_13 : decode cX5_buyerHas 13 = .ok (.istore 4, 2) := by decide +kernel
theorem dX5_buyerHas_15 : decode cX5_buyerHas 15 = .ok (.iload_n 1, 1) := by decide +kernel
theorem dX5_buyerHas_16 : decode cX5_buyerHas 16 = .ok (.ifCond .eq 10, 3) := by decide +kernel
theorem dX5_buyerHas_19 : decode cX5_buyerHas 19 = .ok (.iload 4, 2) := by decide +kernel
theorem dX5_buyerHas_21 : decode cX5_buyerHas 21 = .ok (.iload_n 3, 1) := by decide +kernel
theorem dX5_buyerHas_22 : decode cX5_buyerHas 22 = .ok (.isub, 1) := by decide +kernel
theorem dX5_buyerHas_23 : decode cX5_buyerHas 23 = .ok (.goto 5, 3) := by decide +kernel
theorem dX5_buyerHas_26 : decode cX5_buyerHas 26 = .ok (.iload 4, 2) := by decide +kernel
theorem dX5_buyerHas_28 : decode cX5_buyerHas 28 = .ok (.ireturn, 1) := by decide +kernel
theorem dX5_askKind_0 : decode cX5_askKind 0 = .ok (.iload_n 1, 1) := by decide +kernel
theorem dX5_askKind_1 : decode cX5_askKind 1 = .ok (.iconst 0, 1) := by decide +kernel
theorem dX5_askKind_2 : decode cX5_askKind 2 = .ok (.iconst 5, 1) := by decide +kernel
theorem dX5_askKind_3 : decode cX5_askKind 3 = .ok (.invokestatic 59, 3) := by decide +kernel
theorem dX5_askKind_6 : decode cX5_askKind 6 = .ok (.ifCond .eq 8, 3) := by decide +kernel
theorem dX5_askKind_9 : decode cX5_askKind 9 = .ok (.iload_n 3, 1) := by decide +kernel
theorem dX5_askKind_10 : decode cX5_askKind 10 = .ok (.iconst 5, 1) := by decide +kernel
theorem dX5_askKind_11 : decode cX5_askKind 11 = .ok (.if_icmp .le 5, 3) := by decide +kernel
theorem dX5_askKind_14 : decode cX5_askKind 14 = .ok (.iconst 0, 1) := by decide +kernel
theorem dX5_askKind_15 : decode cX5_askKind 15 = .ok (.ireturn, 1) := by decide +kernel
theorem dX5_askKind_16 : decode cX5_askKind 16 = .ok (.aload_n 0, 1) := by decide +kernel
theorem dX5_askKind_17 : decode cX5_askKind 17 = .ok (.dup, 1) := by decide +kernel
theorem dX5_askKind_18 : decode cX5_askKind 18 = .ok (.getfield 205, 3) := by decide +kernel
theorem dX5_askKind_21 : decode cX5_askKind 21 = .ok (.getstatic 220, 3) := by decide +kernel
theorem dX5_askKind_24 : decode cX5_askKind 24 = .ok (.iload_n 1, 1) := by decide +kernel
theorem dX5_askKind_25 : decode cX5_askKind 25 = .ok (.iaload, 1) := by decide +kernel
theorem dX5_askKind_26 : decode cX5_askKind 26 = .ok (.i2l, 1) := by decide +kernel
theorem dX5_askKind_27 : decode cX5_askKind 27 = .ok (.ladd, 1) := by decide +kernel
theorem dX5_askKind_28 : decode cX5_askKind 28 = .ok (.putfield 205, 3) := by decide +kernel
theorem dX5_askKind_31 : decode cX5_askKind 31 = .ok (.iload_n 1, 1) := by decide +kernel
theorem dX5_askKind_32 : decode cX5_askKind 32 = .ok (.ifCond .ne 14, 3) := by decide +kernel
theorem dX5_askKind_35 : decode cX5_askKind 35 = .ok (.aload_n 0, 1) := by decide +kernel
theorem dX5_askKind_36 : decode cX5_askKind 36 = .ok (.getfield 19, 3) := by decide +kernel
theorem dX5_askKind_39 : decode cX5_askKind 39 = .ok (.iconst 4, 1) := by decide +kernel
theorem dX5_askKind_40 : decode cX5_askKind 40 = .ok (.iload_n 2, 1) := by decide +kernel
theorem dX5_askKind_41 : decode cX5_askKind 41 = .ok (.iadd, 1) := by decide +kernel
theorem dX5_askKind_42 : decode cX5_askKind 42 = .ok (.invokevirtual 81, 3) := by decide +kernel
theorem dX5_askKind_45 : decode cX5_askKind 45 = .ok (.ireturn, 1) := by decide +kernel
theorem dX5_askKind_46 : decode cX5_askKind 46 = .ok (.aload_n 0, 1) := by decide +kernel
theorem dX5_askKind_47 : decode cX5_askKind 47 = .ok (.getstatic 223, 3) := by decide +kernel
theorem dX5_askKind_50 : decode cX5_askKind 50 = .ok (.iload_n 1, 1) := by decide +kernel
theorem dX5_askKind_51 : decode cX5_askKind 51 = .ok (.iaload, 1) := by decide +kernel
theorem dX5_askKind_52 : decode cX5_askKind 52 = .ok (.iload_n 2, 1) := by decide +kernel
theorem dX5_askKind_53 : decode cX5_askKind 53 = .ok (.iload_n 3, 1) := by decide +kernel
theorem dX5_askKind_54 : decode cX5_askKind 54 = .ok (.iconst 1, 1) := by decide +kernel
theorem dX5_askKind_55 : decode cX5_askKind 55 = .ok (.iadd, 1) := by decide +kernel
theorem dX5_askKind_56 : decode cX5_askKind 56 = .ok (.invokevirtual 192, 3) := by decide +kernel
theorem dX5_askKind_59 : decode cX5_askKind 59 = .ok (.istore 4, 2) := by decide +kernel
theorem dX5_askKind_61 : decode cX5_askKind 61 = .ok (.iload_n 1, 1) := by decide +kernel
theorem dX5_askKind_62 : decode cX5_askKind 62 = .ok (.tableswitch 77 1 4 #[30, 45, 57, 62], 30) := by decide +kernel
theorem dX5_askKind_92 : decode cX5_askKind 92 = .ok (.iload 4, 2) := by decide +kernel
theorem dX5_askKind_94 : decode cX5_askKind 94 = .ok (.aload_n 0, 1) := by decide +kernel
theorem dX5_askKind_95 : decode cX5_askKind 95 = .ok (.getfield 19, 3) := by decide +kernel
theorem dX5_askKind_98 : decode cX5_askKind 98 = .ok (.bipush 10, 2) := by decide +kernel
theorem dX5_askKind_100 : decode cX5_askKind 100 = .ok (.iload_n 2, 1) := by decide +kernel
theorem dX5_askKind_101 : decode cX5_askKind 101 = .ok (.iadd, 1) := by decide +kernel
theorem dX5_askKind_102 : decode cX5_askKind 102 = .ok (.invokevirtual 81, 3) := by decide +kernel
theorem dX5_askKind_105 : decode cX5_askKind 105 = .ok (.iadd, 1) := by decide +kernel
theorem dX5_askKind_106 : decode cX5_askKind 106 = .ok (.ireturn, 1) := by decide +kernel
theorem dX5_askKind_107 : decode cX5_askKind 107 = .ok (.iload 4, 2) := by decide +kernel
theorem dX5_askKind_109 : decode cX5_askKind 109 = .ok (.aload_n 0, 1) := by decide +kernel
theorem dX5_askKind_110 : decode cX5_askKind 110 = .ok (.getfield 48, 3) := by decide +kernel
theorem dX5_askKind_113 : decode cX5_askKind 113 = .ok (.iload_n 2, 1) := by decide +kernel
theorem dX5_askKind_114 : decode cX5_askKind 114 = .ok (.invokevirtual 85, 3) := by decide +kernel
theorem dX5_askKind_117 : decode cX5_askKind 117 = .ok (.isub, 1) := by decide +kernel
theorem dX5_askKind_118 : decode cX5_askKind 118 = .ok (.ireturn, 1) := by decide +kernel
theorem dX5_askKind_119 : decode cX5_askKind 119 = .ok (.iload 4, 2) := by decide +kernel
theorem dX5_askKind_121 : decode cX5_askKind 121 = .ok (.iconst 2, 1) := by decide +kernel
theorem dX5_askKind_122 : decode cX5_askKind 122 = .ok (.imul, 1) := by decide +kernel
theorem dX5_askKind_123 : decode cX5_askKind 123 = .ok (.ireturn, 1) := by decide +kernel
theorem dX5_askKind_124 : decode cX5_askKind 124 = .ok (.iload 4, 2) := by decide +kernel
theorem dX5_askKind_126 : decode cX5_askKind 126 = .ok (.aload_n 0, 1) := by decide +kernel
theorem dX5_askKind_127 : decode cX5_askKind 127 = .ok (.getfield 19, 3) := by decide +kernel
theorem dX5_askKind_130 : decode cX5_askKind 130 = .ok (.bipush 22, 2) := by decide +kernel
theorem dX5_askKind_132 : decode cX5_askKind 132 = .ok (.iload_n 2, 1) := by decide +kernel
theorem dX5_askKind_133 : decode cX5_askKind 133 = .ok (.iadd, 1) := by decide +kernel
theorem dX5_askKind_134 : decode cX5_askKind 134 = .ok (.invokevirtual 81, 3) := by decide +kernel
theorem dX5_askKind_137 : decode cX5_askKind 137 = .ok (.iadd, 1) := by decide +kernel
theorem dX5_askKind_138 : decode cX5_askKind 138 = .ok (.ireturn, 1) := by decide +kernel
theorem dX5_askKind_139 : decode cX5_askKind 139 = .ok (.iload 4, 2) := by decide +kernel
theorem dX5_askKind_141 : decode cX5_askKind 141 = .ok (.aload_n 0, 1) := by decide +kernel
theorem dX5_askKind_142 : decode cX5_askKind 142 = .ok (.getfield 19, 3) := by decide +kernel
theorem dX5_askKind_145 : decode cX5_askKind 145 = .ok (.bipush 16, 2) := by decide +kernel
theorem dX5_askKind_147 : decode cX5_askKind 147 = .ok (.iload_n 2, 1) := by decide +kernel
theorem dX5_askKind_148 : decode cX5_askKind 148 = .ok (.iadd, 1) := by decide +kernel
theorem dX5_askKind_149 : decode cX5_askKind 149 = .ok (.invokevirtual 81, 3) := by decide +kernel
theorem dX5_askKind_152 : decode cX5_askKind 152 = .ok (.iadd, 1) := by decide +kernel
theorem dX5_askKind_153 : decode cX5_askKind 153 = .ok (.ireturn, 1) := by decide +kernel
end
section
theorem dX6_init_0 : decode cX6_init 0 = .ok (.aload_n 0, 1) := by decide +kernel
theorem dX6_init_1 : decode cX6_init 1 = .ok (.invokespecial 1, 3) := by decide +kernel
theorem dX6_init_4 : decode cX6_init 4 = .ok (.aload_n 0, 1) := by decide +kernel
theorem dX6_init_5 : decode cX6_init 5 = .ok (.sipush 180, 3) := by decide +kernel
theorem dX6_init_8 : decode cX6_init 8 = .ok (.newarray .byte, 2) := by decide +kernel
theorem dX6_init_10 : decode cX6_init 10 = .ok (.putfield 7, 3) := by decide +kernel
theorem dX6_init_13 : decode cX6_init 13 = .ok (.aload_n 0, 1) := by decide +kernel
theorem dX6_init_14 : decode cX6_init 14 = .ok (.iconst 2, 1) := by decide +kernel
theorem dX6_init_15 : decode cX6_init 15 = .ok (.newarray .int, 2) := by decide +kernel
theorem dX6_init_17 : decode cX6_init 17 = .ok (.putfield 13, 3) := by decide +kernel
theorem dX6_init_20 : decode cX6_init 20 = .ok (.aload_n 0, 1) := by decide +kernel
theorem dX6_init_21 : decode cX6_init 21 = .ok (.bipush 6, 2) := by decide +kernel
theorem dX6_init_23 : decode cX6_init 23 = .ok (.newarray .int, 2) := by decide +kernel
theorem dX6_init_25 : decode cX6_init 25 = .ok (.putfield 17, 3) := by decide +kernel
theorem dX6_init_28 : decode cX6_init 28 = .ok (.aload_n 0, 1) := by decide +kernel
theorem dX6_init_29 : decode cX6_init 29 = .ok (.bipush 12, 2) := by decide +kernel
theorem dX6_init_31 : decode cX6_init 31 = .ok (.newarray .int, 2) := by decide +kernel
theorem dX6_init_33 : decode cX6_init 33 = .ok (.putfield 20, 3) := by decide +kernel
theorem dX6_init_36 : decode cX6_init 36 = .ok (.aload_n 0, 1) := by decide +kernel
theorem dX6_init_37 : decode cX6_init 37 = .ok (.bipush 12, 2) := by decide +kernel
theorem dX6_init_39 : decode cX6_init 39 = .ok (.newarray .int, 2) := by decide +kernel
theorem dX6_init_41 : decode cX6_init 41 = .ok (.putfield 23, 3) := by decide +kernel
theorem dX6_init_44 : decode cX6_init 44 = .ok (.aload_n 0, 1) := by decide +kernel
theorem dX6_init_45 : decode cX6_init 45 = .ok (.iconst 2, 1) := by decide +kernel
theorem dX6_init_46 : decode cX6_init 46 = .ok (.newarray .int, 2) := by decide +kernel
theorem dX6_init_48 : decode cX6_init 48 = .ok (.putfield 26, 3) := by decide +kernel
theorem dX6_init_51 : decode cX6_init 51 = .ok (.aload_n 0, 1) := by decide +kernel
theorem dX6_init_52 : decode cX6_init 52 = .ok (.bipush 72, 2) := by decide +kernel
theorem dX6_init_54 : decode cX6_init 54 = .ok (.newarray .int, 2) := by decide +kernel
theorem dX6_init_56 : decode cX6_init 56 = .ok (.putfield 29, 3) := by decide +kernel
theorem dX6_init_59 : decode cX6_init 59 = .ok (.aload_n 0, 1) := by decide +kernel
theorem dX6_init_60 : decode cX6_init 60 = .ok (.bipush 72, 2) := by decide +kernel
theorem dX6_init_62 : decode cX6_init 62 = .ok (.newarray .int, 2) := by decide +kernel
theorem dX6_init_64 : decode cX6_init 64 = .ok (.putfield 32, 3) := by decide +kernel
theorem dX6_init_67 : decode cX6_init 67 = .ok (.aload_n 0, 1) := by decide +kernel
theorem dX6_init_68 : decode cX6_init 68 = .ok (.bipush 6, 2) := by decide +kernel
theorem dX6_init_70 : decode cX6_init 70 = .ok (.newarray .int, 2) := by decide +kernel
theorem dX6_init_72 : decode cX6_init 72 = .ok (.putfield 35, 3) := by decide +kernel
theorem dX6_init_75 : decode cX6_init 75 = .ok (.aload_n 0, 1) := by decide +kernel
theorem dX6_init_76 : decode cX6_init 76 = .ok (.sipush 927, 3) := by decide +kernel
theorem dX6_init_79 : decode cX6_init 79 = .ok (.newarray .int, 2) := by decide +kernel
theorem dX6_init_81 : decode cX6_init 81 = .ok (.putfield 38, 3) := by decide +kernel
theorem dX6_init_84 : decode cX6_init 84 = .ok (.aload_n 0, 1) := by decide +kernel
theorem dX6_init_85 : decode cX6_init 85 = .ok (.iconst 2, 1) := by decide +kernel
theorem dX6_init_86 : decode cX6_init 86 = .ok (.newarray .boolean, 2) := by decide +kernel
theorem dX6_init_88 : decode cX6_init 88 = .ok (.putfield 41, 3) := by decide +kernel
theorem dX6_init_91 : decode cX6_init 91 = .ok (.aload_n 0, 1) := by decide +kernel
theorem dX6_init_92 : decode cX6_init 92 = .ok (.bipush 6, 2) := by decide +kernel
theorem dX6_init_94 : decode cX6_init 94 = .ok (.newarray .int, 2) := by decide +kernel
theorem dX6_init_96 : decode cX6_init 96 = .ok (.putfield 45, 3) := by decide +kernel
theorem dX6_init_99 : decode cX6_init 99 = .ok (.aload_n 0, 1) := by decide +kernel
theorem dX6_init_100 : decode cX6_init 100 = .ok (.invokevirtual 48, 3) := by decide +kernel
theorem dX6_init_103 : decode cX6_init 103 = .ok (.aload_n 0, 1) := by decide +kernel
theorem dX6_init_104 : decode cX6_init 104 = .ok (.invokevirtual 51, 3) := by decide +kernel
theorem dX6_init_107 : decode cX6_init 107 = .ok (.return_, 1) := by decide +kernel
theorem dX6_in_0 : decode cX6_in 0 = .ok (.iload_n 0, 1) := by decide +kernel
theorem dX6_in_1 : decode cX6_in 1 = .ok (.iload_n 1, 1) := by decide +kernel
theorem dX6_in_2 : decode cX6_in 2 = .ok (.if_icmp .lt 12, 3) := by decide +kernel
theorem dX6_in_5 : decode cX6_in 5 = .ok (.iload_n 0, 1) := by decide +kernel
theorem dX6_in_6 : decode cX6_in 6 = .ok (.iload_n 2, 1) := by decide +kernel
theorem dX6_in_7 : decode cX6_in 7 = .ok (.if_icmp .gt 7, 3) := by decide +kernel
theorem dX6_in_10 : decode cX6_in 10 = .ok (.iconst 1, 1) := by decide +kernel
theorem dX6_in_11 : decode cX6_in 11 = .ok (.goto 4, 3) := by decide +kernel
theorem dX6_in_14 : decode cX6_in 14 = .ok (.iconst 0, 1) := by decide +kernel
theorem dX6_in_15 : decode cX6_in 15 = .ok (.ireturn, 1) := by decide +kernel
theorem dX6_type_0 : decode cX6_type 0 = .ok (.iload_n 1, 1) := by decide +kernel
theorem dX6_type_1 : decode cX6_type 1 = .ok (.iconst 0, 1) := by decide +kernel
theorem dX6_type_2 : decode cX6_type 2 = .ok (.sipush 255, 3) := by decide +kernel
theorem dX6_type_5 : decode cX6_type 5 = .ok (.invokestatic 54, 3) := by decide +kernel
theorem dX6_type_8 : decode cX6_type 8 = .ok (.ifCond .ne 5, 3) := by decide +kernel
theorem dX6_type_11 : decode cX6_type 11 = .ok (.iconst (-1), 1) := by decide +kernel
theorem dX6_type_12 : decode cX6_type 12 = .ok (.ireturn, 1) := by decide +kernel
theorem dX6_type_13 : decode cX6_type 13 = .ok (.aload_n 0, 1) := by decide +kernel
theorem dX6_type_14 : decode cX6_type 14 = .ok (.getfield 58, 3) := by decide +kernel
theorem dX6_type_17 : decode cX6_type 17 = .ok (.sipush 180, 3) := by decide +kernel
theorem dX6_type_20 : decode cX6_type 20 = .ok (.if_icmp .ne 6, 3) := by decide +kernel
theorem dX6_type_23 : decode cX6_type 23 = .ok (.bipush (-3), 2) := by decide +kernel
theorem dX6_type_25 : decode cX6_type 25 = .ok (.ireturn, 1) := by decide +kernel
theorem dX6_type_26 : decode cX6_type 26 = .ok (.aload_n 0, 1) := by decide +kernel
theorem dX6_type_27 : decode cX6_type 27 = .ok (.getfield 7, 3) := by decide +kernel
theorem dX6_type_30 : decode cX6_type 30 = .ok (.aload_n 0, 1) := by decide +kernel
theorem dX6_type_31 : decode cX6_type 31 = .ok (.getfield 58, 3) := by decide +kernel
theorem dX6_type_34 : decode cX6_type 34 = .ok (.iload_n 1, 1) := by decide +kernel
theorem dX6_type_35 : decode cX6_type 35 = .ok (.i2b, 1) := by decide +kernel
theorem dX6_type_36 : decode cX6_type 36 = .ok (.bastore, 1) := by decide +kernel
theorem dX6_type_37 : decode cX6_type 37 = .ok (.aload_n 0, 1) := by decide +kernel
theorem dX6_type_38 : decode cX6_type 38 = .ok (.dup, 1) := by decide +kernel
theorem dX6_type_39 : decode cX6_type 39 = .ok (.getfield 58, 3) := by decide +kernel
theorem dX6_type_42 : decode cX6_type 42 = .ok (.iconst 1, 1) := by decide +kernel
theorem dX6_type_43 : decode cX6_type 43 = .ok (.iadd, 1) := by decide +kernel
theorem dX6_type_44 : decode cX6_type 44 = .ok (.putfield 58, 3) := by decide +kernel
theorem dX6_type_47 : decode cX6_type 47 = .ok (.aload_n 0, 1) := by decide +kernel
theorem dX6_type_48 : decode cX6_type 48 = .ok (.getfield 58, 3) := by decide +kernel
theorem dX6_type_51 : decode cX6_type 51 = .ok (.ireturn, 1) := by decide +kernel
theorem dX6_clear_0 : decode cX6_clear 0 = .ok (.aload_n 0, 1) := by decide +kernel
theorem dX6_clear_1 : decode cX6_clear 1 = .ok (.getfield 58, 3) := by decide +kernel
theorem dX6_clear_4 : decode cX6_clear 4 = .ok (.istore_n 1, 1) := by decide +kernel
theorem dX6_clear_5 : decode cX6_clear 5 = .ok (.aload_n 0, 1) := by decide +kernel
theorem dX6_clear_6 : decode cX6_clear 6 = .ok (.iconst 0, 1) := by decide +kernel
theorem dX6_clear_7 : decode cX6_clear 7 = .ok (.putfield 58, 3) := by decide +kernel
theorem dX6_clear_10 : decode cX6_clear 10 = .ok (.iload_n 1, 1) := by decide +kernel
theorem dX6_clear_11 : decode cX6_clear 11 = .ok (.ireturn, 1) := by decide +kernel
theorem dX6_here_0 : decode cX6_here 0 = .ok (.aload_n 0, 1) := by decide +kernel
theorem dX6_here_1 : decode cX6_here 1 = .ok (.getfield 62, 3) := by decide +kernel
theorem dX6_here_4 : decode cX6_here 4 = .ok (.aload_n 0, 1) := by decide +kernel
theorem dX6_here_5 : decode cX6_here 5 = .ok (.getfield 58, 3) := by decide +kernel
theorem dX6_here_8 : decode cX6_here 8 = .ok (.if_icmp .ge 19, 3) := by decide +kernel
theorem dX6_here_11 : decode cX6_here 11 = .ok (.aload_n 0, 1) := by decide +kernel
theorem dX6_here_12 : decode cX6_here 12 = .ok (.getfield 7, 3) := by decide +kernel
theorem dX6_here_15 : decode cX6_here 15 = .ok (.aload_n 0, 1) := by decide +kernel
theorem dX6_here_16 : decode cX6_here 16 = .ok (.getfield 62, 3) := by decide +kernel
theorem dX6_here_19 : decode cX6_here 19 = .ok (.baload, 1) := by decide +kernel
theorem dX6_here_20 : decode cX6_here 20 = .ok (.sipush 255, 3) := by decide +kernel
theorem dX6_here_23 : decode cX6_here 23 = .ok (.iand, 1) := by decide +kernel
theorem dX6_here_24 : decode cX6_here 24 = .ok (.goto 4, 3) := by decide +kernel
theorem dX6_here_27 : decode cX6_here 27 = .ok (.iconst (-1), 1) := by decide +kernel
theorem dX6_here_28 : decode cX6_here 28 = .ok (.ireturn, 1) := by decide +kernel
theorem dX6_step_0 : decode cX6_step 0 = .ok (.aload_n 0, 1) := by decide +kernel
theorem dX6_step_1 : decode cX6_step 1 = .ok (.invokevirtual 65, 3) := by decide +kernel
theorem dX6_step_4 : decode cX6_step 4 = .ok (.bipush 32, 2) := by decide +kernel
theorem dX6_step_6 : decode cX6_step 6 = .ok (.if_icmp .ne 16, 3) := by decide +kernel
theorem dX6_step_9 : decode cX6_step 9 = .ok (.aload_n 0, 1) := by decide +kernel
theorem dX6_step_10 : decode cX6_step 10 = .ok (.dup, 1) := by decide +kernel
theorem dX6_step_11 : decode cX6_step 11 = .ok (.getfield 62, 3) := by decide +kernel
theorem dX6_step_14 : decode cX6_step 14 = .ok (.iconst 1, 1) := by decide +kernel
theorem dX6_step_15 : decode cX6_step 15 = .ok (.iadd, 1) := by decide +kernel
theorem dX6_step_16 : decode cX6_step 16 = .ok (.putfield 62, 3) := by decide +kernel
theorem dX6_step_19 : decode cX6_step 19 = .ok (.goto (-19), 3) := by decide +kernel
theorem dX6_step_22 : decode cX6_step 22 = .ok (.aload_n 0, 1) := by decide +kernel
theorem dX6_step_23 : decode cX6_step 23 = .ok (.aload_n 0, 1) := by decide +kernel
theorem dX6_step_24 : decode cX6_step 24 = .ok (.getfield 62, 3) := by decide +kernel
theorem dX6_step_27 : decode cX6_step 27 = .ok (.putfield 69, 3) := by decide +kernel
theorem dX6_step_30 : decode cX6_step 30 = .ok (.aload_n 0, 1) := by decide +kernel
theorem dX6_step_31 : decode cX6_step 31 = .ok (.iconst 0, 1) := by decide +kernel
theorem dX6_step_32 : decode cX6_step 32 = .ok (.putfield 72, 3) := by decide +kernel
theorem dX6_step_35 : decode cX6_step 35 = .ok (.aload_n 0, 1) := by decide +kernel
theorem dX6_step_36 : decode cX6_step 36 = .ok (.invokevirtual 65, 3) := by decide +kernel
theorem dX6_step_39 : decode cX6_step 39 = .ok (.istore_n 1, 1) := by decide +kernel
theorem dX6_step_40 : decode cX6_step 40 = .ok (.iload_n 1, 1) := by decide +kernel
theorem dX6_step_41 : decode cX6_step 41 = .ok (.ifCond .ge 11, 3) := by decide +kernel
theorem dX6_step_44 : decode cX6_step 44 = .ok (.aload_n 0, 1) := by decide +kernel
theorem dX6_step_45 : decode cX6_step 45 = .ok (.iconst 3, 1) := by decide +kernel
theorem dX6_step_46 : decode cX6_step 46 = .ok (.putfield 75, 3) := by decide +kernel
theorem dX6_step_49 : decode cX6_step 49 = .ok (.goto 204, 3) := by decide +kernel
theorem dX6_step_52 : decode cX6_step 52 = .ok (.iload_n 1, 1) := by decide +kernel
theorem dX6_step_53 : decode cX6_step 53 = .ok (.bipush 97, 2) := by decide +kernel
theorem dX6_step_55 : decode cX6_step 55 = .ok (.bipush 122, 2) := by decide +kernel
theorem dX6_step_57 : decode cX6_step 57 = .ok (.invokestatic 54, 3) := by decide +kernel
theorem dX6_step_60 : decode cX6_step 60 = .ok (.ifCond .eq 55, 3) := by decide +kernel
theorem dX6_step_63 : decode cX6_step 63 = .ok (.aload_n 0, 1) := by decide +kernel
theorem dX6_step_64 : decode cX6_step 64 = .ok (.invokevirtual 65, 3) := by decide +kernel
theorem dX6_step_67 : decode cX6_step 67 = .ok (.bipush 97, 2) := by decide +kernel
theorem dX6_step_69 : decode cX6_step 69 = .ok (.bipush 122, 2) := by decide +kernel
theorem dX6_step_71 : decode cX6_step 71 = .ok (.invokestatic 54, 3) := by decide +kernel
theorem dX6_step_74 : decode cX6_step 74 = .ok (.ifCond .eq 16, 3) := by decide +kernel
theorem dX6_step_77 : decode cX6_step 77 = .ok (.aload_n 0, 1) := by decide +kernel
theorem dX6_step_78 : decode cX6_step 78 = .ok (.dup, 1) := by decide +kernel
theorem dX6_step_79 : decode cX6_step 79 = .ok (.getfield 62, 3) := by decide +kernel
theorem dX6_step_82 : decode cX6_step 82 = .ok (.iconst 1, 1) := by decide +kernel
theorem dX6_step_83 : decode cX6_step 83 = .ok (.iadd, 1) := by decide +kernel
theorem dX6_step_84 : decode cX6_step 84 = .ok (.putfield 62, 3) := by decide +kernel
theorem dX6_step_87 : decode cX6_step 87 = .ok (.goto (-24), 3) := by decide +kernel
theorem dX6_step_90 : decode cX6_step 90 = .ok (.aload_n 0, 1) := by decide +kernel
theorem dX6_step_91 : decode cX6_step 91 = .ok (.aload_n 0, 1) := by decide +kernel
theorem dX6_step_92 : decode cX6_step 92 = .ok (.getfield 62, 3) := by decide +kernel
theorem dX6_step_95 : decode cX6_step 95 = .ok (.aload_n 0, 1) := by decide +kernel
theorem dX6_step_96 : decode cX6_step 96 = .ok (.getfield 69, 3) := by decide +kernel
theorem dX6_step_99 : decode cX6_step 99 = .ok (.isub, 1) := by decide +kernel
theorem dX6_step_100 : decode cX6_step 100 = .ok (.iconst 1, 1) := by decide +kernel
theorem dX6_step_101 : decode cX6_step 101 = .ok (.if_icmp .ne 7, 3) := by decide +kernel
theorem dX6_step_104 : decode cX6_step 104 = .ok (.iload_n 1, 1) := by decide +kernel
theorem dX6_step_105 : decode cX6_step 105 = .ok (.goto 4, 3) := by decide +kernel
theorem dX6_step_108 : decode cX6_step 108 = .ok (.iconst 4, 1) := by decide +kernel
theorem dX6_step_109 : decode cX6_step 109 = .ok (.putfield 75, 3) := by decide +kernel
theorem dX6_step_112 : decode cX6_step 112 = .ok (.goto 141, 3) := by decide +kernel
theorem dX6_step_115 : decode cX6_step 115 = .ok (.iload_n 1, 1) := by decide +kernel
theorem dX6_step_116 : decode cX6_step 116 = .ok (.bipush 48, 2) := by decide +kernel
theorem dX6_step_118 : decode cX6_step 118 = .ok (.bipush 57, 2) := by decide +kernel
theorem dX6_step_120 : decode cX6_step 120 = .ok (.invokestatic 54, 3) := by decide +kernel
theorem dX6_step_123 : decode cX6_step 123 = .ok (.ifCond .eq 105, 3) := by decide +kernel
theorem dX6_step_126 : decode cX6_step 126 = .ok (.aload_n 0, 1) := by decide +kernel
theorem dX6_step_127 : decode cX6_step 127 = .ok (.invokevirtual 65, 3) := by decide +kernel
theorem dX6_step_130 : decode cX6_step 130 = .ok (.bipush 48, 2) := by decide +kernel
theorem dX6_step_132 : decode cX6_step 132 = .ok (.bipush 57, 2) := by decide +kernel
theorem dX6_step_134 : decode cX6_step 134 = .ok (.invokestatic 54, 3) := by decide +kernel
theorem dX6_step_137 : decode cX6_step 137 = .ok (.ifCond .eq 51, 3) := by decide +kernel
theorem dX6_step_140 : decode cX6_step 140 = .ok (.aload_n 0, 1) := by decide +kernel
theorem dX6_step_141 : decode cX6_step 141 = .ok (.aload_n 0, 1) := by decide +kernel
theorem dX6_step_142 : decode cX6_step 142 = .ok (.getfield 72, 3) := by decide +kernel
theorem dX6_step_145 : decode cX6_step 145 = .ok (.bipush 99, 2) := by decide +kernel
theorem dX6_step_147 : decode cX6_step 147 = .ok (.if_icmp .le 10, 3) := by decide +kernel
theorem dX6_step_150 : decode cX6_step 150 = .ok (.aload_n 0, 1) := by decide +kernel
theorem dX6_step_151 : decode cX6_step 151 = .ok (.getfield 72, 3) := by decide +kernel
theorem dX6_step_154 : decode cX6_step 154 = .ok (.goto 18, 3) := by decide +kernel
theorem dX6_step_157 : decode cX6_step 157 = .ok (.bipush 10, 2) := by decide +kernel
theorem dX6_step_159 : decode cX6_step 159 = .ok (.aload_n 0, 1) := by decide +kernel
theorem dX6_step_160 : decode cX6_step 160 = .ok (.getfield 72, 3) := by decide +kernel
theorem dX6_step_163 : decode cX6_step 163 = .ok (.imul, 1) := by decide +kernel
theorem dX6_step_164 : decode cX6_step 164 = .ok (.aload_n 0, 1) := by decide +kernel
theorem dX6_step_165 : decode cX6_step 165 = .ok (.invokevirtual 65, 3) := by decide +kernel
theorem dX6_step_168 : decode cX6_step 168 = .ok (.iadd, 1) := by decide +kernel
theorem dX6_step_169 : decode cX6_step 169 = .ok (.bipush 48, 2) := by decide +kernel
theorem dX6_step_171 : decode cX6_step 171 = .ok (.isub, 1) := by decide +kernel
theorem dX6_step_172 : decode cX6_step 172 = .ok (.putfield 72, 3) := by decide +kernel
theorem dX6_step_175 : decode cX6_step 175 = .ok (.aload_n 0, 1) := by decide +kernel
theorem dX6_step_176 : decode cX6_step 176 = .ok (.dup, 1) := by decide +kernel
theorem dX6_step_177 : decode cX6_step 177 = .ok (.getfield 62, 3) := by decide +kernel
theorem dX6_step_180 : decode cX6_step 180 = .ok (.iconst 1, 1) := by decide +kernel
theorem dX6_step_181 : decode cX6_step 181 = .ok (.iadd, 1) := by decide +kernel
theorem dX6_step_182 : decode cX6_step 182 = .ok (.putfield 62, 3) := by decide +kernel
theorem dX6_step_185 : decode cX6_step 185 = .ok (.goto (-59), 3) := by decide +kernel
theorem dX6_step_188 : decode cX6_step 188 = .ok (.aload_n 0, 1) := by decide +kernel
theorem dX6_step_189 : decode cX6_step 189 = .ok (.aload_n 0, 1) := by decide +kernel
theorem dX6_step_190 : decode cX6_step 190 = .ok (.getfield 72, 3) := by decide +kernel
theorem dX6_step_193 : decode cX6_step 193 = .ok (.bipush 99, 2) := by decide +kernel
theorem dX6_step_195 : decode cX6_step 195 = .ok (.if_icmp .gt 22, 3) := by decide +kernel
theorem dX6_step_198 : decode cX6_step 198 = .ok (.iload_n 1, 1) := by decide +kernel
theorem dX6_step_199 : decode cX6_step 199 = .ok (.bipush 48, 2) := by decide +kernel
theorem dX6_step_201 : decode cX6_step 201 = .ok (.if_icmp .ne 20, 3) := by decide +kernel
theorem dX6_step_204 : decode cX6_step 204 = .ok (.aload_n 0, 1) := by decide +kernel
theorem dX6_step_205 : decode cX6_step 205 = .ok (.getfield 62, 3) := by decide +kernel
theorem dX6_step_208 : decode cX6_step 208 = .ok (.aload_n 0, 1) := by decide +kernel
theorem dX6_step_209 : decode cX6_step 209 = .ok (.getfield 69, 3) := by decide +kernel
theorem dX6_step_212 : decode cX6_step 212 = .ok (.isub, 1) := by decide +kernel
theorem dX6_step_213 : decode cX6_step 213 = .ok (.iconst 1, 1) := by decide +kernel
theorem dX6_step_214 : decode cX6_step 214 = .ok (.if_icmp .le 7, 3) := by decide +kernel
theorem dX6_step_217 : decode cX6_step 217 = .ok (.iconst 4, 1) := by decide +kernel
theorem dX6_step_218 : decode cX6_step 218 = .ok (.goto 4, 3) := by decide +kernel
theorem dX6_step_221 : decode cX6_step 221 = .ok (.iconst 1, 1) := by decide +kernel
theorem dX6_step_222 : decode cX6_step 222 = .ok (.putfield 75, 3) := by decide +kernel
theorem dX6_step_225 : decode cX6_step 225 = .ok (.goto 28, 3) := by decide +kernel
theorem dX6_step_228 : decode cX6_step 228 = .ok (.aload_n 0, 1) := by decide +kernel
theorem dX6_step_229 : decode cX6_step 229 = .ok (.dup, 1) := by decide +kernel
theorem dX6_step_230 : decode cX6_step 230 = .ok (.getfield 62, 3) := by decide +kernel
theorem dX6_step_233 : decode cX6_step 233 = .ok (.iconst 1, 1) := by decide +kernel
theorem dX6_step_234 : decode cX6_step 234 = .ok (.iadd, 1) := by decide +kernel
theorem dX6_step_235 : decode cX6_step 235 = .ok (.putfield 62, 3) := by decide +kernel
theorem dX6_step_238 : decode cX6_step 238 = .ok (.aload_n 0, 1) := by decide +kernel
theorem dX6_step_239 : decode cX6_step 239 = .ok (.iload_n 1, 1) := by decide +kernel
theorem dX6_step_240 : decode cX6_step 240 = .ok (.bipush 59, 2) := by decide +kernel
theorem dX6_step_242 : decode cX6_step 242 = .ok (.if_icmp .ne 7, 3) := by decide +kernel
theorem dX6_step_245 : decode cX6_step 245 = .ok (.iconst 2, 1) := by decide +kernel
theorem dX6_step_246 : decode cX6_step 246 = .ok (.goto 4, 3) := by decide +kernel
theorem dX6_step_249 : decode cX6_step 249 = .ok (.iconst 4, 1) := by decide +kernel
theorem dX6_step_250 : decode cX6_step 250 = .ok (.putfield 75, 3) := by decide +kernel
theorem dX6_step_253 : decode cX6_step 253 = .ok (.return_, 1) := by decide +kernel
theorem dX6_due_0 : decode cX6_due 0 = .ok (.aload_n 0, 1) := by decide +kernel
theorem dX6_due_1 : decode cX6_due 1 = .ok (.getfield 72, 3) := by decide +kernel
theorem dX6_due_4 : decode cX6_due 4 = .ok (.istore_n 2, 1) := by decide +kernel
theorem dX6_due_5 : decode cX6_due 5 = .ok (.aload_n 0, 1) := by decide +kernel
theorem dX6_due_6 : decode cX6_due 6 = .ok (.getfield 78, 3) := by decide +kernel
theorem dX6_due_9 : decode cX6_due 9 = .ok (.bipush (-9), 2) := by decide +kernel
theorem dX6_due_11 : decode cX6_due 11 = .ok (.if_icmp .ne 22, 3) := by decide +kernel
theorem dX6_due_14 : decode cX6_due 14 = .ok (.iload_n 1, 1) := by decide +kernel
theorem dX6_due_15 : decode cX6_due 15 = .ok (.ifCond .eq 10, 3) := by decide +kernel
theorem dX6_due_18 : decode cX6_due 18 = .ok (.aload_n 0, 1) := by decide +kernel
theorem dX6_due_19 : decode cX6_due 19 = .ok (.invokevirtual 81, 3) := by decide +kernel
theorem dX6_due_22 : decode cX6_due 22 = .ok (.goto 11, 3) := by decide +kernel
theorem dX6_due_25 : decode cX6_due 25 = .ok (.aload_n 0, 1) := by decide +kernel
theorem dX6_due_26 : decode cX6_due 26 = .ok (.aload_n 0, 1) := by decide +kernel
theorem dX6_due_27 : decode cX6_due 27 = .ok (.getfield 69, 3) := by decide +kernel
theorem dX6_due_30 : decode cX6_due 30 = .ok (.putfield 78, 3) := by decide +kernel
theorem dX6_due_33 : decode cX6_due 33 = .ok (.iload_n 2, 1) := by decide +kernel
theorem dX6_due_34 : decode cX6_due 34 = .ok (.ireturn, 1) := by decide +kernel
theorem dX6_number_0 : decode cX6_number 0 = .ok (.aload_n 0, 1) := by decide +kernel
theorem dX6_number_1 : decode cX6_number 1 = .ok (.aload_n 0, 1) := by decide +kernel
theorem dX6_number_2 : decode cX6_number 2 = .ok (.getfield 75, 3) := by decide +kernel
theorem dX6_number_5 : decode cX6_number 5 = .ok (.iconst 1, 1) := by decide +kernel
theorem dX6_number_6 : decode cX6_number 6 = .ok (.if_icmp .ne 19, 3) := by decide +kernel
theorem dX6_number_9 : decode cX6_number 9 = .ok (.aload_n 0, 1) := by decide +kernel
theorem dX6_number_10 : decode cX6_number 10 = .ok (.getfield 72, 3) := by decide +kernel
theorem dX6_number_13 : decode cX6_number 13 = .ok (.iload_n 1, 1) := by decide +kernel
theorem dX6_number_14 : decode cX6_number 14 = .ok (.iload_n 2, 1) := by decide +kernel
theorem dX6_number_15 : decode cX6_number 15 = .ok (.invokestatic 54, 3) := by decide +kernel
theorem dX6_number_18 : decode cX6_number 18 = .ok (.ifCond .eq 7, 3) := by decide +kernel
theorem dX6_number_21 : decode cX6_number 21 = .ok (.iconst 1, 1) := by decide +kernel
theorem dX6_number_22 : decode cX6_number 22 = .ok (.goto 4, 3) := by decide +kernel
theorem dX6_number_25 : decode cX6_number 25 = .ok (.iconst 0, 1) := by decide +kernel
theorem dX6_number_26 : decode cX6_number 26 = .ok (.invokevirtual 84, 3) := by decide +kernel
theorem dX6_number_29 : decode cX6_number 29 = .ok (.ireturn, 1) := by decide +kernel
theorem dX6_mayBe_0 : decode cX6_mayBe 0 = .ok (.iload_n 1, 1) := by decide +kernel
theorem dX6_mayBe_1 : decode cX6_mayBe 1 = .ok (.lookupswitch 140 #[(98, 125), (100, 93), (109, 95), (114, 76), (118, 59), (119, 110)], 59) := by decide +kernel
theorem dX6_mayBe_60 : decode cX6_mayBe 60 = .ok (.aload_n 0, 1) := by decide +kernel
theorem dX6_mayBe_61 : decode cX6_mayBe 61 = .ok (.getfield 13, 3) := by decide +kernel
theorem dX6_mayBe_64 : decode cX6_mayBe 64 = .ok (.iconst 1, 1) := by decide +kernel
theorem dX6_mayBe_65 : decode cX6_mayBe 65 = .ok (.iaload, 1) := by decide +kernel
theorem dX6_mayBe_66 : decode cX6_mayBe 66 = .ok (.bipush 6, 2) := by decide +kernel
theorem dX6_mayBe_68 : decode cX6_mayBe 68 = .ok (.if_icmp .ge 7, 3) := by decide +kernel
theorem dX6_mayBe_71 : decode cX6_mayBe 71 = .ok (.iconst 1, 1) := by decide +kernel
theorem dX6_mayBe_72 : decode cX6_mayBe 72 = .ok (.goto 4, 3) := by decide +kernel
theorem dX6_mayBe_75 : decode cX6_mayBe 75 = .ok (.iconst 0, 1) := by decide +kernel
theorem dX6_mayBe_76 : decode cX6_mayBe 76 = .ok (.ireturn, 1) := by decide +kernel
theorem dX6_mayBe_77 : decode cX6_mayBe 77 = .ok (.aload_n 0, 1) := by decide +kernel
theorem dX6_mayBe_78 : decode cX6_mayBe 78 = .ok (.getfield 26, 3) := by decide +kernel
theorem dX6_mayBe_81 : decode cX6_mayBe 81 = .ok (.iconst 1, 1) := by decide +kernel
theorem dX6_mayBe_82 : decode cX6_mayBe 82 = .ok (.iaload, 1) := by decide +kernel
theorem dX6_mayBe_83 : decode cX6_mayBe 83 = .ok (.bipush 10, 2) := by decide +kernel
theorem dX6_mayBe_85 : decode cX6_mayBe 85 = .ok (.if_icmp .ge 7, 3) := by decide +kernel
theorem dX6_mayBe_88 : decode cX6_mayBe 88 = .ok (.iconst 1, 1) := by decide +kernel
theorem dX6_mayBe_89 : decode cX6_mayBe 89 = .ok (.goto 4, 3) := by decide +kernel
theorem dX6_mayBe_92 : decode cX6_mayBe 92 = .ok (.iconst 0, 1) := by decide +kernel
theorem dX6_mayBe_93 : decode cX6_mayBe 93 = .ok (.ireturn, 1) := by decide +kernel
theorem dX6_mayBe_94 : decode cX6_mayBe 94 = .ok (.iconst 1, 1) := by decide +kernel
theorem dX6_mayBe_95 : decode cX6_mayBe 95 = .ok (.ireturn, 1) := by decide +kernel
theorem dX6_mayBe_96 : decode cX6_mayBe 96 = .ok (.aload_n 0, 1) := by decide +kernel
theorem dX6_mayBe_97 : decode cX6_mayBe 97 = .ok (.getfield 88, 3) := by decide +kernel
theorem dX6_mayBe_100 : decode cX6_mayBe 100 = .ok (.iconst 1, 1) := by decide +kernel
theorem dX6_mayBe_101 : decode cX6_mayBe 101 = .ok (.iand, 1) := by decide +kernel
theorem dX6_mayBe_102 : decode cX6_mayBe 102 = .ok (.ifCond .ne 7, 3) := by decide +kernel
theorem dX6_mayBe_105 : decode cX6_mayBe 105 = .ok (.iconst 1, 1) := by decide +kernel
theorem dX6_mayBe_106 : decode cX6_mayBe 106 = .ok (.goto 4, 3) := by decide +kernel
theorem dX6_mayBe_109 : decode cX6_mayBe 109 = .ok (.iconst 0, 1) := by decide +kernel
theorem dX6_mayBe_110 : decode cX6_mayBe 110 = .ok (.ireturn, 1) := by decide +kernel
theorem dX6_mayBe_111 : decode cX6_mayBe 111 = .ok (.aload_n 0, 1) := by decide +kernel
theorem dX6_mayBe_112 : decode cX6_mayBe 112 = .ok (.getfield 88, 3) := by decide +kernel
theorem dX6_mayBe_115 : decode cX6_mayBe 115 = .ok (.iconst 2, 1) := by decide +kernel
theorem dX6_mayBe_116 : decode cX6_mayBe 116 = .ok (.iand, 1) := by decide +kernel
theorem dX6_mayBe_117 : decode cX6_mayBe 117 = .ok (.ifCond .ne 7, 3) := by decide +kernel
theorem dX6_mayBe_120 : decode cX6_mayBe 120 = .ok (.iconst 1, 1) := by decide +kernel
theorem dX6_mayBe_121 : decode cX6_mayBe 121 = .ok (.goto 4, 3) := by decide +kernel
theorem dX6_mayBe_124 : decode cX6_mayBe 124 = .ok (.iconst 0, 1) := by decide +kernel
theorem dX6_mayBe_125 : decode cX6_mayBe 125 = .ok (.ireturn, 1) := by decide +kernel
theorem dX6_mayBe_126 : decode cX6_mayBe 126 = .ok (.aload_n 0, 1) := by decide +kernel
theorem dX6_mayBe_127 : decode cX6_mayBe 127 = .ok (.getfield 88, 3) := by decide +kernel
theorem dX6_mayBe_130 : decode cX6_mayBe 130 = .ok (.iconst 4, 1) := by decide +kernel
theorem dX6_mayBe_131 : decode cX6_mayBe 131 = .ok (.iand, 1) := by decide +kernel
theorem dX6_mayBe_132 : decode cX6_mayBe 132 = .ok (.ifCond .ne 7, 3) := by decide +kernel
theorem dX6_mayBe_135 : decode cX6_mayBe 135 = .ok (.iconst 1, 1) := by decide +kernel
theorem dX6_mayBe_136 : decode cX6_mayBe 136 = .ok (.goto 4, 3) := by decide +kernel
theorem dX6_mayBe_139 : decode cX6_mayBe 139 = .ok (.iconst 0, 1) := by decide +kernel
theorem dX6_mayBe_140 : decode cX6_mayBe 140 = .ok (.ireturn, 1) := by decide +kernel
theorem dX6_mayBe_141 : decode cX6_mayBe 141 = .ok (.iconst 0, 1) := by decide +kernel
theorem dX6_mayBe_142 : decode cX6_mayBe 142 = .ok (.ireturn, 1) := by decide +kernel
theorem dX6_another_0 : decode cX6_another 0 = .ok (.aload_n 0, 1) := by decide +kernel
theorem dX6_another_1 : decode cX6_another 1 = .ok (.aload_n 0, 1) := by decide +kernel
theorem dX6_another_2 : decode cX6_another 2 = .ok (.getfield 75, 3) := by decide +kernel
theorem dX6_another_5 : decode cX6_another 5 = .ok (.iconst 1, 1) := by decide +kernel
theorem dX6_another_6 : decode cX6_another 6 = .ok (.if_icmp .ne 28, 3) := by decide +kernel
theorem dX6_another_9 : decode cX6_another 9 = .ok (.aload_n 0, 1) := by decide +kernel
theorem dX6_another_10 : decode cX6_another 10 = .ok (.getfield 72, 3) := by decide +kernel
theorem dX6_another_13 : decode cX6_another 13 = .ok (.aload_n 0, 1) := by decide +kernel
theorem dX6_another_14 : decode cX6_another 14 = .ok (.getfield 13, 3) := by decide +kernel
theorem dX6_another_17 : decode cX6_another 17 = .ok (.iconst 1, 1) := by decide +kernel
theorem dX6_another_18 : decode cX6_another 18 = .ok (.iaload, 1) := by decide +kernel
theorem dX6_another_19 : decode cX6_another 19 = .ok (.if_icmp .ge 15, 3) := by decide +kernel
theorem dX6_another_22 : decode cX6_another 22 = .ok (.aload_n 0, 1) := by decide +kernel
theorem dX6_another_23 : decode cX6_another 23 = .ok (.getfield 72, 3) := by decide +kernel
theorem dX6_another_26 : decode cX6_another 26 = .ok (.iload_n 1, 1) := by decide +kernel
theorem dX6_another_27 : decode cX6_another 27 = .ok (.if_icmp .eq 7, 3) := by decide +kernel
theorem dX6_another_30 : decode cX6_another 30 = .ok (.iconst 1, 1) := by decide +kernel
theorem dX6_another_31 : decode cX6_another 31 = .ok (.goto 4, 3) := by decide +kernel
theorem dX6_another_34 : decode cX6_another 34 = .ok (.iconst 0, 1) := by decide +kernel
theorem dX6_another_35 : decode cX6_another 35 = .ok (.invokevirtual 84, 3) := by decide +kernel
theorem dX6_another_38 : decode cX6_another 38 = .ok (.ireturn, 1) := by decide +kernel
theorem dX6_readRow_0 : decode cX6_readRow 0 = .ok (.iload_n 1, 1) := by decide +kernel
theorem dX6_readRow_1 : decode cX6_readRow 1 = .ok (.lookupswitch 367 #[(100, 225), (109, 315), (114, 123), (118, 51), (119, 341)], 51) := by decide +kernel
theorem dX6_readRow_52 : decode cX6_readRow 52 = .ok (.aload_n 0, 1) := by decide +kernel
theorem dX6_readRow_53 : decode cX6_readRow 53 = .ok (.getfield 17, 3) := by decide +kernel
theorem dX6_readRow_56 : decode cX6_readRow 56 = .ok (.aload_n 0, 1) := by decide +kernel
theorem dX6_readRow_57 : decode cX6_readRow 57 = .ok (.getfield 13, 3) := by decide +kernel
theorem dX6_readRow_60 : decode cX6_readRow 60 = .ok (.iconst 1, 1) := by decide +kernel
theorem dX6_readRow_61 : decode cX6_readRow 61 = .ok (.iaload, 1) := by decide +kernel
theorem dX6_readRow_62 : decode cX6_readRow 62 = .ok (.aload_n 0, 1) := by decide +kernel
theorem dX6_readRow_63 : decode cX6_readRow 63 = .ok (.iconst 0, 1) := by decide +kernel
theorem dX6_readRow_64 : decode cX6_readRow 64 = .ok (.bipush 60, 2) := by decide +kernel
theorem dX6_readRow_66 : decode cX6_readRow 66 = .ok (.invokevirtual 91, 3) := by decide +kernel
theorem dX6_readRow_69 : decode cX6_readRow 69 = .ok (.iastore, 1) := by decide +kernel
theorem dX6_readRow_70 : decode cX6_readRow 70 = .ok (.aload_n 0, 1) := by decide +kernel
theorem dX6_readRow_71 : decode cX6_readRow 71 = .ok (.getfield 20, 3) := by decide +kernel
theorem dX6_readRow_74 : decode cX6_readRow 74 = .ok (.bipush 6, 2) := by decide +kernel
theorem dX6_readRow_76 : decode cX6_readRow 76 = .ok (.aload_n 0, 1) := by decide +kernel
theorem dX6_readRow_77 : decode cX6_readRow 77 = .ok (.getfield 13, 3) := by decide +kernel
theorem dX6_readRow_80 : decode cX6_readRow 80 = .ok (.iconst 1, 1) := by decide +kernel
theorem dX6_readRow_81 : decode cX6_readRow 81 = .ok (.iaload, 1) := by decide +kernel
theorem dX6_readRow_82 : decode cX6_readRow 82 = .ok (.iadd, 1) := by decide +kernel
theorem dX6_readRow_83 : decode cX6_readRow 83 = .ok (.aload_n 0, 1) := by decide +kernel
theorem dX6_readRow_84 : decode cX6_readRow 84 = .ok (.iconst 0, 1) := by decide +kernel
theorem dX6_readRow_85 : decode cX6_readRow 85 = .ok (.bipush 60, 2) := by decide +kernel
theorem dX6_readRow_87 : decode cX6_readRow 87 = .ok (.invokevirtual 91, 3) := by decide +kernel
theorem dX6_readRow_90 : decode cX6_readRow 90 = .ok (.iastore, 1) := by decide +kernel
theorem dX6_readRow_91 : decode cX6_readRow 91 = .ok (.aload_n 0, 1) := by decide +kernel
theorem dX6_readRow_92 : decode cX6_readRow 92 = .ok (.getfield 23, 3) := by decide +kernel
theorem dX6_readRow_95 : decode cX6_readRow 95 = .ok (.bipush 6, 2) := by decide +kernel
theorem dX6_readRow_97 : decode cX6_readRow 97 = .ok (.aload_n 0, 1) := by decide +kernel
theorem dX6_readRow_98 : decode cX6_readRow 98 = .ok (.getfield 13, 3) := by decide +kernel
theorem dX6_readRow_101 : decode cX6_readRow 101 = .ok (.iconst 1, 1) := by decide +kernel
theorem dX6_readRow_102 : decode cX6_readRow 102 = .ok (.iaload, 1) := by decide +kernel
theorem dX6_readRow_103 : decode cX6_readRow 103 = .ok (.iadd, 1) := by decide +kernel
theorem dX6_readRow_104 : decode cX6_readRow 104 = .ok (.aload_n 0, 1) := by decide +kernel
theorem dX6_readRow_105 : decode cX6_readRow 105 = .ok (.iconst 0, 1) := by decide +kernel
theorem dX6_readRow_106 : decode cX6_readRow 106 = .ok (.iconst 1, 1) := by decide +kernel
theorem dX6_readRow_107 : decode cX6_readRow 107 = .ok (.invokevirtual 91, 3) := by decide +kernel
theorem dX6_readRow_110 : decode cX6_readRow 110 = .ok (.iastore, 1) := by decide +kernel
theorem dX6_readRow_111 : decode cX6_readRow 111 = .ok (.aload_n 0, 1) := by decide +kernel
theorem dX6_readRow_112 : decode cX6_readRow 112 = .ok (.getfield 13, 3) := by decide +kernel
theorem dX6_readRow_115 : decode cX6_readRow 115 = .ok (.iconst 1, 1) := by decide +kernel
theorem dX6_readRow_116 : decode cX6_readRow 116 = .ok (.dup2, 1) := by decide +kernel
theorem dX6_readRow_117 : decode cX6_readRow 117 = .ok (.iaload, 1) := by decide +kernel
theorem dX6_readRow_118 : decode cX6_readRow 118 = .ok (.iconst 1, 1) := by decide +kernel
theorem dX6_readRow_119 : decode cX6_readRow 119 = .ok (.iadd, 1) := by decide +kernel
theorem dX6_readRow_120 : decode cX6_readRow 120 = .ok (.iastore, 1) := by decide +kernel
theorem dX6_readRow_121 : decode cX6_readRow 121 = .ok (.goto 270, 3) := by decide +kernel
theorem dX6_readRow_124 : decode cX6_readRow 124 = .ok (.aload_n 0, 1) := by decide +kernel
theorem dX6_readRow_125 : decode cX6_readRow 125 = .ok (.iconst 0, 1) := by decide +kernel
theorem dX6_readRow_126 : decode cX6_readRow 126 = .ok (.aload_n 0, 1) := by decide +kernel
theorem dX6_readRow_127 : decode cX6_readRow 127 = .ok (.getfield 13, 3) := by decide +kernel
theorem dX6_readRow_130 : decode cX6_readRow 130 = .ok (.iconst 1, 1) := by decide +kernel
theorem dX6_readRow_131 : decode cX6_readRow 131 = .ok (.iaload, 1) := by decide +kernel
theorem dX6_readRow_132 : decode cX6_readRow 132 = .ok (.iconst 1, 1) := by decide +kernel
theorem dX6_readRow_133 : decode cX6_readRow 133 = .ok (.isub, 1) := by decide +kernel
theorem dX6_readRow_134 : decode cX6_readRow 134 = .ok (.invokevirtual 91, 3) := by decide +kernel
theorem dX6_readRow_137 : decode cX6_readRow 137 = .ok (.istore_n 2, 1) := by decide +kernel
theorem dX6_readRow_138 : decode cX6_readRow 138 = .ok (.aload_n 0, 1) := by decide +kernel
theorem dX6_readRow_139 : decode cX6_readRow 139 = .ok (.iload_n 2, 1) := by decide +kernel
theorem dX6_readRow_140 : decode cX6_readRow 140 = .ok (.invokevirtual 95, 3) := by decide +kernel
theorem dX6_readRow_143 : decode cX6_readRow 143 = .ok (.istore_n 3, 1) := by decide +kernel
theorem dX6_readRow_144 : decode cX6_readRow 144 = .ok (.aload_n 0, 1) := by decide +kernel
theorem dX6_readRow_145 : decode cX6_readRow 145 = .ok (.iconst 1, 1) := by decide +kernel
theorem dX6_readRow_146 : decode cX6_readRow 146 = .ok (.bipush 9, 2) := by decide +kernel
theorem dX6_readRow_148 : decode cX6_readRow 148 = .ok (.invokevirtual 91, 3) := by decide +kernel
theorem dX6_readRow_151 : decode cX6_readRow 151 = .ok (.istore 4, 2) := by decide +kernel
theorem dX6_readRow_153 : decode cX6_readRow 153 = .ok (.aload_n 0, 1) := by decide +kernel
theorem dX6_readRow_154 : decode cX6_readRow 154 = .ok (.getfield 78, 3) := by decide +kernel
theorem dX6_readRow_157 : decode cX6_readRow 157 = .ok (.bipush (-9), 2) := by decide +kernel
theorem dX6_readRow_159 : decode cX6_readRow 159 = .ok (.if_icmp .ne 54, 3) := by decide +kernel
theorem dX6_readRow_162 : decode cX6_readRow 162 = .ok (.iload 4, 2) := by decide +kernel
theorem dX6_readRow_164 : decode cX6_readRow 164 = .ok (.aload_n 0, 1) := by decide +kernel
theorem dX6_readRow_165 : decode cX6_readRow 165 = .ok (.getfield 29, 3) := by decide +kernel
theorem dX6_readRow_168 : decode cX6_readRow 168 = .ok (.bipush 36, 2) := by decide +kernel
theorem dX6_readRow_170 : decode cX6_readRow 170 = .ok (.bipush 6, 2) := by decide +kernel
theorem dX6_readRow_172 : decode cX6_readRow 172 = .ok (.iload_n 2, 1) := by decide +kernel
theorem dX6_readRow_173 : decode cX6_readRow 173 = .ok (.imul, 1) := by decide +kernel
theorem dX6_readRow_174 : decode cX6_readRow 174 = .ok (.iadd, 1) := by decide +kernel
theorem dX6_readRow_175 : decode cX6_readRow 175 = .ok (.iload_n 3, 1) := by decide +kernel
theorem dX6_readRow_176 : decode cX6_readRow 176 = .ok (.iadd, 1) := by decide +kernel
theorem dX6_readRow_177 : decode cX6_readRow 177 = .ok (.iaload, 1) := by decide +kernel
theorem dX6_readRow_178 : decode cX6_readRow 178 = .ok (.if_icmp .ge 35, 3) := by decide +kernel
theorem dX6_readRow_181 : decode cX6_readRow 181 = .ok (.aload_n 0, 1) := by decide +kernel
theorem dX6_readRow_182 : decode cX6_readRow 182 = .ok (.getfield 29, 3) := by decide +kernel
theorem dX6_readRow_185 : decode cX6_readRow 185 = .ok (.bipush 36, 2) := by decide +kernel
theorem dX6_readRow_187 : decode cX6_readRow 187 = .ok (.bipush 6, 2) := by decide +kernel
theorem dX6_readRow_189 : decode cX6_readRow 189 = .ok (.iload_n 2, 1) := by decide +kernel
theorem dX6_readRow_190 : decode cX6_readRow 190 = .ok (.imul, 1) := by decide +kernel
theorem dX6_readRow_191 : decode cX6_readRow 191 = .ok (.iadd, 1) := by decide +kernel
theorem dX6_readRow_192 : decode cX6_readRow 192 = .ok (.iload_n 3, 1) := by decide +kernel
theorem dX6_readRow_193 : decode cX6_readRow 193 = .ok (.iadd, 1) := by decide +kernel
theorem dX6_readRow_194 : decode cX6_readRow 194 = .ok (.iload 4, 2) := by decide +kernel
theorem dX6_readRow_196 : decode cX6_readRow 196 = .ok (.iastore, 1) := by decide +kernel
theorem dX6_readRow_197 : decode cX6_readRow 197 = .ok (.aload_n 0, 1) := by decide +kernel
theorem dX6_readRow_198 : decode cX6_readRow 198 = .ok (.getfield 29, 3) := by decide +kernel
theorem dX6_readRow_201 : decode cX6_readRow 201 = .ok (.bipush 36, 2) := by decide +kernel
theorem dX6_readRow_203 : decode cX6_readRow 203 = .ok (.bipush 6, 2) := by decide +kernel
theorem dX6_readRow_205 : decode cX6_readRow 205 = .ok (.iload_n 3, 1) := by decide +kernel
theorem dX6_readRow_206 : decode cX6_readRow 206 = .ok (.imul, 1) := by decide +kernel
theorem dX6_readRow_207 : decode cX6_readRow 207 = .ok (.iadd, 1) := by decide +kernel
theorem dX6_readRow_208 : decode cX6_readRow 208 = .ok (.iload_n 2, 1) := by decide +kernel
theorem dX6_readRow_209 : decode cX6_readRow 209 = .ok (.iadd, 1) := by decide +kernel
theorem dX6_readRow_210 : decode cX6_readRow 210 = .ok (.iload 4, 2) := by decide +kernel
theorem dX6_readRow_212 : decode cX6_readRow 212 = .ok (.iastore, 1) := by decide +kernel
theorem dX6_readRow_213 : decode cX6_readRow 213 = .ok (.aload_n 0, 1) := by decide +kernel
theorem dX6_readRow_214 : decode cX6_readRow 214 = .ok (.getfield 26, 3) := by decide +kernel
theorem dX6_readRow_217 : decode cX6_readRow 217 = .ok (.iconst 1, 1) := by decide +kernel
theorem dX6_readRow_218 : decode cX6_readRow 218 = .ok (.dup2, 1) := by decide +kernel
theorem dX6_readRow_219 : decode cX6_readRow 219 = .ok (.iaload, 1) := by decide +kernel
theorem dX6_readRow_220 : decode cX6_readRow 220 = .ok (.iconst 1, 1) := by decide +kernel
theorem dX6_readRow_221 : decode cX6_readRow 221 = .ok (.iadd, 1) := by decide +kernel
theorem dX6_readRow_222 : decode cX6_readRow 222 = .ok (.iastore, 1) := by decide +kernel
theorem dX6_readRow_223 : decode cX6_readRow 223 = .ok (.goto 168, 3) := by decide +kernel
theorem dX6_readRow_226 : decode cX6_readRow 226 = .ok (.aload_n 0, 1) := by decide +kernel
theorem dX6_readRow_227 : decode cX6_readRow 227 = .ok (.iconst 0, 1) := by decide +kernel
theorem dX6_readRow_228 : decode cX6_readRow 228 = .ok (.aload_n 0, 1) := by decide +kernel
theorem dX6_readRow_229 : decode cX6_readRow 229 = .ok (.getfield 13, 3) := by decide +kernel
theorem dX6_readRow_232 : decode cX6_readRow 232 = .ok (.iconst 1, 1) := by decide +kernel
theorem dX6_readRow_233 : decode cX6_readRow 233 = .ok (.iaload, 1) := by decide +kernel
theorem dX6_readRow_234 : decode cX6_readRow 234 = .ok (.iconst 1, 1) := by decide +kernel
theorem dX6_readRow_235 : decode cX6_readRow 235 = .ok (.isub, 1) := by decide +kernel
theorem dX6_readRow_236 : decode cX6_readRow 236 = .ok (.invokevirtual 91, 3) := by decide +kernel
theorem dX6_readRow_239 : decode cX6_readRow 239 = .ok (.istore_n 2, 1) := by decide +kernel
theorem dX6_readRow_240 : decode cX6_readRow 240 = .ok (.aload_n 0, 1) := by decide +kernel
theorem dX6_readRow_241 : decode cX6_readRow 241 = .ok (.iload_n 2, 1) := by decide +kernel
theorem dX6_readRow_242 : decode cX6_readRow 242 = .ok (.invokevirtual 95, 3) := by decide +kernel
theorem dX6_readRow_245 : decode cX6_readRow 245 = .ok (.istore_n 3, 1) := by decide +kernel
theorem dX6_readRow_246 : decode cX6_readRow 246 = .ok (.aload_n 0, 1) := by decide +kernel
theorem dX6_readRow_247 : decode cX6_readRow 247 = .ok (.iconst 1, 1) := by decide +kernel
theorem dX6_readRow_248 : decode cX6_readRow 248 = .ok (.bipush 99, 2) := by decide +kernel
theorem dX6_readRow_250 : decode cX6_readRow 250 = .ok (.invokevirtual 91, 3) := by decide +kernel
theorem dX6_readRow_253 : decode cX6_readRow 253 = .ok (.istore 4, 2) := by decide +kernel
theorem dX6_readRow_255 : decode cX6_readRow 255 = .ok (.aload_n 0, 1) := by decide +kernel
theorem dX6_readRow_256 : decode cX6_readRow 256 = .ok (.getfield 78, 3) := by decide +kernel
theorem dX6_readRow_259 : decode cX6_readRow 259 = .ok (.bipush (-9), 2) := by decide +kernel
theorem dX6_readRow_261 : decode cX6_readRow 261 = .ok (.if_icmp .ne 130, 3) := by decide +kernel
theorem dX6_readRow_264 : decode cX6_readRow 264 = .ok (.aload_n 0, 1) := by decide +kernel
theorem dX6_readRow_265 : decode cX6_readRow 265 = .ok (.getfield 32, 3) := by decide +kernel
theorem dX6_readRow_268 : decode cX6_readRow 268 = .ok (.bipush 36, 2) := by decide +kernel
theorem dX6_readRow_270 : decode cX6_readRow 270 = .ok (.bipush 6, 2) := by decide +kernel
theorem dX6_readRow_272 : decode cX6_readRow 272 = .ok (.iload_n 2, 1) := by decide +kernel
theorem dX6_readRow_273 : decode cX6_readRow 273 = .ok (.imul, 1) := by decide +kernel
theorem dX6_readRow_274 : decode cX6_readRow 274 = .ok (.iadd, 1) := by decide +kernel
theorem dX6_readRow_275 : decode cX6_readRow 275 = .ok (.iload_n 3, 1) := by decide +kernel
theorem dX6_readRow_276 : decode cX6_readRow 276 = .ok (.iadd, 1) := by decide +kernel
theorem dX6_readRow_277 : decode cX6_readRow 277 = .ok (.iaload, 1) := by decide +kernel
theorem dX6_readRow_278 : decode cX6_readRow 278 = .ok (.iload 4, 2) := by decide +kernel
theorem dX6_readRow_280 : decode cX6_readRow 280 = .ok (.iadd, 1) := by decide +kernel
theorem dX6_readRow_281 : decode cX6_readRow 281 = .ok (.istore 5, 2) := by decide +kernel
theorem dX6_readRow_283 : decode cX6_readRow 283 = .ok (.aload_n 0, 1) := by decide +kernel
theorem dX6_readRow_284 : decode cX6_readRow 284 = .ok (.getfield 32, 3) := by decide +kernel
theorem dX6_readRow_287 : decode cX6_readRow 287 = .ok (.bipush 36, 2) := by decide +kernel
theorem dX6_readRow_289 : decode cX6_readRow 289 = .ok (.bipush 6, 2) := by decide +kernel
theorem dX6_readRow_291 : decode cX6_readRow 291 = .ok (.iload_n 2, 1) := by decide +kernel
theorem dX6_readRow_292 : decode cX6_readRow 292 = .ok (.imul, 1) := by decide +kernel
theorem dX6_readRow_293 : decode cX6_readRow 293 = .ok (.iadd, 1) := by decide +kernel
theorem dX6_readRow_294 : decode cX6_readRow 294 = .ok (.iload_n 3, 1) := by decide +kernel
theorem dX6_readRow_295 : decode cX6_readRow 295 = .ok (.iadd, 1) := by decide +kernel
theorem dX6_readRow_296 : decode cX6_readRow 296 = .ok (.iload 5, 2) := by decide +kernel
theorem dX6_readRow_298 : decode cX6_readRow 298 = .ok (.sipush 999, 3) := by decide +kernel
theorem dX6_readRow_301 : decode cX6_readRow 301 = .ok (.if_icmp .le 9, 3) := by decide +kernel
theorem dX6_readRow_304 : decode cX6_readRow 304 = .ok (.sipush 999, 3) := by decide +kernel
theorem dX6_readRow_307 : decode cX6_readRow 307 = .ok (.goto 5, 3) := by decide +kernel
theorem dX6_readRow_310 : decode cX6_readRow 310 = .ok (.iload 5, 2) := by decide +kernel
theorem dX6_readRow_312 : decode cX6_readRow 312 = .ok (.iastore, 1) := by decide +kernel
theorem dX6_readRow_313 : decode cX6_readRow 313 = .ok (.goto 78, 3) := by decide +kernel
theorem dX6_readRow_316 : decode cX6_readRow 316 = .ok (.aload_n 0, 1) := by decide +kernel
theorem dX6_readRow_317 : decode cX6_readRow 317 = .ok (.getfield 35, 3) := by decide +kernel
theorem dX6_readRow_320 : decode cX6_readRow 320 = .ok (.iconst 3, 1) := by decide +kernel
theorem dX6_readRow_321 : decode cX6_readRow 321 = .ok (.aload_n 0, 1) := by decide +kernel
theorem dX6_readRow_322 : decode cX6_readRow 322 = .ok (.iconst 1, 1) := by decide +kernel
theorem dX6_readRow_323 : decode cX6_readRow 323 = .ok (.bipush 9, 2) := by decide +kernel
theorem dX6_readRow_325 : decode cX6_readRow 325 = .ok (.invokevirtual 91, 3) := by decide +kernel
theorem dX6_readRow_328 : decode cX6_readRow 328 = .ok (.iastore, 1) := by decide +kernel
theorem dX6_readRow_329 : decode cX6_readRow 329 = .ok (.aload_n 0, 1) := by decide +kernel
theorem dX6_readRow_330 : decode cX6_readRow 330 = .ok (.dup, 1) := by decide +kernel
theorem dX6_readRow_331 : decode cX6_readRow 331 = .ok (.getfield 88, 3) := by decide +kernel
theorem dX6_readRow_334 : decode cX6_readRow 334 = .ok (.iconst 1, 1) := by decide +kernel
theorem dX6_readRow_335 : decode cX6_readRow 335 = .ok (.ior, 1) := by decide +kernel
theorem dX6_readRow_336 : decode cX6_readRow 336 = .ok (.putfield 88, 3) := by decide +kernel
theorem dX6_readRow_339 : decode cX6_readRow 339 = .ok (.goto 52, 3) := by decide +kernel
theorem dX6_readRow_342 : decode cX6_readRow 342 = .ok (.aload_n 0, 1) := by decide +kernel
theorem dX6_readRow_343 : decode cX6_readRow 343 = .ok (.getfield 35, 3) := by decide +kernel
theorem dX6_readRow_346 : decode cX6_readRow 346 = .ok (.iconst 4, 1) := by decide +kernel
theorem dX6_readRow_347 : decode cX6_readRow 347 = .ok (.aload_n 0, 1) := by decide +kernel
theorem dX6_readRow_348 : decode cX6_readRow 348 = .ok (.iconst 0, 1) := by decide +kernel
theorem dX6_readRow_349 : decode cX6_readRow 349 = .ok (.bipush 10, 2) := by decide +kernel
theorem dX6_readRow_351 : decode cX6_readRow 351 = .ok (.invokevirtual 91, 3) := by decide +kernel
theorem dX6_readRow_354 : decode cX6_readRow 354 = .ok (.iastore, 1) := by decide +kernel
theorem dX6_readRow_355 : decode cX6_readRow 355 = .ok (.aload_n 0, 1) := by decide +kernel
theorem dX6_readRow_356 : decode cX6_readRow 356 = .ok (.dup, 1) := by decide +kernel
theorem dX6_readRow_357 : decode cX6_readRow 357 = .ok (.getfield 88, 3) := by decide +kernel
theorem dX6_readRow_360 : decode cX6_readRow 360 = .ok (.iconst 2, 1) := by decide +kernel
theorem dX6_readRow_361 : decode cX6_readRow 361 = .ok (.ior, 1) := by decide +kernel
theorem dX6_readRow_362 : decode cX6_readRow 362 = .ok (.putfield 88, 3) := by decide +kernel
theorem dX6_readRow_365 : decode cX6_readRow 365 = .ok (.goto 26, 3) := by decide +kernel
theorem dX6_readRow_368 : decode cX6_readRow 368 = .ok (.aload_n 0, 1) := by decide +kernel
theorem dX6_readRow_369 : decode cX6_readRow 369 = .ok (.getfield 35, 3) := by decide +kernel
theorem dX6_readRow_372 : decode cX6_readRow 372 = .ok (.iconst 5, 1) := by decide +kernel
theorem dX6_readRow_373 : decode cX6_readRow 373 = .ok (.aload_n 0, 1) := by decide +kernel
theorem dX6_readRow_374 : decode cX6_readRow 374 = .ok (.iconst 0, 1) := by decide +kernel
theorem dX6_readRow_375 : decode cX6_readRow 375 = .ok (.bipush 99, 2) := by decide +kernel
theorem dX6_readRow_377 : decode cX6_readRow 377 = .ok (.invokevirtual 91, 3) := by decide +kernel
theorem dX6_readRow_380 : decode cX6_readRow 380 = .ok (.iastore, 1) := by decide +kernel
theorem dX6_readRow_381 : decode cX6_readRow 381 = .ok (.aload_n 0, 1) := by decide +kernel
theorem dX6_readRow_382 : decode cX6_readRow 382 = .ok (.dup, 1) := by decide +kernel
theorem dX6_readRow_383 : decode cX6_readRow 383 = .ok (.getfield 88, 3) := by decide +kernel
theorem dX6_readRow_386 : decode cX6_readRow 386 = .ok (.iconst 4, 1) := by decide +kernel
theorem dX6_readRow_387 : decode cX6_readRow 387 = .ok (.ior, 1) := by decide +kernel
theorem dX6_readRow_388 : decode cX6_readRow 388 = .ok (.putfield 88, 3) := by decide +kernel
theorem dX6_readRow_391 : decode cX6_readRow 391 = .ok (.return_, 1) := by decide +kernel
theorem dX6_plain_0 : decode cX6_plain 0 = .ok (.aload_n 0, 1) := by decide +kernel
theorem dX6_plain_1 : decode cX6_plain 1 = .ok (.getfield 13, 3) := by decide +kernel
theorem dX6_plain_4 : decode cX6_plain 4 = .ok (.iconst 1, 1) := by decide +kernel
theorem dX6_plain_5 : decode cX6_plain 5 = .ok (.iconst 0, 1) := by decide +kernel
theorem dX6_plain_6 : decode cX6_plain 6 = .ok (.iastore, 1) := by decide +kernel
theorem dX6_plain_7 : decode cX6_plain 7 = .ok (.aload_n 0, 1) := by decide +kernel
theorem dX6_plain_8 : decode cX6_plain 8 = .ok (.getfield 26, 3) := by decide +kernel
theorem dX6_plain_11 : decode cX6_plain 11 = .ok (.iconst 1, 1) := by decide +kernel
theorem dX6_plain_12 : decode cX6_plain 12 = .ok (.iconst 0, 1) := by decide +kernel
theorem dX6_plain_13 : decode cX6_plain 13 = .ok (.iastore, 1) := by decide +kernel
theorem dX6_plain_14 : decode cX6_plain 14 = .ok (.aload_n 0, 1) := by decide +kernel
theorem dX6_plain_15 : decode cX6_plain 15 = .ok (.getfield 35, 3) := by decide +kernel
theorem dX6_plain_18 : decode cX6_plain 18 = .ok (.iconst 3, 1) := by decide +kernel
theorem dX6_plain_19 : decode cX6_plain 19 = .ok (.iconst 3, 1) := by decide +kernel
theorem dX6_plain_20 : decode cX6_plain 20 = .ok (.iastore, 1) := by decide +kernel
theorem dX6_plain_21 : decode cX6_plain 21 = .ok (.aload_n 0, 1) := by decide +kernel
theorem dX6_plain_22 : decode cX6_plain 22 = .ok (.getfield 35, 3) := by decide +kernel
theorem dX6_plain_25 : decode cX6_plain 25 = .ok (.iconst 4, 1) := by decide +kernel
theorem dX6_plain_26 : decode cX6_plain 26 = .ok (.bipush 8, 2) := by decide +kernel
theorem dX6_plain_28 : decode cX6_plain 28 = .ok (.iastore, 1) := by decide +kernel
theorem dX6_plain_29 : decode cX6_plain 29 = .ok (.aload_n 0, 1) := by decide +kernel
theorem dX6_plain_30 : decode cX6_plain 30 = .ok (.getfield 35, 3) := by decide +kernel
theorem dX6_plain_33 : decode cX6_plain 33 = .ok (.iconst 5, 1) := by decide +kernel
theorem dX6_plain_34 : decode cX6_plain 34 = .ok (.iconst 0, 1) := by decide +kernel
theorem dX6_plain_35 : decode cX6_plain 35 = .ok (.iastore, 1) := by decide +kernel
theorem dX6_plain_36 : decode cX6_plain 36 = .ok (.aload_n 0, 1) := by decide +kernel
theorem dX6_plain_37 : decode cX6_plain 37 = .ok (.iconst 0, 1) := by decide +kernel
theorem dX6_plain_38 : decode cX6_plain 38 = .ok (.putfield 88, 3) := by decide +kernel
theorem dX6_plain_41 : decode cX6_plain 41 = .ok (.iconst 0, 1) := by decide +kernel
theorem dX6_plain_42 : decode cX6_plain 42 = .ok (.istore_n 1, 1) := by decide +kernel
theorem dX6_plain_43 : decode cX6_plain 43 = .ok (.iload_n 1, 1) := by decide +kernel
theorem dX6_plain_44 : decode cX6_plain 44 = .ok (.bipush 36, 2) := by decide +kernel
theorem dX6_plain_46 : decode cX6_plain 46 = .ok (.if_icmp .ge 46, 3) := by decide +kernel
theorem dX6_plain_49 : decode cX6_plain 49 = .ok (.aload_n 0, 1) := by decide +kernel
theorem dX6_plain_50 : decode cX6_plain 50 = .ok (.getfield 29, 3) := by decide +kernel
theorem dX6_plain_53 : decode cX6_plain 53 = .ok (.bipush 36, 2) := by decide +kernel
theorem dX6_plain_55 : decode cX6_plain 55 = .ok (.iload_n 1, 1) := by decide +kernel
theorem dX6_plain_56 : decode cX6_plain 56 = .ok (.iadd, 1) := by decide +kernel
theorem dX6_plain_57 : decode cX6_plain 57 = .ok (.iload_n 1, 1) := by decide +kernel
theorem dX6_plain_58 : decode cX6_plain 58 = .ok (.bipush 6, 2) := by decide +kernel
theorem dX6_plain_60 : decode cX6_plain 60 = .ok (.idiv, 1) := by decide +kernel
theorem dX6_plain_61 : decode cX6_plain 61 = .ok (.iload_n 1, 1) := by decide +kernel
theorem dX6_plain_62 : decode cX6_plain 62 = .ok (.bipush 6, 2) := by decide +kernel
theorem dX6_plain_64 : decode cX6_plain 64 = .ok (.irem, 1) := by decide +kernel
theorem dX6_plain_65 : decode cX6_plain 65 = .ok (.if_icmp .ne 7, 3) := by decide +kernel
theorem dX6_plain_68 : decode cX6_plain 68 = .ok (.iconst 0, 1) := by decide +kernel
theorem dX6_plain_69 : decode cX6_plain 69 = .ok (.goto 6, 3) := by decide +kernel
theorem dX6_plain_72 : decode cX6_plain 72 = .ok (.sipush 1000, 3) := by decide +kernel
theorem dX6_plain_75 : decode cX6_plain 75 = .ok (.iastore, 1) := by decide +kernel
theorem dX6_plain_76 : decode cX6_plain 76 = .ok (.aload_n 0, 1) := by decide +kernel
theorem dX6_plain_77 : decode cX6_plain 77 = .ok (.getfield 32, 3) := by decide +kernel
theorem dX6_plain_80 : decode cX6_plain 80 = .ok (.bipush 36, 2) := by decide +kernel
theorem dX6_plain_82 : decode cX6_plain 82 = .ok (.iload_n 1, 1) := by decide +kernel
theorem dX6_plain_83 : decode cX6_plain 83 = .ok (.iadd, 1) := by decide +kernel
theorem dX6_plain_84 : decode cX6_plain 84 = .ok (.iconst 0, 1) := by decide +kernel
theorem dX6_plain_85 : decode cX6_plain 85 = .ok (.iastore, 1) := by decide +kernel
theorem dX6_plain_86 : decode cX6_plain 86 = .ok (.iinc 1 1, 3) := by decide +kernel
theorem dX6_plain_89 : decode cX6_plain 89 = .ok (.goto (-46), 3) := by decide +kernel
theorem dX6_plain_92 : decode cX6_plain 92 = .ok (.return_, 1) := by decide +kernel
theorem dX6_takeDraft_0 : decode cX6_takeDraft 0 = .ok (.aload_n 0, 1) := by decide +kernel
theorem dX6_takeDraft_1 : decode cX6_takeDraft 1 = .ok (.getfield 13, 3) := by decide +kernel
theorem dX6_takeDraft_4 : decode cX6_takeDraft 4 = .ok (.iconst 0, 1) := by decide +kernel
theorem dX6_takeDraft_5 : decode cX6_takeDraft 5 = .ok (.aload_n 0, 1) := by decide +kernel
theorem dX6_takeDraft_6 : decode cX6_takeDraft 6 = .ok (.getfield 13, 3) := by decide +kernel
theorem dX6_takeDraft_9 : decode cX6_takeDraft 9 = .ok (.iconst 1, 1) := by decide +kernel
theorem dX6_takeDraft_10 : decode cX6_takeDraft 10 = .ok (.iaload, 1) := by decide +kernel
theorem dX6_takeDraft_11 : decode cX6_takeDraft 11 = .ok (.iastore, 1) := by decide +kernel
theorem dX6_takeDraft_12 : decode cX6_takeDraft 12 = .ok (.aload_n 0, 1) := by decide +kernel
theorem dX6_takeDraft_13 : decode cX6_takeDraft 13 = .ok (.getfield 26, 3) := by decide +kernel
theorem dX6_takeDraft_16 : decode cX6_takeDraft 16 = .ok (.iconst 0, 1) := by decide +kernel
theorem dX6_takeDraft_17 : decode cX6_takeDraft 17 = .ok (.aload_n 0, 1) := by decide +kernel
theorem dX6_takeDraft_18 : decode cX6_takeDraft 18 = .ok (.getfield 26, 3) := by decide +kernel
theorem dX6_takeDraft_21 : decode cX6_takeDraft 21 = .ok (.iconst 1, 1) := by decide +kernel
theorem dX6_takeDraft_22 : decode cX6_takeDraft 22 = .ok (.iaload, 1) := by decide +kernel
theorem dX6_takeDraft_23 : decode cX6_takeDraft 23 = .ok (.iastore, 1) := by decide +kernel
theorem dX6_takeDraft_24 : decode cX6_takeDraft 24 = .ok (.iconst 0, 1) := by decide +kernel
theorem dX6_takeDraft_25 : decode cX6_takeDraft 25 = .ok (.istore_n 1, 1) := by decide +kernel
theorem dX6_takeDraft_26 : decode cX6_takeDraft 26 = .ok (.iload_n 1, 1) := by decide +kernel
theorem dX6_takeDraft_27 : decode cX6_takeDraft 27 = .ok (.iconst 3, 1) := by decide +kernel
theorem dX6_takeDraft_28 : decode cX6_takeDraft 28 = .ok (.if_icmp .ge 23, 3) := by decide +kernel
theorem dX6_takeDraft_31 : decode cX6_takeDraft 31 = .ok (.aload_n 0, 1) := by decide +kernel
theorem dX6_takeDraft_32 : decode cX6_takeDraft 32 = .ok (.getfield 35, 3) := by decide +kernel
theorem dX6_takeDraft_35 : decode cX6_takeDraft 35 = .ok (.iload_n 1, 1) := by decide +kernel
theorem dX6_takeDraft_36 : decode cX6_takeDraft 36 = .ok (.aload_n 0, 1) := by decide +kernel
theorem dX6_takeDraft_37 : decode cX6_takeDraft 37 = .ok (.getfield 35, 3) := by decide +kernel
theorem dX6_takeDraft_40 : decode cX6_takeDraft 40 = .ok (.iconst 3, 1) := by decide +kernel
theorem dX6_takeDraft_41 : decode cX6_takeDraft 41 = .ok (.iload_n 1, 1) := by decide +kernel
theorem dX6_takeDraft_42 : decode cX6_takeDraft 42 = .ok (.iadd, 1) := by decide +kernel
theorem dX6_takeDraft_43 : decode cX6_takeDraft 43 = .ok (.iaload, 1) := by decide +kernel
theorem dX6_takeDraft_44 : decode cX6_takeDraft 44 = .ok (.iastore, 1) := by decide +kernel
theorem dX6_takeDraft_45 : decode cX6_takeDraft 45 = .ok (.iinc 1 1, 3) := by decide +kernel
theorem dX6_takeDraft_48 : decode cX6_takeDraft 48 = .ok (.goto (-22), 3) := by decide +kernel
theorem dX6_takeDraft_51 : decode cX6_takeDraft 51 = .ok (.iconst 0, 1) := by decide +kernel
theorem dX6_takeDraft_52 : decode cX6_takeDraft 52 = .ok (.istore_n 1, 1) := by decide +kernel
theorem dX6_takeDraft_53 : decode cX6_takeDraft 53 = .ok (.iload_n 1, 1) := by decide +kernel
theorem dX6_takeDraft_54 : decode cX6_takeDraft 54 = .ok (.bipush 28, 2) := by decide +kernel
theorem dX6_takeDraft_56 : decode cX6_takeDraft 56 = .ok (.if_icmp .ge 16, 3) := by decide +kernel
theorem dX6_takeDraft_59 : decode cX6_takeDraft 59 = .ok (.aload_n 0, 1) := by decide +kernel
theorem dX6_takeDraft_60 : decode cX6_takeDraft 60 = .ok (.getfield 38, 3) := by decide +kernel
theorem dX6_takeDraft_63 : decode cX6_takeDraft 63 = .ok (.iload_n 1, 1) := by decide +kernel
theorem dX6_takeDraft_64 : decode cX6_takeDraft 64 = .ok (.iconst 0, 1) := by decide +kernel
theorem dX6_takeDraft_65 : decode cX6_takeDraft 65 = .ok (.iastore, 1) := by decide +kernel
theorem dX6_takeDraft_66 : decode cX6_takeDraft 66 = .ok (.iinc 1 1, 3) := by decide +kernel
theorem dX6_takeDraft_69 : decode cX6_takeDraft 69 = .ok (.goto (-16), 3) := by decide +kernel
theorem dX6_takeDraft_72 : decode cX6_takeDraft 72 = .ok (.iconst 0, 1) := by decide +kernel
theorem dX6_takeDraft_73 : decode cX6_takeDraft 73 = .ok (.istore_n 1, 1) := by decide +kernel
theorem dX6_takeDraft_74 : decode cX6_takeDraft 74 = .ok (.iload_n 1, 1) := by decide +kernel
theorem dX6_takeDraft_75 : decode cX6_takeDraft 75 = .ok (.bipush 6, 2) := by decide +kernel
theorem dX6_takeDraft_77 : decode cX6_takeDraft 77 = .ok (.if_icmp .ge 67, 3) := by decide +kernel
theorem dX6_takeDraft_80 : decode cX6_takeDraft 80 = .ok (.aload_n 0, 1) := by decide +kernel
theorem dX6_takeDraft_81 : decode cX6_takeDraft 81 = .ok (.getfield 20, 3) := by decide +kernel
theorem dX6_takeDraft_84 : decode cX6_takeDraft 84 = .ok (.iload_n 1, 1) := by decide +kernel
theorem dX6_takeDraft_85 : decode cX6_takeDraft 85 = .ok (.aload_n 0, 1) := by decide +kernel
theorem dX6_takeDraft_86 : decode cX6_takeDraft 86 = .ok (.getfield 20, 3) := by decide +kernel
theorem dX6_takeDraft_89 : decode cX6_takeDraft 89 = .ok (.bipush 6, 2) := by decide +kernel
theorem dX6_takeDraft_91 : decode cX6_takeDraft 91 = .ok (.iload_n 1, 1) := by decide +kernel
theorem dX6_takeDraft_92 : decode cX6_takeDraft 92 = .ok (.iadd, 1) := by decide +kernel
theorem dX6_takeDraft_93 : decode cX6_takeDraft 93 = .ok (.iaload, 1) := by decide +kernel
theorem dX6_takeDraft_94 : decode cX6_takeDraft 94 = .ok (.iastore, 1) := by decide +kernel
theorem dX6_takeDraft_95 : decode cX6_takeDraft 95 = .ok (.aload_n 0, 1) := by decide +kernel
theorem dX6_takeDraft_96 : decode cX6_takeDraft 96 = .ok (.getfield 23, 3) := by decide +kernel
theorem dX6_takeDraft_99 : decode cX6_takeDraft 99 = .ok (.iload_n 1, 1) := by decide +kernel
theorem dX6_takeDraft_100 : decode cX6_takeDraft 100 = .ok (.aload_n 0, 1) := by decide +kernel
theorem dX6_takeDraft_101 : decode cX6_takeDraft 101 = .ok (.getfield 23, 3) := by decide +kernel
theorem dX6_takeDraft_104 : decode cX6_takeDraft 104 = .ok (.bipush 6, 2) := by decide +kernel
theorem dX6_takeDraft_106 : decode cX6_takeDraft 106 = .ok (.iload_n 1, 1) := by decide +kernel
theorem dX6_takeDraft_107 : decode cX6_takeDraft 107 = .ok (.iadd, 1) := by decide +kernel
theorem dX6_takeDraft_108 : decode cX6_takeDraft 108 = .ok (.iaload, 1) := by decide +kernel
theorem dX6_takeDraft_109 : decode cX6_takeDraft 109 = .ok (.iastore, 1) := by decide +kernel
theorem dX6_takeDraft_110 : decode cX6_takeDraft 110 = .ok (.aload_n 0, 1) := by decide +kernel
theorem dX6_takeDraft_111 : decode cX6_takeDraft 111 = .ok (.getfield 38, 3) := by decide +kernel
theorem dX6_takeDraft_114 : decode cX6_takeDraft 114 = .ok (.iconst 4, 1) := by decide +kernel
theorem dX6_takeDraft_115 : decode cX6_takeDraft 115 = .ok (.iload_n 1, 1) := by decide +kernel
theorem dX6_takeDraft_116 : decode cX6_takeDraft 116 = .ok (.iadd, 1) := by decide +kernel
theorem dX6_takeDraft_117 : decode cX6_takeDraft 117 = .ok (.iload_n 1, 1) := by decide +kernel
theorem dX6_takeDraft_118 : decode cX6_takeDraft 118 = .ok (.aload_n 0, 1) := by decide +kernel
theorem dX6_takeDraft_119 : decode cX6_takeDraft 119 = .ok (.getfield 13, 3) := by decide +kernel
theorem dX6_takeDraft_122 : decode cX6_takeDraft 122 = .ok (.iconst 0, 1) := by decide +kernel
theorem dX6_takeDraft_123 : decode cX6_takeDraft 123 = .ok (.iaload, 1) := by decide +kernel
theorem dX6_takeDraft_124 : decode cX6_takeDraft 124 = .ok (.if_icmp .ge 12, 3) := by decide +kernel
theorem dX6_takeDraft_127 : decode cX6_takeDraft 127 = .ok (.aload_n 0, 1) := by decide +kernel
theorem dX6_takeDraft_128 : decode cX6_takeDraft 128 = .ok (.getfield 17, 3) := by decide +kernel
theorem dX6_takeDraft_131 : decode cX6_takeDraft 131 = .ok (.iload_n 1, 1) := by decide +kernel
theorem dX6_takeDraft_132 : decode cX6_takeDraft 132 = .ok (.iaload, 1) := by decide +kernel
theorem dX6_takeDraft_133 : decode cX6_takeDraft 133 = .ok (.goto 4, 3) := by decide +kernel
theorem dX6_takeDraft_136 : decode cX6_takeDraft 136 = .ok (.iconst 0, 1) := by decide +kernel
theorem dX6_takeDraft_137 : decode cX6_takeDraft 137 = .ok (.iastore, 1) := by decide +kernel
theorem dX6_takeDraft_138 : decode cX6_takeDraft 138 = .ok (.iinc 1 1, 3) := by decide +kernel
theorem dX6_takeDraft_141 : decode cX6_takeDraft 141 = .ok (.goto (-67), 3) := by decide +kernel
theorem dX6_takeDraft_144 : decode cX6_takeDraft 144 = .ok (.iconst 0, 1) := by decide +kernel
theorem dX6_takeDraft_145 : decode cX6_takeDraft 145 = .ok (.istore_n 1, 1) := by decide +kernel
theorem dX6_takeDraft_146 : decode cX6_takeDraft 146 = .ok (.iload_n 1, 1) := by decide +kernel
theorem dX6_takeDraft_147 : decode cX6_takeDraft 147 = .ok (.bipush 36, 2) := by decide +kernel
theorem dX6_takeDraft_149 : decode cX6_takeDraft 149 = .ok (.if_icmp .ge 39, 3) := by decide +kernel
theorem dX6_takeDraft_152 : decode cX6_takeDraft 152 = .ok (.aload_n 0, 1) := by decide +kernel
theorem dX6_takeDraft_153 : decode cX6_takeDraft 153 = .ok (.getfield 29, 3) := by decide +kernel
theorem dX6_takeDraft_156 : decode cX6_takeDraft 156 = .ok (.iload_n 1, 1) := by decide +kernel
theorem dX6_takeDraft_157 : decode cX6_takeDraft 157 = .ok (.aload_n 0, 1) := by decide +kernel
theorem dX6_takeDraft_158 : decode cX6_takeDraft 158 = .ok (.getfield 29, 3) := by decide +kernel
theorem dX6_takeDraft_161 : decode cX6_takeDraft 161 = .ok (.bipush 36, 2) := by decide +kernel
theorem dX6_takeDraft_163 : decode cX6_takeDraft 163 = .ok (.iload_n 1, 1) := by decide +kernel
theorem dX6_takeDraft_164 : decode cX6_takeDraft 164 = .ok (.iadd, 1) := by decide +kernel
theorem dX6_takeDraft_165 : decode cX6_takeDraft 165 = .ok (.iaload, 1) := by decide +kernel
theorem dX6_takeDraft_166 : decode cX6_takeDraft 166 = .ok (.iastore, 1) := by decide +kernel
theorem dX6_takeDraft_167 : decode cX6_takeDraft 167 = .ok (.aload_n 0, 1) := by decide +kernel
theorem dX6_takeDraft_168 : decode cX6_takeDraft 168 = .ok (.getfield 32, 3) := by decide +kernel
theorem dX6_takeDraft_171 : decode cX6_takeDraft 171 = .ok (.iload_n 1, 1) := by decide +kernel
theorem dX6_takeDraft_172 : decode cX6_takeDraft 172 = .ok (.aload_n 0, 1) := by decide +kernel
theorem dX6_takeDraft_173 : decode cX6_takeDraft 173 = .ok (.getfield 32, 3) := by decide +kernel
theorem dX6_takeDraft_176 : decode cX6_takeDraft 176 = .ok (.bipush 36, 2) := by decide +kernel
theorem dX6_takeDraft_178 : decode cX6_takeDraft 178 = .ok (.iload_n 1, 1) := by decide +kernel
theorem dX6_takeDraft_179 : decode cX6_takeDraft 179 = .ok (.iadd, 1) := by decide +kernel
theorem dX6_takeDraft_180 : decode cX6_takeDraft 180 = .ok (.iaload, 1) := by decide +kernel
theorem dX6_takeDraft_181 : decode cX6_takeDraft 181 = .ok (.iastore, 1) := by decide +kernel
theorem dX6_takeDraft_182 : decode cX6_takeDraft 182 = .ok (.iinc 1 1, 3) := by decide +kernel
theorem dX6_takeDraft_185 : decode cX6_takeDraft 185 = .ok (.goto (-39), 3) := by decide +kernel
theorem dX6_takeDraft_188 : decode cX6_takeDraft 188 = .ok (.iconst 0, 1) := by decide +kernel
theorem dX6_takeDraft_189 : decode cX6_takeDraft 189 = .ok (.istore_n 1, 1) := by decide +kernel
theorem dX6_takeDraft_190 : decode cX6_takeDraft 190 = .ok (.iload_n 1, 1) := by decide +kernel
theorem dX6_takeDraft_191 : decode cX6_takeDraft 191 = .ok (.bipush 6, 2) := by decide +kernel
theorem dX6_takeDraft_193 : decode cX6_takeDraft 193 = .ok (.if_icmp .ge 79, 3) := by decide +kernel
theorem dX6_takeDraft_196 : decode cX6_takeDraft 196 = .ok (.iconst 0, 1) := by decide +kernel
theorem dX6_takeDraft_197 : decode cX6_takeDraft 197 = .ok (.istore_n 2, 1) := by decide +kernel
theorem dX6_takeDraft_198 : decode cX6_takeDraft 198 = .ok (.iload_n 2, 1) := by decide +kernel
theorem dX6_takeDraft_199 : decode cX6_takeDraft 199 = .ok (.bipush 36, 2) := by decide +kernel
theorem dX6_takeDraft_201 : decode cX6_takeDraft 201 = .ok (.if_icmp .ge 65, 3) := by decide +kernel
theorem dX6_takeDraft_204 : decode cX6_takeDraft 204 = .ok (.aload_n 0, 1) := by decide +kernel
theorem dX6_takeDraft_205 : decode cX6_takeDraft 205 = .ok (.getfield 29, 3) := by decide +kernel
theorem dX6_takeDraft_208 : decode cX6_takeDraft 208 = .ok (.iload_n 2, 1) := by decide +kernel
theorem dX6_takeDraft_209 : decode cX6_takeDraft 209 = .ok (.bipush 6, 2) := by decide +kernel
theorem dX6_takeDraft_211 : decode cX6_takeDraft 211 = .ok (.idiv, 1) := by decide +kernel
theorem dX6_takeDraft_212 : decode cX6_takeDraft 212 = .ok (.bipush 6, 2) := by decide +kernel
theorem dX6_takeDraft_214 : decode cX6_takeDraft 214 = .ok (.imul, 1) := by decide +kernel
theorem dX6_takeDraft_215 : decode cX6_takeDraft 215 = .ok (.iload_n 1, 1) := by decide +kernel
theorem dX6_takeDraft_216 : decode cX6_takeDraft 216 = .ok (.iadd, 1) := by decide +kernel
theorem dX6_takeDraft_217 : decode cX6_takeDraft 217 = .ok (.iaload, 1) := by decide +kernel
theorem dX6_takeDraft_218 : decode cX6_takeDraft 218 = .ok (.aload_n 0, 1) := by decide +kernel
theorem dX6_takeDraft_219 : decode cX6_takeDraft 219 = .ok (.getfield 29, 3) := by decide +kernel
theorem dX6_takeDraft_222 : decode cX6_takeDraft 222 = .ok (.bipush 6, 2) := by decide +kernel
theorem dX6_takeDraft_224 : decode cX6_takeDraft 224 = .ok (.iload_n 1, 1) := by decide +kernel
theorem dX6_takeDraft_225 : decode cX6_takeDraft 225 = .ok (.imul, 1) := by decide +kernel
theorem dX6_takeDraft_226 : decode cX6_takeDraft 226 = .ok (.iload_n 2, 1) := by decide +kernel
theorem dX6_takeDraft_227 : decode cX6_takeDraft 227 = .ok (.bipush 6, 2) := by decide +kernel
theorem dX6_takeDraft_229 : decode cX6_takeDraft 229 = .ok (.irem, 1) := by decide +kernel
theorem dX6_takeDraft_230 : decode cX6_takeDraft 230 = .ok (.iadd, 1) := by decide +kernel
theorem dX6_takeDraft_231 : decode cX6_takeDraft 231 = .ok (.iaload, 1) := by decide +kernel
theorem dX6_takeDraft_232 : decode cX6_takeDraft 232 = .ok (.iadd, 1) := by decide +kernel
theorem dX6_takeDraft_233 : decode cX6_takeDraft 233 = .ok (.istore_n 3, 1) := by decide +kernel
theorem dX6_takeDraft_234 : decode cX6_takeDraft 234 = .ok (.aload_n 0, 1) := by decide +kernel
theorem dX6_takeDraft_235 : decode cX6_takeDraft 235 = .ok (.getfield 29, 3) := by decide +kernel
theorem dX6_takeDraft_238 : decode cX6_takeDraft 238 = .ok (.iload_n 2, 1) := by decide +kernel
theorem dX6_takeDraft_239 : decode cX6_takeDraft 239 = .ok (.iload_n 3, 1) := by decide +kernel
theorem dX6_takeDraft_240 : decode cX6_takeDraft 240 = .ok (.aload_n 0, 1) := by decide +kernel
theorem dX6_takeDraft_241 : decode cX6_takeDraft 241 = .ok (.getfield 29, 3) := by decide +kernel
theorem dX6_takeDraft_244 : decode cX6_takeDraft 244 = .ok (.iload_n 2, 1) := by decide +kernel
theorem dX6_takeDraft_245 : decode cX6_takeDraft 245 = .ok (.iaload, 1) := by decide +kernel
theorem dX6_takeDraft_246 : decode cX6_takeDraft 246 = .ok (.if_icmp .ge 7, 3) := by decide +kernel
theorem dX6_takeDraft_249 : decode cX6_takeDraft 249 = .ok (.iload_n 3, 1) := by decide +kernel
theorem dX6_takeDraft_250 : decode cX6_takeDraft 250 = .ok (.goto 9, 3) := by decide +kernel
theorem dX6_takeDraft_253 : decode cX6_takeDraft 253 = .ok (.aload_n 0, 1) := by decide +kernel
theorem dX6_takeDraft_254 : decode cX6_takeDraft 254 = .ok (.getfield 29, 3) := by decide +kernel
theorem dX6_takeDraft_257 : decode cX6_takeDraft 257 = .ok (.iload_n 2, 1) := by decide +kernel
theorem dX6_takeDraft_258 : decode cX6_takeDraft 258 = .ok (.iaload, 1) := by decide +kernel
theorem dX6_takeDraft_259 : decode cX6_takeDraft 259 = .ok (.iastore, 1) := by decide +kernel
theorem dX6_takeDraft_260 : decode cX6_takeDraft 260 = .ok (.iinc 2 1, 3) := by decide +kernel
theorem dX6_takeDraft_263 : decode cX6_takeDraft 263 = .ok (.goto (-65), 3) := by decide +kernel
theorem dX6_takeDraft_266 : decode cX6_takeDraft 266 = .ok (.iinc 1 1, 3) := by decide +kernel
theorem dX6_takeDraft_269 : decode cX6_takeDraft 269 = .ok (.goto (-79), 3) := by decide +kernel
theorem dX6_takeDraft_272 : decode cX6_takeDraft 272 = .ok (.aload_n 0, 1) := by decide +kernel
theorem dX6_takeDraft_273 : decode cX6_takeDraft 273 = .ok (.getfield 38, 3) := by decide +kernel
theorem dX6_takeDraft_276 : decode cX6_takeDraft 276 = .ok (.iconst 0, 1) := by decide +kernel
theorem dX6_takeDraft_277 : decode cX6_takeDraft 277 = .ok (.aload_n 0, 1) := by decide +kernel
theorem dX6_takeDraft_278 : decode cX6_takeDraft 278 = .ok (.getfield 13, 3) := by decide +kernel
theorem dX6_takeDraft_281 : decode cX6_takeDraft 281 = .ok (.iconst 0, 1) := by decide +kernel
theorem dX6_takeDraft_282 : decode cX6_takeDraft 282 = .ok (.iaload, 1) := by decide +kernel
theorem dX6_takeDraft_283 : decode cX6_takeDraft 283 = .ok (.ifCond .le 7, 3) := by decide +kernel
theorem dX6_takeDraft_286 : decode cX6_takeDraft 286 = .ok (.iconst 0, 1) := by decide +kernel
theorem dX6_takeDraft_287 : decode cX6_takeDraft 287 = .ok (.goto 5, 3) := by decide +kernel
theorem dX6_takeDraft_290 : decode cX6_takeDraft 290 = .ok (.bipush (-9), 2) := by decide +kernel
theorem dX6_takeDraft_292 : decode cX6_takeDraft 292 = .ok (.iastore, 1) := by decide +kernel
theorem dX6_takeDraft_293 : decode cX6_takeDraft 293 = .ok (.aload_n 0, 1) := by decide +kernel
theorem dX6_takeDraft_294 : decode cX6_takeDraft 294 = .ok (.getfield 38, 3) := by decide +kernel
theorem dX6_takeDraft_297 : decode cX6_takeDraft 297 = .ok (.iconst 2, 1) := by decide +kernel
theorem dX6_takeDraft_298 : decode cX6_takeDraft 298 = .ok (.aload_n 0, 1) := by decide +kernel
theorem dX6_takeDraft_299 : decode cX6_takeDraft 299 = .ok (.getfield 35, 3) := by decide +kernel
theorem dX6_takeDraft_302 : decode cX6_takeDraft 302 = .ok (.iconst 2, 1) := by decide +kernel
theorem dX6_takeDraft_303 : decode cX6_takeDraft 303 = .ok (.iaload, 1) := by decide +kernel
theorem dX6_takeDraft_304 : decode cX6_takeDraft 304 = .ok (.iastore, 1) := by decide +kernel
theorem dX6_takeDraft_305 : decode cX6_takeDraft 305 = .ok (.aload_n 0, 1) := by decide +kernel
theorem dX6_takeDraft_306 : decode cX6_takeDraft 306 = .ok (.getfield 38, 3) := by decide +kernel
theorem dX6_takeDraft_309 : decode cX6_takeDraft 309 = .ok (.bipush 28, 2) := by decide +kernel
theorem dX6_takeDraft_311 : decode cX6_takeDraft 311 = .ok (.iconst 0, 1) := by decide +kernel
theorem dX6_takeDraft_312 : decode cX6_takeDraft 312 = .ok (.iastore, 1) := by decide +kernel
theorem dX6_takeDraft_313 : decode cX6_takeDraft 313 = .ok (.aload_n 0, 1) := by decide +kernel
theorem dX6_takeDraft_314 : decode cX6_takeDraft 314 = .ok (.getfield 41, 3) := by decide +kernel
theorem dX6_takeDraft_317 : decode cX6_takeDraft 317 = .ok (.iconst 0, 1) := by decide +kernel
theorem dX6_takeDraft_318 : decode cX6_takeDraft 318 = .ok (.iconst 0, 1) := by decide +kernel
theorem dX6_takeDraft_319 : decode cX6_takeDraft 319 = .ok (.bastore, 1) := by decide +kernel
theorem dX6_takeDraft_320 : decode cX6_takeDraft 320 = .ok (.aload_n 0, 1) := by decide +kernel
theorem dX6_takeDraft_321 : decode cX6_takeDraft 321 = .ok (.getfield 41, 3) := by decide +kernel
theorem dX6_takeDraft_324 : decode cX6_takeDraft 324 = .ok (.iconst 1, 1) := by decide +kernel
theorem dX6_takeDraft_325 : decode cX6_takeDraft 325 = .ok (.iconst 0, 1) := by decide +kernel
theorem dX6_takeDraft_326 : decode cX6_takeDraft 326 = .ok (.bastore, 1) := by decide +kernel
theorem dX6_takeDraft_327 : decode cX6_takeDraft 327 = .ok (.return_, 1) := by decide +kernel
theorem dX6_land_0 : decode cX6_land 0 = .ok (.aload_n 0, 1) := by decide +kernel
theorem dX6_land_1 : decode cX6_land 1 = .ok (.iconst 0, 1) := by decide +kernel
theorem dX6_land_2 : decode cX6_land 2 = .ok (.putfield 62, 3) := by decide +kernel
theorem dX6_land_5 : decode cX6_land 5 = .ok (.aload_n 0, 1) := by decide +kernel
theorem dX6_land_6 : decode cX6_land 6 = .ok (.bipush (-9), 2) := by decide +kernel
theorem dX6_land_8 : decode cX6_land 8 = .ok (.putfield 78, 3) := by decide +kernel
theorem dX6_land_11 : decode cX6_land 11 = .ok (.aload_n 0, 1) := by decide +kernel
theorem dX6_land_12 : decode cX6_land 12 = .ok (.invokevirtual 48, 3) := by decide +kernel
theorem dX6_land_15 : decode cX6_land 15 = .ok (.iconst 0, 1) := by decide +kernel
theorem dX6_land_16 : decode cX6_land 16 = .ok (.istore_n 1, 1) := by decide +kernel
theorem dX6_land_17 : decode cX6_land 17 = .ok (.aload_n 0, 1) := by decide +kernel
theorem dX6_land_18 : decode cX6_land 18 = .ok (.invokevirtual 81, 3) := by decide +kernel
theorem dX6_land_21 : decode cX6_land 21 = .ok (.aload_n 0, 1) := by decide +kernel
theorem dX6_land_22 : decode cX6_land 22 = .ok (.getfield 78, 3) := by decide +kernel
theorem dX6_land_25 : decode cX6_land 25 = .ok (.bipush (-9), 2) := by decide +kernel
theorem dX6_land_27 : decode cX6_land 27 = .ok (.if_icmp .ne 64, 3) := by decide +kernel
theorem dX6_land_30 : decode cX6_land 30 = .ok (.aload_n 0, 1) := by decide +kernel
theorem dX6_land_31 : decode cX6_land 31 = .ok (.getfield 75, 3) := by decide +kernel
theorem dX6_land_34 : decode cX6_land 34 = .ok (.iconst 3, 1) := by decide +kernel
theorem dX6_land_35 : decode cX6_land 35 = .ok (.if_icmp .eq 56, 3) := by decide +kernel
theorem dX6_land_38 : decode cX6_land 38 = .ok (.aload_n 0, 1) := by decide +kernel
theorem dX6_land_39 : decode cX6_land 39 = .ok (.getfield 75, 3) := by decide +kernel
theorem dX6_land_42 : decode cX6_land 42 = .ok (.istore_n 2, 1) := by decide +kernel
theorem dX6_land_43 : decode cX6_land 43 = .ok (.aload_n 0, 1) := by decide +kernel
theorem dX6_land_44 : decode cX6_land 44 = .ok (.aload_n 0, 1) := by decide +kernel
theorem dX6_land_45 : decode cX6_land 45 = .ok (.iload_n 2, 1) := by decide +kernel
theorem dX6_land_46 : decode cX6_land 46 = .ok (.invokevirtual 99, 3) := by decide +kernel
theorem dX6_land_49 : decode cX6_land 49 = .ok (.invokevirtual 84, 3) := by decide +kernel
theorem dX6_land_52 : decode cX6_land 52 = .ok (.pop, 1) := by decide +kernel
theorem dX6_land_53 : decode cX6_land 53 = .ok (.aload_n 0, 1) := by decide +kernel
theorem dX6_land_54 : decode cX6_land 54 = .ok (.getfield 78, 3) := by decide +kernel
theorem dX6_land_57 : decode cX6_land 57 = .ok (.bipush (-9), 2) := by decide +kernel
theorem dX6_land_59 : decode cX6_land 59 = .ok (.if_icmp .ne 29, 3) := by decide +kernel
theorem dX6_land_62 : decode cX6_land 62 = .ok (.aload_n 0, 1) := by decide +kernel
theorem dX6_land_63 : decode cX6_land 63 = .ok (.iload_n 2, 1) := by decide +kernel
theorem dX6_land_64 : decode cX6_land 64 = .ok (.invokevirtual 103, 3) := by decide +kernel
theorem dX6_land_67 : decode cX6_land 67 = .ok (.aload_n 0, 1) := by decide +kernel
theorem dX6_land_68 : decode cX6_land 68 = .ok (.aload_n 0, 1) := by decide +kernel
theorem dX6_land_69 : decode cX6_land 69 = .ok (.getfield 75, 3) := by decide +kernel
theorem dX6_land_72 : decode cX6_land 72 = .ok (.iconst 2, 1) := by decide +kernel
theorem dX6_land_73 : decode cX6_land 73 = .ok (.if_icmp .ne 7, 3) := by decide +kernel
theorem dX6_land_76 : decode cX6_land 76 = .ok (.iconst 1, 1) := by decide +kernel
theorem dX6_land_77 : decode cX6_land 77 = .ok (.goto 4, 3) := by decide +kernel
theorem dX6_land_80 : decode cX6_land 80 = .ok (.iconst 0, 1) := by decide +kernel
theorem dX6_land_81 : decode cX6_land 81 = .ok (.invokevirtual 84, 3) := by decide +kernel
theorem dX6_land_84 : decode cX6_land 84 = .ok (.pop, 1) := by decide +kernel
theorem dX6_land_85 : decode cX6_land 85 = .ok (.iinc 1 1, 3) := by decide +kernel
theorem dX6_land_88 : decode cX6_land 88 = .ok (.goto (-67), 3) := by decide +kernel
theorem dX6_land_91 : decode cX6_land 91 = .ok (.aload_n 0, 1) := by decide +kernel
theorem dX6_land_92 : decode cX6_land 92 = .ok (.getfield 78, 3) := by decide +kernel
theorem dX6_land_95 : decode cX6_land 95 = .ok (.bipush (-9), 2) := by decide +kernel
theorem dX6_land_97 : decode cX6_land 97 = .ok (.if_icmp .eq 11, 3) := by decide +kernel
theorem dX6_land_100 : decode cX6_land 100 = .ok (.bipush (-10), 2) := by decide +kernel
theorem dX6_land_102 : decode cX6_land 102 = .ok (.aload_n 0, 1) := by decide +kernel
theorem dX6_land_103 : decode cX6_land 103 = .ok (.getfield 78, 3) := by decide +kernel
theorem dX6_land_106 : decode cX6_land 106 = .ok (.isub, 1) := by decide +kernel
theorem dX6_land_107 : decode cX6_land 107 = .ok (.ireturn, 1) := by decide +kernel
theorem dX6_land_108 : decode cX6_land 108 = .ok (.aload_n 0, 1) := by decide +kernel
theorem dX6_land_109 : decode cX6_land 109 = .ok (.invokevirtual 51, 3) := by decide +kernel
theorem dX6_land_112 : decode cX6_land 112 = .ok (.aload_n 0, 1) := by decide +kernel
theorem dX6_land_113 : decode cX6_land 113 = .ok (.iconst 0, 1) := by decide +kernel
theorem dX6_land_114 : decode cX6_land 114 = .ok (.putfield 58, 3) := by decide +kernel
theorem dX6_land_117 : decode cX6_land 117 = .ok (.iload_n 1, 1) := by decide +kernel
theorem dX6_land_118 : decode cX6_land 118 = .ok (.ireturn, 1) := by decide +kernel
theorem dX6_isVillage_0 : decode cX6_isVillage 0 = .ok (.iload_n 1, 1) := by decide +kernel
theorem dX6_isVillage_1 : decode cX6_isVillage 1 = .ok (.iconst 0, 1) := by decide +kernel
theorem dX6_isVillage_2 : decode cX6_isVillage 2 = .ok (.aload_n 0, 1) := by decide +kernel
theorem dX6_isVillage_3 : decode cX6_isVillage 3 = .ok (.getfield 13, 3) := by decide +kernel
theorem dX6_isVillage_6 : decode cX6_isVillage 6 = .ok (.iconst 0, 1) := by decide +kernel
theorem dX6_isVillage_7 : decode cX6_isVillage 7 = .ok (.iaload, 1) := by decide +kernel
theorem dX6_isVillage_8 : decode cX6_isVillage 8 = .ok (.iconst 1, 1) := by decide +kernel
theorem dX6_isVillage_9 : decode cX6_isVillage 9 = .ok (.isub, 1) := by decide +kernel
theorem dX6_isVillage_10 : decode cX6_isVillage 10 = .ok (.invokestatic 54, 3) := by decide +kernel
theorem dX6_isVillage_13 : decode cX6_isVillage 13 = .ok (.ireturn, 1) := by decide +kernel
theorem dX6_manyOf_0 : decode cX6_manyOf 0 = .ok (.iconst 0, 1) := by decide +kernel
theorem dX6_manyOf_1 : decode cX6_manyOf 1 = .ok (.istore_n 1, 1) := by decide +kernel
theorem dX6_manyOf_2 : decode cX6_manyOf 2 = .ok (.iconst 0, 1) := by decide +kernel
theorem dX6_manyOf_3 : decode cX6_manyOf 3 = .ok (.istore_n 2, 1) := by decide +kernel
theorem dX6_manyOf_4 : decode cX6_manyOf 4 = .ok (.iload_n 2, 1) := by decide +kernel
theorem dX6_manyOf_5 : decode cX6_manyOf 5 = .ok (.bipush 6, 2) := by decide +kernel
theorem dX6_manyOf_7 : decode cX6_manyOf 7 = .ok (.if_icmp .ge 17, 3) := by decide +kernel
theorem dX6_manyOf_10 : decode cX6_manyOf 10 = .ok (.iload_n 1, 1) := by decide +kernel
theorem dX6_manyOf_11 : decode cX6_manyOf 11 = .ok (.iload_n 0, 1) := by decide +kernel
theorem dX6_manyOf_12 : decode cX6_manyOf 12 = .ok (.iload_n 2, 1) := by decide +kernel
theorem dX6_manyOf_13 : decode cX6_manyOf 13 = .ok (.ishr, 1) := by decide +kernel
theorem dX6_manyOf_14 : decode cX6_manyOf 14 = .ok (.iconst 1, 1) := by decide +kernel
theorem dX6_manyOf_15 : decode cX6_manyOf 15 = .ok (.iand, 1) := by decide +kernel
theorem dX6_manyOf_16 : decode cX6_manyOf 16 = .ok (.iadd, 1) := by decide +kernel
theorem dX6_manyOf_17 : decode cX6_manyOf 17 = .ok (.istore_n 1, 1) := by decide +kernel
theorem dX6_manyOf_18 : decode cX6_manyOf 18 = .ok (.iinc 2 1, 3) := by decide +kernel
theorem dX6_manyOf_21 : decode cX6_manyOf 21 = .ok (.goto (-17), 3) := by decide +kernel
theorem dX6_manyOf_24 : decode cX6_manyOf 24 = .ok (.iload_n 1, 1) := by decide +kernel
theorem dX6_manyOf_25 : decode cX6_manyOf 25 = .ok (.ireturn, 1) := by decide +kernel
theorem dX6_spare_0 : decode cX6_spare 0 = .ok (.aload_n 0, 1) := by decide +kernel
theorem dX6_spare_1 : decode cX6_spare 1 = .ok (.getfield 38, 3) := by decide +kernel
theorem dX6_spare_4 : decode cX6_spare 4 = .ok (.iconst 4, 1) := by decide +kernel
theorem dX6_spare_5 : decode cX6_spare 5 = .ok (.iload_n 1, 1) := by decide +kernel
theorem dX6_spare_6 : decode cX6_spare 6 = .ok (.iadd, 1) := by decide +kernel
theorem dX6_spare_7 : decode cX6_spare 7 = .ok (.iaload, 1) := by decide +kernel
theorem dX6_spare_8 : decode cX6_spare 8 = .ok (.aload_n 0, 1) := by decide +kernel
theorem dX6_spare_9 : decode cX6_spare 9 = .ok (.getfield 38, 3) := by decide +kernel
theorem dX6_spare_12 : decode cX6_spare 12 = .ok (.bipush 10, 2) := by decide +kernel
theorem dX6_spare_14 : decode cX6_spare 14 = .ok (.iload_n 1, 1) := by decide +kernel
theorem dX6_spare_15 : decode cX6_spare 15 = .ok (.iadd, 1) := by decide +kernel
theorem dX6_spare_16 : decode cX6_spare 16 = .ok (.iaload, 1) := by decide +kernel
theorem dX6_spare_17 : decode cX6_spare 17 = .ok (.iadd, 1) := by decide +kernel
theorem dX6_spare_18 : decode cX6_spare 18 = .ok (.aload_n 0, 1) := by decide +kernel
theorem dX6_spare_19 : decode cX6_spare 19 = .ok (.getfield 20, 3) := by decide +kernel
theorem dX6_spare_22 : decode cX6_spare 22 = .ok (.iload_n 1, 1) := by decide +kernel
theorem dX6_spare_23 : decode cX6_spare 23 = .ok (.iaload, 1) := by decide +kernel
theorem dX6_spare_24 : decode cX6_spare 24 = .ok (.isub, 1) := by decide +kernel
theorem dX6_spare_25 : decode cX6_spare 25 = .ok (.istore_n 2, 1) := by decide +kernel
theorem dX6_spare_26 : decode cX6_spare 26 = .ok (.iload_n 2, 1) := by decide +kernel
theorem dX6_spare_27 : decode cX6_spare 27 = .ok (.aload_n 0, 1) := by decide +kernel
theorem dX6_spare_28 : decode cX6_spare 28 = .ok (.getfield 38, 3) := by decide +kernel
theorem dX6_spare_31 : decode cX6_spare 31 = .ok (.iconst 4, 1) := by decide +kernel
theorem dX6_spare_32 : decode cX6_spare 32 = .ok (.iload_n 1, 1) := by decide +kernel
theorem dX6_spare_33 : decode cX6_spare 33 = .ok (.iadd, 1) := by decide +kernel
theorem dX6_spare_34 : decode cX6_spare 34 = .ok (.iaload, 1) := by decide +kernel
theorem dX6_spare_35 : decode cX6_spare 35 = .ok (.if_icmp .ge 7, 3) := by decide +kernel
theorem dX6_spare_38 : decode cX6_spare 38 = .ok (.iload_n 2, 1) := by decide +kernel
theorem dX6_spare_39 : decode cX6_spare 39 = .ok (.goto 11, 3) := by decide +kernel
theorem dX6_spare_42 : decode cX6_spare 42 = .ok (.aload_n 0, 1) := by decide +kernel
theorem dX6_spare_43 : decode cX6_spare 43 = .ok (.getfield 38, 3) := by decide +kernel
theorem dX6_spare_46 : decode cX6_spare 46 = .ok (.iconst 4, 1) := by decide +kernel
theorem dX6_spare_47 : decode cX6_spare 47 = .ok (.iload_n 1, 1) := by decide +kernel
theorem dX6_spare_48 : decode cX6_spare 48 = .ok (.iadd, 1) := by decide +kernel
theorem dX6_spare_49 : decode cX6_spare 49 = .ok (.iaload, 1) := by decide +kernel
theorem dX6_spare_50 : decode cX6_spare 50 = .ok (.istore_n 3, 1) := by decide +kernel
theorem dX6_spare_51 : decode cX6_spare 51 = .ok (.aload_n 0, 1) := by decide +kernel
theorem dX6_spare_52 : decode cX6_spare 52 = .ok (.getfield 23, 3) := by decide +kernel
theorem dX6_spare_55 : decode cX6_spare 55 = .ok (.iload_n 1, 1) := by decide +kernel
theorem dX6_spare_56 : decode cX6_spare 56 = .ok (.iaload, 1) := by decide +kernel
theorem dX6_spare_57 : decode cX6_spare 57 = .ok (.iconst 1, 1) := by decide +kernel
theorem dX6_spare_58 : decode cX6_spare 58 = .ok (.if_icmp .eq 7, 3) := by decide +kernel
theorem dX6_spare_61 : decode cX6_spare 61 = .ok (.iload_n 3, 1) := by decide +kernel
theorem dX6_spare_62 : decode cX6_spare 62 = .ok (.ifCond .ge 7, 3) := by decide +kernel
theorem dX6_spare_65 : decode cX6_spare 65 = .ok (.iconst 0, 1) := by decide +kernel
theorem dX6_spare_66 : decode cX6_spare 66 = .ok (.goto 4, 3) := by decide +kernel
theorem dX6_spare_69 : decode cX6_spare 69 = .ok (.iload_n 3, 1) := by decide +kernel
theorem dX6_spare_70 : decode cX6_spare 70 = .ok (.ireturn, 1) := by decide +kernel
theorem dX6_village_0 : decode cX6_village 0 = .ok (.aload_n 0, 1) := by decide +kernel
theorem dX6_village_1 : decode cX6_village 1 = .ok (.iload_n 1, 1) := by decide +kernel
theorem dX6_village_2 : decode cX6_village 2 = .ok (.invokevirtual 107, 3) := by decide +kernel
theorem dX6_village_5 : decode cX6_village 5 = .ok (.ifCond .ne 5, 3) := by decide +kernel
theorem dX6_village_8 : decode cX6_village 8 = .ok (.iconst (-1), 1) := by decide +kernel
theorem dX6_village_9 : decode cX6_village 9 = .ok (.ireturn, 1) := by decide +kernel
theorem dX6_village_10 : decode cX6_village 10 = .ok (.iload_n 2, 1) := by decide +kernel
theorem dX6_village_11 : decode cX6_village 11 = .ok (.tableswitch 100 0 6 #[41, 50, 60, 67, 74, 84, 94], 41) := by decide +kernel
theorem dX6_village_52 : decode cX6_village 52 = .ok (.aload_n 0, 1) := by decide +kernel
theorem dX6_village_53 : decode cX6_village 53 = .ok (.getfield 38, 3) := by decide +kernel
theorem dX6_village_56 : decode cX6_village 56 = .ok (.iconst 4, 1) := by decide +kernel
theorem dX6_village_57 : decode cX6_village 57 = .ok (.iload_n 1, 1) := by decide +kernel
theorem dX6_village_58 : decode cX6_village 58 = .ok (.iadd, 1) := by decide +kernel
theorem dX6_village_59 : decode cX6_village 59 = .ok (.iaload, 1) := by decide +kernel
theorem dX6_village_60 : decode cX6_village 60 = .ok (.ireturn, 1) := by decide +kernel
theorem dX6_village_61 : decode cX6_village 61 = .ok (.aload_n 0, 1) := by decide +kernel
theorem dX6_village_62 : decode cX6_village 62 = .ok (.getfield 38, 3) := by decide +kernel
theorem dX6_village_65 : decode cX6_village 65 = .ok (.bipush 10, 2) := by decide +kernel
theorem dX6_village_67 : decode cX6_village 67 = .ok (.iload_n 1, 1) := by decide +kernel
theorem dX6_village_68 : decode cX6_village 68 = .ok (.iadd, 1) := by decide +kernel
theorem dX6_village_69 : decode cX6_village 69 = .ok (.iaload, 1) := by decide +kernel
theorem dX6_village_70 : decode cX6_village 70 = .ok (.ireturn, 1) := by decide +kernel
theorem dX6_village_71 : decode cX6_village 71 = .ok (.aload_n 0, 1) := by decide +kernel
theorem dX6_village_72 : decode cX6_village 72 = .ok (.getfield 20, 3) := by decide +kernel
theorem dX6_village_75 : decode cX6_village 75 = .ok (.iload_n 1, 1) := by decide +kernel
theorem dX6_village_76 : decode cX6_village 76 = .ok (.iaload, 1) := by decide +kernel
theorem dX6_village_77 : decode cX6_village 77 = .ok (.ireturn, 1) := by decide +kernel
theorem dX6_village_78 : decode cX6_village 78 = .ok (.aload_n 0, 1) := by decide +kernel
theorem dX6_village_79 : decode cX6_village 79 = .ok (.getfield 23, 3) := by decide +kernel
theorem dX6_village_82 : decode cX6_village 82 = .ok (.iload_n 1, 1) := by decide +kernel
theorem dX6_village_83 : decode cX6_village 83 = .ok (.iaload, 1) := by decide +kernel
theorem dX6_village_84 : decode cX6_village 84 = .ok (.ireturn, 1) := by decide +kernel
theorem dX6_village_85 : decode cX6_village 85 = .ok (.aload_n 0, 1) := by decide +kernel
theorem dX6_village_86 : decode cX6_village 86 = .ok (.getfield 38, 3) := by decide +kernel
theorem dX6_village_89 : decode cX6_village 89 = .ok (.bipush 16, 2) := by decide +kernel
theorem dX6_village_91 : decode cX6_village 91 = .ok (.iload_n 1, 1) := by decide +kernel
theorem dX6_village_92 : decode cX6_village 92 = .ok (.iadd, 1) := by decide +kernel
theorem dX6_village_93 : decode cX6_village 93 = .ok (.iaload, 1) := by decide +kernel
theorem dX6_village_94 : decode cX6_village 94 = .ok (.ireturn, 1) := by decide +kernel
theorem dX6_village_95 : decode cX6_village 95 = .ok (.aload_n 0, 1) := by decide +kernel
theorem dX6_village_96 : decode cX6_village 96 = .ok (.getfield 38, 3) := by decide +kernel
theorem dX6_village_99 : decode cX6_village 99 = .ok (.bipush 22, 2) := by decide +kernel
theorem dX6_village_101 : decode cX6_village 101 = .ok (.iload_n 1, 1) := by decide +kernel
theorem dX6_village_102 : decode cX6_village 102 = .ok (.iadd, 1) := by decide +kernel
theorem dX6_village_103 : decode cX6_village 103 = .ok (.iaload, 1) := by decide +kernel
theorem dX6_village_104 : decode cX6_village 104 = .ok (.ireturn, 1) := by decide +kernel
theorem dX6_village_105 : decode cX6_village 105 = .ok (.aload_n 0, 1) := by decide +kernel
theorem dX6_village_106 : decode cX6_village 106 = .ok (.iload_n 1, 1) := by decide +kernel
theorem dX6_village_107 : decode cX6_village 107 = .ok (.invokevirtual 110, 3) := by decide +kernel
theorem dX6_village_110 : decode cX6_village 110 = .ok (.ireturn, 1) := by decide +kernel
theorem dX6_village_111 : decode cX6_village 111 = .ok (.iconst (-1), 1) := by decide +kernel
theorem dX6_village_112 : decode cX6_village 112 = .ok (.ireturn, 1) := by decide +kernel
theorem dX6_far_0 : decode cX6_far 0 = .ok (.aload_n 0, 1) := by decide +kernel
theorem dX6_far_1 : decode cX6_far 1 = .ok (.iload_n 1, 1) := by decide +kernel
theorem dX6_far_2 : decode cX6_far 2 = .ok (.invokevirtual 107, 3) := by decide +kernel
theorem dX6_far_5 : decode cX6_far 5 = .ok (.ifCond .eq 11, 3) := by decide +kernel
theorem dX6_far_8 : decode cX6_far 8 = .ok (.aload_n 0, 1) := by decide +kernel
theorem dX6_far_9 : decode cX6_far 9 = .ok (.iload_n 2, 1) := by decide +kernel
theorem dX6_far_10 : decode cX6_far 10 = .ok (.invokevirtual 107, 3) := by decide +kernel
theorem dX6_far_13 : decode cX6_far 13 = .ok (.ifCond .ne 5, 3) := by decide +kernel
theorem dX6_far_16 : decode cX6_far 16 = .ok (.iconst (-1), 1) := by decide +kernel
theorem dX6_far_17 : decode cX6_far 17 = .ok (.ireturn, 1) := by decide +kernel
theorem dX6_far_18 : decode cX6_far 18 = .ok (.aload_n 0, 1) := by decide +kernel
theorem dX6_far_19 : decode cX6_far 19 = .ok (.getfield 29, 3) := by decide +kernel
theorem dX6_far_22 : decode cX6_far 22 = .ok (.bipush 6, 2) := by decide +kernel
theorem dX6_far_24 : decode cX6_far 24 = .ok (.iload_n 1, 1) := by decide +kernel
theorem dX6_far_25 : decode cX6_far 25 = .ok (.imul, 1) := by decide +kernel
theorem dX6_far_26 : decode cX6_far 26 = .ok (.iload_n 2, 1) := by decide +kernel
theorem dX6_far_27 : decode cX6_far 27 = .ok (.iadd, 1) := by decide +kernel
theorem dX6_far_28 : decode cX6_far 28 = .ok (.iaload, 1) := by decide +kernel
theorem dX6_far_29 : decode cX6_far 29 = .ok (.sipush 1000, 3) := by decide +kernel
theorem dX6_far_32 : decode cX6_far 32 = .ok (.if_icmp .lt 8, 3) := by decide +kernel
theorem dX6_far_35 : decode cX6_far 35 = .ok (.bipush (-9), 2) := by decide +kernel
theorem dX6_far_37 : decode cX6_far 37 = .ok (.goto 14, 3) := by decide +kernel
theorem dX6_far_40 : decode cX6_far 40 = .ok (.aload_n 0, 1) := by decide +kernel
theorem dX6_far_41 : decode cX6_far 41 = .ok (.getfield 29, 3) := by decide +kernel
theorem dX6_far_44 : decode cX6_far 44 = .ok (.bipush 6, 2) := by decide +kernel
theorem dX6_far_46 : decode cX6_far 46 = .ok (.iload_n 1, 1) := by decide +kernel
theorem dX6_far_47 : decode cX6_far 47 = .ok (.imul, 1) := by decide +kernel
theorem dX6_far_48 : decode cX6_far 48 = .ok (.iload_n 2, 1) := by decide +kernel
theorem dX6_far_49 : decode cX6_far 49 = .ok (.iadd, 1) := by decide +kernel
theorem dX6_far_50 : decode cX6_far 50 = .ok (.iaload, 1) := by decide +kernel
theorem dX6_far_51 : decode cX6_far 51 = .ok (.ireturn, 1) := by decide +kernel
theorem dX6_owes_0 : decode cX6_owes 0 = .ok (.aload_n 0, 1) := by decide +kernel
theorem dX6_owes_1 : decode cX6_owes 1 = .ok (.iload_n 1, 1) := by decide +kernel
theorem dX6_owes_2 : decode cX6_owes 2 = .ok (.invokevirtual 107, 3) := by decide +kernel
theorem dX6_owes_5 : decode cX6_owes 5 = .ok (.ifCond .eq 30, 3) := by decide +kernel
theorem dX6_owes_8 : decode cX6_owes 8 = .ok (.aload_n 0, 1) := by decide +kernel
theorem dX6_owes_9 : decode cX6_owes 9 = .ok (.iload_n 2, 1) := by decide +kernel
theorem dX6_owes_10 : decode cX6_owes 10 = .ok (.invokevirtual 107, 3) := by decide +kernel
theorem dX6_owes_13 : decode cX6_owes 13 = .ok (.ifCond .eq 22, 3) := by decide +kernel
theorem dX6_owes_16 : decode cX6_owes 16 = .ok (.iload_n 1, 1) := by decide +kernel
theorem dX6_owes_17 : decode cX6_owes 17 = .ok (.iload_n 2, 1) := by decide +kernel
theorem dX6_owes_18 : decode cX6_owes 18 = .ok (.if_icmp .eq 17, 3) := by decide +kernel
theorem dX6_owes_21 : decode cX6_owes 21 = .ok (.aload_n 0, 1) := by decide +kernel
theorem dX6_owes_22 : decode cX6_owes 22 = .ok (.getfield 32, 3) := by decide +kernel
theorem dX6_owes_25 : decode cX6_owes 25 = .ok (.bipush 6, 2) := by decide +kernel
theorem dX6_owes_27 : decode cX6_owes 27 = .ok (.iload_n 1, 1) := by decide +kernel
theorem dX6_owes_28 : decode cX6_owes 28 = .ok (.imul, 1) := by decide +kernel
theorem dX6_owes_29 : decode cX6_owes 29 = .ok (.iload_n 2, 1) := by decide +kernel
theorem dX6_owes_30 : decode cX6_owes 30 = .ok (.iadd, 1) := by decide +kernel
theorem dX6_owes_31 : decode cX6_owes 31 = .ok (.iaload, 1) := by decide +kernel
theorem dX6_owes_32 : decode cX6_owes 32 = .ok (.goto 4, 3) := by decide +kernel
theorem dX6_owes_35 : decode cX6_owes 35 = .ok (.iconst (-1), 1) := by decide +kernel
theorem dX6_owes_36 : decode cX6_owes 36 = .ok (.ireturn, 1) := by decide +kernel
theorem dX6_know_0 : decode cX6_know 0 = .ok (.aload_n 0, 1) := by decide +kernel
theorem dX6_know_1 : decode cX6_know 1 = .ok (.getfield 38, 3) := by decide +kernel
theorem dX6_know_4 : decode cX6_know 4 = .ok (.bipush 28, 2) := by decide +kernel
theorem dX6_know_6 : decode cX6_know 6 = .ok (.iaload, 1) := by decide +kernel
theorem dX6_know_7 : decode cX6_know 7 = .ok (.bipush 10, 2) := by decide +kernel
theorem dX6_know_9 : decode cX6_know 9 = .ok (.if_icmp .ne 47, 3) := by decide +kernel
theorem dX6_know_12 : decode cX6_know 12 = .ok (.iconst 0, 1) := by decide +kernel
theorem dX6_know_13 : decode cX6_know 13 = .ok (.istore_n 1, 1) := by decide +kernel
theorem dX6_know_14 : decode cX6_know 14 = .ok (.iload_n 1, 1) := by decide +kernel
theorem dX6_know_15 : decode cX6_know 15 = .ok (.sipush 252, 3) := by decide +kernel
theorem dX6_know_18 : decode cX6_know 18 = .ok (.if_icmp .ge 27, 3) := by decide +kernel
theorem dX6_know_21 : decode cX6_know 21 = .ok (.aload_n 0, 1) := by decide +kernel
theorem dX6_know_22 : decode cX6_know 22 = .ok (.getfield 38, 3) := by decide +kernel
theorem dX6_know_25 : decode cX6_know 25 = .ok (.bipush 29, 2) := by decide +kernel
theorem dX6_know_27 : decode cX6_know 27 = .ok (.iload_n 1, 1) := by decide +kernel
theorem dX6_know_28 : decode cX6_know 28 = .ok (.iadd, 1) := by decide +kernel
theorem dX6_know_29 : decode cX6_know 29 = .ok (.aload_n 0, 1) := by decide +kernel
theorem dX6_know_30 : decode cX6_know 30 = .ok (.getfield 38, 3) := by decide +kernel
theorem dX6_know_33 : decode cX6_know 33 = .ok (.bipush 57, 2) := by decide +kernel
theorem dX6_know_35 : decode cX6_know 35 = .ok (.iload_n 1, 1) := by decide +kernel
theorem dX6_know_36 : decode cX6_know 36 = .ok (.iadd, 1) := by decide +kernel
theorem dX6_know_37 : decode cX6_know 37 = .ok (.iaload, 1) := by decide +kernel
theorem dX6_know_38 : decode cX6_know 38 = .ok (.iastore, 1) := by decide +kernel
theorem dX6_know_39 : decode cX6_know 39 = .ok (.iinc 1 1, 3) := by decide +kernel
theorem dX6_know_42 : decode cX6_know 42 = .ok (.goto (-28), 3) := by decide +kernel
theorem dX6_know_45 : decode cX6_know 45 = .ok (.aload_n 0, 1) := by decide +kernel
theorem dX6_know_46 : decode cX6_know 46 = .ok (.getfield 38, 3) := by decide +kernel
theorem dX6_know_49 : decode cX6_know 49 = .ok (.bipush 28, 2) := by decide +kernel
theorem dX6_know_51 : decode cX6_know 51 = .ok (.dup2, 1) := by decide +kernel
theorem dX6_know_52 : decode cX6_know 52 = .ok (.iaload, 1) := by decide +kernel
theorem dX6_know_53 : decode cX6_know 53 = .ok (.iconst 1, 1) := by decide +kernel
theorem dX6_know_54 : decode cX6_know 54 = .ok (.isub, 1) := by decide +kernel
theorem dX6_know_55 : decode cX6_know 55 = .ok (.iastore, 1) := by decide +kernel
theorem dX6_know_56 : decode cX6_know 56 = .ok (.iconst 0, 1) := by decide +kernel
theorem dX6_know_57 : decode cX6_know 57 = .ok (.istore_n 1, 1) := by decide +kernel
theorem dX6_know_58 : decode cX6_know 58 = .ok (.iload_n 1, 1) := by decide +kernel
theorem dX6_know_59 : decode cX6_know 59 = .ok (.bipush 28, 2) := by decide +kernel
theorem dX6_know_61 : decode cX6_know 61 = .ok (.if_icmp .ge 35, 3) := by decide +kernel
theorem dX6_know_64 : decode cX6_know 64 = .ok (.aload_n 0, 1) := by decide +kernel
theorem dX6_know_65 : decode cX6_know 65 = .ok (.getfield 38, 3) := by decide +kernel
theorem dX6_know_68 : decode cX6_know 68 = .ok (.bipush 29, 2) := by decide +kernel
theorem dX6_know_70 : decode cX6_know 70 = .ok (.bipush 28, 2) := by decide +kernel
theorem dX6_know_72 : decode cX6_know 72 = .ok (.aload_n 0, 1) := by decide +kernel
theorem dX6_know_73 : decode cX6_know 73 = .ok (.getfield 38, 3) := by decide +kernel
theorem dX6_know_76 : decode cX6_know 76 = .ok (.bipush 28, 2) := by decide +kernel
theorem dX6_know_78 : decode cX6_know 78 = .ok (.iaload, 1) := by decide +kernel
theorem dX6_know_79 : decode cX6_know 79 = .ok (.imul, 1) := by decide +kernel
theorem dX6_know_80 : decode cX6_know 80 = .ok (.iadd, 1) := by decide +kernel
theorem dX6_know_81 : decode cX6_know 81 = .ok (.iload_n 1, 1) := by decide +kernel
theorem dX6_know_82 : decode cX6_know 82 = .ok (.iadd, 1) := by decide +kernel
theorem dX6_know_83 : decode cX6_know 83 = .ok (.aload_n 0, 1) := by decide +kernel
theorem dX6_know_84 : decode cX6_know 84 = .ok (.getfield 38, 3) := by decide +kernel
theorem dX6_know_87 : decode cX6_know 87 = .ok (.iload_n 1, 1) := by decide +kernel
theorem dX6_know_88 : decode cX6_know 88 = .ok (.iaload, 1) := by decide +kernel
theorem dX6_know_89 : decode cX6_know 89 = .ok (.iastore, 1) := by decide +kernel
theorem dX6_know_90 : decode cX6_know 90 = .ok (.iinc 1 1, 3) := by decide +kernel
theorem dX6_know_93 : decode cX6_know 93 = .ok (.goto (-35), 3) := by decide +kernel
theorem dX6_know_96 : decode cX6_know 96 = .ok (.aload_n 0, 1) := by decide +kernel
theorem dX6_know_97 : decode cX6_know 97 = .ok (.getfield 38, 3) := by decide +kernel
theorem dX6_know_100 : decode cX6_know 100 = .ok (.bipush 28, 2) := by decide +kernel
theorem dX6_know_102 : decode cX6_know 102 = .ok (.dup2, 1) := by decide +kernel
theorem dX6_know_103 : decode cX6_know 103 = .ok (.iaload, 1) := by decide +kernel
theorem dX6_know_104 : decode cX6_know 104 = .ok (.iconst 1, 1) := by decide +kernel
theorem dX6_know_105 : decode cX6_know 105 = .ok (.iadd, 1) := by decide +kernel
theorem dX6_know_106 : decode cX6_know 106 = .ok (.iastore, 1) := by decide +kernel
theorem dX6_know_107 : decode cX6_know 107 = .ok (.return_, 1) := by decide +kernel
theorem dX6_pass_0 : decode cX6_pass 0 = .ok (.iconst 0, 1) := by decide +kernel
theorem dX6_pass_1 : decode cX6_pass 1 = .ok (.istore_n 2, 1) := by decide +kernel
theorem dX6_pass_2 : decode cX6_pass 2 = .ok (.iload_n 2, 1) := by decide +kernel
theorem dX6_pass_3 : decode cX6_pass 3 = .ok (.iload_n 1, 1) := by decide +kernel
theorem dX6_pass_4 : decode cX6_pass 4 = .ok (.if_icmp .ge 107, 3) := by decide +kernel
theorem dX6_pass_7 : decode cX6_pass 7 = .ok (.aload_n 0, 1) := by decide +kernel
theorem dX6_pass_8 : decode cX6_pass 8 = .ok (.getfield 38, 3) := by decide +kernel
theorem dX6_pass_11 : decode cX6_pass 11 = .ok (.iconst 2, 1) := by decide +kernel
theorem dX6_pass_12 : decode cX6_pass 12 = .ok (.iaload, 1) := by decide +kernel
theorem dX6_pass_13 : decode cX6_pass 13 = .ok (.aload_n 0, 1) := by decide +kernel
theorem dX6_pass_14 : decode cX6_pass 14 = .ok (.getfield 35, 3) := by decide +kernel
theorem dX6_pass_17 : decode cX6_pass 17 = .ok (.iconst 0, 1) := by decide +kernel
theorem dX6_pass_18 : decode cX6_pass 18 = .ok (.iaload, 1) := by decide +kernel
theorem dX6_pass_19 : decode cX6_pass 19 = .ok (.if_icmp .ge 12, 3) := by decide +kernel
theorem dX6_pass_22 : decode cX6_pass 22 = .ok (.aload_n 0, 1) := by decide +kernel
theorem dX6_pass_23 : decode cX6_pass 23 = .ok (.getfield 38, 3) := by decide +kernel
theorem dX6_pass_26 : decode cX6_pass 26 = .ok (.iconst 2, 1) := by decide +kernel
theorem dX6_pass_27 : decode cX6_pass 27 = .ok (.iaload, 1) := by decide +kernel
theorem dX6_pass_28 : decode cX6_pass 28 = .ok (.goto 9, 3) := by decide +kernel
theorem dX6_pass_31 : decode cX6_pass 31 = .ok (.aload_n 0, 1) := by decide +kernel
theorem dX6_pass_32 : decode cX6_pass 32 = .ok (.getfield 35, 3) := by decide +kernel
theorem dX6_pass_35 : decode cX6_pass 35 = .ok (.iconst 0, 1) := by decide +kernel
theorem dX6_pass_36 : decode cX6_pass 36 = .ok (.iaload, 1) := by decide +kernel
theorem dX6_pass_37 : decode cX6_pass 37 = .ok (.istore_n 3, 1) := by decide +kernel
theorem dX6_pass_38 : decode cX6_pass 38 = .ok (.aload_n 0, 1) := by decide +kernel
theorem dX6_pass_39 : decode cX6_pass 39 = .ok (.getfield 38, 3) := by decide +kernel
theorem dX6_pass_42 : decode cX6_pass 42 = .ok (.iconst 2, 1) := by decide +kernel
theorem dX6_pass_43 : decode cX6_pass 43 = .ok (.dup2, 1) := by decide +kernel
theorem dX6_pass_44 : decode cX6_pass 44 = .ok (.iaload, 1) := by decide +kernel
theorem dX6_pass_45 : decode cX6_pass 45 = .ok (.iload_n 3, 1) := by decide +kernel
theorem dX6_pass_46 : decode cX6_pass 46 = .ok (.isub, 1) := by decide +kernel
theorem dX6_pass_47 : decode cX6_pass 47 = .ok (.iastore, 1) := by decide +kernel
theorem dX6_pass_48 : decode cX6_pass 48 = .ok (.aload_n 0, 1) := by decide +kernel
theorem dX6_pass_49 : decode cX6_pass 49 = .ok (.getfield 38, 3) := by decide +kernel
theorem dX6_pass_52 : decode cX6_pass 52 = .ok (.iconst 3, 1) := by decide +kernel
theorem dX6_pass_53 : decode cX6_pass 53 = .ok (.dup2, 1) := by decide +kernel
theorem dX6_pass_54 : decode cX6_pass 54 = .ok (.iaload, 1) := by decide +kernel
theorem dX6_pass_55 : decode cX6_pass 55 = .ok (.aload_n 0, 1) := by decide +kernel
theorem dX6_pass_56 : decode cX6_pass 56 = .ok (.getfield 35, 3) := by decide +kernel
theorem dX6_pass_59 : decode cX6_pass 59 = .ok (.iconst 0, 1) := by decide +kernel
theorem dX6_pass_60 : decode cX6_pass 60 = .ok (.iaload, 1) := by decide +kernel
theorem dX6_pass_61 : decode cX6_pass 61 = .ok (.iload_n 3, 1) := by decide +kernel
theorem dX6_pass_62 : decode cX6_pass 62 = .ok (.isub, 1) := by decide +kernel
theorem dX6_pass_63 : decode cX6_pass 63 = .ok (.iadd, 1) := by decide +kernel
theorem dX6_pass_64 : decode cX6_pass 64 = .ok (.iastore, 1) := by decide +kernel
theorem dX6_pass_65 : decode cX6_pass 65 = .ok (.aload_n 0, 1) := by decide +kernel
theorem dX6_pass_66 : decode cX6_pass 66 = .ok (.getfield 38, 3) := by decide +kernel
theorem dX6_pass_69 : decode cX6_pass 69 = .ok (.iconst 3, 1) := by decide +kernel
theorem dX6_pass_70 : decode cX6_pass 70 = .ok (.aload_n 0, 1) := by decide +kernel
theorem dX6_pass_71 : decode cX6_pass 71 = .ok (.getfield 38, 3) := by decide +kernel
theorem dX6_pass_74 : decode cX6_pass 74 = .ok (.iconst 3, 1) := by decide +kernel
theorem dX6_pass_75 : decode cX6_pass 75 = .ok (.iaload, 1) := by decide +kernel
theorem dX6_pass_76 : decode cX6_pass 76 = .ok (.sipush 9999, 3) := by decide +kernel
theorem dX6_pass_79 : decode cX6_pass 79 = .ok (.if_icmp .le 9, 3) := by decide +kernel
theorem dX6_pass_82 : decode cX6_pass 82 = .ok (.sipush 9999, 3) := by decide +kernel
theorem dX6_pass_85 : decode cX6_pass 85 = .ok (.goto 9, 3) := by decide +kernel
theorem dX6_pass_88 : decode cX6_pass 88 = .ok (.aload_n 0, 1) := by decide +kernel
theorem dX6_pass_89 : decode cX6_pass 89 = .ok (.getfield 38, 3) := by decide +kernel
theorem dX6_pass_92 : decode cX6_pass 92 = .ok (.iconst 3, 1) := by decide +kernel
theorem dX6_pass_93 : decode cX6_pass 93 = .ok (.iaload, 1) := by decide +kernel
theorem dX6_pass_94 : decode cX6_pass 94 = .ok (.iastore, 1) := by decide +kernel
theorem dX6_pass_95 : decode cX6_pass 95 = .ok (.aload_n 0, 1) := by decide +kernel
theorem dX6_pass_96 : decode cX6_pass 96 = .ok (.getfield 38, 3) := by decide +kernel
theorem dX6_pass_99 : decode cX6_pass 99 = .ok (.iconst 1, 1) := by decide +kernel
theorem dX6_pass_100 : decode cX6_pass 100 = .ok (.dup2, 1) := by decide +kernel
theorem dX6_pass_101 : decode cX6_pass 101 = .ok (.iaload, 1) := by decide +kernel
theorem dX6_pass_102 : decode cX6_pass 102 = .ok (.iconst 1, 1) := by decide +kernel
theorem dX6_pass_103 : decode cX6_pass 103 = .ok (.iadd, 1) := by decide +kernel
theorem dX6_pass_104 : decode cX6_pass 104 = .ok (.iastore, 1) := by decide +kernel
theorem dX6_pass_105 : decode cX6_pass 105 = .ok (.iinc 2 1, 3) := by decide +kernel
theorem dX6_pass_108 : decode cX6_pass 108 = .ok (.goto (-106), 3) := by decide +kernel
theorem dX6_pass_111 : decode cX6_pass 111 = .ok (.return_, 1) := by decide +kernel
theorem dX6_goes_0 : decode cX6_goes 0 = .ok (.aload_n 0, 1) := by decide +kernel
theorem dX6_goes_1 : decode cX6_goes 1 = .ok (.iload_n 1, 1) := by decide +kernel
theorem dX6_goes_2 : decode cX6_goes 2 = .ok (.invokevirtual 107, 3) := by decide +kernel
theorem dX6_goes_5 : decode cX6_goes 5 = .ok (.ifCond .ne 5, 3) := by decide +kernel
theorem dX6_goes_8 : decode cX6_goes 8 = .ok (.iconst (-1), 1) := by decide +kernel
theorem dX6_goes_9 : decode cX6_goes 9 = .ok (.ireturn, 1) := by decide +kernel
theorem dX6_goes_10 : decode cX6_goes 10 = .ok (.aload_n 0, 1) := by decide +kernel
theorem dX6_goes_11 : decode cX6_goes 11 = .ok (.getfield 29, 3) := by decide +kernel
theorem dX6_goes_14 : decode cX6_goes 14 = .ok (.bipush 6, 2) := by decide +kernel
theorem dX6_goes_16 : decode cX6_goes 16 = .ok (.aload_n 0, 1) := by decide +kernel
theorem dX6_goes_17 : decode cX6_goes 17 = .ok (.getfield 38, 3) := by decide +kernel
theorem dX6_goes_20 : decode cX6_goes 20 = .ok (.iconst 0, 1) := by decide +kernel
theorem dX6_goes_21 : decode cX6_goes 21 = .ok (.iaload, 1) := by decide +kernel
theorem dX6_goes_22 : decode cX6_goes 22 = .ok (.imul, 1) := by decide +kernel
theorem dX6_goes_23 : decode cX6_goes 23 = .ok (.iload_n 1, 1) := by decide +kernel
theorem dX6_goes_24 : decode cX6_goes 24 = .ok (.iadd, 1) := by decide +kernel
theorem dX6_goes_25 : decode cX6_goes 25 = .ok (.iaload, 1) := by decide +kernel
theorem dX6_goes_26 : decode cX6_goes 26 = .ok (.istore_n 2, 1) := by decide +kernel
theorem dX6_goes_27 : decode cX6_goes 27 = .ok (.iload_n 1, 1) := by decide +kernel
theorem dX6_goes_28 : decode cX6_goes 28 = .ok (.aload_n 0, 1) := by decide +kernel
theorem dX6_goes_29 : decode cX6_goes 29 = .ok (.getfield 38, 3) := by decide +kernel
theorem dX6_goes_32 : decode cX6_goes 32 = .ok (.iconst 0, 1) := by decide +kernel
theorem dX6_goes_33 : decode cX6_goes 33 = .ok (.iaload, 1) := by decide +kernel
theorem dX6_goes_34 : decode cX6_goes 34 = .ok (.if_icmp .eq 24, 3) := by decide +kernel
theorem dX6_goes_37 : decode cX6_goes 37 = .ok (.iload_n 2, 1) := by decide +kernel
theorem dX6_goes_38 : decode cX6_goes 38 = .ok (.sipush 1000, 3) := by decide +kernel
theorem dX6_goes_41 : decode cX6_goes 41 = .ok (.if_icmp .ge 17, 3) := by decide +kernel
theorem dX6_goes_44 : decode cX6_goes 44 = .ok (.aload_n 0, 1) := by decide +kernel
theorem dX6_goes_45 : decode cX6_goes 45 = .ok (.getfield 38, 3) := by decide +kernel
theorem dX6_goes_48 : decode cX6_goes 48 = .ok (.iconst 1, 1) := by decide +kernel
theorem dX6_goes_49 : decode cX6_goes 49 = .ok (.iaload, 1) := by decide +kernel
theorem dX6_goes_50 : decode cX6_goes 50 = .ok (.iload_n 2, 1) := by decide +kernel
theorem dX6_goes_51 : decode cX6_goes 51 = .ok (.iadd, 1) := by decide +kernel
theorem dX6_goes_52 : decode cX6_goes 52 = .ok (.sipush 999, 3) := by decide +kernel
theorem dX6_goes_55 : decode cX6_goes 55 = .ok (.if_icmp .le 6, 3) := by decide +kernel
theorem dX6_goes_58 : decode cX6_goes 58 = .ok (.bipush (-2), 2) := by decide +kernel
theorem dX6_goes_60 : decode cX6_goes 60 = .ok (.ireturn, 1) := by decide +kernel
theorem dX6_goes_61 : decode cX6_goes 61 = .ok (.aload_n 0, 1) := by decide +kernel
theorem dX6_goes_62 : decode cX6_goes 62 = .ok (.invokevirtual 113, 3) := by decide +kernel
theorem dX6_goes_65 : decode cX6_goes 65 = .ok (.aload_n 0, 1) := by decide +kernel
theorem dX6_goes_66 : decode cX6_goes 66 = .ok (.iload_n 2, 1) := by decide +kernel
theorem dX6_goes_67 : decode cX6_goes 67 = .ok (.invokevirtual 116, 3) := by decide +kernel
theorem dX6_goes_70 : decode cX6_goes 70 = .ok (.aload_n 0, 1) := by decide +kernel
theorem dX6_goes_71 : decode cX6_goes 71 = .ok (.getfield 38, 3) := by decide +kernel
theorem dX6_goes_74 : decode cX6_goes 74 = .ok (.iconst 0, 1) := by decide +kernel
theorem dX6_goes_75 : decode cX6_goes 75 = .ok (.iload_n 1, 1) := by decide +kernel
theorem dX6_goes_76 : decode cX6_goes 76 = .ok (.iastore, 1) := by decide +kernel
theorem dX6_goes_77 : decode cX6_goes 77 = .ok (.aload_n 0, 1) := by decide +kernel
theorem dX6_goes_78 : decode cX6_goes 78 = .ok (.getfield 38, 3) := by decide +kernel
theorem dX6_goes_81 : decode cX6_goes 81 = .ok (.iconst 1, 1) := by decide +kernel
theorem dX6_goes_82 : decode cX6_goes 82 = .ok (.iaload, 1) := by decide +kernel
theorem dX6_goes_83 : decode cX6_goes 83 = .ok (.ireturn, 1) := by decide +kernel
theorem dX6_stays_0 : decode cX6_stays 0 = .ok (.aload_n 0, 1) := by decide +kernel
theorem dX6_stays_1 : decode cX6_stays 1 = .ok (.getfield 13, 3) := by decide +kernel
theorem dX6_stays_4 : decode cX6_stays 4 = .ok (.iconst 0, 1) := by decide +kernel
theorem dX6_stays_5 : decode cX6_stays 5 = .ok (.iaload, 1) := by decide +kernel
theorem dX6_stays_6 : decode cX6_stays 6 = .ok (.ifCond .eq 15, 3) := by decide +kernel
theorem dX6_stays_9 : decode cX6_stays 9 = .ok (.aload_n 0, 1) := by decide +kernel
theorem dX6_stays_10 : decode cX6_stays 10 = .ok (.getfield 38, 3) := by decide +kernel
theorem dX6_stays_13 : decode cX6_stays 13 = .ok (.iconst 1, 1) := by decide +kernel
theorem dX6_stays_14 : decode cX6_stays 14 = .ok (.iaload, 1) := by decide +kernel
theorem dX6_stays_15 : decode cX6_stays 15 = .ok (.sipush 999, 3) := by decide +kernel
theorem dX6_stays_18 : decode cX6_stays 18 = .ok (.if_icmp .ne 6, 3) := by decide +kernel
theorem dX6_stays_21 : decode cX6_stays 21 = .ok (.bipush (-2), 2) := by decide +kernel
theorem dX6_stays_23 : decode cX6_stays 23 = .ok (.ireturn, 1) := by decide +kernel
theorem dX6_stays_24 : decode cX6_stays 24 = .ok (.aload_n 0, 1) := by decide +kernel
theorem dX6_stays_25 : decode cX6_stays 25 = .ok (.invokevirtual 113, 3) := by decide +kernel
theorem dX6_stays_28 : decode cX6_stays 28 = .ok (.aload_n 0, 1) := by decide +kernel
theorem dX6_stays_29 : decode cX6_stays 29 = .ok (.iconst 1, 1) := by decide +kernel
theorem dX6_stays_30 : decode cX6_stays 30 = .ok (.invokevirtual 116, 3) := by decide +kernel
theorem dX6_stays_33 : decode cX6_stays 33 = .ok (.aload_n 0, 1) := by decide +kernel
theorem dX6_stays_34 : decode cX6_stays 34 = .ok (.getfield 38, 3) := by decide +kernel
theorem dX6_stays_37 : decode cX6_stays 37 = .ok (.iconst 1, 1) := by decide +kernel
theorem dX6_stays_38 : decode cX6_stays 38 = .ok (.iaload, 1) := by decide +kernel
theorem dX6_stays_39 : decode cX6_stays 39 = .ok (.ireturn, 1) := by decide +kernel
theorem dX6_takes_0 : decode cX6_takes 0 = .ok (.iload_n 1, 1) := by decide +kernel
theorem dX6_takes_1 : decode cX6_takes 1 = .ok (.iconst 1, 1) := by decide +kernel
theorem dX6_takes_2 : decode cX6_takes 2 = .ok (.bipush 60, 2) := by decide +kernel
theorem dX6_takes_4 : decode cX6_takes 4 = .ok (.invokestatic 54, 3) := by decide +kernel
theorem dX6_takes_7 : decode cX6_takes 7 = .ok (.ifCond .ne 5, 3) := by decide +kernel
theorem dX6_takes_10 : decode cX6_takes 10 = .ok (.iconst (-1), 1) := by decide +kernel
theorem dX6_takes_11 : decode cX6_takes 11 = .ok (.ireturn, 1) := by decide +kernel
theorem dX6_takes_12 : decode cX6_takes 12 = .ok (.aload_n 0, 1) := by decide +kernel
theorem dX6_takes_13 : decode cX6_takes 13 = .ok (.getfield 13, 3) := by decide +kernel
theorem dX6_takes_16 : decode cX6_takes 16 = .ok (.iconst 0, 1) := by decide +kernel
theorem dX6_takes_17 : decode cX6_takes 17 = .ok (.iaload, 1) := by decide +kernel
theorem dX6_takes_18 : decode cX6_takes 18 = .ok (.ifCond .ne 6, 3) := by decide +kernel
theorem dX6_takes_21 : decode cX6_takes 21 = .ok (.bipush (-2), 2) := by decide +kernel
theorem dX6_takes_23 : decode cX6_takes 23 = .ok (.ireturn, 1) := by decide +kernel
theorem dX6_takes_24 : decode cX6_takes 24 = .ok (.aload_n 0, 1) := by decide +kernel
theorem dX6_takes_25 : decode cX6_takes 25 = .ok (.getfield 38, 3) := by decide +kernel
theorem dX6_takes_28 : decode cX6_takes 28 = .ok (.iconst 0, 1) := by decide +kernel
theorem dX6_takes_29 : decode cX6_takes 29 = .ok (.iaload, 1) := by decide +kernel
theorem dX6_takes_30 : decode cX6_takes 30 = .ok (.istore_n 2, 1) := by decide +kernel
theorem dX6_takes_31 : decode cX6_takes 31 = .ok (.aload_n 0, 1) := by decide +kernel
theorem dX6_takes_32 : decode cX6_takes 32 = .ok (.getfield 35, 3) := by decide +kernel
theorem dX6_takes_35 : decode cX6_takes 35 = .ok (.iconst 1, 1) := by decide +kernel
theorem dX6_takes_36 : decode cX6_takes 36 = .ok (.iaload, 1) := by decide +kernel
theorem dX6_takes_37 : decode cX6_takes 37 = .ok (.iload_n 1, 1) := by decide +kernel
theorem dX6_takes_38 : decode cX6_takes 38 = .ok (.imul, 1) := by decide +kernel
theorem dX6_takes_39 : decode cX6_takes 39 = .ok (.bipush 10, 2) := by decide +kernel
theorem dX6_takes_41 : decode cX6_takes 41 = .ok (.idiv, 1) := by decide +kernel
theorem dX6_takes_42 : decode cX6_takes 42 = .ok (.istore_n 3, 1) := by decide +kernel
theorem dX6_takes_43 : decode cX6_takes 43 = .ok (.aload_n 0, 1) := by decide +kernel
theorem dX6_takes_44 : decode cX6_takes 44 = .ok (.getfield 23, 3) := by decide +kernel
theorem dX6_takes_47 : decode cX6_takes 47 = .ok (.iload_n 2, 1) := by decide +kernel
theorem dX6_takes_48 : decode cX6_takes 48 = .ok (.iaload, 1) := by decide +kernel
theorem dX6_takes_49 : decode cX6_takes 49 = .ok (.iconst 1, 1) := by decide +kernel
theorem dX6_takes_50 : decode cX6_takes 50 = .ok (.if_icmp .eq 46, 3) := by decide +kernel
theorem dX6_takes_53 : decode cX6_takes 53 = .ok (.aload_n 0, 1) := by decide +kernel
theorem dX6_takes_54 : decode cX6_takes 54 = .ok (.getfield 38, 3) := by decide +kernel
theorem dX6_takes_57 : decode cX6_takes 57 = .ok (.iconst 4, 1) := by decide +kernel
theorem dX6_takes_58 : decode cX6_takes 58 = .ok (.iload_n 2, 1) := by decide +kernel
theorem dX6_takes_59 : decode cX6_takes 59 = .ok (.iadd, 1) := by decide +kernel
theorem dX6_takes_60 : decode cX6_takes 60 = .ok (.iaload, 1) := by decide +kernel
theorem dX6_takes_61 : decode cX6_takes 61 = .ok (.iload_n 1, 1) := by decide +kernel
theorem dX6_takes_62 : decode cX6_takes 62 = .ok (.if_icmp .lt 34, 3) := by decide +kernel
theorem dX6_takes_65 : decode cX6_takes 65 = .ok (.aload_n 0, 1) := by decide +kernel
theorem dX6_takes_66 : decode cX6_takes 66 = .ok (.getfield 38, 3) := by decide +kernel
theorem dX6_takes_69 : decode cX6_takes 69 = .ok (.iconst 2, 1) := by decide +kernel
theorem dX6_takes_70 : decode cX6_takes 70 = .ok (.iaload, 1) := by decide +kernel
theorem dX6_takes_71 : decode cX6_takes 71 = .ok (.iload_n 1, 1) := by decide +kernel
theorem dX6_takes_72 : decode cX6_takes 72 = .ok (.iadd, 1) := by decide +kernel
theorem dX6_takes_73 : decode cX6_takes 73 = .ok (.sipush 999, 3) := by decide +kernel
theorem dX6_takes_76 : decode cX6_takes 76 = .ok (.if_icmp .gt 20, 3) := by decide +kernel
theorem dX6_takes_79 : decode cX6_takes 79 = .ok (.aload_n 0, 1) := by decide +kernel
theorem dX6_takes_80 : decode cX6_takes 80 = .ok (.getfield 38, 3) := by decide +kernel
theorem dX6_takes_83 : decode cX6_takes 83 = .ok (.bipush 16, 2) := by decide +kernel
theorem dX6_takes_85 : decode cX6_takes 85 = .ok (.iload_n 2, 1) := by decide +kernel
theorem dX6_takes_86 : decode cX6_takes 86 = .ok (.iadd, 1) := by decide +kernel
theorem dX6_takes_87 : decode cX6_takes 87 = .ok (.iaload, 1) := by decide +kernel
theorem dX6_takes_88 : decode cX6_takes 88 = .ok (.iload_n 3, 1) := by decide +kernel
theorem dX6_takes_89 : decode cX6_takes 89 = .ok (.iadd, 1) := by decide +kernel
theorem dX6_takes_90 : decode cX6_takes 90 = .ok (.sipush 999, 3) := by decide +kernel
theorem dX6_takes_93 : decode cX6_takes 93 = .ok (.if_icmp .le 6, 3) := by decide +kernel
theorem dX6_takes_96 : decode cX6_takes 96 = .ok (.bipush (-2), 2) := by decide +kernel
theorem dX6_takes_98 : decode cX6_takes 98 = .ok (.ireturn, 1) := by decide +kernel
theorem dX6_takes_99 : decode cX6_takes 99 = .ok (.aload_n 0, 1) := by decide +kernel
theorem dX6_takes_100 : decode cX6_takes 100 = .ok (.invokevirtual 113, 3) := by decide +kernel
theorem dX6_takes_103 : decode cX6_takes 103 = .ok (.aload_n 0, 1) := by decide +kernel
theorem dX6_takes_104 : decode cX6_takes 104 = .ok (.getfield 38, 3) := by decide +kernel
theorem dX6_takes_107 : decode cX6_takes 107 = .ok (.iconst 4, 1) := by decide +kernel
theorem dX6_takes_108 : decode cX6_takes 108 = .ok (.iload_n 2, 1) := by decide +kernel
theorem dX6_takes_109 : decode cX6_takes 109 = .ok (.iadd, 1) := by decide +kernel
theorem dX6_takes_110 : decode cX6_takes 110 = .ok (.dup2, 1) := by decide +kernel
theorem dX6_takes_111 : decode cX6_takes 111 = .ok (.iaload, 1) := by decide +kernel
theorem dX6_takes_112 : decode cX6_takes 112 = .ok (.iload_n 1, 1) := by decide +kernel
theorem dX6_takes_113 : decode cX6_takes 113 = .ok (.isub, 1) := by decide +kernel
theorem dX6_takes_114 : decode cX6_takes 114 = .ok (.iastore, 1) := by decide +kernel
theorem dX6_takes_115 : decode cX6_takes 115 = .ok (.aload_n 0, 1) := by decide +kernel
theorem dX6_takes_116 : decode cX6_takes 116 = .ok (.getfield 38, 3) := by decide +kernel
theorem dX6_takes_119 : decode cX6_takes 119 = .ok (.iconst 2, 1) := by decide +kernel
theorem dX6_takes_120 : decode cX6_takes 120 = .ok (.dup2, 1) := by decide +kernel
theorem dX6_takes_121 : decode cX6_takes 121 = .ok (.iaload, 1) := by decide +kernel
theorem dX6_takes_122 : decode cX6_takes 122 = .ok (.iload_n 1, 1) := by decide +kernel
theorem dX6_takes_123 : decode cX6_takes 123 = .ok (.iadd, 1) := by decide +kernel
theorem dX6_takes_124 : decode cX6_takes 124 = .ok (.iastore, 1) := by decide +kernel
theorem dX6_takes_125 : decode cX6_takes 125 = .ok (.aload_n 0, 1) := by decide +kernel
theorem dX6_takes_126 : decode cX6_takes 126 = .ok (.getfield 38, 3) := by decide +kernel
theorem dX6_takes_129 : decode cX6_takes 129 = .ok (.bipush 16, 2) := by decide +kernel
theorem dX6_takes_131 : decode cX6_takes 131 = .ok (.iload_n 2, 1) := by decide +kernel
theorem dX6_takes_132 : decode cX6_takes 132 = .ok (.iadd, 1) := by decide +kernel
theorem dX6_takes_133 : decode cX6_takes 133 = .ok (.dup2, 1) := by decide +kernel
theorem dX6_takes_134 : decode cX6_takes 134 = .ok (.iaload, 1) := by decide +kernel
theorem dX6_takes_135 : decode cX6_takes 135 = .ok (.iload_n 3, 1) := by decide +kernel
theorem dX6_takes_136 : decode cX6_takes 136 = .ok (.iadd, 1) := by decide +kernel
theorem dX6_takes_137 : decode cX6_takes 137 = .ok (.iastore, 1) := by decide +kernel
theorem dX6_takes_138 : decode cX6_takes 138 = .ok (.iload_n 3, 1) := by decide +kernel
theorem dX6_takes_139 : decode cX6_takes 139 = .ok (.ireturn, 1) := by decide +kernel
theorem dX6_shift_0 : decode cX6_shift 0 = .ok (.aload_n 0, 1) := by decide +kernel
theorem dX6_shift_1 : decode cX6_shift 1 = .ok (.iload_n 1, 1) := by decide +kernel
theorem dX6_shift_2 : decode cX6_shift 2 = .ok (.invokevirtual 107, 3) := by decide +kernel
theorem dX6_shift_5 : decode cX6_shift 5 = .ok (.ifCond .eq 13, 3) := by decide +kernel
theorem dX6_shift_8 : decode cX6_shift 8 = .ok (.iload_n 2, 1) := by decide +kernel
theorem dX6_shift_9 : decode cX6_shift 9 = .ok (.iconst 1, 1) := by decide +kernel
theorem dX6_shift_10 : decode cX6_shift 10 = .ok (.bipush 60, 2) := by decide +kernel
theorem dX6_shift_12 : decode cX6_shift 12 = .ok (.invokestatic 54, 3) := by decide +kernel
theorem dX6_shift_15 : decode cX6_shift 15 = .ok (.ifCond .ne 5, 3) := by decide +kernel
theorem dX6_shift_18 : decode cX6_shift 18 = .ok (.iconst (-1), 1) := by decide +kernel
theorem dX6_shift_19 : decode cX6_shift 19 = .ok (.ireturn, 1) := by decide +kernel
theorem dX6_shift_20 : decode cX6_shift 20 = .ok (.aload_n 0, 1) := by decide +kernel
theorem dX6_shift_21 : decode cX6_shift 21 = .ok (.getfield 38, 3) := by decide +kernel
theorem dX6_shift_24 : decode cX6_shift 24 = .ok (.iload_n 3, 1) := by decide +kernel
theorem dX6_shift_25 : decode cX6_shift 25 = .ok (.iload_n 1, 1) := by decide +kernel
theorem dX6_shift_26 : decode cX6_shift 26 = .ok (.iadd, 1) := by decide +kernel
theorem dX6_shift_27 : decode cX6_shift 27 = .ok (.iaload, 1) := by decide +kernel
end
section
theorem dX6_shift_28 : decode cX6_shift 28 = .ok (.iload_n 2, 1) := by decide +kernel
theorem dX6_shift_29 : decode cX6_shift 29 = .ok (.if_icmp .ge 6, 3) := by decide +kernel
theorem dX6_shift_32 : decode cX6_shift 32 = .ok (.bipush (-2), 2) := by decide +kernel
theorem dX6_shift_34 : decode cX6_shift 34 = .ok (.ireturn, 1) := by decide +kernel
theorem dX6_shift_35 : decode cX6_shift 35 = .ok (.aload_n 0, 1) := by decide +kernel
theorem dX6_shift_36 : decode cX6_shift 36 = .ok (.invokevirtual 113, 3) := by decide +kernel
theorem dX6_shift_39 : decode cX6_shift 39 = .ok (.aload_n 0, 1) := by decide +kernel
theorem dX6_shift_40 : decode cX6_shift 40 = .ok (.getfield 38, 3) := by decide +kernel
theorem dX6_shift_43 : decode cX6_shift 43 = .ok (.iload_n 3, 1) := by decide +kernel
theorem dX6_shift_44 : decode cX6_shift 44 = .ok (.iload_n 1, 1) := by decide +kernel
theorem dX6_shift_45 : decode cX6_shift 45 = .ok (.iadd, 1) := by decide +kernel
theorem dX6_shift_46 : decode cX6_shift 46 = .ok (.dup2, 1) := by decide +kernel
theorem dX6_shift_47 : decode cX6_shift 47 = .ok (.iaload, 1) := by decide +kernel
theorem dX6_shift_48 : decode cX6_shift 48 = .ok (.iload_n 2, 1) := by decide +kernel
theorem dX6_shift_49 : decode cX6_shift 49 = .ok (.isub, 1) := by decide +kernel
theorem dX6_shift_50 : decode cX6_shift 50 = .ok (.iastore, 1) := by decide +kernel
theorem dX6_shift_51 : decode cX6_shift 51 = .ok (.aload_n 0, 1) := by decide +kernel
theorem dX6_shift_52 : decode cX6_shift 52 = .ok (.getfield 38, 3) := by decide +kernel
theorem dX6_shift_55 : decode cX6_shift 55 = .ok (.iload 4, 2) := by decide +kernel
theorem dX6_shift_57 : decode cX6_shift 57 = .ok (.iload_n 1, 1) := by decide +kernel
theorem dX6_shift_58 : decode cX6_shift 58 = .ok (.iadd, 1) := by decide +kernel
theorem dX6_shift_59 : decode cX6_shift 59 = .ok (.dup2, 1) := by decide +kernel
theorem dX6_shift_60 : decode cX6_shift 60 = .ok (.iaload, 1) := by decide +kernel
theorem dX6_shift_61 : decode cX6_shift 61 = .ok (.iload_n 2, 1) := by decide +kernel
theorem dX6_shift_62 : decode cX6_shift 62 = .ok (.iadd, 1) := by decide +kernel
theorem dX6_shift_63 : decode cX6_shift 63 = .ok (.iastore, 1) := by decide +kernel
theorem dX6_shift_64 : decode cX6_shift 64 = .ok (.aload_n 0, 1) := by decide +kernel
theorem dX6_shift_65 : decode cX6_shift 65 = .ok (.getfield 38, 3) := by decide +kernel
theorem dX6_shift_68 : decode cX6_shift 68 = .ok (.iload 4, 2) := by decide +kernel
theorem dX6_shift_70 : decode cX6_shift 70 = .ok (.iload_n 1, 1) := by decide +kernel
theorem dX6_shift_71 : decode cX6_shift 71 = .ok (.iadd, 1) := by decide +kernel
theorem dX6_shift_72 : decode cX6_shift 72 = .ok (.iaload, 1) := by decide +kernel
theorem dX6_shift_73 : decode cX6_shift 73 = .ok (.ireturn, 1) := by decide +kernel
theorem dX6_hides_0 : decode cX6_hides 0 = .ok (.aload_n 0, 1) := by decide +kernel
theorem dX6_hides_1 : decode cX6_hides 1 = .ok (.iload_n 1, 1) := by decide +kernel
theorem dX6_hides_2 : decode cX6_hides 2 = .ok (.iload_n 2, 1) := by decide +kernel
theorem dX6_hides_3 : decode cX6_hides 3 = .ok (.iconst 4, 1) := by decide +kernel
theorem dX6_hides_4 : decode cX6_hides 4 = .ok (.bipush 10, 2) := by decide +kernel
theorem dX6_hides_6 : decode cX6_hides 6 = .ok (.invokevirtual 119, 3) := by decide +kernel
theorem dX6_hides_9 : decode cX6_hides 9 = .ok (.ireturn, 1) := by decide +kernel
theorem dX6_shows_0 : decode cX6_shows 0 = .ok (.aload_n 0, 1) := by decide +kernel
theorem dX6_shows_1 : decode cX6_shows 1 = .ok (.iload_n 1, 1) := by decide +kernel
theorem dX6_shows_2 : decode cX6_shows 2 = .ok (.iload_n 2, 1) := by decide +kernel
theorem dX6_shows_3 : decode cX6_shows 3 = .ok (.bipush 10, 2) := by decide +kernel
theorem dX6_shows_5 : decode cX6_shows 5 = .ok (.iconst 4, 1) := by decide +kernel
theorem dX6_shows_6 : decode cX6_shows 6 = .ok (.invokevirtual 119, 3) := by decide +kernel
theorem dX6_shows_9 : decode cX6_shows 9 = .ok (.ireturn, 1) := by decide +kernel
theorem dX6_pays_0 : decode cX6_pays 0 = .ok (.aload_n 0, 1) := by decide +kernel
theorem dX6_pays_1 : decode cX6_pays 1 = .ok (.iload_n 1, 1) := by decide +kernel
theorem dX6_pays_2 : decode cX6_pays 2 = .ok (.invokevirtual 107, 3) := by decide +kernel
theorem dX6_pays_5 : decode cX6_pays 5 = .ok (.ifCond .ne 5, 3) := by decide +kernel
theorem dX6_pays_8 : decode cX6_pays 8 = .ok (.iconst (-1), 1) := by decide +kernel
theorem dX6_pays_9 : decode cX6_pays 9 = .ok (.ireturn, 1) := by decide +kernel
theorem dX6_pays_10 : decode cX6_pays 10 = .ok (.aload_n 0, 1) := by decide +kernel
theorem dX6_pays_11 : decode cX6_pays 11 = .ok (.invokevirtual 113, 3) := by decide +kernel
theorem dX6_pays_14 : decode cX6_pays 14 = .ok (.aload_n 0, 1) := by decide +kernel
theorem dX6_pays_15 : decode cX6_pays 15 = .ok (.getfield 38, 3) := by decide +kernel
theorem dX6_pays_18 : decode cX6_pays 18 = .ok (.bipush 16, 2) := by decide +kernel
theorem dX6_pays_20 : decode cX6_pays 20 = .ok (.iload_n 1, 1) := by decide +kernel
theorem dX6_pays_21 : decode cX6_pays 21 = .ok (.iadd, 1) := by decide +kernel
theorem dX6_pays_22 : decode cX6_pays 22 = .ok (.iaload, 1) := by decide +kernel
theorem dX6_pays_23 : decode cX6_pays 23 = .ok (.istore_n 2, 1) := by decide +kernel
theorem dX6_pays_24 : decode cX6_pays 24 = .ok (.aload_n 0, 1) := by decide +kernel
theorem dX6_pays_25 : decode cX6_pays 25 = .ok (.getfield 38, 3) := by decide +kernel
theorem dX6_pays_28 : decode cX6_pays 28 = .ok (.bipush 16, 2) := by decide +kernel
theorem dX6_pays_30 : decode cX6_pays 30 = .ok (.iload_n 1, 1) := by decide +kernel
theorem dX6_pays_31 : decode cX6_pays 31 = .ok (.iadd, 1) := by decide +kernel
theorem dX6_pays_32 : decode cX6_pays 32 = .ok (.iconst 0, 1) := by decide +kernel
theorem dX6_pays_33 : decode cX6_pays 33 = .ok (.iastore, 1) := by decide +kernel
theorem dX6_pays_34 : decode cX6_pays 34 = .ok (.iload_n 2, 1) := by decide +kernel
theorem dX6_pays_35 : decode cX6_pays 35 = .ok (.ireturn, 1) := by decide +kernel
theorem dX6_sells_0 : decode cX6_sells 0 = .ok (.aload_n 0, 1) := by decide +kernel
theorem dX6_sells_1 : decode cX6_sells 1 = .ok (.iload_n 1, 1) := by decide +kernel
theorem dX6_sells_2 : decode cX6_sells 2 = .ok (.invokevirtual 107, 3) := by decide +kernel
theorem dX6_sells_5 : decode cX6_sells 5 = .ok (.ifCond .eq 13, 3) := by decide +kernel
theorem dX6_sells_8 : decode cX6_sells 8 = .ok (.iload_n 2, 1) := by decide +kernel
theorem dX6_sells_9 : decode cX6_sells 9 = .ok (.iconst 1, 1) := by decide +kernel
theorem dX6_sells_10 : decode cX6_sells 10 = .ok (.bipush 99, 2) := by decide +kernel
theorem dX6_sells_12 : decode cX6_sells 12 = .ok (.invokestatic 54, 3) := by decide +kernel
theorem dX6_sells_15 : decode cX6_sells 15 = .ok (.ifCond .ne 5, 3) := by decide +kernel
theorem dX6_sells_18 : decode cX6_sells 18 = .ok (.iconst (-1), 1) := by decide +kernel
theorem dX6_sells_19 : decode cX6_sells 19 = .ok (.ireturn, 1) := by decide +kernel
theorem dX6_sells_20 : decode cX6_sells 20 = .ok (.aload_n 0, 1) := by decide +kernel
theorem dX6_sells_21 : decode cX6_sells 21 = .ok (.getfield 38, 3) := by decide +kernel
theorem dX6_sells_24 : decode cX6_sells 24 = .ok (.bipush 16, 2) := by decide +kernel
theorem dX6_sells_26 : decode cX6_sells 26 = .ok (.iload_n 1, 1) := by decide +kernel
theorem dX6_sells_27 : decode cX6_sells 27 = .ok (.iadd, 1) := by decide +kernel
theorem dX6_sells_28 : decode cX6_sells 28 = .ok (.iaload, 1) := by decide +kernel
theorem dX6_sells_29 : decode cX6_sells 29 = .ok (.iload_n 2, 1) := by decide +kernel
theorem dX6_sells_30 : decode cX6_sells 30 = .ok (.if_icmp .ge 6, 3) := by decide +kernel
theorem dX6_sells_33 : decode cX6_sells 33 = .ok (.bipush (-2), 2) := by decide +kernel
theorem dX6_sells_35 : decode cX6_sells 35 = .ok (.ireturn, 1) := by decide +kernel
theorem dX6_sells_36 : decode cX6_sells 36 = .ok (.aload_n 0, 1) := by decide +kernel
theorem dX6_sells_37 : decode cX6_sells 37 = .ok (.invokevirtual 113, 3) := by decide +kernel
theorem dX6_sells_40 : decode cX6_sells 40 = .ok (.aload_n 0, 1) := by decide +kernel
theorem dX6_sells_41 : decode cX6_sells 41 = .ok (.getfield 38, 3) := by decide +kernel
theorem dX6_sells_44 : decode cX6_sells 44 = .ok (.bipush 16, 2) := by decide +kernel
theorem dX6_sells_46 : decode cX6_sells 46 = .ok (.iload_n 1, 1) := by decide +kernel
theorem dX6_sells_47 : decode cX6_sells 47 = .ok (.iadd, 1) := by decide +kernel
theorem dX6_sells_48 : decode cX6_sells 48 = .ok (.dup2, 1) := by decide +kernel
theorem dX6_sells_49 : decode cX6_sells 49 = .ok (.iaload, 1) := by decide +kernel
theorem dX6_sells_50 : decode cX6_sells 50 = .ok (.iload_n 2, 1) := by decide +kernel
theorem dX6_sells_51 : decode cX6_sells 51 = .ok (.isub, 1) := by decide +kernel
theorem dX6_sells_52 : decode cX6_sells 52 = .ok (.iastore, 1) := by decide +kernel
theorem dX6_sells_53 : decode cX6_sells 53 = .ok (.aload_n 0, 1) := by decide +kernel
theorem dX6_sells_54 : decode cX6_sells 54 = .ok (.getfield 38, 3) := by decide +kernel
theorem dX6_sells_57 : decode cX6_sells 57 = .ok (.bipush 22, 2) := by decide +kernel
theorem dX6_sells_59 : decode cX6_sells 59 = .ok (.iload_n 1, 1) := by decide +kernel
theorem dX6_sells_60 : decode cX6_sells 60 = .ok (.iadd, 1) := by decide +kernel
theorem dX6_sells_61 : decode cX6_sells 61 = .ok (.dup2, 1) := by decide +kernel
theorem dX6_sells_62 : decode cX6_sells 62 = .ok (.iaload, 1) := by decide +kernel
theorem dX6_sells_63 : decode cX6_sells 63 = .ok (.iload_n 2, 1) := by decide +kernel
theorem dX6_sells_64 : decode cX6_sells 64 = .ok (.iconst 3, 1) := by decide +kernel
theorem dX6_sells_65 : decode cX6_sells 65 = .ok (.idiv, 1) := by decide +kernel
theorem dX6_sells_66 : decode cX6_sells 66 = .ok (.iadd, 1) := by decide +kernel
theorem dX6_sells_67 : decode cX6_sells 67 = .ok (.iastore, 1) := by decide +kernel
theorem dX6_sells_68 : decode cX6_sells 68 = .ok (.aload_n 0, 1) := by decide +kernel
theorem dX6_sells_69 : decode cX6_sells 69 = .ok (.getfield 38, 3) := by decide +kernel
theorem dX6_sells_72 : decode cX6_sells 72 = .ok (.bipush 22, 2) := by decide +kernel
theorem dX6_sells_74 : decode cX6_sells 74 = .ok (.iload_n 1, 1) := by decide +kernel
theorem dX6_sells_75 : decode cX6_sells 75 = .ok (.iadd, 1) := by decide +kernel
theorem dX6_sells_76 : decode cX6_sells 76 = .ok (.iaload, 1) := by decide +kernel
theorem dX6_sells_77 : decode cX6_sells 77 = .ok (.ireturn, 1) := by decide +kernel
theorem dX6_undo_0 : decode cX6_undo 0 = .ok (.aload_n 0, 1) := by decide +kernel
theorem dX6_undo_1 : decode cX6_undo 1 = .ok (.getfield 38, 3) := by decide +kernel
theorem dX6_undo_4 : decode cX6_undo 4 = .ok (.bipush 28, 2) := by decide +kernel
theorem dX6_undo_6 : decode cX6_undo 6 = .ok (.iaload, 1) := by decide +kernel
theorem dX6_undo_7 : decode cX6_undo 7 = .ok (.ifCond .ne 6, 3) := by decide +kernel
theorem dX6_undo_10 : decode cX6_undo 10 = .ok (.bipush (-2), 2) := by decide +kernel
theorem dX6_undo_12 : decode cX6_undo 12 = .ok (.ireturn, 1) := by decide +kernel
theorem dX6_undo_13 : decode cX6_undo 13 = .ok (.aload_n 0, 1) := by decide +kernel
theorem dX6_undo_14 : decode cX6_undo 14 = .ok (.getfield 38, 3) := by decide +kernel
theorem dX6_undo_17 : decode cX6_undo 17 = .ok (.bipush 28, 2) := by decide +kernel
theorem dX6_undo_19 : decode cX6_undo 19 = .ok (.dup2, 1) := by decide +kernel
theorem dX6_undo_20 : decode cX6_undo 20 = .ok (.iaload, 1) := by decide +kernel
theorem dX6_undo_21 : decode cX6_undo 21 = .ok (.iconst 1, 1) := by decide +kernel
theorem dX6_undo_22 : decode cX6_undo 22 = .ok (.isub, 1) := by decide +kernel
theorem dX6_undo_23 : decode cX6_undo 23 = .ok (.iastore, 1) := by decide +kernel
theorem dX6_undo_24 : decode cX6_undo 24 = .ok (.iconst 0, 1) := by decide +kernel
theorem dX6_undo_25 : decode cX6_undo 25 = .ok (.istore_n 1, 1) := by decide +kernel
theorem dX6_undo_26 : decode cX6_undo 26 = .ok (.iload_n 1, 1) := by decide +kernel
theorem dX6_undo_27 : decode cX6_undo 27 = .ok (.bipush 28, 2) := by decide +kernel
theorem dX6_undo_29 : decode cX6_undo 29 = .ok (.if_icmp .ge 35, 3) := by decide +kernel
theorem dX6_undo_32 : decode cX6_undo 32 = .ok (.aload_n 0, 1) := by decide +kernel
theorem dX6_undo_33 : decode cX6_undo 33 = .ok (.getfield 38, 3) := by decide +kernel
theorem dX6_undo_36 : decode cX6_undo 36 = .ok (.iload_n 1, 1) := by decide +kernel
theorem dX6_undo_37 : decode cX6_undo 37 = .ok (.aload_n 0, 1) := by decide +kernel
theorem dX6_undo_38 : decode cX6_undo 38 = .ok (.getfield 38, 3) := by decide +kernel
theorem dX6_undo_41 : decode cX6_undo 41 = .ok (.bipush 29, 2) := by decide +kernel
theorem dX6_undo_43 : decode cX6_undo 43 = .ok (.bipush 28, 2) := by decide +kernel
theorem dX6_undo_45 : decode cX6_undo 45 = .ok (.aload_n 0, 1) := by decide +kernel
theorem dX6_undo_46 : decode cX6_undo 46 = .ok (.getfield 38, 3) := by decide +kernel
theorem dX6_undo_49 : decode cX6_undo 49 = .ok (.bipush 28, 2) := by decide +kernel
theorem dX6_undo_51 : decode cX6_undo 51 = .ok (.iaload, 1) := by decide +kernel
theorem dX6_undo_52 : decode cX6_undo 52 = .ok (.imul, 1) := by decide +kernel
theorem dX6_undo_53 : decode cX6_undo 53 = .ok (.iadd, 1) := by decide +kernel
theorem dX6_undo_54 : decode cX6_undo 54 = .ok (.iload_n 1, 1) := by decide +kernel
theorem dX6_undo_55 : decode cX6_undo 55 = .ok (.iadd, 1) := by decide +kernel
theorem dX6_undo_56 : decode cX6_undo 56 = .ok (.iaload, 1) := by decide +kernel
theorem dX6_undo_57 : decode cX6_undo 57 = .ok (.iastore, 1) := by decide +kernel
theorem dX6_undo_58 : decode cX6_undo 58 = .ok (.iinc 1 1, 3) := by decide +kernel
theorem dX6_undo_61 : decode cX6_undo 61 = .ok (.goto (-35), 3) := by decide +kernel
theorem dX6_undo_64 : decode cX6_undo 64 = .ok (.aload_n 0, 1) := by decide +kernel
theorem dX6_undo_65 : decode cX6_undo 65 = .ok (.getfield 38, 3) := by decide +kernel
theorem dX6_undo_68 : decode cX6_undo 68 = .ok (.bipush 28, 2) := by decide +kernel
theorem dX6_undo_70 : decode cX6_undo 70 = .ok (.iaload, 1) := by decide +kernel
theorem dX6_undo_71 : decode cX6_undo 71 = .ok (.ireturn, 1) := by decide +kernel
theorem dX6_now_0 : decode cX6_now 0 = .ok (.iconst 0, 1) := by decide +kernel
theorem dX6_now_1 : decode cX6_now 1 = .ok (.istore_n 2, 1) := by decide +kernel
theorem dX6_now_2 : decode cX6_now 2 = .ok (.iload_n 1, 1) := by decide +kernel
theorem dX6_now_3 : decode cX6_now 3 = .ok (.tableswitch 122 0 6 #[41, 41, 41, 41, 48, 62, 94], 41) := by decide +kernel
theorem dX6_now_44 : decode cX6_now 44 = .ok (.aload_n 0, 1) := by decide +kernel
theorem dX6_now_45 : decode cX6_now 45 = .ok (.getfield 38, 3) := by decide +kernel
theorem dX6_now_48 : decode cX6_now 48 = .ok (.iload_n 1, 1) := by decide +kernel
theorem dX6_now_49 : decode cX6_now 49 = .ok (.iaload, 1) := by decide +kernel
theorem dX6_now_50 : decode cX6_now 50 = .ok (.ireturn, 1) := by decide +kernel
theorem dX6_now_51 : decode cX6_now 51 = .ok (.aload_n 0, 1) := by decide +kernel
theorem dX6_now_52 : decode cX6_now 52 = .ok (.getfield 38, 3) := by decide +kernel
theorem dX6_now_55 : decode cX6_now 55 = .ok (.iconst 2, 1) := by decide +kernel
theorem dX6_now_56 : decode cX6_now 56 = .ok (.iaload, 1) := by decide +kernel
theorem dX6_now_57 : decode cX6_now 57 = .ok (.aload_n 0, 1) := by decide +kernel
theorem dX6_now_58 : decode cX6_now 58 = .ok (.getfield 35, 3) := by decide +kernel
theorem dX6_now_61 : decode cX6_now 61 = .ok (.iconst 0, 1) := by decide +kernel
theorem dX6_now_62 : decode cX6_now 62 = .ok (.iaload, 1) := by decide +kernel
theorem dX6_now_63 : decode cX6_now 63 = .ok (.idiv, 1) := by decide +kernel
theorem dX6_now_64 : decode cX6_now 64 = .ok (.ireturn, 1) := by decide +kernel
theorem dX6_now_65 : decode cX6_now 65 = .ok (.iconst 0, 1) := by decide +kernel
theorem dX6_now_66 : decode cX6_now 66 = .ok (.istore_n 3, 1) := by decide +kernel
theorem dX6_now_67 : decode cX6_now 67 = .ok (.iload_n 3, 1) := by decide +kernel
theorem dX6_now_68 : decode cX6_now 68 = .ok (.aload_n 0, 1) := by decide +kernel
theorem dX6_now_69 : decode cX6_now 69 = .ok (.getfield 13, 3) := by decide +kernel
theorem dX6_now_72 : decode cX6_now 72 = .ok (.iconst 0, 1) := by decide +kernel
theorem dX6_now_73 : decode cX6_now 73 = .ok (.iaload, 1) := by decide +kernel
theorem dX6_now_74 : decode cX6_now 74 = .ok (.if_icmp .ge 21, 3) := by decide +kernel
theorem dX6_now_77 : decode cX6_now 77 = .ok (.iload_n 2, 1) := by decide +kernel
theorem dX6_now_78 : decode cX6_now 78 = .ok (.aload_n 0, 1) := by decide +kernel
theorem dX6_now_79 : decode cX6_now 79 = .ok (.getfield 38, 3) := by decide +kernel
theorem dX6_now_82 : decode cX6_now 82 = .ok (.bipush 16, 2) := by decide +kernel
theorem dX6_now_84 : decode cX6_now 84 = .ok (.iload_n 3, 1) := by decide +kernel
theorem dX6_now_85 : decode cX6_now 85 = .ok (.iadd, 1) := by decide +kernel
theorem dX6_now_86 : decode cX6_now 86 = .ok (.iaload, 1) := by decide +kernel
theorem dX6_now_87 : decode cX6_now 87 = .ok (.iadd, 1) := by decide +kernel
theorem dX6_now_88 : decode cX6_now 88 = .ok (.istore_n 2, 1) := by decide +kernel
theorem dX6_now_89 : decode cX6_now 89 = .ok (.iinc 3 1, 3) := by decide +kernel
theorem dX6_now_92 : decode cX6_now 92 = .ok (.goto (-25), 3) := by decide +kernel
theorem dX6_now_95 : decode cX6_now 95 = .ok (.iload_n 2, 1) := by decide +kernel
theorem dX6_now_96 : decode cX6_now 96 = .ok (.ireturn, 1) := by decide +kernel
theorem dX6_now_97 : decode cX6_now 97 = .ok (.iconst 0, 1) := by decide +kernel
theorem dX6_now_98 : decode cX6_now 98 = .ok (.istore_n 3, 1) := by decide +kernel
theorem dX6_now_99 : decode cX6_now 99 = .ok (.iload_n 3, 1) := by decide +kernel
theorem dX6_now_100 : decode cX6_now 100 = .ok (.aload_n 0, 1) := by decide +kernel
theorem dX6_now_101 : decode cX6_now 101 = .ok (.getfield 13, 3) := by decide +kernel
theorem dX6_now_104 : decode cX6_now 104 = .ok (.iconst 0, 1) := by decide +kernel
theorem dX6_now_105 : decode cX6_now 105 = .ok (.iaload, 1) := by decide +kernel
theorem dX6_now_106 : decode cX6_now 106 = .ok (.if_icmp .ge 17, 3) := by decide +kernel
theorem dX6_now_109 : decode cX6_now 109 = .ok (.iload_n 2, 1) := by decide +kernel
theorem dX6_now_110 : decode cX6_now 110 = .ok (.aload_n 0, 1) := by decide +kernel
theorem dX6_now_111 : decode cX6_now 111 = .ok (.iload_n 3, 1) := by decide +kernel
theorem dX6_now_112 : decode cX6_now 112 = .ok (.invokevirtual 110, 3) := by decide +kernel
theorem dX6_now_115 : decode cX6_now 115 = .ok (.iadd, 1) := by decide +kernel
theorem dX6_now_116 : decode cX6_now 116 = .ok (.istore_n 2, 1) := by decide +kernel
theorem dX6_now_117 : decode cX6_now 117 = .ok (.iinc 3 1, 3) := by decide +kernel
theorem dX6_now_120 : decode cX6_now 120 = .ok (.goto (-21), 3) := by decide +kernel
theorem dX6_now_123 : decode cX6_now 123 = .ok (.iload_n 2, 1) := by decide +kernel
theorem dX6_now_124 : decode cX6_now 124 = .ok (.ireturn, 1) := by decide +kernel
theorem dX6_now_125 : decode cX6_now 125 = .ok (.iconst (-1), 1) := by decide +kernel
theorem dX6_now_126 : decode cX6_now 126 = .ok (.ireturn, 1) := by decide +kernel
theorem dX6_takeRow_0 : decode cX6_takeRow 0 = .ok (.iload_n 1, 1) := by decide +kernel
theorem dX6_takeRow_1 : decode cX6_takeRow 1 = .ok (.istore_n 3, 1) := by decide +kernel
theorem dX6_takeRow_2 : decode cX6_takeRow 2 = .ok (.iload_n 2, 1) := by decide +kernel
theorem dX6_takeRow_3 : decode cX6_takeRow 3 = .ok (.iconst 1, 1) := by decide +kernel
theorem dX6_takeRow_4 : decode cX6_takeRow 4 = .ok (.isub, 1) := by decide +kernel
theorem dX6_takeRow_5 : decode cX6_takeRow 5 = .ok (.istore 4, 2) := by decide +kernel
theorem dX6_takeRow_7 : decode cX6_takeRow 7 = .ok (.iload 4, 2) := by decide +kernel
theorem dX6_takeRow_9 : decode cX6_takeRow 9 = .ok (.ifCond .lt 25, 3) := by decide +kernel
theorem dX6_takeRow_12 : decode cX6_takeRow 12 = .ok (.aload_n 0, 1) := by decide +kernel
theorem dX6_takeRow_13 : decode cX6_takeRow 13 = .ok (.getfield 45, 3) := by decide +kernel
theorem dX6_takeRow_16 : decode cX6_takeRow 16 = .ok (.iload 4, 2) := by decide +kernel
theorem dX6_takeRow_18 : decode cX6_takeRow 18 = .ok (.iload_n 3, 1) := by decide +kernel
theorem dX6_takeRow_19 : decode cX6_takeRow 19 = .ok (.bipush 6, 2) := by decide +kernel
theorem dX6_takeRow_21 : decode cX6_takeRow 21 = .ok (.irem, 1) := by decide +kernel
theorem dX6_takeRow_22 : decode cX6_takeRow 22 = .ok (.iastore, 1) := by decide +kernel
theorem dX6_takeRow_23 : decode cX6_takeRow 23 = .ok (.iload_n 3, 1) := by decide +kernel
theorem dX6_takeRow_24 : decode cX6_takeRow 24 = .ok (.bipush 6, 2) := by decide +kernel
theorem dX6_takeRow_26 : decode cX6_takeRow 26 = .ok (.idiv, 1) := by decide +kernel
theorem dX6_takeRow_27 : decode cX6_takeRow 27 = .ok (.istore_n 3, 1) := by decide +kernel
theorem dX6_takeRow_28 : decode cX6_takeRow 28 = .ok (.iinc 4 (-1), 3) := by decide +kernel
theorem dX6_takeRow_31 : decode cX6_takeRow 31 = .ok (.goto (-24), 3) := by decide +kernel
theorem dX6_takeRow_34 : decode cX6_takeRow 34 = .ok (.return_, 1) := by decide +kernel
theorem dX6_daysOf_0 : decode cX6_daysOf 0 = .ok (.iconst 0, 1) := by decide +kernel
theorem dX6_daysOf_1 : decode cX6_daysOf 1 = .ok (.istore_n 3, 1) := by decide +kernel
theorem dX6_daysOf_2 : decode cX6_daysOf 2 = .ok (.aload_n 0, 1) := by decide +kernel
theorem dX6_daysOf_3 : decode cX6_daysOf 3 = .ok (.getfield 38, 3) := by decide +kernel
theorem dX6_daysOf_6 : decode cX6_daysOf 6 = .ok (.iconst 0, 1) := by decide +kernel
theorem dX6_daysOf_7 : decode cX6_daysOf 7 = .ok (.iaload, 1) := by decide +kernel
theorem dX6_daysOf_8 : decode cX6_daysOf 8 = .ok (.istore 4, 2) := by decide +kernel
theorem dX6_daysOf_10 : decode cX6_daysOf 10 = .ok (.aload_n 0, 1) := by decide +kernel
theorem dX6_daysOf_11 : decode cX6_daysOf 11 = .ok (.getfield 38, 3) := by decide +kernel
theorem dX6_daysOf_14 : decode cX6_daysOf 14 = .ok (.iconst 2, 1) := by decide +kernel
theorem dX6_daysOf_15 : decode cX6_daysOf 15 = .ok (.iaload, 1) := by decide +kernel
theorem dX6_daysOf_16 : decode cX6_daysOf 16 = .ok (.istore 5, 2) := by decide +kernel
theorem dX6_daysOf_18 : decode cX6_daysOf 18 = .ok (.aload_n 0, 1) := by decide +kernel
theorem dX6_daysOf_19 : decode cX6_daysOf 19 = .ok (.getfield 38, 3) := by decide +kernel
theorem dX6_daysOf_22 : decode cX6_daysOf 22 = .ok (.iconst 2, 1) := by decide +kernel
theorem dX6_daysOf_23 : decode cX6_daysOf 23 = .ok (.iaload, 1) := by decide +kernel
theorem dX6_daysOf_24 : decode cX6_daysOf 24 = .ok (.istore 6, 2) := by decide +kernel
theorem dX6_daysOf_26 : decode cX6_daysOf 26 = .ok (.iconst 0, 1) := by decide +kernel
theorem dX6_daysOf_27 : decode cX6_daysOf 27 = .ok (.istore 7, 2) := by decide +kernel
theorem dX6_daysOf_29 : decode cX6_daysOf 29 = .ok (.iconst 0, 1) := by decide +kernel
theorem dX6_daysOf_30 : decode cX6_daysOf 30 = .ok (.istore 8, 2) := by decide +kernel
theorem dX6_daysOf_32 : decode cX6_daysOf 32 = .ok (.iload 8, 2) := by decide +kernel
theorem dX6_daysOf_34 : decode cX6_daysOf 34 = .ok (.iload_n 1, 1) := by decide +kernel
theorem dX6_daysOf_35 : decode cX6_daysOf 35 = .ok (.if_icmp .ge 132, 3) := by decide +kernel
theorem dX6_daysOf_38 : decode cX6_daysOf 38 = .ok (.aload_n 0, 1) := by decide +kernel
theorem dX6_daysOf_39 : decode cX6_daysOf 39 = .ok (.getfield 45, 3) := by decide +kernel
theorem dX6_daysOf_42 : decode cX6_daysOf 42 = .ok (.iload 8, 2) := by decide +kernel
theorem dX6_daysOf_44 : decode cX6_daysOf 44 = .ok (.iaload, 1) := by decide +kernel
theorem dX6_daysOf_45 : decode cX6_daysOf 45 = .ok (.istore 9, 2) := by decide +kernel
theorem dX6_daysOf_47 : decode cX6_daysOf 47 = .ok (.iload 9, 2) := by decide +kernel
theorem dX6_daysOf_49 : decode cX6_daysOf 49 = .ok (.aload_n 0, 1) := by decide +kernel
theorem dX6_daysOf_50 : decode cX6_daysOf 50 = .ok (.getfield 13, 3) := by decide +kernel
theorem dX6_daysOf_53 : decode cX6_daysOf 53 = .ok (.iconst 0, 1) := by decide +kernel
theorem dX6_daysOf_54 : decode cX6_daysOf 54 = .ok (.iaload, 1) := by decide +kernel
theorem dX6_daysOf_55 : decode cX6_daysOf 55 = .ok (.if_icmp .ge 13, 3) := by decide +kernel
theorem dX6_daysOf_58 : decode cX6_daysOf 58 = .ok (.iload_n 3, 1) := by decide +kernel
theorem dX6_daysOf_59 : decode cX6_daysOf 59 = .ok (.iload 9, 2) := by decide +kernel
theorem dX6_daysOf_61 : decode cX6_daysOf 61 = .ok (.ishr, 1) := by decide +kernel
theorem dX6_daysOf_62 : decode cX6_daysOf 62 = .ok (.iconst 1, 1) := by decide +kernel
theorem dX6_daysOf_63 : decode cX6_daysOf 63 = .ok (.iand, 1) := by decide +kernel
theorem dX6_daysOf_64 : decode cX6_daysOf 64 = .ok (.iconst 1, 1) := by decide +kernel
theorem dX6_daysOf_65 : decode cX6_daysOf 65 = .ok (.if_icmp .ne 6, 3) := by decide +kernel
theorem dX6_daysOf_68 : decode cX6_daysOf 68 = .ok (.bipush (-9), 2) := by decide +kernel
theorem dX6_daysOf_70 : decode cX6_daysOf 70 = .ok (.ireturn, 1) := by decide +kernel
theorem dX6_daysOf_71 : decode cX6_daysOf 71 = .ok (.aload_n 0, 1) := by decide +kernel
theorem dX6_daysOf_72 : decode cX6_daysOf 72 = .ok (.getfield 29, 3) := by decide +kernel
theorem dX6_daysOf_75 : decode cX6_daysOf 75 = .ok (.bipush 6, 2) := by decide +kernel
theorem dX6_daysOf_77 : decode cX6_daysOf 77 = .ok (.iload 4, 2) := by decide +kernel
theorem dX6_daysOf_79 : decode cX6_daysOf 79 = .ok (.imul, 1) := by decide +kernel
theorem dX6_daysOf_80 : decode cX6_daysOf 80 = .ok (.iload 9, 2) := by decide +kernel
theorem dX6_daysOf_82 : decode cX6_daysOf 82 = .ok (.iadd, 1) := by decide +kernel
theorem dX6_daysOf_83 : decode cX6_daysOf 83 = .ok (.iaload, 1) := by decide +kernel
theorem dX6_daysOf_84 : decode cX6_daysOf 84 = .ok (.istore 10, 2) := by decide +kernel
theorem dX6_daysOf_86 : decode cX6_daysOf 86 = .ok (.iload 10, 2) := by decide +kernel
theorem dX6_daysOf_88 : decode cX6_daysOf 88 = .ok (.sipush 1000, 3) := by decide +kernel
theorem dX6_daysOf_91 : decode cX6_daysOf 91 = .ok (.if_icmp .ge 17, 3) := by decide +kernel
theorem dX6_daysOf_94 : decode cX6_daysOf 94 = .ok (.iload 5, 2) := by decide +kernel
theorem dX6_daysOf_96 : decode cX6_daysOf 96 = .ok (.aload_n 0, 1) := by decide +kernel
theorem dX6_daysOf_97 : decode cX6_daysOf 97 = .ok (.getfield 35, 3) := by decide +kernel
theorem dX6_daysOf_100 : decode cX6_daysOf 100 = .ok (.iconst 0, 1) := by decide +kernel
theorem dX6_daysOf_101 : decode cX6_daysOf 101 = .ok (.iaload, 1) := by decide +kernel
theorem dX6_daysOf_102 : decode cX6_daysOf 102 = .ok (.iload 10, 2) := by decide +kernel
theorem dX6_daysOf_104 : decode cX6_daysOf 104 = .ok (.imul, 1) := by decide +kernel
theorem dX6_daysOf_105 : decode cX6_daysOf 105 = .ok (.if_icmp .ge 6, 3) := by decide +kernel
theorem dX6_daysOf_108 : decode cX6_daysOf 108 = .ok (.bipush (-9), 2) := by decide +kernel
theorem dX6_daysOf_110 : decode cX6_daysOf 110 = .ok (.ireturn, 1) := by decide +kernel
theorem dX6_daysOf_111 : decode cX6_daysOf 111 = .ok (.iload_n 3, 1) := by decide +kernel
theorem dX6_daysOf_112 : decode cX6_daysOf 112 = .ok (.iconst 1, 1) := by decide +kernel
theorem dX6_daysOf_113 : decode cX6_daysOf 113 = .ok (.iload 9, 2) := by decide +kernel
theorem dX6_daysOf_115 : decode cX6_daysOf 115 = .ok (.ishl, 1) := by decide +kernel
theorem dX6_daysOf_116 : decode cX6_daysOf 116 = .ok (.ior, 1) := by decide +kernel
theorem dX6_daysOf_117 : decode cX6_daysOf 117 = .ok (.istore_n 3, 1) := by decide +kernel
theorem dX6_daysOf_118 : decode cX6_daysOf 118 = .ok (.iload 5, 2) := by decide +kernel
theorem dX6_daysOf_120 : decode cX6_daysOf 120 = .ok (.aload_n 0, 1) := by decide +kernel
theorem dX6_daysOf_121 : decode cX6_daysOf 121 = .ok (.iload 9, 2) := by decide +kernel
theorem dX6_daysOf_123 : decode cX6_daysOf 123 = .ok (.invokevirtual 110, 3) := by decide +kernel
theorem dX6_daysOf_126 : decode cX6_daysOf 126 = .ok (.aload_n 0, 1) := by decide +kernel
theorem dX6_daysOf_127 : decode cX6_daysOf 127 = .ok (.getfield 35, 3) := by decide +kernel
theorem dX6_daysOf_130 : decode cX6_daysOf 130 = .ok (.iconst 0, 1) := by decide +kernel
theorem dX6_daysOf_131 : decode cX6_daysOf 131 = .ok (.iaload, 1) := by decide +kernel
theorem dX6_daysOf_132 : decode cX6_daysOf 132 = .ok (.iload 10, 2) := by decide +kernel
theorem dX6_daysOf_134 : decode cX6_daysOf 134 = .ok (.imul, 1) := by decide +kernel
theorem dX6_daysOf_135 : decode cX6_daysOf 135 = .ok (.isub, 1) := by decide +kernel
theorem dX6_daysOf_136 : decode cX6_daysOf 136 = .ok (.iadd, 1) := by decide +kernel
theorem dX6_daysOf_137 : decode cX6_daysOf 137 = .ok (.istore 5, 2) := by decide +kernel
theorem dX6_daysOf_139 : decode cX6_daysOf 139 = .ok (.iload 6, 2) := by decide +kernel
theorem dX6_daysOf_141 : decode cX6_daysOf 141 = .ok (.aload_n 0, 1) := by decide +kernel
theorem dX6_daysOf_142 : decode cX6_daysOf 142 = .ok (.iload 9, 2) := by decide +kernel
theorem dX6_daysOf_144 : decode cX6_daysOf 144 = .ok (.invokevirtual 110, 3) := by decide +kernel
theorem dX6_daysOf_147 : decode cX6_daysOf 147 = .ok (.iadd, 1) := by decide +kernel
theorem dX6_daysOf_148 : decode cX6_daysOf 148 = .ok (.istore 6, 2) := by decide +kernel
theorem dX6_daysOf_150 : decode cX6_daysOf 150 = .ok (.iload 7, 2) := by decide +kernel
theorem dX6_daysOf_152 : decode cX6_daysOf 152 = .ok (.iload 10, 2) := by decide +kernel
theorem dX6_daysOf_154 : decode cX6_daysOf 154 = .ok (.iadd, 1) := by decide +kernel
theorem dX6_daysOf_155 : decode cX6_daysOf 155 = .ok (.istore 7, 2) := by decide +kernel
theorem dX6_daysOf_157 : decode cX6_daysOf 157 = .ok (.iload 9, 2) := by decide +kernel
theorem dX6_daysOf_159 : decode cX6_daysOf 159 = .ok (.istore 4, 2) := by decide +kernel
theorem dX6_daysOf_161 : decode cX6_daysOf 161 = .ok (.iinc 8 1, 3) := by decide +kernel
theorem dX6_daysOf_164 : decode cX6_daysOf 164 = .ok (.goto (-132), 3) := by decide +kernel
theorem dX6_daysOf_167 : decode cX6_daysOf 167 = .ok (.iload 6, 2) := by decide +kernel
theorem dX6_daysOf_169 : decode cX6_daysOf 169 = .ok (.iload_n 2, 1) := by decide +kernel
theorem dX6_daysOf_170 : decode cX6_daysOf 170 = .ok (.if_icmp .ge 8, 3) := by decide +kernel
theorem dX6_daysOf_173 : decode cX6_daysOf 173 = .ok (.bipush (-9), 2) := by decide +kernel
theorem dX6_daysOf_175 : decode cX6_daysOf 175 = .ok (.goto 5, 3) := by decide +kernel
theorem dX6_daysOf_178 : decode cX6_daysOf 178 = .ok (.iload 7, 2) := by decide +kernel
theorem dX6_daysOf_180 : decode cX6_daysOf 180 = .ok (.ireturn, 1) := by decide +kernel
theorem dX6_findTour_0 : decode cX6_findTour 0 = .ok (.aload_n 0, 1) := by decide +kernel
theorem dX6_findTour_1 : decode cX6_findTour 1 = .ok (.bipush (-9), 2) := by decide +kernel
theorem dX6_findTour_3 : decode cX6_findTour 3 = .ok (.putfield 123, 3) := by decide +kernel
theorem dX6_findTour_6 : decode cX6_findTour 6 = .ok (.iconst 1, 1) := by decide +kernel
theorem dX6_findTour_7 : decode cX6_findTour 7 = .ok (.istore_n 2, 1) := by decide +kernel
theorem dX6_findTour_8 : decode cX6_findTour 8 = .ok (.iconst 0, 1) := by decide +kernel
theorem dX6_findTour_9 : decode cX6_findTour 9 = .ok (.istore_n 3, 1) := by decide +kernel
theorem dX6_findTour_10 : decode cX6_findTour 10 = .ok (.iload_n 3, 1) := by decide +kernel
theorem dX6_findTour_11 : decode cX6_findTour 11 = .ok (.aload_n 0, 1) := by decide +kernel
theorem dX6_findTour_12 : decode cX6_findTour 12 = .ok (.getfield 13, 3) := by decide +kernel
theorem dX6_findTour_15 : decode cX6_findTour 15 = .ok (.iconst 0, 1) := by decide +kernel
theorem dX6_findTour_16 : decode cX6_findTour 16 = .ok (.iaload, 1) := by decide +kernel
theorem dX6_findTour_17 : decode cX6_findTour 17 = .ok (.if_icmp .gt 95, 3) := by decide +kernel
theorem dX6_findTour_20 : decode cX6_findTour 20 = .ok (.aload_n 0, 1) := by decide +kernel
theorem dX6_findTour_21 : decode cX6_findTour 21 = .ok (.getfield 123, 3) := by decide +kernel
theorem dX6_findTour_24 : decode cX6_findTour 24 = .ok (.bipush (-9), 2) := by decide +kernel
theorem dX6_findTour_26 : decode cX6_findTour 26 = .ok (.if_icmp .ne 86, 3) := by decide +kernel
theorem dX6_findTour_29 : decode cX6_findTour 29 = .ok (.iconst 0, 1) := by decide +kernel
theorem dX6_findTour_30 : decode cX6_findTour 30 = .ok (.istore 4, 2) := by decide +kernel
theorem dX6_findTour_32 : decode cX6_findTour 32 = .ok (.iload 4, 2) := by decide +kernel
theorem dX6_findTour_34 : decode cX6_findTour 34 = .ok (.iload_n 2, 1) := by decide +kernel
theorem dX6_findTour_35 : decode cX6_findTour 35 = .ok (.if_icmp .ge 66, 3) := by decide +kernel
theorem dX6_findTour_38 : decode cX6_findTour 38 = .ok (.aload_n 0, 1) := by decide +kernel
theorem dX6_findTour_39 : decode cX6_findTour 39 = .ok (.iload 4, 2) := by decide +kernel
theorem dX6_findTour_41 : decode cX6_findTour 41 = .ok (.iload_n 3, 1) := by decide +kernel
theorem dX6_findTour_42 : decode cX6_findTour 42 = .ok (.invokevirtual 126, 3) := by decide +kernel
theorem dX6_findTour_45 : decode cX6_findTour 45 = .ok (.aload_n 0, 1) := by decide +kernel
theorem dX6_findTour_46 : decode cX6_findTour 46 = .ok (.iload_n 3, 1) := by decide +kernel
theorem dX6_findTour_47 : decode cX6_findTour 47 = .ok (.iload_n 1, 1) := by decide +kernel
theorem dX6_findTour_48 : decode cX6_findTour 48 = .ok (.invokevirtual 130, 3) := by decide +kernel
theorem dX6_findTour_51 : decode cX6_findTour 51 = .ok (.istore 5, 2) := by decide +kernel
theorem dX6_findTour_53 : decode cX6_findTour 53 = .ok (.iload 5, 2) := by decide +kernel
theorem dX6_findTour_55 : decode cX6_findTour 55 = .ok (.bipush (-9), 2) := by decide +kernel
theorem dX6_findTour_57 : decode cX6_findTour 57 = .ok (.if_icmp .eq 38, 3) := by decide +kernel
theorem dX6_findTour_60 : decode cX6_findTour 60 = .ok (.aload_n 0, 1) := by decide +kernel
theorem dX6_findTour_61 : decode cX6_findTour 61 = .ok (.getfield 123, 3) := by decide +kernel
theorem dX6_findTour_64 : decode cX6_findTour 64 = .ok (.bipush (-9), 2) := by decide +kernel
theorem dX6_findTour_66 : decode cX6_findTour 66 = .ok (.if_icmp .eq 12, 3) := by decide +kernel
theorem dX6_findTour_69 : decode cX6_findTour 69 = .ok (.iload 5, 2) := by decide +kernel
theorem dX6_findTour_71 : decode cX6_findTour 71 = .ok (.aload_n 0, 1) := by decide +kernel
theorem dX6_findTour_72 : decode cX6_findTour 72 = .ok (.getfield 133, 3) := by decide +kernel
theorem dX6_findTour_75 : decode cX6_findTour 75 = .ok (.if_icmp .ge 20, 3) := by decide +kernel
theorem dX6_findTour_78 : decode cX6_findTour 78 = .ok (.aload_n 0, 1) := by decide +kernel
theorem dX6_findTour_79 : decode cX6_findTour 79 = .ok (.iload 4, 2) := by decide +kernel
theorem dX6_findTour_81 : decode cX6_findTour 81 = .ok (.putfield 123, 3) := by decide +kernel
theorem dX6_findTour_84 : decode cX6_findTour 84 = .ok (.aload_n 0, 1) := by decide +kernel
theorem dX6_findTour_85 : decode cX6_findTour 85 = .ok (.iload 5, 2) := by decide +kernel
theorem dX6_findTour_87 : decode cX6_findTour 87 = .ok (.putfield 133, 3) := by decide +kernel
theorem dX6_findTour_90 : decode cX6_findTour 90 = .ok (.aload_n 0, 1) := by decide +kernel
theorem dX6_findTour_91 : decode cX6_findTour 91 = .ok (.iload_n 3, 1) := by decide +kernel
theorem dX6_findTour_92 : decode cX6_findTour 92 = .ok (.putfield 136, 3) := by decide +kernel
theorem dX6_findTour_95 : decode cX6_findTour 95 = .ok (.iinc 4 1, 3) := by decide +kernel
theorem dX6_findTour_98 : decode cX6_findTour 98 = .ok (.goto (-66), 3) := by decide +kernel
theorem dX6_findTour_101 : decode cX6_findTour 101 = .ok (.iload_n 2, 1) := by decide +kernel
theorem dX6_findTour_102 : decode cX6_findTour 102 = .ok (.bipush 6, 2) := by decide +kernel
theorem dX6_findTour_104 : decode cX6_findTour 104 = .ok (.imul, 1) := by decide +kernel
theorem dX6_findTour_105 : decode cX6_findTour 105 = .ok (.istore_n 2, 1) := by decide +kernel
theorem dX6_findTour_106 : decode cX6_findTour 106 = .ok (.iinc 3 1, 3) := by decide +kernel
theorem dX6_findTour_109 : decode cX6_findTour 109 = .ok (.goto (-99), 3) := by decide +kernel
theorem dX6_findTour_112 : decode cX6_findTour 112 = .ok (.return_, 1) := by decide +kernel
theorem dX6_tour_0 : decode cX6_tour 0 = .ok (.iload_n 1, 1) := by decide +kernel
theorem dX6_tour_1 : decode cX6_tour 1 = .ok (.iconst 1, 1) := by decide +kernel
theorem dX6_tour_2 : decode cX6_tour 2 = .ok (.bipush 60, 2) := by decide +kernel
theorem dX6_tour_4 : decode cX6_tour 4 = .ok (.invokestatic 54, 3) := by decide +kernel
theorem dX6_tour_7 : decode cX6_tour 7 = .ok (.ifCond .eq 13, 3) := by decide +kernel
theorem dX6_tour_10 : decode cX6_tour 10 = .ok (.iload_n 2, 1) := by decide +kernel
theorem dX6_tour_11 : decode cX6_tour 11 = .ok (.bipush (-2), 2) := by decide +kernel
theorem dX6_tour_13 : decode cX6_tour 13 = .ok (.iconst 5, 1) := by decide +kernel
theorem dX6_tour_14 : decode cX6_tour 14 = .ok (.invokestatic 54, 3) := by decide +kernel
theorem dX6_tour_17 : decode cX6_tour 17 = .ok (.ifCond .ne 5, 3) := by decide +kernel
theorem dX6_tour_20 : decode cX6_tour 20 = .ok (.iconst (-1), 1) := by decide +kernel
theorem dX6_tour_21 : decode cX6_tour 21 = .ok (.ireturn, 1) := by decide +kernel
theorem dX6_tour_22 : decode cX6_tour 22 = .ok (.aload_n 0, 1) := by decide +kernel
theorem dX6_tour_23 : decode cX6_tour 23 = .ok (.aload_n 0, 1) := by decide +kernel
theorem dX6_tour_24 : decode cX6_tour 24 = .ok (.getfield 35, 3) := by decide +kernel
theorem dX6_tour_27 : decode cX6_tour 27 = .ok (.iconst 0, 1) := by decide +kernel
theorem dX6_tour_28 : decode cX6_tour 28 = .ok (.iaload, 1) := by decide +kernel
theorem dX6_tour_29 : decode cX6_tour 29 = .ok (.iload_n 1, 1) := by decide +kernel
theorem dX6_tour_30 : decode cX6_tour 30 = .ok (.imul, 1) := by decide +kernel
theorem dX6_tour_31 : decode cX6_tour 31 = .ok (.invokevirtual 139, 3) := by decide +kernel
theorem dX6_tour_34 : decode cX6_tour 34 = .ok (.aload_n 0, 1) := by decide +kernel
theorem dX6_tour_35 : decode cX6_tour 35 = .ok (.getfield 123, 3) := by decide +kernel
theorem dX6_tour_38 : decode cX6_tour 38 = .ok (.bipush (-9), 2) := by decide +kernel
theorem dX6_tour_40 : decode cX6_tour 40 = .ok (.if_icmp .ne 6, 3) := by decide +kernel
theorem dX6_tour_43 : decode cX6_tour 43 = .ok (.bipush (-9), 2) := by decide +kernel
theorem dX6_tour_45 : decode cX6_tour 45 = .ok (.ireturn, 1) := by decide +kernel
theorem dX6_tour_46 : decode cX6_tour 46 = .ok (.aload_n 0, 1) := by decide +kernel
theorem dX6_tour_47 : decode cX6_tour 47 = .ok (.aload_n 0, 1) := by decide +kernel
theorem dX6_tour_48 : decode cX6_tour 48 = .ok (.getfield 123, 3) := by decide +kernel
theorem dX6_tour_51 : decode cX6_tour 51 = .ok (.aload_n 0, 1) := by decide +kernel
theorem dX6_tour_52 : decode cX6_tour 52 = .ok (.getfield 136, 3) := by decide +kernel
theorem dX6_tour_55 : decode cX6_tour 55 = .ok (.invokevirtual 126, 3) := by decide +kernel
theorem dX6_tour_58 : decode cX6_tour 58 = .ok (.iload_n 2, 1) := by decide +kernel
theorem dX6_tour_59 : decode cX6_tour 59 = .ok (.iconst (-1), 1) := by decide +kernel
theorem dX6_tour_60 : decode cX6_tour 60 = .ok (.if_icmp .ne 10, 3) := by decide +kernel
theorem dX6_tour_63 : decode cX6_tour 63 = .ok (.aload_n 0, 1) := by decide +kernel
theorem dX6_tour_64 : decode cX6_tour 64 = .ok (.getfield 136, 3) := by decide +kernel
theorem dX6_tour_67 : decode cX6_tour 67 = .ok (.goto 35, 3) := by decide +kernel
theorem dX6_tour_70 : decode cX6_tour 70 = .ok (.iload_n 2, 1) := by decide +kernel
theorem dX6_tour_71 : decode cX6_tour 71 = .ok (.bipush (-2), 2) := by decide +kernel
theorem dX6_tour_73 : decode cX6_tour 73 = .ok (.if_icmp .ne 10, 3) := by decide +kernel
theorem dX6_tour_76 : decode cX6_tour 76 = .ok (.aload_n 0, 1) := by decide +kernel
theorem dX6_tour_77 : decode cX6_tour 77 = .ok (.getfield 133, 3) := by decide +kernel
theorem dX6_tour_80 : decode cX6_tour 80 = .ok (.goto 22, 3) := by decide +kernel
theorem dX6_tour_83 : decode cX6_tour 83 = .ok (.iload_n 2, 1) := by decide +kernel
theorem dX6_tour_84 : decode cX6_tour 84 = .ok (.aload_n 0, 1) := by decide +kernel
theorem dX6_tour_85 : decode cX6_tour 85 = .ok (.getfield 136, 3) := by decide +kernel
theorem dX6_tour_88 : decode cX6_tour 88 = .ok (.if_icmp .ge 12, 3) := by decide +kernel
theorem dX6_tour_91 : decode cX6_tour 91 = .ok (.aload_n 0, 1) := by decide +kernel
theorem dX6_tour_92 : decode cX6_tour 92 = .ok (.getfield 45, 3) := by decide +kernel
theorem dX6_tour_95 : decode cX6_tour 95 = .ok (.iload_n 2, 1) := by decide +kernel
theorem dX6_tour_96 : decode cX6_tour 96 = .ok (.iaload, 1) := by decide +kernel
theorem dX6_tour_97 : decode cX6_tour 97 = .ok (.goto 5, 3) := by decide +kernel
theorem dX6_tour_100 : decode cX6_tour 100 = .ok (.bipush (-9), 2) := by decide +kernel
theorem dX6_tour_102 : decode cX6_tour 102 = .ok (.ireturn, 1) := by decide +kernel
theorem dX6_spareOf_0 : decode cX6_spareOf 0 = .ok (.iconst 0, 1) := by decide +kernel
theorem dX6_spareOf_1 : decode cX6_spareOf 1 = .ok (.istore_n 2, 1) := by decide +kernel
theorem dX6_spareOf_2 : decode cX6_spareOf 2 = .ok (.iconst 0, 1) := by decide +kernel
theorem dX6_spareOf_3 : decode cX6_spareOf 3 = .ok (.istore_n 3, 1) := by decide +kernel
theorem dX6_spareOf_4 : decode cX6_spareOf 4 = .ok (.iload_n 3, 1) := by decide +kernel
theorem dX6_spareOf_5 : decode cX6_spareOf 5 = .ok (.aload_n 0, 1) := by decide +kernel
theorem dX6_spareOf_6 : decode cX6_spareOf 6 = .ok (.getfield 13, 3) := by decide +kernel
theorem dX6_spareOf_9 : decode cX6_spareOf 9 = .ok (.iconst 0, 1) := by decide +kernel
theorem dX6_spareOf_10 : decode cX6_spareOf 10 = .ok (.iaload, 1) := by decide +kernel
theorem dX6_spareOf_11 : decode cX6_spareOf 11 = .ok (.if_icmp .ge 30, 3) := by decide +kernel
theorem dX6_spareOf_14 : decode cX6_spareOf 14 = .ok (.iload_n 2, 1) := by decide +kernel
theorem dX6_spareOf_15 : decode cX6_spareOf 15 = .ok (.iload_n 1, 1) := by decide +kernel
theorem dX6_spareOf_16 : decode cX6_spareOf 16 = .ok (.iload_n 3, 1) := by decide +kernel
theorem dX6_spareOf_17 : decode cX6_spareOf 17 = .ok (.ishr, 1) := by decide +kernel
theorem dX6_spareOf_18 : decode cX6_spareOf 18 = .ok (.iconst 1, 1) := by decide +kernel
theorem dX6_spareOf_19 : decode cX6_spareOf 19 = .ok (.iand, 1) := by decide +kernel
theorem dX6_spareOf_20 : decode cX6_spareOf 20 = .ok (.iconst 1, 1) := by decide +kernel
theorem dX6_spareOf_21 : decode cX6_spareOf 21 = .ok (.if_icmp .ne 11, 3) := by decide +kernel
theorem dX6_spareOf_24 : decode cX6_spareOf 24 = .ok (.aload_n 0, 1) := by decide +kernel
theorem dX6_spareOf_25 : decode cX6_spareOf 25 = .ok (.iload_n 3, 1) := by decide +kernel
theorem dX6_spareOf_26 : decode cX6_spareOf 26 = .ok (.invokevirtual 110, 3) := by decide +kernel
theorem dX6_spareOf_29 : decode cX6_spareOf 29 = .ok (.goto 4, 3) := by decide +kernel
theorem dX6_spareOf_32 : decode cX6_spareOf 32 = .ok (.iconst 0, 1) := by decide +kernel
theorem dX6_spareOf_33 : decode cX6_spareOf 33 = .ok (.iadd, 1) := by decide +kernel
theorem dX6_spareOf_34 : decode cX6_spareOf 34 = .ok (.istore_n 2, 1) := by decide +kernel
theorem dX6_spareOf_35 : decode cX6_spareOf 35 = .ok (.iinc 3 1, 3) := by decide +kernel
theorem dX6_spareOf_38 : decode cX6_spareOf 38 = .ok (.goto (-34), 3) := by decide +kernel
theorem dX6_spareOf_41 : decode cX6_spareOf 41 = .ok (.iload_n 2, 1) := by decide +kernel
theorem dX6_spareOf_42 : decode cX6_spareOf 42 = .ok (.ireturn, 1) := by decide +kernel
theorem dX6_from_0 : decode cX6_from 0 = .ok (.iload_n 1, 1) := by decide +kernel
theorem dX6_from_1 : decode cX6_from 1 = .ok (.iconst 0, 1) := by decide +kernel
theorem dX6_from_2 : decode cX6_from 2 = .ok (.sipush 360, 3) := by decide +kernel
theorem dX6_from_5 : decode cX6_from 5 = .ok (.invokestatic 54, 3) := by decide +kernel
theorem dX6_from_8 : decode cX6_from 8 = .ok (.ifCond .ne 5, 3) := by decide +kernel
theorem dX6_from_11 : decode cX6_from 11 = .ok (.iconst (-1), 1) := by decide +kernel
theorem dX6_from_12 : decode cX6_from 12 = .ok (.ireturn, 1) := by decide +kernel
theorem dX6_from_13 : decode cX6_from 13 = .ok (.bipush (-9), 2) := by decide +kernel
theorem dX6_from_15 : decode cX6_from 15 = .ok (.istore_n 2, 1) := by decide +kernel
theorem dX6_from_16 : decode cX6_from 16 = .ok (.iconst 0, 1) := by decide +kernel
theorem dX6_from_17 : decode cX6_from 17 = .ok (.istore_n 3, 1) := by decide +kernel
theorem dX6_from_18 : decode cX6_from 18 = .ok (.iload_n 3, 1) := by decide +kernel
theorem dX6_from_19 : decode cX6_from 19 = .ok (.iconst 1, 1) := by decide +kernel
theorem dX6_from_20 : decode cX6_from 20 = .ok (.aload_n 0, 1) := by decide +kernel
theorem dX6_from_21 : decode cX6_from 21 = .ok (.getfield 13, 3) := by decide +kernel
theorem dX6_from_24 : decode cX6_from 24 = .ok (.iconst 0, 1) := by decide +kernel
theorem dX6_from_25 : decode cX6_from 25 = .ok (.iaload, 1) := by decide +kernel
theorem dX6_from_26 : decode cX6_from 26 = .ok (.ishl, 1) := by decide +kernel
theorem dX6_from_27 : decode cX6_from 27 = .ok (.if_icmp .ge 53, 3) := by decide +kernel
theorem dX6_from_30 : decode cX6_from 30 = .ok (.iload_n 2, 1) := by decide +kernel
theorem dX6_from_31 : decode cX6_from 31 = .ok (.bipush (-9), 2) := by decide +kernel
theorem dX6_from_33 : decode cX6_from 33 = .ok (.if_icmp .eq 14, 3) := by decide +kernel
theorem dX6_from_36 : decode cX6_from 36 = .ok (.iload_n 3, 1) := by decide +kernel
theorem dX6_from_37 : decode cX6_from 37 = .ok (.invokestatic 142, 3) := by decide +kernel
theorem dX6_from_40 : decode cX6_from 40 = .ok (.iload_n 2, 1) := by decide +kernel
theorem dX6_from_41 : decode cX6_from 41 = .ok (.invokestatic 142, 3) := by decide +kernel
theorem dX6_from_44 : decode cX6_from 44 = .ok (.if_icmp .ge 7, 3) := by decide +kernel
theorem dX6_from_47 : decode cX6_from 47 = .ok (.iconst 1, 1) := by decide +kernel
theorem dX6_from_48 : decode cX6_from 48 = .ok (.goto 4, 3) := by decide +kernel
theorem dX6_from_51 : decode cX6_from 51 = .ok (.iconst 0, 1) := by decide +kernel
theorem dX6_from_52 : decode cX6_from 52 = .ok (.istore 4, 2) := by decide +kernel
theorem dX6_from_54 : decode cX6_from 54 = .ok (.iload 4, 2) := by decide +kernel
theorem dX6_from_56 : decode cX6_from 56 = .ok (.ifCond .eq 16, 3) := by decide +kernel
theorem dX6_from_59 : decode cX6_from 59 = .ok (.aload_n 0, 1) := by decide +kernel
theorem dX6_from_60 : decode cX6_from 60 = .ok (.iload_n 3, 1) := by decide +kernel
theorem dX6_from_61 : decode cX6_from 61 = .ok (.invokevirtual 145, 3) := by decide +kernel
theorem dX6_from_64 : decode cX6_from 64 = .ok (.iload_n 1, 1) := by decide +kernel
theorem dX6_from_65 : decode cX6_from 65 = .ok (.if_icmp .lt 7, 3) := by decide +kernel
theorem dX6_from_68 : decode cX6_from 68 = .ok (.iload_n 3, 1) := by decide +kernel
theorem dX6_from_69 : decode cX6_from 69 = .ok (.goto 4, 3) := by decide +kernel
theorem dX6_from_72 : decode cX6_from 72 = .ok (.iload_n 2, 1) := by decide +kernel
theorem dX6_from_73 : decode cX6_from 73 = .ok (.istore_n 2, 1) := by decide +kernel
theorem dX6_from_74 : decode cX6_from 74 = .ok (.iinc 3 1, 3) := by decide +kernel
theorem dX6_from_77 : decode cX6_from 77 = .ok (.goto (-59), 3) := by decide +kernel
theorem dX6_from_80 : decode cX6_from 80 = .ok (.iload_n 2, 1) := by decide +kernel
theorem dX6_from_81 : decode cX6_from 81 = .ok (.ireturn, 1) := by decide +kernel
theorem dX6_had_0 : decode cX6_had 0 = .ok (.iload_n 1, 1) := by decide +kernel
theorem dX6_had_1 : decode cX6_had 1 = .ok (.iconst 0, 1) := by decide +kernel
theorem dX6_had_2 : decode cX6_had 2 = .ok (.bipush 60, 2) := by decide +kernel
theorem dX6_had_4 : decode cX6_had 4 = .ok (.invokestatic 54, 3) := by decide +kernel
theorem dX6_had_7 : decode cX6_had 7 = .ok (.ifCond .eq 12, 3) := by decide +kernel
theorem dX6_had_10 : decode cX6_had 10 = .ok (.iload_n 2, 1) := by decide +kernel
theorem dX6_had_11 : decode cX6_had 11 = .ok (.iconst 0, 1) := by decide +kernel
theorem dX6_had_12 : decode cX6_had 12 = .ok (.iconst 1, 1) := by decide +kernel
theorem dX6_had_13 : decode cX6_had 13 = .ok (.invokestatic 54, 3) := by decide +kernel
theorem dX6_had_16 : decode cX6_had 16 = .ok (.ifCond .ne 5, 3) := by decide +kernel
theorem dX6_had_19 : decode cX6_had 19 = .ok (.iconst (-1), 1) := by decide +kernel
theorem dX6_had_20 : decode cX6_had 20 = .ok (.ireturn, 1) := by decide +kernel
theorem dX6_had_21 : decode cX6_had 21 = .ok (.bipush (-9), 2) := by decide +kernel
theorem dX6_had_23 : decode cX6_had 23 = .ok (.istore_n 3, 1) := by decide +kernel
theorem dX6_had_24 : decode cX6_had 24 = .ok (.bipush (-9), 2) := by decide +kernel
theorem dX6_had_26 : decode cX6_had 26 = .ok (.istore 4, 2) := by decide +kernel
theorem dX6_had_28 : decode cX6_had 28 = .ok (.iconst 1, 1) := by decide +kernel
theorem dX6_had_29 : decode cX6_had 29 = .ok (.istore 5, 2) := by decide +kernel
theorem dX6_had_31 : decode cX6_had 31 = .ok (.iload 5, 2) := by decide +kernel
theorem dX6_had_33 : decode cX6_had 33 = .ok (.bipush 60, 2) := by decide +kernel
theorem dX6_had_35 : decode cX6_had 35 = .ok (.if_icmp .gt 42, 3) := by decide +kernel
theorem dX6_had_38 : decode cX6_had 38 = .ok (.aload_n 0, 1) := by decide +kernel
theorem dX6_had_39 : decode cX6_had 39 = .ok (.getfield 35, 3) := by decide +kernel
theorem dX6_had_42 : decode cX6_had 42 = .ok (.iconst 1, 1) := by decide +kernel
theorem dX6_had_43 : decode cX6_had 43 = .ok (.iaload, 1) := by decide +kernel
theorem dX6_had_44 : decode cX6_had 44 = .ok (.iload 5, 2) := by decide +kernel
theorem dX6_had_46 : decode cX6_had 46 = .ok (.imul, 1) := by decide +kernel
theorem dX6_had_47 : decode cX6_had 47 = .ok (.bipush 10, 2) := by decide +kernel
theorem dX6_had_49 : decode cX6_had 49 = .ok (.idiv, 1) := by decide +kernel
theorem dX6_had_50 : decode cX6_had 50 = .ok (.iload_n 1, 1) := by decide +kernel
theorem dX6_had_51 : decode cX6_had 51 = .ok (.if_icmp .ne 20, 3) := by decide +kernel
theorem dX6_had_54 : decode cX6_had 54 = .ok (.iload_n 3, 1) := by decide +kernel
theorem dX6_had_55 : decode cX6_had 55 = .ok (.bipush (-9), 2) := by decide +kernel
theorem dX6_had_57 : decode cX6_had 57 = .ok (.if_icmp .ne 8, 3) := by decide +kernel
theorem dX6_had_60 : decode cX6_had 60 = .ok (.iload 5, 2) := by decide +kernel
theorem dX6_had_62 : decode cX6_had 62 = .ok (.goto 4, 3) := by decide +kernel
theorem dX6_had_65 : decode cX6_had 65 = .ok (.iload_n 3, 1) := by decide +kernel
theorem dX6_had_66 : decode cX6_had 66 = .ok (.istore_n 3, 1) := by decide +kernel
theorem dX6_had_67 : decode cX6_had 67 = .ok (.iload 5, 2) := by decide +kernel
theorem dX6_had_69 : decode cX6_had 69 = .ok (.istore 4, 2) := by decide +kernel
theorem dX6_had_71 : decode cX6_had 71 = .ok (.iinc 5 1, 3) := by decide +kernel
theorem dX6_had_74 : decode cX6_had 74 = .ok (.goto (-43), 3) := by decide +kernel
theorem dX6_had_77 : decode cX6_had 77 = .ok (.iload_n 2, 1) := by decide +kernel
theorem dX6_had_78 : decode cX6_had 78 = .ok (.ifCond .ne 7, 3) := by decide +kernel
theorem dX6_had_81 : decode cX6_had 81 = .ok (.iload_n 3, 1) := by decide +kernel
theorem dX6_had_82 : decode cX6_had 82 = .ok (.goto 5, 3) := by decide +kernel
theorem dX6_had_85 : decode cX6_had 85 = .ok (.iload 4, 2) := by decide +kernel
theorem dX6_had_87 : decode cX6_had 87 = .ok (.ireturn, 1) := by decide +kernel
theorem dX6_part_0 : decode cX6_part 0 = .ok (.iload_n 0, 1) := by decide +kernel
theorem dX6_part_1 : decode cX6_part 1 = .ok (.istore_n 3, 1) := by decide +kernel
theorem dX6_part_2 : decode cX6_part 2 = .ok (.iload_n 1, 1) := by decide +kernel
theorem dX6_part_3 : decode cX6_part 3 = .ok (.istore 4, 2) := by decide +kernel
theorem dX6_part_5 : decode cX6_part 5 = .ok (.iload 4, 2) := by decide +kernel
theorem dX6_part_7 : decode cX6_part 7 = .ok (.ifCond .eq 19, 3) := by decide +kernel
theorem dX6_part_10 : decode cX6_part 10 = .ok (.iload_n 3, 1) := by decide +kernel
theorem dX6_part_11 : decode cX6_part 11 = .ok (.iload 4, 2) := by decide +kernel
theorem dX6_part_13 : decode cX6_part 13 = .ok (.irem, 1) := by decide +kernel
theorem dX6_part_14 : decode cX6_part 14 = .ok (.istore 5, 2) := by decide +kernel
theorem dX6_part_16 : decode cX6_part 16 = .ok (.iload 4, 2) := by decide +kernel
theorem dX6_part_18 : decode cX6_part 18 = .ok (.istore_n 3, 1) := by decide +kernel
theorem dX6_part_19 : decode cX6_part 19 = .ok (.iload 5, 2) := by decide +kernel
theorem dX6_part_21 : decode cX6_part 21 = .ok (.istore 4, 2) := by decide +kernel
theorem dX6_part_23 : decode cX6_part 23 = .ok (.goto (-18), 3) := by decide +kernel
theorem dX6_part_26 : decode cX6_part 26 = .ok (.iload_n 2, 1) := by decide +kernel
theorem dX6_part_27 : decode cX6_part 27 = .ok (.ifCond .ne 9, 3) := by decide +kernel
theorem dX6_part_30 : decode cX6_part 30 = .ok (.iload_n 0, 1) := by decide +kernel
theorem dX6_part_31 : decode cX6_part 31 = .ok (.iload_n 3, 1) := by decide +kernel
theorem dX6_part_32 : decode cX6_part 32 = .ok (.idiv, 1) := by decide +kernel
theorem dX6_part_33 : decode cX6_part 33 = .ok (.goto 6, 3) := by decide +kernel
theorem dX6_part_36 : decode cX6_part 36 = .ok (.iload_n 1, 1) := by decide +kernel
theorem dX6_part_37 : decode cX6_part 37 = .ok (.iload_n 3, 1) := by decide +kernel
theorem dX6_part_38 : decode cX6_part 38 = .ok (.idiv, 1) := by decide +kernel
theorem dX6_part_39 : decode cX6_part 39 = .ok (.ireturn, 1) := by decide +kernel
theorem dX6_odds_0 : decode cX6_odds 0 = .ok (.iload_n 1, 1) := by decide +kernel
theorem dX6_odds_1 : decode cX6_odds 1 = .ok (.iconst 0, 1) := by decide +kernel
theorem dX6_odds_2 : decode cX6_odds 2 = .ok (.bipush 10, 2) := by decide +kernel
theorem dX6_odds_4 : decode cX6_odds 4 = .ok (.invokestatic 54, 3) := by decide +kernel
theorem dX6_odds_7 : decode cX6_odds 7 = .ok (.ifCond .eq 23, 3) := by decide +kernel
theorem dX6_odds_10 : decode cX6_odds 10 = .ok (.iload_n 2, 1) := by decide +kernel
theorem dX6_odds_11 : decode cX6_odds 11 = .ok (.iconst 0, 1) := by decide +kernel
theorem dX6_odds_12 : decode cX6_odds 12 = .ok (.sipush 360, 3) := by decide +kernel
theorem dX6_odds_15 : decode cX6_odds 15 = .ok (.invokestatic 54, 3) := by decide +kernel
theorem dX6_odds_18 : decode cX6_odds 18 = .ok (.ifCond .eq 12, 3) := by decide +kernel
theorem dX6_odds_21 : decode cX6_odds 21 = .ok (.iload_n 3, 1) := by decide +kernel
theorem dX6_odds_22 : decode cX6_odds 22 = .ok (.iconst 0, 1) := by decide +kernel
theorem dX6_odds_23 : decode cX6_odds 23 = .ok (.iconst 1, 1) := by decide +kernel
theorem dX6_odds_24 : decode cX6_odds 24 = .ok (.invokestatic 54, 3) := by decide +kernel
theorem dX6_odds_27 : decode cX6_odds 27 = .ok (.ifCond .ne 5, 3) := by decide +kernel
theorem dX6_odds_30 : decode cX6_odds 30 = .ok (.iconst (-1), 1) := by decide +kernel
theorem dX6_odds_31 : decode cX6_odds 31 = .ok (.ireturn, 1) := by decide +kernel
theorem dX6_odds_32 : decode cX6_odds 32 = .ok (.iconst 0, 1) := by decide +kernel
theorem dX6_odds_33 : decode cX6_odds 33 = .ok (.istore 4, 2) := by decide +kernel
theorem dX6_odds_35 : decode cX6_odds 35 = .ok (.iconst 1, 1) := by decide +kernel
theorem dX6_odds_36 : decode cX6_odds 36 = .ok (.istore 5, 2) := by decide +kernel
theorem dX6_odds_38 : decode cX6_odds 38 = .ok (.iconst 0, 1) := by decide +kernel
theorem dX6_odds_39 : decode cX6_odds 39 = .ok (.istore 6, 2) := by decide +kernel
theorem dX6_odds_41 : decode cX6_odds 41 = .ok (.iload 6, 2) := by decide +kernel
theorem dX6_odds_43 : decode cX6_odds 43 = .ok (.aload_n 0, 1) := by decide +kernel
theorem dX6_odds_44 : decode cX6_odds 44 = .ok (.getfield 13, 3) := by decide +kernel
theorem dX6_odds_47 : decode cX6_odds 47 = .ok (.iconst 0, 1) := by decide +kernel
theorem dX6_odds_48 : decode cX6_odds 48 = .ok (.iaload, 1) := by decide +kernel
theorem dX6_odds_49 : decode cX6_odds 49 = .ok (.if_icmp .ge 16, 3) := by decide +kernel
theorem dX6_odds_52 : decode cX6_odds 52 = .ok (.iload 5, 2) := by decide +kernel
theorem dX6_odds_54 : decode cX6_odds 54 = .ok (.bipush 10, 2) := by decide +kernel
theorem dX6_odds_56 : decode cX6_odds 56 = .ok (.imul, 1) := by decide +kernel
theorem dX6_odds_57 : decode cX6_odds 57 = .ok (.istore 5, 2) := by decide +kernel
theorem dX6_odds_59 : decode cX6_odds 59 = .ok (.iinc 6 1, 3) := by decide +kernel
theorem dX6_odds_62 : decode cX6_odds 62 = .ok (.goto (-21), 3) := by decide +kernel
theorem dX6_odds_65 : decode cX6_odds 65 = .ok (.iconst 0, 1) := by decide +kernel
theorem dX6_odds_66 : decode cX6_odds 66 = .ok (.istore 6, 2) := by decide +kernel
theorem dX6_odds_68 : decode cX6_odds 68 = .ok (.iload 6, 2) := by decide +kernel
theorem dX6_odds_70 : decode cX6_odds 70 = .ok (.iconst 1, 1) := by decide +kernel
theorem dX6_odds_71 : decode cX6_odds 71 = .ok (.aload_n 0, 1) := by decide +kernel
theorem dX6_odds_72 : decode cX6_odds 72 = .ok (.getfield 13, 3) := by decide +kernel
theorem dX6_odds_75 : decode cX6_odds 75 = .ok (.iconst 0, 1) := by decide +kernel
theorem dX6_odds_76 : decode cX6_odds 76 = .ok (.iaload, 1) := by decide +kernel
theorem dX6_odds_77 : decode cX6_odds 77 = .ok (.ishl, 1) := by decide +kernel
theorem dX6_odds_78 : decode cX6_odds 78 = .ok (.if_icmp .ge 77, 3) := by decide +kernel
theorem dX6_odds_81 : decode cX6_odds 81 = .ok (.aload_n 0, 1) := by decide +kernel
theorem dX6_odds_82 : decode cX6_odds 82 = .ok (.iload 6, 2) := by decide +kernel
theorem dX6_odds_84 : decode cX6_odds 84 = .ok (.invokevirtual 145, 3) := by decide +kernel
theorem dX6_odds_87 : decode cX6_odds 87 = .ok (.iload_n 2, 1) := by decide +kernel
theorem dX6_odds_88 : decode cX6_odds 88 = .ok (.if_icmp .lt 7, 3) := by decide +kernel
theorem dX6_odds_91 : decode cX6_odds 91 = .ok (.iconst 1, 1) := by decide +kernel
theorem dX6_odds_92 : decode cX6_odds 92 = .ok (.goto 4, 3) := by decide +kernel
theorem dX6_odds_95 : decode cX6_odds 95 = .ok (.iconst 0, 1) := by decide +kernel
theorem dX6_odds_96 : decode cX6_odds 96 = .ok (.istore 7, 2) := by decide +kernel
theorem dX6_odds_98 : decode cX6_odds 98 = .ok (.iconst 0, 1) := by decide +kernel
theorem dX6_odds_99 : decode cX6_odds 99 = .ok (.istore 8, 2) := by decide +kernel
theorem dX6_odds_101 : decode cX6_odds 101 = .ok (.iload 8, 2) := by decide +kernel
theorem dX6_odds_103 : decode cX6_odds 103 = .ok (.aload_n 0, 1) := by decide +kernel
theorem dX6_odds_104 : decode cX6_odds 104 = .ok (.getfield 13, 3) := by decide +kernel
theorem dX6_odds_107 : decode cX6_odds 107 = .ok (.iconst 0, 1) := by decide +kernel
theorem dX6_odds_108 : decode cX6_odds 108 = .ok (.iaload, 1) := by decide +kernel
theorem dX6_odds_109 : decode cX6_odds 109 = .ok (.if_icmp .ge 33, 3) := by decide +kernel
theorem dX6_odds_112 : decode cX6_odds 112 = .ok (.iload 7, 2) := by decide +kernel
theorem dX6_odds_114 : decode cX6_odds 114 = .ok (.iload 6, 2) := by decide +kernel
theorem dX6_odds_116 : decode cX6_odds 116 = .ok (.iload 8, 2) := by decide +kernel
theorem dX6_odds_118 : decode cX6_odds 118 = .ok (.ishr, 1) := by decide +kernel
theorem dX6_odds_119 : decode cX6_odds 119 = .ok (.iconst 1, 1) := by decide +kernel
theorem dX6_odds_120 : decode cX6_odds 120 = .ok (.iand, 1) := by decide +kernel
theorem dX6_odds_121 : decode cX6_odds 121 = .ok (.iconst 1, 1) := by decide +kernel
theorem dX6_odds_122 : decode cX6_odds 122 = .ok (.if_icmp .ne 10, 3) := by decide +kernel
theorem dX6_odds_125 : decode cX6_odds 125 = .ok (.bipush 10, 2) := by decide +kernel
theorem dX6_odds_127 : decode cX6_odds 127 = .ok (.iload_n 1, 1) := by decide +kernel
theorem dX6_odds_128 : decode cX6_odds 128 = .ok (.isub, 1) := by decide +kernel
theorem dX6_odds_129 : decode cX6_odds 129 = .ok (.goto 4, 3) := by decide +kernel
theorem dX6_odds_132 : decode cX6_odds 132 = .ok (.iload_n 1, 1) := by decide +kernel
theorem dX6_odds_133 : decode cX6_odds 133 = .ok (.imul, 1) := by decide +kernel
theorem dX6_odds_134 : decode cX6_odds 134 = .ok (.istore 7, 2) := by decide +kernel
theorem dX6_odds_136 : decode cX6_odds 136 = .ok (.iinc 8 1, 3) := by decide +kernel
theorem dX6_odds_139 : decode cX6_odds 139 = .ok (.goto (-38), 3) := by decide +kernel
theorem dX6_odds_142 : decode cX6_odds 142 = .ok (.iload 4, 2) := by decide +kernel
theorem dX6_odds_144 : decode cX6_odds 144 = .ok (.iload 7, 2) := by decide +kernel
theorem dX6_odds_146 : decode cX6_odds 146 = .ok (.iadd, 1) := by decide +kernel
theorem dX6_odds_147 : decode cX6_odds 147 = .ok (.istore 4, 2) := by decide +kernel
theorem dX6_odds_149 : decode cX6_odds 149 = .ok (.iinc 6 1, 3) := by decide +kernel
theorem dX6_odds_152 : decode cX6_odds 152 = .ok (.goto (-84), 3) := by decide +kernel
theorem dX6_odds_155 : decode cX6_odds 155 = .ok (.iload 4, 2) := by decide +kernel
theorem dX6_odds_157 : decode cX6_odds 157 = .ok (.iload 5, 2) := by decide +kernel
theorem dX6_odds_159 : decode cX6_odds 159 = .ok (.iload_n 3, 1) := by decide +kernel
theorem dX6_odds_160 : decode cX6_odds 160 = .ok (.invokestatic 148, 3) := by decide +kernel
theorem dX6_odds_163 : decode cX6_odds 163 = .ok (.ireturn, 1) := by decide +kernel
theorem dX6_villageHas_0 : decode cX6_villageHas 0 = .ok (.iload_n 0, 1) := by decide +kernel
theorem dX6_villageHas_1 : decode cX6_villageHas 1 = .ok (.ifCond .ne 8, 3) := by decide +kernel
theorem dX6_villageHas_4 : decode cX6_villageHas 4 = .ok (.iload_n 2, 1) := by decide +kernel
theorem dX6_villageHas_5 : decode cX6_villageHas 5 = .ok (.ineg, 1) := by decide +kernel
theorem dX6_villageHas_6 : decode cX6_villageHas 6 = .ok (.goto 15, 3) := by decide +kernel
theorem dX6_villageHas_9 : decode cX6_villageHas 9 = .ok (.iload_n 1, 1) := by decide +kernel
theorem dX6_villageHas_10 : decode cX6_villageHas 10 = .ok (.ifCond .ne 7, 3) := by decide +kernel
theorem dX6_villageHas_13 : decode cX6_villageHas 13 = .ok (.iconst 0, 1) := by decide +kernel
theorem dX6_villageHas_14 : decode cX6_villageHas 14 = .ok (.goto 7, 3) := by decide +kernel
theorem dX6_villageHas_17 : decode cX6_villageHas 17 = .ok (.iload_n 2, 1) := by decide +kernel
theorem dX6_villageHas_18 : decode cX6_villageHas 18 = .ok (.ineg, 1) := by decide +kernel
theorem dX6_villageHas_19 : decode cX6_villageHas 19 = .ok (.iload_n 3, 1) := by decide +kernel
theorem dX6_villageHas_20 : decode cX6_villageHas 20 = .ok (.isub, 1) := by decide +kernel
theorem dX6_villageHas_21 : decode cX6_villageHas 21 = .ok (.ireturn, 1) := by decide +kernel
theorem dX6_buyerHas_0 : decode cX6_buyerHas 0 = .ok (.iload_n 0, 1) := by decide +kernel
theorem dX6_buyerHas_1 : decode cX6_buyerHas 1 = .ok (.ifCond .eq 8, 3) := by decide +kernel
theorem dX6_buyerHas_4 : decode cX6_buyerHas 4 = .ok (.iload_n 1, 1) := by decide +kernel
theorem dX6_buyerHas_5 : decode cX6_buyerHas 5 = .ok (.iconst 1, 1) := by decide +kernel
theorem dX6_buyerHas_6 : decode cX6_buyerHas 6 = .ok (.if_icmp .ne 7, 3) := by decide +kernel
theorem dX6_buyerHas_9 : decode cX6_buyerHas 9 = .ok (.iload_n 2, 1) := by decide +kernel
theorem dX6_buyerHas_10 : decode cX6_buyerHas 10 = .ok (.goto 4, 3) := by decide +kernel
theorem dX6_buyerHas_13 : decode cX6_buyerHas 13 = .ok (.iconst 0, 1) := by decide +kernel
theorem dX6_buyerHas_14 : decode cX6_buyerHas 14 = .ok (.istore 4, 2) := by decide +kernel
theorem dX6_buyerHas_16 : decode cX6_buyerHas 16 = .ok (.iload_n 1, 1) := by decide +kernel
theorem dX6_buyerHas_17 : decode cX6_buyerHas 17 = .ok (.iconst 1, 1) := by decide +kernel
theorem dX6_buyerHas_18 : decode cX6_buyerHas 18 = .ok (.if_icmp .ne 10, 3) := by decide +kernel
theorem dX6_buyerHas_21 : decode cX6_buyerHas 21 = .ok (.iload 4, 2) := by decide +kernel
theorem dX6_buyerHas_23 : decode cX6_buyerHas 23 = .ok (.iload_n 3, 1) := by decide +kernel
theorem dX6_buyerHas_24 : decode cX6_buyerHas 24 = .ok (.isub, 1) := by decide +kernel
theorem dX6_buyerHas_25 : decode cX6_buyerHas 25 = .ok (.goto 5, 3) := by decide +kernel
theorem dX6_buyerHas_28 : decode cX6_buyerHas 28 = .ok (.iload 4, 2) := by decide +kernel
theorem dX6_buyerHas_30 : decode cX6_buyerHas 30 = .ok (.ireturn, 1) := by decide +kernel
theorem dX6_rests_0 : decode cX6_rests 0 = .ok (.iload_n 1, 1) := by decide +kernel
theorem dX6_rests_1 : decode cX6_rests 1 = .ok (.iconst 1, 1) := by decide +kernel
theorem dX6_rests_2 : decode cX6_rests 2 = .ok (.bipush 60, 2) := by decide +kernel
theorem dX6_rests_4 : decode cX6_rests 4 = .ok (.invokestatic 54, 3) := by decide +kernel
theorem dX6_rests_7 : decode cX6_rests 7 = .ok (.ifCond .eq 23, 3) := by decide +kernel
theorem dX6_rests_10 : decode cX6_rests 10 = .ok (.iload_n 2, 1) := by decide +kernel
theorem dX6_rests_11 : decode cX6_rests 11 = .ok (.iconst 0, 1) := by decide +kernel
theorem dX6_rests_12 : decode cX6_rests 12 = .ok (.bipush 60, 2) := by decide +kernel
theorem dX6_rests_14 : decode cX6_rests 14 = .ok (.invokestatic 54, 3) := by decide +kernel
theorem dX6_rests_17 : decode cX6_rests 17 = .ok (.ifCond .eq 13, 3) := by decide +kernel
theorem dX6_rests_20 : decode cX6_rests 20 = .ok (.iload_n 3, 1) := by decide +kernel
theorem dX6_rests_21 : decode cX6_rests 21 = .ok (.iconst 0, 1) := by decide +kernel
theorem dX6_rests_22 : decode cX6_rests 22 = .ok (.bipush 60, 2) := by decide +kernel
theorem dX6_rests_24 : decode cX6_rests 24 = .ok (.invokestatic 54, 3) := by decide +kernel
theorem dX6_rests_27 : decode cX6_rests 27 = .ok (.ifCond .ne 5, 3) := by decide +kernel
theorem dX6_rests_30 : decode cX6_rests 30 = .ok (.iconst (-1), 1) := by decide +kernel
theorem dX6_rests_31 : decode cX6_rests 31 = .ok (.ireturn, 1) := by decide +kernel
theorem dX6_rests_32 : decode cX6_rests 32 = .ok (.iconst 0, 1) := by decide +kernel
theorem dX6_rests_33 : decode cX6_rests 33 = .ok (.istore 4, 2) := by decide +kernel
theorem dX6_rests_35 : decode cX6_rests 35 = .ok (.iconst 0, 1) := by decide +kernel
theorem dX6_rests_36 : decode cX6_rests 36 = .ok (.istore 5, 2) := by decide +kernel
theorem dX6_rests_38 : decode cX6_rests 38 = .ok (.iload 5, 2) := by decide +kernel
theorem dX6_rests_40 : decode cX6_rests 40 = .ok (.iconst 4, 1) := by decide +kernel
theorem dX6_rests_41 : decode cX6_rests 41 = .ok (.if_icmp .ge 92, 3) := by decide +kernel
theorem dX6_rests_44 : decode cX6_rests 44 = .ok (.iload 5, 2) := by decide +kernel
theorem dX6_rests_46 : decode cX6_rests 46 = .ok (.iconst 2, 1) := by decide +kernel
theorem dX6_rests_47 : decode cX6_rests 47 = .ok (.idiv, 1) := by decide +kernel
theorem dX6_rests_48 : decode cX6_rests 48 = .ok (.istore 6, 2) := by decide +kernel
theorem dX6_rests_50 : decode cX6_rests 50 = .ok (.iload 5, 2) := by decide +kernel
theorem dX6_rests_52 : decode cX6_rests 52 = .ok (.iconst 2, 1) := by decide +kernel
theorem dX6_rests_53 : decode cX6_rests 53 = .ok (.irem, 1) := by decide +kernel
theorem dX6_rests_54 : decode cX6_rests 54 = .ok (.istore 7, 2) := by decide +kernel
theorem dX6_rests_56 : decode cX6_rests 56 = .ok (.iload 6, 2) := by decide +kernel
theorem dX6_rests_58 : decode cX6_rests 58 = .ok (.iload 7, 2) := by decide +kernel
theorem dX6_rests_60 : decode cX6_rests 60 = .ok (.iload_n 1, 1) := by decide +kernel
theorem dX6_rests_61 : decode cX6_rests 61 = .ok (.iload_n 3, 1) := by decide +kernel
theorem dX6_rests_62 : decode cX6_rests 62 = .ok (.invokestatic 152, 3) := by decide +kernel
theorem dX6_rests_65 : decode cX6_rests 65 = .ok (.iconst 1, 1) := by decide +kernel
theorem dX6_rests_66 : decode cX6_rests 66 = .ok (.iload 6, 2) := by decide +kernel
theorem dX6_rests_68 : decode cX6_rests 68 = .ok (.isub, 1) := by decide +kernel
theorem dX6_rests_69 : decode cX6_rests 69 = .ok (.iload 7, 2) := by decide +kernel
theorem dX6_rests_71 : decode cX6_rests 71 = .ok (.iload_n 1, 1) := by decide +kernel
theorem dX6_rests_72 : decode cX6_rests 72 = .ok (.iload_n 3, 1) := by decide +kernel
theorem dX6_rests_73 : decode cX6_rests 73 = .ok (.invokestatic 152, 3) := by decide +kernel
theorem dX6_rests_76 : decode cX6_rests 76 = .ok (.if_icmp .lt 30, 3) := by decide +kernel
theorem dX6_rests_79 : decode cX6_rests 79 = .ok (.iload 6, 2) := by decide +kernel
theorem dX6_rests_81 : decode cX6_rests 81 = .ok (.iload 7, 2) := by decide +kernel
theorem dX6_rests_83 : decode cX6_rests 83 = .ok (.iload_n 1, 1) := by decide +kernel
theorem dX6_rests_84 : decode cX6_rests 84 = .ok (.iload_n 2, 1) := by decide +kernel
theorem dX6_rests_85 : decode cX6_rests 85 = .ok (.invokestatic 155, 3) := by decide +kernel
theorem dX6_rests_88 : decode cX6_rests 88 = .ok (.iload 6, 2) := by decide +kernel
theorem dX6_rests_90 : decode cX6_rests 90 = .ok (.iconst 1, 1) := by decide +kernel
theorem dX6_rests_91 : decode cX6_rests 91 = .ok (.iload 7, 2) := by decide +kernel
theorem dX6_rests_93 : decode cX6_rests 93 = .ok (.isub, 1) := by decide +kernel
theorem dX6_rests_94 : decode cX6_rests 94 = .ok (.iload_n 1, 1) := by decide +kernel
theorem dX6_rests_95 : decode cX6_rests 95 = .ok (.iload_n 2, 1) := by decide +kernel
theorem dX6_rests_96 : decode cX6_rests 96 = .ok (.invokestatic 155, 3) := by decide +kernel
theorem dX6_rests_99 : decode cX6_rests 99 = .ok (.if_icmp .lt 7, 3) := by decide +kernel
theorem dX6_rests_102 : decode cX6_rests 102 = .ok (.iconst 1, 1) := by decide +kernel
theorem dX6_rests_103 : decode cX6_rests 103 = .ok (.goto 4, 3) := by decide +kernel
theorem dX6_rests_106 : decode cX6_rests 106 = .ok (.iconst 0, 1) := by decide +kernel
theorem dX6_rests_107 : decode cX6_rests 107 = .ok (.istore 8, 2) := by decide +kernel
theorem dX6_rests_109 : decode cX6_rests 109 = .ok (.iload 4, 2) := by decide +kernel
theorem dX6_rests_111 : decode cX6_rests 111 = .ok (.iload 8, 2) := by decide +kernel
theorem dX6_rests_113 : decode cX6_rests 113 = .ok (.ifCond .eq 10, 3) := by decide +kernel
theorem dX6_rests_116 : decode cX6_rests 116 = .ok (.iconst 1, 1) := by decide +kernel
theorem dX6_rests_117 : decode cX6_rests 117 = .ok (.iload 5, 2) := by decide +kernel
theorem dX6_rests_119 : decode cX6_rests 119 = .ok (.ishl, 1) := by decide +kernel
theorem dX6_rests_120 : decode cX6_rests 120 = .ok (.goto 4, 3) := by decide +kernel
theorem dX6_rests_123 : decode cX6_rests 123 = .ok (.iconst 0, 1) := by decide +kernel
theorem dX6_rests_124 : decode cX6_rests 124 = .ok (.ior, 1) := by decide +kernel
theorem dX6_rests_125 : decode cX6_rests 125 = .ok (.istore 4, 2) := by decide +kernel
theorem dX6_rests_127 : decode cX6_rests 127 = .ok (.iinc 5 1, 3) := by decide +kernel
theorem dX6_rests_130 : decode cX6_rests 130 = .ok (.goto (-92), 3) := by decide +kernel
theorem dX6_rests_133 : decode cX6_rests 133 = .ok (.iload 4, 2) := by decide +kernel
theorem dX6_rests_135 : decode cX6_rests 135 = .ok (.ireturn, 1) := by decide +kernel
theorem dX6_mixed_0 : decode cX6_mixed 0 = .ok (.iload_n 1, 1) := by decide +kernel
theorem dX6_mixed_1 : decode cX6_mixed 1 = .ok (.iconst 1, 1) := by decide +kernel
theorem dX6_mixed_2 : decode cX6_mixed 2 = .ok (.bipush 60, 2) := by decide +kernel
theorem dX6_mixed_4 : decode cX6_mixed 4 = .ok (.invokestatic 54, 3) := by decide +kernel
theorem dX6_mixed_7 : decode cX6_mixed 7 = .ok (.ifCond .eq 22, 3) := by decide +kernel
theorem dX6_mixed_10 : decode cX6_mixed 10 = .ok (.iload_n 2, 1) := by decide +kernel
theorem dX6_mixed_11 : decode cX6_mixed 11 = .ok (.iconst 0, 1) := by decide +kernel
theorem dX6_mixed_12 : decode cX6_mixed 12 = .ok (.bipush 60, 2) := by decide +kernel
theorem dX6_mixed_14 : decode cX6_mixed 14 = .ok (.invokestatic 54, 3) := by decide +kernel
theorem dX6_mixed_17 : decode cX6_mixed 17 = .ok (.ifCond .eq 12, 3) := by decide +kernel
theorem dX6_mixed_20 : decode cX6_mixed 20 = .ok (.iload_n 3, 1) := by decide +kernel
theorem dX6_mixed_21 : decode cX6_mixed 21 = .ok (.iconst 0, 1) := by decide +kernel
theorem dX6_mixed_22 : decode cX6_mixed 22 = .ok (.iconst 1, 1) := by decide +kernel
theorem dX6_mixed_23 : decode cX6_mixed 23 = .ok (.invokestatic 54, 3) := by decide +kernel
theorem dX6_mixed_26 : decode cX6_mixed 26 = .ok (.ifCond .ne 5, 3) := by decide +kernel
theorem dX6_mixed_29 : decode cX6_mixed 29 = .ok (.iconst (-1), 1) := by decide +kernel
theorem dX6_mixed_30 : decode cX6_mixed 30 = .ok (.ireturn, 1) := by decide +kernel
theorem dX6_mixed_31 : decode cX6_mixed 31 = .ok (.iload_n 1, 1) := by decide +kernel
theorem dX6_mixed_32 : decode cX6_mixed 32 = .ok (.iload_n 1, 1) := by decide +kernel
theorem dX6_mixed_33 : decode cX6_mixed 33 = .ok (.iload_n 2, 1) := by decide +kernel
theorem dX6_mixed_34 : decode cX6_mixed 34 = .ok (.iadd, 1) := by decide +kernel
theorem dX6_mixed_35 : decode cX6_mixed 35 = .ok (.iload_n 3, 1) := by decide +kernel
theorem dX6_mixed_36 : decode cX6_mixed 36 = .ok (.invokestatic 148, 3) := by decide +kernel
theorem dX6_mixed_39 : decode cX6_mixed 39 = .ok (.ireturn, 1) := by decide +kernel
theorem dX6_leastOf_0 : decode cX6_leastOf 0 = .ok (.iconst 0, 1) := by decide +kernel
theorem dX6_leastOf_1 : decode cX6_leastOf 1 = .ok (.istore_n 2, 1) := by decide +kernel
theorem dX6_leastOf_2 : decode cX6_leastOf 2 = .ok (.bipush (-9), 2) := by decide +kernel
theorem dX6_leastOf_4 : decode cX6_leastOf 4 = .ok (.istore_n 3, 1) := by decide +kernel
theorem dX6_leastOf_5 : decode cX6_leastOf 5 = .ok (.iconst 0, 1) := by decide +kernel
theorem dX6_leastOf_6 : decode cX6_leastOf 6 = .ok (.istore 4, 2) := by decide +kernel
theorem dX6_leastOf_8 : decode cX6_leastOf 8 = .ok (.iload 4, 2) := by decide +kernel
theorem dX6_leastOf_10 : decode cX6_leastOf 10 = .ok (.iload_n 1, 1) := by decide +kernel
theorem dX6_leastOf_11 : decode cX6_leastOf 11 = .ok (.if_icmp .ge 151, 3) := by decide +kernel
theorem dX6_leastOf_14 : decode cX6_leastOf 14 = .ok (.aload_n 0, 1) := by decide +kernel
theorem dX6_leastOf_15 : decode cX6_leastOf 15 = .ok (.getfield 45, 3) := by decide +kernel
theorem dX6_leastOf_18 : decode cX6_leastOf 18 = .ok (.iload 4, 2) := by decide +kernel
theorem dX6_leastOf_20 : decode cX6_leastOf 20 = .ok (.iaload, 1) := by decide +kernel
theorem dX6_leastOf_21 : decode cX6_leastOf 21 = .ok (.istore 5, 2) := by decide +kernel
theorem dX6_leastOf_23 : decode cX6_leastOf 23 = .ok (.aload_n 0, 1) := by decide +kernel
theorem dX6_leastOf_24 : decode cX6_leastOf 24 = .ok (.getfield 45, 3) := by decide +kernel
theorem dX6_leastOf_27 : decode cX6_leastOf 27 = .ok (.iload 4, 2) := by decide +kernel
theorem dX6_leastOf_29 : decode cX6_leastOf 29 = .ok (.iconst 1, 1) := by decide +kernel
theorem dX6_leastOf_30 : decode cX6_leastOf 30 = .ok (.iadd, 1) := by decide +kernel
theorem dX6_leastOf_31 : decode cX6_leastOf 31 = .ok (.iload_n 1, 1) := by decide +kernel
theorem dX6_leastOf_32 : decode cX6_leastOf 32 = .ok (.if_icmp .ge 10, 3) := by decide +kernel
theorem dX6_leastOf_35 : decode cX6_leastOf 35 = .ok (.iload 4, 2) := by decide +kernel
theorem dX6_leastOf_37 : decode cX6_leastOf 37 = .ok (.iconst 1, 1) := by decide +kernel
theorem dX6_leastOf_38 : decode cX6_leastOf 38 = .ok (.iadd, 1) := by decide +kernel
theorem dX6_leastOf_39 : decode cX6_leastOf 39 = .ok (.goto 4, 3) := by decide +kernel
theorem dX6_leastOf_42 : decode cX6_leastOf 42 = .ok (.iconst 0, 1) := by decide +kernel
theorem dX6_leastOf_43 : decode cX6_leastOf 43 = .ok (.iaload, 1) := by decide +kernel
theorem dX6_leastOf_44 : decode cX6_leastOf 44 = .ok (.istore 6, 2) := by decide +kernel
theorem dX6_leastOf_46 : decode cX6_leastOf 46 = .ok (.iload 5, 2) := by decide +kernel
theorem dX6_leastOf_48 : decode cX6_leastOf 48 = .ok (.aload_n 0, 1) := by decide +kernel
theorem dX6_leastOf_49 : decode cX6_leastOf 49 = .ok (.getfield 13, 3) := by decide +kernel
theorem dX6_leastOf_52 : decode cX6_leastOf 52 = .ok (.iconst 0, 1) := by decide +kernel
theorem dX6_leastOf_53 : decode cX6_leastOf 53 = .ok (.iaload, 1) := by decide +kernel
theorem dX6_leastOf_54 : decode cX6_leastOf 54 = .ok (.if_icmp .ge 51, 3) := by decide +kernel
theorem dX6_leastOf_57 : decode cX6_leastOf 57 = .ok (.iload 6, 2) := by decide +kernel
theorem dX6_leastOf_59 : decode cX6_leastOf 59 = .ok (.aload_n 0, 1) := by decide +kernel
theorem dX6_leastOf_60 : decode cX6_leastOf 60 = .ok (.getfield 13, 3) := by decide +kernel
theorem dX6_leastOf_63 : decode cX6_leastOf 63 = .ok (.iconst 0, 1) := by decide +kernel
theorem dX6_leastOf_64 : decode cX6_leastOf 64 = .ok (.iaload, 1) := by decide +kernel
theorem dX6_leastOf_65 : decode cX6_leastOf 65 = .ok (.if_icmp .ge 40, 3) := by decide +kernel
theorem dX6_leastOf_68 : decode cX6_leastOf 68 = .ok (.iload 5, 2) := by decide +kernel
theorem dX6_leastOf_70 : decode cX6_leastOf 70 = .ok (.aload_n 0, 1) := by decide +kernel
theorem dX6_leastOf_71 : decode cX6_leastOf 71 = .ok (.getfield 45, 3) := by decide +kernel
theorem dX6_leastOf_74 : decode cX6_leastOf 74 = .ok (.iconst 0, 1) := by decide +kernel
theorem dX6_leastOf_75 : decode cX6_leastOf 75 = .ok (.iaload, 1) := by decide +kernel
theorem dX6_leastOf_76 : decode cX6_leastOf 76 = .ok (.if_icmp .lt 29, 3) := by decide +kernel
theorem dX6_leastOf_79 : decode cX6_leastOf 79 = .ok (.iload_n 2, 1) := by decide +kernel
theorem dX6_leastOf_80 : decode cX6_leastOf 80 = .ok (.iload 5, 2) := by decide +kernel
theorem dX6_leastOf_82 : decode cX6_leastOf 82 = .ok (.ishr, 1) := by decide +kernel
theorem dX6_leastOf_83 : decode cX6_leastOf 83 = .ok (.iconst 1, 1) := by decide +kernel
theorem dX6_leastOf_84 : decode cX6_leastOf 84 = .ok (.iand, 1) := by decide +kernel
theorem dX6_leastOf_85 : decode cX6_leastOf 85 = .ok (.iconst 1, 1) := by decide +kernel
theorem dX6_leastOf_86 : decode cX6_leastOf 86 = .ok (.if_icmp .eq 19, 3) := by decide +kernel
theorem dX6_leastOf_89 : decode cX6_leastOf 89 = .ok (.aload_n 0, 1) := by decide +kernel
theorem dX6_leastOf_90 : decode cX6_leastOf 90 = .ok (.getfield 32, 3) := by decide +kernel
theorem dX6_leastOf_93 : decode cX6_leastOf 93 = .ok (.bipush 6, 2) := by decide +kernel
theorem dX6_leastOf_95 : decode cX6_leastOf 95 = .ok (.iload 5, 2) := by decide +kernel
theorem dX6_leastOf_97 : decode cX6_leastOf 97 = .ok (.imul, 1) := by decide +kernel
theorem dX6_leastOf_98 : decode cX6_leastOf 98 = .ok (.iload 6, 2) := by decide +kernel
theorem dX6_leastOf_100 : decode cX6_leastOf 100 = .ok (.iadd, 1) := by decide +kernel
theorem dX6_leastOf_101 : decode cX6_leastOf 101 = .ok (.iaload, 1) := by decide +kernel
theorem dX6_leastOf_102 : decode cX6_leastOf 102 = .ok (.ifCond .ne 6, 3) := by decide +kernel
theorem dX6_leastOf_105 : decode cX6_leastOf 105 = .ok (.bipush (-9), 2) := by decide +kernel
theorem dX6_leastOf_107 : decode cX6_leastOf 107 = .ok (.ireturn, 1) := by decide +kernel
theorem dX6_leastOf_108 : decode cX6_leastOf 108 = .ok (.iload_n 2, 1) := by decide +kernel
theorem dX6_leastOf_109 : decode cX6_leastOf 109 = .ok (.iconst 1, 1) := by decide +kernel
theorem dX6_leastOf_110 : decode cX6_leastOf 110 = .ok (.iload 5, 2) := by decide +kernel
theorem dX6_leastOf_112 : decode cX6_leastOf 112 = .ok (.ishl, 1) := by decide +kernel
theorem dX6_leastOf_113 : decode cX6_leastOf 113 = .ok (.ior, 1) := by decide +kernel
theorem dX6_leastOf_114 : decode cX6_leastOf 114 = .ok (.istore_n 2, 1) := by decide +kernel
theorem dX6_leastOf_115 : decode cX6_leastOf 115 = .ok (.iload_n 3, 1) := by decide +kernel
theorem dX6_leastOf_116 : decode cX6_leastOf 116 = .ok (.bipush (-9), 2) := by decide +kernel
theorem dX6_leastOf_118 : decode cX6_leastOf 118 = .ok (.if_icmp .eq 20, 3) := by decide +kernel
theorem dX6_leastOf_121 : decode cX6_leastOf 121 = .ok (.aload_n 0, 1) := by decide +kernel
theorem dX6_leastOf_122 : decode cX6_leastOf 122 = .ok (.getfield 32, 3) := by decide +kernel
theorem dX6_leastOf_125 : decode cX6_leastOf 125 = .ok (.bipush 6, 2) := by decide +kernel
theorem dX6_leastOf_127 : decode cX6_leastOf 127 = .ok (.iload 5, 2) := by decide +kernel
theorem dX6_leastOf_129 : decode cX6_leastOf 129 = .ok (.imul, 1) := by decide +kernel
theorem dX6_leastOf_130 : decode cX6_leastOf 130 = .ok (.iload 6, 2) := by decide +kernel
theorem dX6_leastOf_132 : decode cX6_leastOf 132 = .ok (.iadd, 1) := by decide +kernel
theorem dX6_leastOf_133 : decode cX6_leastOf 133 = .ok (.iaload, 1) := by decide +kernel
theorem dX6_leastOf_134 : decode cX6_leastOf 134 = .ok (.iload_n 3, 1) := by decide +kernel
theorem dX6_leastOf_135 : decode cX6_leastOf 135 = .ok (.if_icmp .ge 19, 3) := by decide +kernel
theorem dX6_leastOf_138 : decode cX6_leastOf 138 = .ok (.aload_n 0, 1) := by decide +kernel
theorem dX6_leastOf_139 : decode cX6_leastOf 139 = .ok (.getfield 32, 3) := by decide +kernel
theorem dX6_leastOf_142 : decode cX6_leastOf 142 = .ok (.bipush 6, 2) := by decide +kernel
theorem dX6_leastOf_144 : decode cX6_leastOf 144 = .ok (.iload 5, 2) := by decide +kernel
theorem dX6_leastOf_146 : decode cX6_leastOf 146 = .ok (.imul, 1) := by decide +kernel
theorem dX6_leastOf_147 : decode cX6_leastOf 147 = .ok (.iload 6, 2) := by decide +kernel
theorem dX6_leastOf_149 : decode cX6_leastOf 149 = .ok (.iadd, 1) := by decide +kernel
theorem dX6_leastOf_150 : decode cX6_leastOf 150 = .ok (.iaload, 1) := by decide +kernel
theorem dX6_leastOf_151 : decode cX6_leastOf 151 = .ok (.goto 4, 3) := by decide +kernel
theorem dX6_leastOf_154 : decode cX6_leastOf 154 = .ok (.iload_n 3, 1) := by decide +kernel
theorem dX6_leastOf_155 : decode cX6_leastOf 155 = .ok (.istore_n 3, 1) := by decide +kernel
theorem dX6_leastOf_156 : decode cX6_leastOf 156 = .ok (.iinc 4 1, 3) := by decide +kernel
theorem dX6_leastOf_159 : decode cX6_leastOf 159 = .ok (.goto (-151), 3) := by decide +kernel
theorem dX6_leastOf_162 : decode cX6_leastOf 162 = .ok (.iload_n 3, 1) := by decide +kernel
theorem dX6_leastOf_163 : decode cX6_leastOf 163 = .ok (.ireturn, 1) := by decide +kernel
theorem dX6_ring_0 : decode cX6_ring 0 = .ok (.iload_n 1, 1) := by decide +kernel
theorem dX6_ring_1 : decode cX6_ring 1 = .ok (.bipush (-2), 2) := by decide +kernel
theorem dX6_ring_3 : decode cX6_ring 3 = .ok (.iconst 5, 1) := by decide +kernel
theorem dX6_ring_4 : decode cX6_ring 4 = .ok (.invokestatic 54, 3) := by decide +kernel
theorem dX6_ring_7 : decode cX6_ring 7 = .ok (.ifCond .ne 5, 3) := by decide +kernel
theorem dX6_ring_10 : decode cX6_ring 10 = .ok (.iconst (-1), 1) := by decide +kernel
theorem dX6_ring_11 : decode cX6_ring 11 = .ok (.ireturn, 1) := by decide +kernel
theorem dX6_ring_12 : decode cX6_ring 12 = .ok (.bipush 36, 2) := by decide +kernel
theorem dX6_ring_14 : decode cX6_ring 14 = .ok (.istore_n 2, 1) := by decide +kernel
theorem dX6_ring_15 : decode cX6_ring 15 = .ok (.iconst 2, 1) := by decide +kernel
theorem dX6_ring_16 : decode cX6_ring 16 = .ok (.istore_n 3, 1) := by decide +kernel
theorem dX6_ring_17 : decode cX6_ring 17 = .ok (.iload_n 3, 1) := by decide +kernel
theorem dX6_ring_18 : decode cX6_ring 18 = .ok (.aload_n 0, 1) := by decide +kernel
theorem dX6_ring_19 : decode cX6_ring 19 = .ok (.getfield 13, 3) := by decide +kernel
theorem dX6_ring_22 : decode cX6_ring 22 = .ok (.iconst 0, 1) := by decide +kernel
theorem dX6_ring_23 : decode cX6_ring 23 = .ok (.iaload, 1) := by decide +kernel
theorem dX6_ring_24 : decode cX6_ring 24 = .ok (.if_icmp .gt 87, 3) := by decide +kernel
theorem dX6_ring_27 : decode cX6_ring 27 = .ok (.iconst 0, 1) := by decide +kernel
theorem dX6_ring_28 : decode cX6_ring 28 = .ok (.istore 4, 2) := by decide +kernel
theorem dX6_ring_30 : decode cX6_ring 30 = .ok (.iload 4, 2) := by decide +kernel
theorem dX6_ring_32 : decode cX6_ring 32 = .ok (.iload_n 2, 1) := by decide +kernel
theorem dX6_ring_33 : decode cX6_ring 33 = .ok (.if_icmp .ge 67, 3) := by decide +kernel
theorem dX6_ring_36 : decode cX6_ring 36 = .ok (.aload_n 0, 1) := by decide +kernel
theorem dX6_ring_37 : decode cX6_ring 37 = .ok (.iload 4, 2) := by decide +kernel
theorem dX6_ring_39 : decode cX6_ring 39 = .ok (.iload_n 3, 1) := by decide +kernel
theorem dX6_ring_40 : decode cX6_ring 40 = .ok (.invokevirtual 126, 3) := by decide +kernel
theorem dX6_ring_43 : decode cX6_ring 43 = .ok (.aload_n 0, 1) := by decide +kernel
theorem dX6_ring_44 : decode cX6_ring 44 = .ok (.iload_n 3, 1) := by decide +kernel
theorem dX6_ring_45 : decode cX6_ring 45 = .ok (.invokevirtual 158, 3) := by decide +kernel
theorem dX6_ring_48 : decode cX6_ring 48 = .ok (.istore 5, 2) := by decide +kernel
theorem dX6_ring_50 : decode cX6_ring 50 = .ok (.iload 5, 2) := by decide +kernel
theorem dX6_ring_52 : decode cX6_ring 52 = .ok (.bipush (-9), 2) := by decide +kernel
theorem dX6_ring_54 : decode cX6_ring 54 = .ok (.if_icmp .eq 40, 3) := by decide +kernel
theorem dX6_ring_57 : decode cX6_ring 57 = .ok (.iload_n 1, 1) := by decide +kernel
theorem dX6_ring_58 : decode cX6_ring 58 = .ok (.iconst (-1), 1) := by decide +kernel
theorem dX6_ring_59 : decode cX6_ring 59 = .ok (.if_icmp .ne 7, 3) := by decide +kernel
theorem dX6_ring_62 : decode cX6_ring 62 = .ok (.iload_n 3, 1) := by decide +kernel
theorem dX6_ring_63 : decode cX6_ring 63 = .ok (.goto 30, 3) := by decide +kernel
theorem dX6_ring_66 : decode cX6_ring 66 = .ok (.iload_n 1, 1) := by decide +kernel
theorem dX6_ring_67 : decode cX6_ring 67 = .ok (.bipush (-2), 2) := by decide +kernel
theorem dX6_ring_69 : decode cX6_ring 69 = .ok (.if_icmp .ne 8, 3) := by decide +kernel
theorem dX6_ring_72 : decode cX6_ring 72 = .ok (.iload 5, 2) := by decide +kernel
theorem dX6_ring_74 : decode cX6_ring 74 = .ok (.goto 19, 3) := by decide +kernel
theorem dX6_ring_77 : decode cX6_ring 77 = .ok (.iload_n 1, 1) := by decide +kernel
theorem dX6_ring_78 : decode cX6_ring 78 = .ok (.iload_n 3, 1) := by decide +kernel
theorem dX6_ring_79 : decode cX6_ring 79 = .ok (.if_icmp .ge 12, 3) := by decide +kernel
theorem dX6_ring_82 : decode cX6_ring 82 = .ok (.aload_n 0, 1) := by decide +kernel
theorem dX6_ring_83 : decode cX6_ring 83 = .ok (.getfield 45, 3) := by decide +kernel
theorem dX6_ring_86 : decode cX6_ring 86 = .ok (.iload_n 1, 1) := by decide +kernel
theorem dX6_ring_87 : decode cX6_ring 87 = .ok (.iaload, 1) := by decide +kernel
theorem dX6_ring_88 : decode cX6_ring 88 = .ok (.goto 5, 3) := by decide +kernel
theorem dX6_ring_91 : decode cX6_ring 91 = .ok (.bipush (-9), 2) := by decide +kernel
theorem dX6_ring_93 : decode cX6_ring 93 = .ok (.ireturn, 1) := by decide +kernel
theorem dX6_ring_94 : decode cX6_ring 94 = .ok (.iinc 4 1, 3) := by decide +kernel
theorem dX6_ring_97 : decode cX6_ring 97 = .ok (.goto (-67), 3) := by decide +kernel
theorem dX6_ring_100 : decode cX6_ring 100 = .ok (.iload_n 2, 1) := by decide +kernel
theorem dX6_ring_101 : decode cX6_ring 101 = .ok (.bipush 6, 2) := by decide +kernel
theorem dX6_ring_103 : decode cX6_ring 103 = .ok (.imul, 1) := by decide +kernel
theorem dX6_ring_104 : decode cX6_ring 104 = .ok (.istore_n 2, 1) := by decide +kernel
theorem dX6_ring_105 : decode cX6_ring 105 = .ok (.iinc 3 1, 3) := by decide +kernel
theorem dX6_ring_108 : decode cX6_ring 108 = .ok (.goto (-91), 3) := by decide +kernel
theorem dX6_ring_111 : decode cX6_ring 111 = .ok (.bipush (-9), 2) := by decide +kernel
theorem dX6_ring_113 : decode cX6_ring 113 = .ok (.ireturn, 1) := by decide +kernel
theorem dX6_net_0 : decode cX6_net 0 = .ok (.aload_n 0, 1) := by decide +kernel
theorem dX6_net_1 : decode cX6_net 1 = .ok (.iload_n 1, 1) := by decide +kernel
theorem dX6_net_2 : decode cX6_net 2 = .ok (.invokevirtual 107, 3) := by decide +kernel
theorem dX6_net_5 : decode cX6_net 5 = .ok (.ifCond .ne 6, 3) := by decide +kernel
theorem dX6_net_8 : decode cX6_net 8 = .ok (.ldc 161, 2) := by decide +kernel
theorem dX6_net_10 : decode cX6_net 10 = .ok (.ireturn, 1) := by decide +kernel
theorem dX6_net_11 : decode cX6_net 11 = .ok (.iconst 0, 1) := by decide +kernel
theorem dX6_net_12 : decode cX6_net 12 = .ok (.istore_n 2, 1) := by decide +kernel
theorem dX6_net_13 : decode cX6_net 13 = .ok (.iconst 0, 1) := by decide +kernel
theorem dX6_net_14 : decode cX6_net 14 = .ok (.istore_n 3, 1) := by decide +kernel
theorem dX6_net_15 : decode cX6_net 15 = .ok (.iload_n 3, 1) := by decide +kernel
theorem dX6_net_16 : decode cX6_net 16 = .ok (.aload_n 0, 1) := by decide +kernel
theorem dX6_net_17 : decode cX6_net 17 = .ok (.getfield 13, 3) := by decide +kernel
theorem dX6_net_20 : decode cX6_net 20 = .ok (.iconst 0, 1) := by decide +kernel
theorem dX6_net_21 : decode cX6_net 21 = .ok (.iaload, 1) := by decide +kernel
theorem dX6_net_22 : decode cX6_net 22 = .ok (.if_icmp .ge 35, 3) := by decide +kernel
theorem dX6_net_25 : decode cX6_net 25 = .ok (.iload_n 2, 1) := by decide +kernel
theorem dX6_net_26 : decode cX6_net 26 = .ok (.aload_n 0, 1) := by decide +kernel
theorem dX6_net_27 : decode cX6_net 27 = .ok (.getfield 32, 3) := by decide +kernel
theorem dX6_net_30 : decode cX6_net 30 = .ok (.bipush 6, 2) := by decide +kernel
theorem dX6_net_32 : decode cX6_net 32 = .ok (.iload_n 3, 1) := by decide +kernel
theorem dX6_net_33 : decode cX6_net 33 = .ok (.imul, 1) := by decide +kernel
theorem dX6_net_34 : decode cX6_net 34 = .ok (.iload_n 1, 1) := by decide +kernel
theorem dX6_net_35 : decode cX6_net 35 = .ok (.iadd, 1) := by decide +kernel
theorem dX6_net_36 : decode cX6_net 36 = .ok (.iaload, 1) := by decide +kernel
theorem dX6_net_37 : decode cX6_net 37 = .ok (.aload_n 0, 1) := by decide +kernel
theorem dX6_net_38 : decode cX6_net 38 = .ok (.getfield 32, 3) := by decide +kernel
theorem dX6_net_41 : decode cX6_net 41 = .ok (.bipush 6, 2) := by decide +kernel
theorem dX6_net_43 : decode cX6_net 43 = .ok (.iload_n 1, 1) := by decide +kernel
theorem dX6_net_44 : decode cX6_net 44 = .ok (.imul, 1) := by decide +kernel
theorem dX6_net_45 : decode cX6_net 45 = .ok (.iload_n 3, 1) := by decide +kernel
theorem dX6_net_46 : decode cX6_net 46 = .ok (.iadd, 1) := by decide +kernel
theorem dX6_net_47 : decode cX6_net 47 = .ok (.iaload, 1) := by decide +kernel
theorem dX6_net_48 : decode cX6_net 48 = .ok (.isub, 1) := by decide +kernel
theorem dX6_net_49 : decode cX6_net 49 = .ok (.iadd, 1) := by decide +kernel
theorem dX6_net_50 : decode cX6_net 50 = .ok (.istore_n 2, 1) := by decide +kernel
theorem dX6_net_51 : decode cX6_net 51 = .ok (.iinc 3 1, 3) := by decide +kernel
theorem dX6_net_54 : decode cX6_net 54 = .ok (.goto (-39), 3) := by decide +kernel
theorem dX6_net_57 : decode cX6_net 57 = .ok (.iload_n 2, 1) := by decide +kernel
theorem dX6_net_58 : decode cX6_net 58 = .ok (.ireturn, 1) := by decide +kernel
theorem dX6_mark_0 : decode cX6_mark 0 = .ok (.iload_n 1, 1) := by decide +kernel
theorem dX6_mark_1 : decode cX6_mark 1 = .ok (.iconst 0, 1) := by decide +kernel
theorem dX6_mark_2 : decode cX6_mark 2 = .ok (.iconst 5, 1) := by decide +kernel
theorem dX6_mark_3 : decode cX6_mark 3 = .ok (.invokestatic 54, 3) := by decide +kernel
theorem dX6_mark_6 : decode cX6_mark 6 = .ok (.ifCond .eq 11, 3) := by decide +kernel
theorem dX6_mark_9 : decode cX6_mark 9 = .ok (.aload_n 0, 1) := by decide +kernel
theorem dX6_mark_10 : decode cX6_mark 10 = .ok (.iload_n 2, 1) := by decide +kernel
theorem dX6_mark_11 : decode cX6_mark 11 = .ok (.invokevirtual 107, 3) := by decide +kernel
theorem dX6_mark_14 : decode cX6_mark 14 = .ok (.ifCond .ne 6, 3) := by decide +kernel
theorem dX6_mark_17 : decode cX6_mark 17 = .ok (.ldc 161, 2) := by decide +kernel
theorem dX6_mark_19 : decode cX6_mark 19 = .ok (.ireturn, 1) := by decide +kernel
theorem dX6_mark_20 : decode cX6_mark 20 = .ok (.aload_n 0, 1) := by decide +kernel
theorem dX6_mark_21 : decode cX6_mark 21 = .ok (.getfield 38, 3) := by decide +kernel
theorem dX6_mark_24 : decode cX6_mark 24 = .ok (.iconst 4, 1) := by decide +kernel
theorem dX6_mark_25 : decode cX6_mark 25 = .ok (.iload_n 2, 1) := by decide +kernel
theorem dX6_mark_26 : decode cX6_mark 26 = .ok (.iadd, 1) := by decide +kernel
theorem dX6_mark_27 : decode cX6_mark 27 = .ok (.iaload, 1) := by decide +kernel
theorem dX6_mark_28 : decode cX6_mark 28 = .ok (.aload_n 0, 1) := by decide +kernel
theorem dX6_mark_29 : decode cX6_mark 29 = .ok (.getfield 38, 3) := by decide +kernel
theorem dX6_mark_32 : decode cX6_mark 32 = .ok (.bipush 10, 2) := by decide +kernel
theorem dX6_mark_34 : decode cX6_mark 34 = .ok (.iload_n 2, 1) := by decide +kernel
theorem dX6_mark_35 : decode cX6_mark 35 = .ok (.iadd, 1) := by decide +kernel
theorem dX6_mark_36 : decode cX6_mark 36 = .ok (.iaload, 1) := by decide +kernel
theorem dX6_mark_37 : decode cX6_mark 37 = .ok (.iadd, 1) := by decide +kernel
theorem dX6_mark_38 : decode cX6_mark 38 = .ok (.istore_n 3, 1) := by decide +kernel
theorem dX6_mark_39 : decode cX6_mark 39 = .ok (.aload_n 0, 1) := by decide +kernel
theorem dX6_mark_40 : decode cX6_mark 40 = .ok (.getfield 38, 3) := by decide +kernel
theorem dX6_mark_43 : decode cX6_mark 43 = .ok (.iconst 4, 1) := by decide +kernel
theorem dX6_mark_44 : decode cX6_mark 44 = .ok (.iload_n 2, 1) := by decide +kernel
theorem dX6_mark_45 : decode cX6_mark 45 = .ok (.iadd, 1) := by decide +kernel
theorem dX6_mark_46 : decode cX6_mark 46 = .ok (.iaload, 1) := by decide +kernel
theorem dX6_mark_47 : decode cX6_mark 47 = .ok (.aload_n 0, 1) := by decide +kernel
theorem dX6_mark_48 : decode cX6_mark 48 = .ok (.getfield 20, 3) := by decide +kernel
theorem dX6_mark_51 : decode cX6_mark 51 = .ok (.iload_n 2, 1) := by decide +kernel
theorem dX6_mark_52 : decode cX6_mark 52 = .ok (.iaload, 1) := by decide +kernel
theorem dX6_mark_53 : decode cX6_mark 53 = .ok (.isub, 1) := by decide +kernel
theorem dX6_mark_54 : decode cX6_mark 54 = .ok (.istore 4, 2) := by decide +kernel
theorem dX6_mark_56 : decode cX6_mark 56 = .ok (.iload_n 1, 1) := by decide +kernel
theorem dX6_mark_57 : decode cX6_mark 57 = .ok (.tableswitch 124 0 4 #[35, 54, 68, 83, 99], 35) := by decide +kernel
theorem dX6_mark_92 : decode cX6_mark 92 = .ok (.aload_n 0, 1) := by decide +kernel
theorem dX6_mark_93 : decode cX6_mark 93 = .ok (.dup, 1) := by decide +kernel
theorem dX6_mark_94 : decode cX6_mark 94 = .ok (.getfield 162, 3) := by decide +kernel
theorem dX6_mark_97 : decode cX6_mark 97 = .ok (.lconst 1, 1) := by decide +kernel
theorem dX6_mark_98 : decode cX6_mark 98 = .ok (.ladd, 1) := by decide +kernel
theorem dX6_mark_99 : decode cX6_mark 99 = .ok (.putfield 162, 3) := by decide +kernel
theorem dX6_mark_102 : decode cX6_mark 102 = .ok (.aload_n 0, 1) := by decide +kernel
theorem dX6_mark_103 : decode cX6_mark 103 = .ok (.getfield 38, 3) := by decide +kernel
theorem dX6_mark_106 : decode cX6_mark 106 = .ok (.iconst 4, 1) := by decide +kernel
theorem dX6_mark_107 : decode cX6_mark 107 = .ok (.iload_n 2, 1) := by decide +kernel
theorem dX6_mark_108 : decode cX6_mark 108 = .ok (.iadd, 1) := by decide +kernel
theorem dX6_mark_109 : decode cX6_mark 109 = .ok (.iaload, 1) := by decide +kernel
theorem dX6_mark_110 : decode cX6_mark 110 = .ok (.ireturn, 1) := by decide +kernel
theorem dX6_mark_111 : decode cX6_mark 111 = .ok (.aload_n 0, 1) := by decide +kernel
theorem dX6_mark_112 : decode cX6_mark 112 = .ok (.dup, 1) := by decide +kernel
theorem dX6_mark_113 : decode cX6_mark 113 = .ok (.getfield 162, 3) := by decide +kernel
theorem dX6_mark_116 : decode cX6_mark 116 = .ok (.ldc2_w 166, 3) := by decide +kernel
theorem dX6_mark_119 : decode cX6_mark 119 = .ok (.ladd, 1) := by decide +kernel
theorem dX6_mark_120 : decode cX6_mark 120 = .ok (.putfield 162, 3) := by decide +kernel
theorem dX6_mark_123 : decode cX6_mark 123 = .ok (.iload_n 3, 1) := by decide +kernel
theorem dX6_mark_124 : decode cX6_mark 124 = .ok (.ireturn, 1) := by decide +kernel
theorem dX6_mark_125 : decode cX6_mark 125 = .ok (.aload_n 0, 1) := by decide +kernel
theorem dX6_mark_126 : decode cX6_mark 126 = .ok (.dup, 1) := by decide +kernel
theorem dX6_mark_127 : decode cX6_mark 127 = .ok (.getfield 162, 3) := by decide +kernel
theorem dX6_mark_130 : decode cX6_mark 130 = .ok (.ldc2_w 168, 3) := by decide +kernel
theorem dX6_mark_133 : decode cX6_mark 133 = .ok (.ladd, 1) := by decide +kernel
theorem dX6_mark_134 : decode cX6_mark 134 = .ok (.putfield 162, 3) := by decide +kernel
theorem dX6_mark_137 : decode cX6_mark 137 = .ok (.iload 4, 2) := by decide +kernel
theorem dX6_mark_139 : decode cX6_mark 139 = .ok (.ireturn, 1) := by decide +kernel
theorem dX6_mark_140 : decode cX6_mark 140 = .ok (.aload_n 0, 1) := by decide +kernel
theorem dX6_mark_141 : decode cX6_mark 141 = .ok (.dup, 1) := by decide +kernel
theorem dX6_mark_142 : decode cX6_mark 142 = .ok (.getfield 162, 3) := by decide +kernel
theorem dX6_mark_145 : decode cX6_mark 145 = .ok (.ldc2_w 170, 3) := by decide +kernel
theorem dX6_mark_148 : decode cX6_mark 148 = .ok (.ladd, 1) := by decide +kernel
theorem dX6_mark_149 : decode cX6_mark 149 = .ok (.putfield 162, 3) := by decide +kernel
theorem dX6_mark_152 : decode cX6_mark 152 = .ok (.iconst 2, 1) := by decide +kernel
theorem dX6_mark_153 : decode cX6_mark 153 = .ok (.iload_n 3, 1) := by decide +kernel
theorem dX6_mark_154 : decode cX6_mark 154 = .ok (.imul, 1) := by decide +kernel
theorem dX6_mark_155 : decode cX6_mark 155 = .ok (.ireturn, 1) := by decide +kernel
theorem dX6_mark_156 : decode cX6_mark 156 = .ok (.aload_n 0, 1) := by decide +kernel
theorem dX6_mark_157 : decode cX6_mark 157 = .ok (.dup, 1) := by decide +kernel
theorem dX6_mark_158 : decode cX6_mark 158 = .ok (.getfield 162, 3) := by decide +kernel
theorem dX6_mark_161 : decode cX6_mark 161 = .ok (.ldc2_w 172, 3) := by decide +kernel
theorem dX6_mark_164 : decode cX6_mark 164 = .ok (.ladd, 1) := by decide +kernel
theorem dX6_mark_165 : decode cX6_mark 165 = .ok (.putfield 162, 3) := by decide +kernel
theorem dX6_mark_168 : decode cX6_mark 168 = .ok (.iload 4, 2) := by decide +kernel
theorem dX6_mark_170 : decode cX6_mark 170 = .ok (.aload_n 0, 1) := by decide +kernel
theorem dX6_mark_171 : decode cX6_mark 171 = .ok (.getfield 38, 3) := by decide +kernel
theorem dX6_mark_174 : decode cX6_mark 174 = .ok (.bipush 22, 2) := by decide +kernel
theorem dX6_mark_176 : decode cX6_mark 176 = .ok (.iload_n 2, 1) := by decide +kernel
theorem dX6_mark_177 : decode cX6_mark 177 = .ok (.iadd, 1) := by decide +kernel
theorem dX6_mark_178 : decode cX6_mark 178 = .ok (.iaload, 1) := by decide +kernel
theorem dX6_mark_179 : decode cX6_mark 179 = .ok (.iadd, 1) := by decide +kernel
theorem dX6_mark_180 : decode cX6_mark 180 = .ok (.ireturn, 1) := by decide +kernel
theorem dX6_mark_181 : decode cX6_mark 181 = .ok (.aload_n 0, 1) := by decide +kernel
theorem dX6_mark_182 : decode cX6_mark 182 = .ok (.dup, 1) := by decide +kernel
theorem dX6_mark_183 : decode cX6_mark 183 = .ok (.getfield 162, 3) := by decide +kernel
theorem dX6_mark_186 : decode cX6_mark 186 = .ok (.ldc2_w 174, 3) := by decide +kernel
theorem dX6_mark_189 : decode cX6_mark 189 = .ok (.ladd, 1) := by decide +kernel
theorem dX6_mark_190 : decode cX6_mark 190 = .ok (.putfield 162, 3) := by decide +kernel
theorem dX6_mark_193 : decode cX6_mark 193 = .ok (.aload_n 0, 1) := by decide +kernel
theorem dX6_mark_194 : decode cX6_mark 194 = .ok (.getfield 38, 3) := by decide +kernel
theorem dX6_mark_197 : decode cX6_mark 197 = .ok (.iconst 4, 1) := by decide +kernel
theorem dX6_mark_198 : decode cX6_mark 198 = .ok (.iload_n 2, 1) := by decide +kernel
theorem dX6_mark_199 : decode cX6_mark 199 = .ok (.iadd, 1) := by decide +kernel
theorem dX6_mark_200 : decode cX6_mark 200 = .ok (.iaload, 1) := by decide +kernel
theorem dX6_mark_201 : decode cX6_mark 201 = .ok (.aload_n 0, 1) := by decide +kernel
theorem dX6_mark_202 : decode cX6_mark 202 = .ok (.getfield 38, 3) := by decide +kernel
theorem dX6_mark_205 : decode cX6_mark 205 = .ok (.bipush 16, 2) := by decide +kernel
theorem dX6_mark_207 : decode cX6_mark 207 = .ok (.iload_n 2, 1) := by decide +kernel
theorem dX6_mark_208 : decode cX6_mark 208 = .ok (.iadd, 1) := by decide +kernel
theorem dX6_mark_209 : decode cX6_mark 209 = .ok (.iaload, 1) := by decide +kernel
theorem dX6_mark_210 : decode cX6_mark 210 = .ok (.iadd, 1) := by decide +kernel
theorem dX6_mark_211 : decode cX6_mark 211 = .ok (.ireturn, 1) := by decide +kernel
theorem dX6_keep_0 : decode cX6_keep 0 = .ok (.iload_n 1, 1) := by decide +kernel
theorem dX6_keep_1 : decode cX6_keep 1 = .ok (.iconst 0, 1) := by decide +kernel
theorem dX6_keep_2 : decode cX6_keep 2 = .ok (.iconst 1, 1) := by decide +kernel
theorem dX6_keep_3 : decode cX6_keep 3 = .ok (.invokestatic 54, 3) := by decide +kernel
theorem dX6_keep_6 : decode cX6_keep 6 = .ok (.ifCond .ne 5, 3) := by decide +kernel
theorem dX6_keep_9 : decode cX6_keep 9 = .ok (.iconst (-1), 1) := by decide +kernel
theorem dX6_keep_10 : decode cX6_keep 10 = .ok (.ireturn, 1) := by decide +kernel
theorem dX6_keep_11 : decode cX6_keep 11 = .ok (.iconst 0, 1) := by decide +kernel
theorem dX6_keep_12 : decode cX6_keep 12 = .ok (.istore_n 2, 1) := by decide +kernel
theorem dX6_keep_13 : decode cX6_keep 13 = .ok (.iload_n 2, 1) := by decide +kernel
theorem dX6_keep_14 : decode cX6_keep 14 = .ok (.sipush 309, 3) := by decide +kernel
theorem dX6_keep_17 : decode cX6_keep 17 = .ok (.if_icmp .ge 29, 3) := by decide +kernel
theorem dX6_keep_20 : decode cX6_keep 20 = .ok (.aload_n 0, 1) := by decide +kernel
theorem dX6_keep_21 : decode cX6_keep 21 = .ok (.getfield 38, 3) := by decide +kernel
theorem dX6_keep_24 : decode cX6_keep 24 = .ok (.sipush 309, 3) := by decide +kernel
theorem dX6_keep_27 : decode cX6_keep 27 = .ok (.iconst 1, 1) := by decide +kernel
theorem dX6_keep_28 : decode cX6_keep 28 = .ok (.iload_n 1, 1) := by decide +kernel
theorem dX6_keep_29 : decode cX6_keep 29 = .ok (.iadd, 1) := by decide +kernel
theorem dX6_keep_30 : decode cX6_keep 30 = .ok (.imul, 1) := by decide +kernel
theorem dX6_keep_31 : decode cX6_keep 31 = .ok (.iload_n 2, 1) := by decide +kernel
theorem dX6_keep_32 : decode cX6_keep 32 = .ok (.iadd, 1) := by decide +kernel
theorem dX6_keep_33 : decode cX6_keep 33 = .ok (.aload_n 0, 1) := by decide +kernel
theorem dX6_keep_34 : decode cX6_keep 34 = .ok (.getfield 38, 3) := by decide +kernel
theorem dX6_keep_37 : decode cX6_keep 37 = .ok (.iload_n 2, 1) := by decide +kernel
theorem dX6_keep_38 : decode cX6_keep 38 = .ok (.iaload, 1) := by decide +kernel
theorem dX6_keep_39 : decode cX6_keep 39 = .ok (.iastore, 1) := by decide +kernel
theorem dX6_keep_40 : decode cX6_keep 40 = .ok (.iinc 2 1, 3) := by decide +kernel
theorem dX6_keep_43 : decode cX6_keep 43 = .ok (.goto (-30), 3) := by decide +kernel
theorem dX6_keep_46 : decode cX6_keep 46 = .ok (.aload_n 0, 1) := by decide +kernel
theorem dX6_keep_47 : decode cX6_keep 47 = .ok (.getfield 41, 3) := by decide +kernel
theorem dX6_keep_50 : decode cX6_keep 50 = .ok (.iload_n 1, 1) := by decide +kernel
theorem dX6_keep_51 : decode cX6_keep 51 = .ok (.iconst 1, 1) := by decide +kernel
theorem dX6_keep_52 : decode cX6_keep 52 = .ok (.bastore, 1) := by decide +kernel
theorem dX6_keep_53 : decode cX6_keep 53 = .ok (.aload_n 0, 1) := by decide +kernel
theorem dX6_keep_54 : decode cX6_keep 54 = .ok (.getfield 38, 3) := by decide +kernel
theorem dX6_keep_57 : decode cX6_keep 57 = .ok (.iconst 1, 1) := by decide +kernel
theorem dX6_keep_58 : decode cX6_keep 58 = .ok (.iaload, 1) := by decide +kernel
theorem dX6_keep_59 : decode cX6_keep 59 = .ok (.ireturn, 1) := by decide +kernel
theorem dX6_back_0 : decode cX6_back 0 = .ok (.iload_n 1, 1) := by decide +kernel
theorem dX6_back_1 : decode cX6_back 1 = .ok (.iconst 0, 1) := by decide +kernel
theorem dX6_back_2 : decode cX6_back 2 = .ok (.iconst 1, 1) := by decide +kernel
theorem dX6_back_3 : decode cX6_back 3 = .ok (.invokestatic 54, 3) := by decide +kernel
theorem dX6_back_6 : decode cX6_back 6 = .ok (.ifCond .ne 5, 3) := by decide +kernel
theorem dX6_back_9 : decode cX6_back 9 = .ok (.iconst (-1), 1) := by decide +kernel
theorem dX6_back_10 : decode cX6_back 10 = .ok (.ireturn, 1) := by decide +kernel
theorem dX6_back_11 : decode cX6_back 11 = .ok (.aload_n 0, 1) := by decide +kernel
theorem dX6_back_12 : decode cX6_back 12 = .ok (.getfield 41, 3) := by decide +kernel
theorem dX6_back_15 : decode cX6_back 15 = .ok (.iload_n 1, 1) := by decide +kernel
theorem dX6_back_16 : decode cX6_back 16 = .ok (.baload, 1) := by decide +kernel
theorem dX6_back_17 : decode cX6_back 17 = .ok (.ifCond .ne 6, 3) := by decide +kernel
theorem dX6_back_20 : decode cX6_back 20 = .ok (.bipush (-2), 2) := by decide +kernel
theorem dX6_back_22 : decode cX6_back 22 = .ok (.ireturn, 1) := by decide +kernel
theorem dX6_back_23 : decode cX6_back 23 = .ok (.iconst 0, 1) := by decide +kernel
theorem dX6_back_24 : decode cX6_back 24 = .ok (.istore_n 2, 1) := by decide +kernel
theorem dX6_back_25 : decode cX6_back 25 = .ok (.iload_n 2, 1) := by decide +kernel
theorem dX6_back_26 : decode cX6_back 26 = .ok (.sipush 309, 3) := by decide +kernel
theorem dX6_back_29 : decode cX6_back 29 = .ok (.if_icmp .ge 29, 3) := by decide +kernel
theorem dX6_back_32 : decode cX6_back 32 = .ok (.aload_n 0, 1) := by decide +kernel
theorem dX6_back_33 : decode cX6_back 33 = .ok (.getfield 38, 3) := by decide +kernel
theorem dX6_back_36 : decode cX6_back 36 = .ok (.iload_n 2, 1) := by decide +kernel
theorem dX6_back_37 : decode cX6_back 37 = .ok (.aload_n 0, 1) := by decide +kernel
theorem dX6_back_38 : decode cX6_back 38 = .ok (.getfield 38, 3) := by decide +kernel
theorem dX6_back_41 : decode cX6_back 41 = .ok (.sipush 309, 3) := by decide +kernel
theorem dX6_back_44 : decode cX6_back 44 = .ok (.iconst 1, 1) := by decide +kernel
theorem dX6_back_45 : decode cX6_back 45 = .ok (.iload_n 1, 1) := by decide +kernel
theorem dX6_back_46 : decode cX6_back 46 = .ok (.iadd, 1) := by decide +kernel
theorem dX6_back_47 : decode cX6_back 47 = .ok (.imul, 1) := by decide +kernel
theorem dX6_back_48 : decode cX6_back 48 = .ok (.iload_n 2, 1) := by decide +kernel
theorem dX6_back_49 : decode cX6_back 49 = .ok (.iadd, 1) := by decide +kernel
theorem dX6_back_50 : decode cX6_back 50 = .ok (.iaload, 1) := by decide +kernel
theorem dX6_back_51 : decode cX6_back 51 = .ok (.iastore, 1) := by decide +kernel
theorem dX6_back_52 : decode cX6_back 52 = .ok (.iinc 2 1, 3) := by decide +kernel
theorem dX6_back_55 : decode cX6_back 55 = .ok (.goto (-30), 3) := by decide +kernel
theorem dX6_back_58 : decode cX6_back 58 = .ok (.aload_n 0, 1) := by decide +kernel
theorem dX6_back_59 : decode cX6_back 59 = .ok (.getfield 38, 3) := by decide +kernel
theorem dX6_back_62 : decode cX6_back 62 = .ok (.iconst 1, 1) := by decide +kernel
theorem dX6_back_63 : decode cX6_back 63 = .ok (.iaload, 1) := by decide +kernel
theorem dX6_back_64 : decode cX6_back 64 = .ok (.ireturn, 1) := by decide +kernel
theorem dX6_count_0 : decode cX6_count 0 = .ok (.iload_n 1, 1) := by decide +kernel
theorem dX6_count_1 : decode cX6_count 1 = .ok (.tableswitch 75 0 5 #[39, 46, 53, 53, 62, 70], 39) := by decide +kernel
theorem dX6_count_40 : decode cX6_count 40 = .ok (.aload_n 0, 1) := by decide +kernel
theorem dX6_count_41 : decode cX6_count 41 = .ok (.getfield 13, 3) := by decide +kernel
theorem dX6_count_44 : decode cX6_count 44 = .ok (.iconst 0, 1) := by decide +kernel
theorem dX6_count_45 : decode cX6_count 45 = .ok (.iaload, 1) := by decide +kernel
theorem dX6_count_46 : decode cX6_count 46 = .ok (.ireturn, 1) := by decide +kernel
theorem dX6_count_47 : decode cX6_count 47 = .ok (.aload_n 0, 1) := by decide +kernel
theorem dX6_count_48 : decode cX6_count 48 = .ok (.getfield 26, 3) := by decide +kernel
theorem dX6_count_51 : decode cX6_count 51 = .ok (.iconst 0, 1) := by decide +kernel
theorem dX6_count_52 : decode cX6_count 52 = .ok (.iaload, 1) := by decide +kernel
theorem dX6_count_53 : decode cX6_count 53 = .ok (.ireturn, 1) := by decide +kernel
theorem dX6_count_54 : decode cX6_count 54 = .ok (.aload_n 0, 1) := by decide +kernel
theorem dX6_count_55 : decode cX6_count 55 = .ok (.getfield 35, 3) := by decide +kernel
theorem dX6_count_58 : decode cX6_count 58 = .ok (.iload_n 1, 1) := by decide +kernel
theorem dX6_count_59 : decode cX6_count 59 = .ok (.iconst 2, 1) := by decide +kernel
theorem dX6_count_60 : decode cX6_count 60 = .ok (.isub, 1) := by decide +kernel
theorem dX6_count_61 : decode cX6_count 61 = .ok (.iaload, 1) := by decide +kernel
theorem dX6_count_62 : decode cX6_count 62 = .ok (.ireturn, 1) := by decide +kernel
theorem dX6_count_63 : decode cX6_count 63 = .ok (.aload_n 0, 1) := by decide +kernel
theorem dX6_count_64 : decode cX6_count 64 = .ok (.getfield 38, 3) := by decide +kernel
theorem dX6_count_67 : decode cX6_count 67 = .ok (.bipush 28, 2) := by decide +kernel
theorem dX6_count_69 : decode cX6_count 69 = .ok (.iaload, 1) := by decide +kernel
theorem dX6_count_70 : decode cX6_count 70 = .ok (.ireturn, 1) := by decide +kernel
theorem dX6_count_71 : decode cX6_count 71 = .ok (.aload_n 0, 1) := by decide +kernel
theorem dX6_count_72 : decode cX6_count 72 = .ok (.getfield 58, 3) := by decide +kernel
theorem dX6_count_75 : decode cX6_count 75 = .ok (.ireturn, 1) := by decide +kernel
theorem dX6_count_76 : decode cX6_count 76 = .ok (.iconst (-1), 1) := by decide +kernel
theorem dX6_count_77 : decode cX6_count 77 = .ok (.ireturn, 1) := by decide +kernel
theorem dX6_trace_0 : decode cX6_trace 0 = .ok (.aload_n 0, 1) := by decide +kernel
theorem dX6_trace_1 : decode cX6_trace 1 = .ok (.getfield 162, 3) := by decide +kernel
theorem dX6_trace_4 : decode cX6_trace 4 = .ok (.lreturn, 1) := by decide +kernel
end
section
theorem dL_law_0 : decode cL_law 0 = .ok (.new 7, 3) := by decide +kernel
theorem dL_law_3 : decode cL_law 3 = .ok (.dup, 1) := by decide +kernel
theorem dL_law_4 : decode cL_law 4 = .ok (.invokespecial 9, 3) := by decide +kernel
theorem dL_law_7 : decode cL_law 7 = .ok (.astore_n 1, 1) := by decide +kernel
theorem dL_law_8 : decode cL_law 8 = .ok (.new 10, 3) := by decide +kernel
theorem dL_law_11 : decode cL_law 11 = .ok (.dup, 1) := by decide +kernel
theorem dL_law_12 : decode cL_law 12 = .ok (.invokespecial 12, 3) := by decide +kernel
theorem dL_law_15 : decode cL_law 15 = .ok (.astore_n 2, 1) := by decide +kernel
theorem dL_law_16 : decode cL_law 16 = .ok (.iconst 0, 1) := by decide +kernel
theorem dL_law_17 : decode cL_law 17 = .ok (.istore_n 3, 1) := by decide +kernel
theorem dL_law_18 : decode cL_law 18 = .ok (.iload_n 3, 1) := by decide +kernel
theorem dL_law_19 : decode cL_law 19 = .ok (.aload_n 0, 1) := by decide +kernel
theorem dL_law_20 : decode cL_law 20 = .ok (.arraylength, 1) := by decide +kernel
theorem dL_law_21 : decode cL_law 21 = .ok (.iconst 4, 1) := by decide +kernel
theorem dL_law_22 : decode cL_law 22 = .ok (.isub, 1) := by decide +kernel
theorem dL_law_23 : decode cL_law 23 = .ok (.if_icmp .gt 888, 3) := by decide +kernel
theorem dL_law_26 : decode cL_law 26 = .ok (.aload_n 0, 1) := by decide +kernel
theorem dL_law_27 : decode cL_law 27 = .ok (.iload_n 3, 1) := by decide +kernel
theorem dL_law_28 : decode cL_law 28 = .ok (.iaload, 1) := by decide +kernel
theorem dL_law_29 : decode cL_law 29 = .ok (.bipush 31, 2) := by decide +kernel
theorem dL_law_31 : decode cL_law 31 = .ok (.iand, 1) := by decide +kernel
theorem dL_law_32 : decode cL_law 32 = .ok (.tableswitch 873 0 27 #[128, 151, 164, 177, 210, 243, 276, 299, 312, 335, 368, 401, 424, 457, 470, 493, 526, 549, 582, 625, 668, 711, 734, 757, 790, 813, 836, 859], 128) := by decide +kernel
theorem dL_law_160 : decode cL_law 160 = .ok (.aload_n 1, 1) := by decide +kernel
theorem dL_law_161 : decode cL_law 161 = .ok (.aload_n 0, 1) := by decide +kernel
theorem dL_law_162 : decode cL_law 162 = .ok (.iload_n 3, 1) := by decide +kernel
theorem dL_law_163 : decode cL_law 163 = .ok (.iconst 1, 1) := by decide +kernel
theorem dL_law_164 : decode cL_law 164 = .ok (.iadd, 1) := by decide +kernel
theorem dL_law_165 : decode cL_law 165 = .ok (.iaload, 1) := by decide +kernel
theorem dL_law_166 : decode cL_law 166 = .ok (.invokevirtual 13, 3) := by decide +kernel
theorem dL_law_169 : decode cL_law 169 = .ok (.aload_n 2, 1) := by decide +kernel
theorem dL_law_170 : decode cL_law 170 = .ok (.aload_n 0, 1) := by decide +kernel
theorem dL_law_171 : decode cL_law 171 = .ok (.iload_n 3, 1) := by decide +kernel
theorem dL_law_172 : decode cL_law 172 = .ok (.iconst 1, 1) := by decide +kernel
theorem dL_law_173 : decode cL_law 173 = .ok (.iadd, 1) := by decide +kernel
theorem dL_law_174 : decode cL_law 174 = .ok (.iaload, 1) := by decide +kernel
theorem dL_law_175 : decode cL_law 175 = .ok (.invokevirtual 17, 3) := by decide +kernel
theorem dL_law_178 : decode cL_law 178 = .ok (.if_icmp .eq 727, 3) := by decide +kernel
theorem dL_law_181 : decode cL_law 181 = .ok (.iconst 0, 1) := by decide +kernel
theorem dL_law_182 : decode cL_law 182 = .ok (.ireturn, 1) := by decide +kernel
theorem dL_law_183 : decode cL_law 183 = .ok (.aload_n 1, 1) := by decide +kernel
theorem dL_law_184 : decode cL_law 184 = .ok (.invokevirtual 18, 3) := by decide +kernel
theorem dL_law_187 : decode cL_law 187 = .ok (.aload_n 2, 1) := by decide +kernel
theorem dL_law_188 : decode cL_law 188 = .ok (.invokevirtual 22, 3) := by decide +kernel
theorem dL_law_191 : decode cL_law 191 = .ok (.if_icmp .eq 714, 3) := by decide +kernel
theorem dL_law_194 : decode cL_law 194 = .ok (.iconst 0, 1) := by decide +kernel
theorem dL_law_195 : decode cL_law 195 = .ok (.ireturn, 1) := by decide +kernel
theorem dL_law_196 : decode cL_law 196 = .ok (.aload_n 1, 1) := by decide +kernel
theorem dL_law_197 : decode cL_law 197 = .ok (.invokevirtual 23, 3) := by decide +kernel
theorem dL_law_200 : decode cL_law 200 = .ok (.aload_n 2, 1) := by decide +kernel
theorem dL_law_201 : decode cL_law 201 = .ok (.invokevirtual 26, 3) := by decide +kernel
theorem dL_law_204 : decode cL_law 204 = .ok (.if_icmp .eq 701, 3) := by decide +kernel
theorem dL_law_207 : decode cL_law 207 = .ok (.iconst 0, 1) := by decide +kernel
theorem dL_law_208 : decode cL_law 208 = .ok (.ireturn, 1) := by decide +kernel
theorem dL_law_209 : decode cL_law 209 = .ok (.aload_n 1, 1) := by decide +kernel
theorem dL_law_210 : decode cL_law 210 = .ok (.aload_n 0, 1) := by decide +kernel
theorem dL_law_211 : decode cL_law 211 = .ok (.iload_n 3, 1) := by decide +kernel
theorem dL_law_212 : decode cL_law 212 = .ok (.iconst 1, 1) := by decide +kernel
theorem dL_law_213 : decode cL_law 213 = .ok (.iadd, 1) := by decide +kernel
theorem dL_law_214 : decode cL_law 214 = .ok (.iaload, 1) := by decide +kernel
theorem dL_law_215 : decode cL_law 215 = .ok (.aload_n 0, 1) := by decide +kernel
theorem dL_law_216 : decode cL_law 216 = .ok (.iload_n 3, 1) := by decide +kernel
theorem dL_law_217 : decode cL_law 217 = .ok (.iconst 2, 1) := by decide +kernel
theorem dL_law_218 : decode cL_law 218 = .ok (.iadd, 1) := by decide +kernel
theorem dL_law_219 : decode cL_law 219 = .ok (.iaload, 1) := by decide +kernel
theorem dL_law_220 : decode cL_law 220 = .ok (.invokevirtual 27, 3) := by decide +kernel
theorem dL_law_223 : decode cL_law 223 = .ok (.aload_n 2, 1) := by decide +kernel
theorem dL_law_224 : decode cL_law 224 = .ok (.aload_n 0, 1) := by decide +kernel
theorem dL_law_225 : decode cL_law 225 = .ok (.iload_n 3, 1) := by decide +kernel
theorem dL_law_226 : decode cL_law 226 = .ok (.iconst 1, 1) := by decide +kernel
theorem dL_law_227 : decode cL_law 227 = .ok (.iadd, 1) := by decide +kernel
theorem dL_law_228 : decode cL_law 228 = .ok (.iaload, 1) := by decide +kernel
theorem dL_law_229 : decode cL_law 229 = .ok (.aload_n 0, 1) := by decide +kernel
theorem dL_law_230 : decode cL_law 230 = .ok (.iload_n 3, 1) := by decide +kernel
theorem dL_law_231 : decode cL_law 231 = .ok (.iconst 2, 1) := by decide +kernel
theorem dL_law_232 : decode cL_law 232 = .ok (.iadd, 1) := by decide +kernel
theorem dL_law_233 : decode cL_law 233 = .ok (.iaload, 1) := by decide +kernel
theorem dL_law_234 : decode cL_law 234 = .ok (.invokevirtual 31, 3) := by decide +kernel
theorem dL_law_237 : decode cL_law 237 = .ok (.if_icmp .eq 668, 3) := by decide +kernel
theorem dL_law_240 : decode cL_law 240 = .ok (.iconst 0, 1) := by decide +kernel
theorem dL_law_241 : decode cL_law 241 = .ok (.ireturn, 1) := by decide +kernel
theorem dL_law_242 : decode cL_law 242 = .ok (.aload_n 1, 1) := by decide +kernel
theorem dL_law_243 : decode cL_law 243 = .ok (.aload_n 0, 1) := by decide +kernel
theorem dL_law_244 : decode cL_law 244 = .ok (.iload_n 3, 1) := by decide +kernel
theorem dL_law_245 : decode cL_law 245 = .ok (.iconst 1, 1) := by decide +kernel
theorem dL_law_246 : decode cL_law 246 = .ok (.iadd, 1) := by decide +kernel
theorem dL_law_247 : decode cL_law 247 = .ok (.iaload, 1) := by decide +kernel
theorem dL_law_248 : decode cL_law 248 = .ok (.aload_n 0, 1) := by decide +kernel
theorem dL_law_249 : decode cL_law 249 = .ok (.iload_n 3, 1) := by decide +kernel
theorem dL_law_250 : decode cL_law 250 = .ok (.iconst 2, 1) := by decide +kernel
theorem dL_law_251 : decode cL_law 251 = .ok (.iadd, 1) := by decide +kernel
theorem dL_law_252 : decode cL_law 252 = .ok (.iaload, 1) := by decide +kernel
theorem dL_law_253 : decode cL_law 253 = .ok (.invokevirtual 32, 3) := by decide +kernel
theorem dL_law_256 : decode cL_law 256 = .ok (.aload_n 2, 1) := by decide +kernel
theorem dL_law_257 : decode cL_law 257 = .ok (.aload_n 0, 1) := by decide +kernel
theorem dL_law_258 : decode cL_law 258 = .ok (.iload_n 3, 1) := by decide +kernel
theorem dL_law_259 : decode cL_law 259 = .ok (.iconst 1, 1) := by decide +kernel
theorem dL_law_260 : decode cL_law 260 = .ok (.iadd, 1) := by decide +kernel
theorem dL_law_261 : decode cL_law 261 = .ok (.iaload, 1) := by decide +kernel
theorem dL_law_262 : decode cL_law 262 = .ok (.aload_n 0, 1) := by decide +kernel
theorem dL_law_263 : decode cL_law 263 = .ok (.iload_n 3, 1) := by decide +kernel
theorem dL_law_264 : decode cL_law 264 = .ok (.iconst 2, 1) := by decide +kernel
theorem dL_law_265 : decode cL_law 265 = .ok (.iadd, 1) := by decide +kernel
theorem dL_law_266 : decode cL_law 266 = .ok (.iaload, 1) := by decide +kernel
theorem dL_law_267 : decode cL_law 267 = .ok (.invokevirtual 35, 3) := by decide +kernel
theorem dL_law_270 : decode cL_law 270 = .ok (.if_icmp .eq 635, 3) := by decide +kernel
theorem dL_law_273 : decode cL_law 273 = .ok (.iconst 0, 1) := by decide +kernel
theorem dL_law_274 : decode cL_law 274 = .ok (.ireturn, 1) := by decide +kernel
theorem dL_law_275 : decode cL_law 275 = .ok (.aload_n 1, 1) := by decide +kernel
theorem dL_law_276 : decode cL_law 276 = .ok (.aload_n 0, 1) := by decide +kernel
theorem dL_law_277 : decode cL_law 277 = .ok (.iload_n 3, 1) := by decide +kernel
theorem dL_law_278 : decode cL_law 278 = .ok (.iconst 1, 1) := by decide +kernel
theorem dL_law_279 : decode cL_law 279 = .ok (.iadd, 1) := by decide +kernel
theorem dL_law_280 : decode cL_law 280 = .ok (.iaload, 1) := by decide +kernel
theorem dL_law_281 : decode cL_law 281 = .ok (.aload_n 0, 1) := by decide +kernel
theorem dL_law_282 : decode cL_law 282 = .ok (.iload_n 3, 1) := by decide +kernel
theorem dL_law_283 : decode cL_law 283 = .ok (.iconst 2, 1) := by decide +kernel
theorem dL_law_284 : decode cL_law 284 = .ok (.iadd, 1) := by decide +kernel
theorem dL_law_285 : decode cL_law 285 = .ok (.iaload, 1) := by decide +kernel
theorem dL_law_286 : decode cL_law 286 = .ok (.invokevirtual 36, 3) := by decide +kernel
theorem dL_law_289 : decode cL_law 289 = .ok (.aload_n 2, 1) := by decide +kernel
theorem dL_law_290 : decode cL_law 290 = .ok (.aload_n 0, 1) := by decide +kernel
theorem dL_law_291 : decode cL_law 291 = .ok (.iload_n 3, 1) := by decide +kernel
theorem dL_law_292 : decode cL_law 292 = .ok (.iconst 1, 1) := by decide +kernel
theorem dL_law_293 : decode cL_law 293 = .ok (.iadd, 1) := by decide +kernel
theorem dL_law_294 : decode cL_law 294 = .ok (.iaload, 1) := by decide +kernel
theorem dL_law_295 : decode cL_law 295 = .ok (.aload_n 0, 1) := by decide +kernel
theorem dL_law_296 : decode cL_law 296 = .ok (.iload_n 3, 1) := by decide +kernel
theorem dL_law_297 : decode cL_law 297 = .ok (.iconst 2, 1) := by decide +kernel
theorem dL_law_298 : decode cL_law 298 = .ok (.iadd, 1) := by decide +kernel
theorem dL_law_299 : decode cL_law 299 = .ok (.iaload, 1) := by decide +kernel
theorem dL_law_300 : decode cL_law 300 = .ok (.invokevirtual 39, 3) := by decide +kernel
theorem dL_law_303 : decode cL_law 303 = .ok (.if_icmp .eq 602, 3) := by decide +kernel
theorem dL_law_306 : decode cL_law 306 = .ok (.iconst 0, 1) := by decide +kernel
theorem dL_law_307 : decode cL_law 307 = .ok (.ireturn, 1) := by decide +kernel
theorem dL_law_308 : decode cL_law 308 = .ok (.aload_n 1, 1) := by decide +kernel
theorem dL_law_309 : decode cL_law 309 = .ok (.aload_n 0, 1) := by decide +kernel
theorem dL_law_310 : decode cL_law 310 = .ok (.iload_n 3, 1) := by decide +kernel
theorem dL_law_311 : decode cL_law 311 = .ok (.iconst 1, 1) := by decide +kernel
theorem dL_law_312 : decode cL_law 312 = .ok (.iadd, 1) := by decide +kernel
theorem dL_law_313 : decode cL_law 313 = .ok (.iaload, 1) := by decide +kernel
theorem dL_law_314 : decode cL_law 314 = .ok (.invokevirtual 40, 3) := by decide +kernel
theorem dL_law_317 : decode cL_law 317 = .ok (.aload_n 2, 1) := by decide +kernel
theorem dL_law_318 : decode cL_law 318 = .ok (.aload_n 0, 1) := by decide +kernel
theorem dL_law_319 : decode cL_law 319 = .ok (.iload_n 3, 1) := by decide +kernel
theorem dL_law_320 : decode cL_law 320 = .ok (.iconst 1, 1) := by decide +kernel
theorem dL_law_321 : decode cL_law 321 = .ok (.iadd, 1) := by decide +kernel
theorem dL_law_322 : decode cL_law 322 = .ok (.iaload, 1) := by decide +kernel
theorem dL_law_323 : decode cL_law 323 = .ok (.invokevirtual 43, 3) := by decide +kernel
theorem dL_law_326 : decode cL_law 326 = .ok (.if_icmp .eq 579, 3) := by decide +kernel
theorem dL_law_329 : decode cL_law 329 = .ok (.iconst 0, 1) := by decide +kernel
theorem dL_law_330 : decode cL_law 330 = .ok (.ireturn, 1) := by decide +kernel
theorem dL_law_331 : decode cL_law 331 = .ok (.aload_n 1, 1) := by decide +kernel
theorem dL_law_332 : decode cL_law 332 = .ok (.invokevirtual 44, 3) := by decide +kernel
theorem dL_law_335 : decode cL_law 335 = .ok (.aload_n 2, 1) := by decide +kernel
theorem dL_law_336 : decode cL_law 336 = .ok (.invokevirtual 47, 3) := by decide +kernel
theorem dL_law_339 : decode cL_law 339 = .ok (.if_icmp .eq 566, 3) := by decide +kernel
theorem dL_law_342 : decode cL_law 342 = .ok (.iconst 0, 1) := by decide +kernel
theorem dL_law_343 : decode cL_law 343 = .ok (.ireturn, 1) := by decide +kernel
theorem dL_law_344 : decode cL_law 344 = .ok (.aload_n 1, 1) := by decide +kernel
theorem dL_law_345 : decode cL_law 345 = .ok (.aload_n 0, 1) := by decide +kernel
theorem dL_law_346 : decode cL_law 346 = .ok (.iload_n 3, 1) := by decide +kernel
theorem dL_law_347 : decode cL_law 347 = .ok (.iconst 1, 1) := by decide +kernel
theorem dL_law_348 : decode cL_law 348 = .ok (.iadd, 1) := by decide +kernel
theorem dL_law_349 : decode cL_law 349 = .ok (.iaload, 1) := by decide +kernel
theorem dL_law_350 : decode cL_law 350 = .ok (.invokevirtual 48, 3) := by decide +kernel
theorem dL_law_353 : decode cL_law 353 = .ok (.aload_n 2, 1) := by decide +kernel
theorem dL_law_354 : decode cL_law 354 = .ok (.aload_n 0, 1) := by decide +kernel
theorem dL_law_355 : decode cL_law 355 = .ok (.iload_n 3, 1) := by decide +kernel
theorem dL_law_356 : decode cL_law 356 = .ok (.iconst 1, 1) := by decide +kernel
theorem dL_law_357 : decode cL_law 357 = .ok (.iadd, 1) := by decide +kernel
theorem dL_law_358 : decode cL_law 358 = .ok (.iaload, 1) := by decide +kernel
theorem dL_law_359 : decode cL_law 359 = .ok (.invokevirtual 51, 3) := by decide +kernel
theorem dL_law_362 : decode cL_law 362 = .ok (.if_icmp .eq 543, 3) := by decide +kernel
theorem dL_law_365 : decode cL_law 365 = .ok (.iconst 0, 1) := by decide +kernel
theorem dL_law_366 : decode cL_law 366 = .ok (.ireturn, 1) := by decide +kernel
theorem dL_law_367 : decode cL_law 367 = .ok (.aload_n 1, 1) := by decide +kernel
theorem dL_law_368 : decode cL_law 368 = .ok (.aload_n 0, 1) := by decide +kernel
theorem dL_law_369 : decode cL_law 369 = .ok (.iload_n 3, 1) := by decide +kernel
theorem dL_law_370 : decode cL_law 370 = .ok (.iconst 1, 1) := by decide +kernel
theorem dL_law_371 : decode cL_law 371 = .ok (.iadd, 1) := by decide +kernel
theorem dL_law_372 : decode cL_law 372 = .ok (.iaload, 1) := by decide +kernel
theorem dL_law_373 : decode cL_law 373 = .ok (.aload_n 0, 1) := by decide +kernel
theorem dL_law_374 : decode cL_law 374 = .ok (.iload_n 3, 1) := by decide +kernel
theorem dL_law_375 : decode cL_law 375 = .ok (.iconst 2, 1) := by decide +kernel
theorem dL_law_376 : decode cL_law 376 = .ok (.iadd, 1) := by decide +kernel
theorem dL_law_377 : decode cL_law 377 = .ok (.iaload, 1) := by decide +kernel
theorem dL_law_378 : decode cL_law 378 = .ok (.invokevirtual 52, 3) := by decide +kernel
theorem dL_law_381 : decode cL_law 381 = .ok (.aload_n 2, 1) := by decide +kernel
theorem dL_law_382 : decode cL_law 382 = .ok (.aload_n 0, 1) := by decide +kernel
theorem dL_law_383 : decode cL_law 383 = .ok (.iload_n 3, 1) := by decide +kernel
theorem dL_law_384 : decode cL_law 384 = .ok (.iconst 1, 1) := by decide +kernel
theorem dL_law_385 : decode cL_law 385 = .ok (.iadd, 1) := by decide +kernel
theorem dL_law_386 : decode cL_law 386 = .ok (.iaload, 1) := by decide +kernel
theorem dL_law_387 : decode cL_law 387 = .ok (.aload_n 0, 1) := by decide +kernel
theorem dL_law_388 : decode cL_law 388 = .ok (.iload_n 3, 1) := by decide +kernel
theorem dL_law_389 : decode cL_law 389 = .ok (.iconst 2, 1) := by decide +kernel
theorem dL_law_390 : decode cL_law 390 = .ok (.iadd, 1) := by decide +kernel
theorem dL_law_391 : decode cL_law 391 = .ok (.iaload, 1) := by decide +kernel
theorem dL_law_392 : decode cL_law 392 = .ok (.invokevirtual 55, 3) := by decide +kernel
theorem dL_law_395 : decode cL_law 395 = .ok (.if_icmp .eq 510, 3) := by decide +kernel
theorem dL_law_398 : decode cL_law 398 = .ok (.iconst 0, 1) := by decide +kernel
theorem dL_law_399 : decode cL_law 399 = .ok (.ireturn, 1) := by decide +kernel
theorem dL_law_400 : decode cL_law 400 = .ok (.aload_n 1, 1) := by decide +kernel
theorem dL_law_401 : decode cL_law 401 = .ok (.aload_n 0, 1) := by decide +kernel
theorem dL_law_402 : decode cL_law 402 = .ok (.iload_n 3, 1) := by decide +kernel
theorem dL_law_403 : decode cL_law 403 = .ok (.iconst 1, 1) := by decide +kernel
theorem dL_law_404 : decode cL_law 404 = .ok (.iadd, 1) := by decide +kernel
theorem dL_law_405 : decode cL_law 405 = .ok (.iaload, 1) := by decide +kernel
theorem dL_law_406 : decode cL_law 406 = .ok (.aload_n 0, 1) := by decide +kernel
theorem dL_law_407 : decode cL_law 407 = .ok (.iload_n 3, 1) := by decide +kernel
theorem dL_law_408 : decode cL_law 408 = .ok (.iconst 2, 1) := by decide +kernel
theorem dL_law_409 : decode cL_law 409 = .ok (.iadd, 1) := by decide +kernel
theorem dL_law_410 : decode cL_law 410 = .ok (.iaload, 1) := by decide +kernel
theorem dL_law_411 : decode cL_law 411 = .ok (.invokevirtual 56, 3) := by decide +kernel
theorem dL_law_414 : decode cL_law 414 = .ok (.aload_n 2, 1) := by decide +kernel
theorem dL_law_415 : decode cL_law 415 = .ok (.aload_n 0, 1) := by decide +kernel
theorem dL_law_416 : decode cL_law 416 = .ok (.iload_n 3, 1) := by decide +kernel
theorem dL_law_417 : decode cL_law 417 = .ok (.iconst 1, 1) := by decide +kernel
theorem dL_law_418 : decode cL_law 418 = .ok (.iadd, 1) := by decide +kernel
theorem dL_law_419 : decode cL_law 419 = .ok (.iaload, 1) := by decide +kernel
theorem dL_law_420 : decode cL_law 420 = .ok (.aload_n 0, 1) := by decide +kernel
theorem dL_law_421 : decode cL_law 421 = .ok (.iload_n 3, 1) := by decide +kernel
theorem dL_law_422 : decode cL_law 422 = .ok (.iconst 2, 1) := by decide +kernel
theorem dL_law_423 : decode cL_law 423 = .ok (.iadd, 1) := by decide +kernel
theorem dL_law_424 : decode cL_law 424 = .ok (.iaload, 1) := by decide +kernel
theorem dL_law_425 : decode cL_law 425 = .ok (.invokevirtual 59, 3) := by decide +kernel
theorem dL_law_428 : decode cL_law 428 = .ok (.if_icmp .eq 477, 3) := by decide +kernel
theorem dL_law_431 : decode cL_law 431 = .ok (.iconst 0, 1) := by decide +kernel
theorem dL_law_432 : decode cL_law 432 = .ok (.ireturn, 1) := by decide +kernel
theorem dL_law_433 : decode cL_law 433 = .ok (.aload_n 1, 1) := by decide +kernel
theorem dL_law_434 : decode cL_law 434 = .ok (.aload_n 0, 1) := by decide +kernel
theorem dL_law_435 : decode cL_law 435 = .ok (.iload_n 3, 1) := by decide +kernel
theorem dL_law_436 : decode cL_law 436 = .ok (.iconst 1, 1) := by decide +kernel
theorem dL_law_437 : decode cL_law 437 = .ok (.iadd, 1) := by decide +kernel
theorem dL_law_438 : decode cL_law 438 = .ok (.iaload, 1) := by decide +kernel
theorem dL_law_439 : decode cL_law 439 = .ok (.invokevirtual 60, 3) := by decide +kernel
theorem dL_law_442 : decode cL_law 442 = .ok (.aload_n 2, 1) := by decide +kernel
theorem dL_law_443 : decode cL_law 443 = .ok (.aload_n 0, 1) := by decide +kernel
theorem dL_law_444 : decode cL_law 444 = .ok (.iload_n 3, 1) := by decide +kernel
theorem dL_law_445 : decode cL_law 445 = .ok (.iconst 1, 1) := by decide +kernel
theorem dL_law_446 : decode cL_law 446 = .ok (.iadd, 1) := by decide +kernel
theorem dL_law_447 : decode cL_law 447 = .ok (.iaload, 1) := by decide +kernel
theorem dL_law_448 : decode cL_law 448 = .ok (.invokevirtual 63, 3) := by decide +kernel
theorem dL_law_451 : decode cL_law 451 = .ok (.if_icmp .eq 454, 3) := by decide +kernel
theorem dL_law_454 : decode cL_law 454 = .ok (.iconst 0, 1) := by decide +kernel
theorem dL_law_455 : decode cL_law 455 = .ok (.ireturn, 1) := by decide +kernel
theorem dL_law_456 : decode cL_law 456 = .ok (.aload_n 1, 1) := by decide +kernel
theorem dL_law_457 : decode cL_law 457 = .ok (.aload_n 0, 1) := by decide +kernel
theorem dL_law_458 : decode cL_law 458 = .ok (.iload_n 3, 1) := by decide +kernel
theorem dL_law_459 : decode cL_law 459 = .ok (.iconst 1, 1) := by decide +kernel
theorem dL_law_460 : decode cL_law 460 = .ok (.iadd, 1) := by decide +kernel
theorem dL_law_461 : decode cL_law 461 = .ok (.iaload, 1) := by decide +kernel
theorem dL_law_462 : decode cL_law 462 = .ok (.aload_n 0, 1) := by decide +kernel
theorem dL_law_463 : decode cL_law 463 = .ok (.iload_n 3, 1) := by decide +kernel
theorem dL_law_464 : decode cL_law 464 = .ok (.iconst 2, 1) := by decide +kernel
theorem dL_law_465 : decode cL_law 465 = .ok (.iadd, 1) := by decide +kernel
theorem dL_law_466 : decode cL_law 466 = .ok (.iaload, 1) := by decide +kernel
theorem dL_law_467 : decode cL_law 467 = .ok (.invokevirtual 64, 3) := by decide +kernel
theorem dL_law_470 : decode cL_law 470 = .ok (.aload_n 2, 1) := by decide +kernel
theorem dL_law_471 : decode cL_law 471 = .ok (.aload_n 0, 1) := by decide +kernel
theorem dL_law_472 : decode cL_law 472 = .ok (.iload_n 3, 1) := by decide +kernel
theorem dL_law_473 : decode cL_law 473 = .ok (.iconst 1, 1) := by decide +kernel
theorem dL_law_474 : decode cL_law 474 = .ok (.iadd, 1) := by decide +kernel
theorem dL_law_475 : decode cL_law 475 = .ok (.iaload, 1) := by decide +kernel
theorem dL_law_476 : decode cL_law 476 = .ok (.aload_n 0, 1) := by decide +kernel
theorem dL_law_477 : decode cL_law 477 = .ok (.iload_n 3, 1) := by decide +kernel
theorem dL_law_478 : decode cL_law 478 = .ok (.iconst 2, 1) := by decide +kernel
theorem dL_law_479 : decode cL_law 479 = .ok (.iadd, 1) := by decide +kernel
theorem dL_law_480 : decode cL_law 480 = .ok (.iaload, 1) := by decide +kernel
theorem dL_law_481 : decode cL_law 481 = .ok (.invokevirtual 67, 3) := by decide +kernel
theorem dL_law_484 : decode cL_law 484 = .ok (.if_icmp .eq 421, 3) := by decide +kernel
theorem dL_law_487 : decode cL_law 487 = .ok (.iconst 0, 1) := by decide +kernel
theorem dL_law_488 : decode cL_law 488 = .ok (.ireturn, 1) := by decide +kernel
theorem dL_law_489 : decode cL_law 489 = .ok (.aload_n 1, 1) := by decide +kernel
theorem dL_law_490 : decode cL_law 490 = .ok (.invokevirtual 68, 3) := by decide +kernel
theorem dL_law_493 : decode cL_law 493 = .ok (.aload_n 2, 1) := by decide +kernel
theorem dL_law_494 : decode cL_law 494 = .ok (.invokevirtual 71, 3) := by decide +kernel
theorem dL_law_497 : decode cL_law 497 = .ok (.if_icmp .eq 408, 3) := by decide +kernel
theorem dL_law_500 : decode cL_law 500 = .ok (.iconst 0, 1) := by decide +kernel
theorem dL_law_501 : decode cL_law 501 = .ok (.ireturn, 1) := by decide +kernel
theorem dL_law_502 : decode cL_law 502 = .ok (.aload_n 1, 1) := by decide +kernel
theorem dL_law_503 : decode cL_law 503 = .ok (.aload_n 0, 1) := by decide +kernel
theorem dL_law_504 : decode cL_law 504 = .ok (.iload_n 3, 1) := by decide +kernel
theorem dL_law_505 : decode cL_law 505 = .ok (.iconst 1, 1) := by decide +kernel
theorem dL_law_506 : decode cL_law 506 = .ok (.iadd, 1) := by decide +kernel
theorem dL_law_507 : decode cL_law 507 = .ok (.iaload, 1) := by decide +kernel
theorem dL_law_508 : decode cL_law 508 = .ok (.invokevirtual 72, 3) := by decide +kernel
theorem dL_law_511 : decode cL_law 511 = .ok (.aload_n 2, 1) := by decide +kernel
theorem dL_law_512 : decode cL_law 512 = .ok (.aload_n 0, 1) := by decide +kernel
theorem dL_law_513 : decode cL_law 513 = .ok (.iload_n 3, 1) := by decide +kernel
theorem dL_law_514 : decode cL_law 514 = .ok (.iconst 1, 1) := by decide +kernel
theorem dL_law_515 : decode cL_law 515 = .ok (.iadd, 1) := by decide +kernel
theorem dL_law_516 : decode cL_law 516 = .ok (.iaload, 1) := by decide +kernel
theorem dL_law_517 : decode cL_law 517 = .ok (.invokevirtual 75, 3) := by decide +kernel
theorem dL_law_520 : decode cL_law 520 = .ok (.if_icmp .eq 385, 3) := by decide +kernel
theorem dL_law_523 : decode cL_law 523 = .ok (.iconst 0, 1) := by decide +kernel
theorem dL_law_524 : decode cL_law 524 = .ok (.ireturn, 1) := by decide +kernel
theorem dL_law_525 : decode cL_law 525 = .ok (.aload_n 1, 1) := by decide +kernel
theorem dL_law_526 : decode cL_law 526 = .ok (.aload_n 0, 1) := by decide +kernel
theorem dL_law_527 : decode cL_law 527 = .ok (.iload_n 3, 1) := by decide +kernel
theorem dL_law_528 : decode cL_law 528 = .ok (.iconst 1, 1) := by decide +kernel
theorem dL_law_529 : decode cL_law 529 = .ok (.iadd, 1) := by decide +kernel
theorem dL_law_530 : decode cL_law 530 = .ok (.iaload, 1) := by decide +kernel
theorem dL_law_531 : decode cL_law 531 = .ok (.aload_n 0, 1) := by decide +kernel
theorem dL_law_532 : decode cL_law 532 = .ok (.iload_n 3, 1) := by decide +kernel
theorem dL_law_533 : decode cL_law 533 = .ok (.iconst 2, 1) := by decide +kernel
theorem dL_law_534 : decode cL_law 534 = .ok (.iadd, 1) := by decide +kernel
theorem dL_law_535 : decode cL_law 535 = .ok (.iaload, 1) := by decide +kernel
theorem dL_law_536 : decode cL_law 536 = .ok (.invokevirtual 76, 3) := by decide +kernel
theorem dL_law_539 : decode cL_law 539 = .ok (.aload_n 2, 1) := by decide +kernel
theorem dL_law_540 : decode cL_law 540 = .ok (.aload_n 0, 1) := by decide +kernel
theorem dL_law_541 : decode cL_law 541 = .ok (.iload_n 3, 1) := by decide +kernel
theorem dL_law_542 : decode cL_law 542 = .ok (.iconst 1, 1) := by decide +kernel
theorem dL_law_543 : decode cL_law 543 = .ok (.iadd, 1) := by decide +kernel
theorem dL_law_544 : decode cL_law 544 = .ok (.iaload, 1) := by decide +kernel
theorem dL_law_545 : decode cL_law 545 = .ok (.aload_n 0, 1) := by decide +kernel
theorem dL_law_546 : decode cL_law 546 = .ok (.iload_n 3, 1) := by decide +kernel
theorem dL_law_547 : decode cL_law 547 = .ok (.iconst 2, 1) := by decide +kernel
theorem dL_law_548 : decode cL_law 548 = .ok (.iadd, 1) := by decide +kernel
theorem dL_law_549 : decode cL_law 549 = .ok (.iaload, 1) := by decide +kernel
theorem dL_law_550 : decode cL_law 550 = .ok (.invokevirtual 79, 3) := by decide +kernel
theorem dL_law_553 : decode cL_law 553 = .ok (.if_icmp .eq 352, 3) := by decide +kernel
theorem dL_law_556 : decode cL_law 556 = .ok (.iconst 0, 1) := by decide +kernel
theorem dL_law_557 : decode cL_law 557 = .ok (.ireturn, 1) := by decide +kernel
theorem dL_law_558 : decode cL_law 558 = .ok (.aload_n 1, 1) := by decide +kernel
theorem dL_law_559 : decode cL_law 559 = .ok (.aload_n 0, 1) := by decide +kernel
theorem dL_law_560 : decode cL_law 560 = .ok (.iload_n 3, 1) := by decide +kernel
theorem dL_law_561 : decode cL_law 561 = .ok (.iconst 1, 1) := by decide +kernel
theorem dL_law_562 : decode cL_law 562 = .ok (.iadd, 1) := by decide +kernel
theorem dL_law_563 : decode cL_law 563 = .ok (.iaload, 1) := by decide +kernel
theorem dL_law_564 : decode cL_law 564 = .ok (.invokevirtual 80, 3) := by decide +kernel
theorem dL_law_567 : decode cL_law 567 = .ok (.aload_n 2, 1) := by decide +kernel
theorem dL_law_568 : decode cL_law 568 = .ok (.aload_n 0, 1) := by decide +kernel
theorem dL_law_569 : decode cL_law 569 = .ok (.iload_n 3, 1) := by decide +kernel
theorem dL_law_570 : decode cL_law 570 = .ok (.iconst 1, 1) := by decide +kernel
theorem dL_law_571 : decode cL_law 571 = .ok (.iadd, 1) := by decide +kernel
theorem dL_law_572 : decode cL_law 572 = .ok (.iaload, 1) := by decide +kernel
theorem dL_law_573 : decode cL_law 573 = .ok (.invokevirtual 83, 3) := by decide +kernel
theorem dL_law_576 : decode cL_law 576 = .ok (.if_icmp .eq 329, 3) := by decide +kernel
theorem dL_law_579 : decode cL_law 579 = .ok (.iconst 0, 1) := by decide +kernel
theorem dL_law_580 : decode cL_law 580 = .ok (.ireturn, 1) := by decide +kernel
theorem dL_law_581 : decode cL_law 581 = .ok (.aload_n 1, 1) := by decide +kernel
theorem dL_law_582 : decode cL_law 582 = .ok (.aload_n 0, 1) := by decide +kernel
theorem dL_law_583 : decode cL_law 583 = .ok (.iload_n 3, 1) := by decide +kernel
theorem dL_law_584 : decode cL_law 584 = .ok (.iconst 1, 1) := by decide +kernel
theorem dL_law_585 : decode cL_law 585 = .ok (.iadd, 1) := by decide +kernel
theorem dL_law_586 : decode cL_law 586 = .ok (.iaload, 1) := by decide +kernel
theorem dL_law_587 : decode cL_law 587 = .ok (.aload_n 0, 1) := by decide +kernel
theorem dL_law_588 : decode cL_law 588 = .ok (.iload_n 3, 1) := by decide +kernel
theorem dL_law_589 : decode cL_law 589 = .ok (.iconst 2, 1) := by decide +kernel
theorem dL_law_590 : decode cL_law 590 = .ok (.iadd, 1) := by decide +kernel
theorem dL_law_591 : decode cL_law 591 = .ok (.iaload, 1) := by decide +kernel
theorem dL_law_592 : decode cL_law 592 = .ok (.invokevirtual 84, 3) := by decide +kernel
theorem dL_law_595 : decode cL_law 595 = .ok (.aload_n 2, 1) := by decide +kernel
theorem dL_law_596 : decode cL_law 596 = .ok (.aload_n 0, 1) := by decide +kernel
theorem dL_law_597 : decode cL_law 597 = .ok (.iload_n 3, 1) := by decide +kernel
theorem dL_law_598 : decode cL_law 598 = .ok (.iconst 1, 1) := by decide +kernel
theorem dL_law_599 : decode cL_law 599 = .ok (.iadd, 1) := by decide +kernel
theorem dL_law_600 : decode cL_law 600 = .ok (.iaload, 1) := by decide +kernel
theorem dL_law_601 : decode cL_law 601 = .ok (.aload_n 0, 1) := by decide +kernel
theorem dL_law_602 : decode cL_law 602 = .ok (.iload_n 3, 1) := by decide +kernel
theorem dL_law_603 : decode cL_law 603 = .ok (.iconst 2, 1) := by decide +kernel
theorem dL_law_604 : decode cL_law 604 = .ok (.iadd, 1) := by decide +kernel
theorem dL_law_605 : decode cL_law 605 = .ok (.iaload, 1) := by decide +kernel
theorem dL_law_606 : decode cL_law 606 = .ok (.invokevirtual 87, 3) := by decide +kernel
theorem dL_law_609 : decode cL_law 609 = .ok (.if_icmp .eq 296, 3) := by decide +kernel
theorem dL_law_612 : decode cL_law 612 = .ok (.iconst 0, 1) := by decide +kernel
theorem dL_law_613 : decode cL_law 613 = .ok (.ireturn, 1) := by decide +kernel
theorem dL_law_614 : decode cL_law 614 = .ok (.aload_n 1, 1) := by decide +kernel
theorem dL_law_615 : decode cL_law 615 = .ok (.aload_n 0, 1) := by decide +kernel
theorem dL_law_616 : decode cL_law 616 = .ok (.iload_n 3, 1) := by decide +kernel
theorem dL_law_617 : decode cL_law 617 = .ok (.iconst 1, 1) := by decide +kernel
theorem dL_law_618 : decode cL_law 618 = .ok (.iadd, 1) := by decide +kernel
theorem dL_law_619 : decode cL_law 619 = .ok (.iaload, 1) := by decide +kernel
theorem dL_law_620 : decode cL_law 620 = .ok (.aload_n 0, 1) := by decide +kernel
theorem dL_law_621 : decode cL_law 621 = .ok (.iload_n 3, 1) := by decide +kernel
theorem dL_law_622 : decode cL_law 622 = .ok (.iconst 2, 1) := by decide +kernel
theorem dL_law_623 : decode cL_law 623 = .ok (.iadd, 1) := by decide +kernel
theorem dL_law_624 : decode cL_law 624 = .ok (.iaload, 1) := by decide +kernel
theorem dL_law_625 : decode cL_law 625 = .ok (.aload_n 0, 1) := by decide +kernel
theorem dL_law_626 : decode cL_law 626 = .ok (.iload_n 3, 1) := by decide +kernel
theorem dL_law_627 : decode cL_law 627 = .ok (.iconst 3, 1) := by decide +kernel
theorem dL_law_628 : decode cL_law 628 = .ok (.iadd, 1) := by decide +kernel
theorem dL_law_629 : decode cL_law 629 = .ok (.iaload, 1) := by decide +kernel
theorem dL_law_630 : decode cL_law 630 = .ok (.invokevirtual 88, 3) := by decide +kernel
theorem dL_law_633 : decode cL_law 633 = .ok (.aload_n 2, 1) := by decide +kernel
theorem dL_law_634 : decode cL_law 634 = .ok (.aload_n 0, 1) := by decide +kernel
theorem dL_law_635 : decode cL_law 635 = .ok (.iload_n 3, 1) := by decide +kernel
theorem dL_law_636 : decode cL_law 636 = .ok (.iconst 1, 1) := by decide +kernel
theorem dL_law_637 : decode cL_law 637 = .ok (.iadd, 1) := by decide +kernel
theorem dL_law_638 : decode cL_law 638 = .ok (.iaload, 1) := by decide +kernel
theorem dL_law_639 : decode cL_law 639 = .ok (.aload_n 0, 1) := by decide +kernel
theorem dL_law_640 : decode cL_law 640 = .ok (.iload_n 3, 1) := by decide +kernel
theorem dL_law_641 : decode cL_law 641 = .ok (.iconst 2, 1) := by decide +kernel
theorem dL_law_642 : decode cL_law 642 = .ok (.iadd, 1) := by decide +kernel
theorem dL_law_643 : decode cL_law 643 = .ok (.iaload, 1) := by decide +kernel
theorem dL_law_644 : decode cL_law 644 = .ok (.aload_n 0, 1) := by decide +kernel
theorem dL_law_645 : decode cL_law 645 = .ok (.iload_n 3, 1) := by decide +kernel
theorem dL_law_646 : decode cL_law 646 = .ok (.iconst 3, 1) := by decide +kernel
theorem dL_law_647 : decode cL_law 647 = .ok (.iadd, 1) := by decide +kernel
theorem dL_law_648 : decode cL_law 648 = .ok (.iaload, 1) := by decide +kernel
theorem dL_law_649 : decode cL_law 649 = .ok (.invokevirtual 92, 3) := by decide +kernel
theorem dL_law_652 : decode cL_law 652 = .ok (.if_icmp .eq 253, 3) := by decide +kernel
theorem dL_law_655 : decode cL_law 655 = .ok (.iconst 0, 1) := by decide +kernel
theorem dL_law_656 : decode cL_law 656 = .ok (.ireturn, 1) := by decide +kernel
theorem dL_law_657 : decode cL_law 657 = .ok (.aload_n 1, 1) := by decide +kernel
theorem dL_law_658 : decode cL_law 658 = .ok (.aload_n 0, 1) := by decide +kernel
theorem dL_law_659 : decode cL_law 659 = .ok (.iload_n 3, 1) := by decide +kernel
theorem dL_law_660 : decode cL_law 660 = .ok (.iconst 1, 1) := by decide +kernel
theorem dL_law_661 : decode cL_law 661 = .ok (.iadd, 1) := by decide +kernel
theorem dL_law_662 : decode cL_law 662 = .ok (.iaload, 1) := by decide +kernel
theorem dL_law_663 : decode cL_law 663 = .ok (.aload_n 0, 1) := by decide +kernel
theorem dL_law_664 : decode cL_law 664 = .ok (.iload_n 3, 1) := by decide +kernel
theorem dL_law_665 : decode cL_law 665 = .ok (.iconst 2, 1) := by decide +kernel
theorem dL_law_666 : decode cL_law 666 = .ok (.iadd, 1) := by decide +kernel
theorem dL_law_667 : decode cL_law 667 = .ok (.iaload, 1) := by decide +kernel
theorem dL_law_668 : decode cL_law 668 = .ok (.aload_n 0, 1) := by decide +kernel
theorem dL_law_669 : decode cL_law 669 = .ok (.iload_n 3, 1) := by decide +kernel
theorem dL_law_670 : decode cL_law 670 = .ok (.iconst 3, 1) := by decide +kernel
theorem dL_law_671 : decode cL_law 671 = .ok (.iadd, 1) := by decide +kernel
theorem dL_law_672 : decode cL_law 672 = .ok (.iaload, 1) := by decide +kernel
theorem dL_law_673 : decode cL_law 673 = .ok (.invokevirtual 93, 3) := by decide +kernel
theorem dL_law_676 : decode cL_law 676 = .ok (.aload_n 2, 1) := by decide +kernel
theorem dL_law_677 : decode cL_law 677 = .ok (.aload_n 0, 1) := by decide +kernel
theorem dL_law_678 : decode cL_law 678 = .ok (.iload_n 3, 1) := by decide +kernel
theorem dL_law_679 : decode cL_law 679 = .ok (.iconst 1, 1) := by decide +kernel
theorem dL_law_680 : decode cL_law 680 = .ok (.iadd, 1) := by decide +kernel
theorem dL_law_681 : decode cL_law 681 = .ok (.iaload, 1) := by decide +kernel
theorem dL_law_682 : decode cL_law 682 = .ok (.aload_n 0, 1) := by decide +kernel
theorem dL_law_683 : decode cL_law 683 = .ok (.iload_n 3, 1) := by decide +kernel
theorem dL_law_684 : decode cL_law 684 = .ok (.iconst 2, 1) := by decide +kernel
theorem dL_law_685 : decode cL_law 685 = .ok (.iadd, 1) := by decide +kernel
theorem dL_law_686 : decode cL_law 686 = .ok (.iaload, 1) := by decide +kernel
theorem dL_law_687 : decode cL_law 687 = .ok (.aload_n 0, 1) := by decide +kernel
theorem dL_law_688 : decode cL_law 688 = .ok (.iload_n 3, 1) := by decide +kernel
theorem dL_law_689 : decode cL_law 689 = .ok (.iconst 3, 1) := by decide +kernel
theorem dL_law_690 : decode cL_law 690 = .ok (.iadd, 1) := by decide +kernel
theorem dL_law_691 : decode cL_law 691 = .ok (.iaload, 1) := by decide +kernel
theorem dL_law_692 : decode cL_law 692 = .ok (.invokevirtual 96, 3) := by decide +kernel
theorem dL_law_695 : decode cL_law 695 = .ok (.if_icmp .eq 210, 3) := by decide +kernel
theorem dL_law_698 : decode cL_law 698 = .ok (.iconst 0, 1) := by decide +kernel
theorem dL_law_699 : decode cL_law 699 = .ok (.ireturn, 1) := by decide +kernel
theorem dL_law_700 : decode cL_law 700 = .ok (.aload_n 1, 1) := by decide +kernel
theorem dL_law_701 : decode cL_law 701 = .ok (.aload_n 0, 1) := by decide +kernel
theorem dL_law_702 : decode cL_law 702 = .ok (.iload_n 3, 1) := by decide +kernel
theorem dL_law_703 : decode cL_law 703 = .ok (.iconst 1, 1) := by decide +kernel
theorem dL_law_704 : decode cL_law 704 = .ok (.iadd, 1) := by decide +kernel
theorem dL_law_705 : decode cL_law 705 = .ok (.iaload, 1) := by decide +kernel
theorem dL_law_706 : decode cL_law 706 = .ok (.aload_n 0, 1) := by decide +kernel
theorem dL_law_707 : decode cL_law 707 = .ok (.iload_n 3, 1) := by decide +kernel
theorem dL_law_708 : decode cL_law 708 = .ok (.iconst 2, 1) := by decide +kernel
theorem dL_law_709 : decode cL_law 709 = .ok (.iadd, 1) := by decide +kernel
theorem dL_law_710 : decode cL_law 710 = .ok (.iaload, 1) := by decide +kernel
theorem dL_law_711 : decode cL_law 711 = .ok (.aload_n 0, 1) := by decide +kernel
theorem dL_law_712 : decode cL_law 712 = .ok (.iload_n 3, 1) := by decide +kernel
theorem dL_law_713 : decode cL_law 713 = .ok (.iconst 3, 1) := by decide +kernel
theorem dL_law_714 : decode cL_law 714 = .ok (.iadd, 1) := by decide +kernel
theorem dL_law_715 : decode cL_law 715 = .ok (.iaload, 1) := by decide +kernel
theorem dL_law_716 : decode cL_law 716 = .ok (.invokevirtual 97, 3) := by decide +kernel
theorem dL_law_719 : decode cL_law 719 = .ok (.aload_n 2, 1) := by decide +kernel
theorem dL_law_720 : decode cL_law 720 = .ok (.aload_n 0, 1) := by decide +kernel
theorem dL_law_721 : decode cL_law 721 = .ok (.iload_n 3, 1) := by decide +kernel
theorem dL_law_722 : decode cL_law 722 = .ok (.iconst 1, 1) := by decide +kernel
theorem dL_law_723 : decode cL_law 723 = .ok (.iadd, 1) := by decide +kernel
theorem dL_law_724 : decode cL_law 724 = .ok (.iaload, 1) := by decide +kernel
theorem dL_law_725 : decode cL_law 725 = .ok (.aload_n 0, 1) := by decide +kernel
theorem dL_law_726 : decode cL_law 726 = .ok (.iload_n 3, 1) := by decide +kernel
theorem dL_law_727 : decode cL_law 727 = .ok (.iconst 2, 1) := by decide +kernel
theorem dL_law_728 : decode cL_law 728 = .ok (.iadd, 1) := by decide +kernel
theorem dL_law_729 : decode cL_law 729 = .ok (.iaload, 1) := by decide +kernel
theorem dL_law_730 : decode cL_law 730 = .ok (.aload_n 0, 1) := by decide +kernel
theorem dL_law_731 : decode cL_law 731 = .ok (.iload_n 3, 1) := by decide +kernel
theorem dL_law_732 : decode cL_law 732 = .ok (.iconst 3, 1) := by decide +kernel
theorem dL_law_733 : decode cL_law 733 = .ok (.iadd, 1) := by decide +kernel
theorem dL_law_734 : decode cL_law 734 = .ok (.iaload, 1) := by decide +kernel
theorem dL_law_735 : decode cL_law 735 = .ok (.invokevirtual 100, 3) := by decide +kernel
theorem dL_law_738 : decode cL_law 738 = .ok (.if_icmp .eq 167, 3) := by decide +kernel
theorem dL_law_741 : decode cL_law 741 = .ok (.iconst 0, 1) := by decide +kernel
theorem dL_law_742 : decode cL_law 742 = .ok (.ireturn, 1) := by decide +kernel
theorem dL_law_743 : decode cL_law 743 = .ok (.aload_n 1, 1) := by decide +kernel
theorem dL_law_744 : decode cL_law 744 = .ok (.aload_n 0, 1) := by decide +kernel
theorem dL_law_745 : decode cL_law 745 = .ok (.iload_n 3, 1) := by decide +kernel
theorem dL_law_746 : decode cL_law 746 = .ok (.iconst 1, 1) := by decide +kernel
theorem dL_law_747 : decode cL_law 747 = .ok (.iadd, 1) := by decide +kernel
theorem dL_law_748 : decode cL_law 748 = .ok (.iaload, 1) := by decide +kernel
theorem dL_law_749 : decode cL_law 749 = .ok (.invokevirtual 101, 3) := by decide +kernel
theorem dL_law_752 : decode cL_law 752 = .ok (.aload_n 2, 1) := by decide +kernel
theorem dL_law_753 : decode cL_law 753 = .ok (.aload_n 0, 1) := by decide +kernel
theorem dL_law_754 : decode cL_law 754 = .ok (.iload_n 3, 1) := by decide +kernel
theorem dL_law_755 : decode cL_law 755 = .ok (.iconst 1, 1) := by decide +kernel
theorem dL_law_756 : decode cL_law 756 = .ok (.iadd, 1) := by decide +kernel
theorem dL_law_757 : decode cL_law 757 = .ok (.iaload, 1) := by decide +kernel
theorem dL_law_758 : decode cL_law 758 = .ok (.invokevirtual 104, 3) := by decide +kernel
theorem dL_law_761 : decode cL_law 761 = .ok (.if_icmp .eq 144, 3) := by decide +kernel
theorem dL_law_764 : decode cL_law 764 = .ok (.iconst 0, 1) := by decide +kernel
theorem dL_law_765 : decode cL_law 765 = .ok (.ireturn, 1) := by decide +kernel
theorem dL_law_766 : decode cL_law 766 = .ok (.aload_n 1, 1) := by decide +kernel
theorem dL_law_767 : decode cL_law 767 = .ok (.aload_n 0, 1) := by decide +kernel
theorem dL_law_768 : decode cL_law 768 = .ok (.iload_n 3, 1) := by decide +kernel
theorem dL_law_769 : decode cL_law 769 = .ok (.iconst 1, 1) := by decide +kernel
theorem dL_law_770 : decode cL_law 770 = .ok (.iadd, 1) := by decide +kernel
theorem dL_law_771 : decode cL_law 771 = .ok (.iaload, 1) := by decide +kernel
theorem dL_law_772 : decode cL_law 772 = .ok (.invokevirtual 105, 3) := by decide +kernel
theorem dL_law_775 : decode cL_law 775 = .ok (.aload_n 2, 1) := by decide +kernel
theorem dL_law_776 : decode cL_law 776 = .ok (.aload_n 0, 1) := by decide +kernel
theorem dL_law_777 : decode cL_law 777 = .ok (.iload_n 3, 1) := by decide +kernel
theorem dL_law_778 : decode cL_law 778 = .ok (.iconst 1, 1) := by decide +kernel
theorem dL_law_779 : decode cL_law 779 = .ok (.iadd, 1) := by decide +kernel
theorem dL_law_780 : decode cL_law 780 = .ok (.iaload, 1) := by decide +kernel
theorem dL_law_781 : decode cL_law 781 = .ok (.invokevirtual 108, 3) := by decide +kernel
theorem dL_law_784 : decode cL_law 784 = .ok (.if_icmp .eq 121, 3) := by decide +kernel
theorem dL_law_787 : decode cL_law 787 = .ok (.iconst 0, 1) := by decide +kernel
theorem dL_law_788 : decode cL_law 788 = .ok (.ireturn, 1) := by decide +kernel
theorem dL_law_789 : decode cL_law 789 = .ok (.aload_n 1, 1) := by decide +kernel
theorem dL_law_790 : decode cL_law 790 = .ok (.aload_n 0, 1) := by decide +kernel
theorem dL_law_791 : decode cL_law 791 = .ok (.iload_n 3, 1) := by decide +kernel
theorem dL_law_792 : decode cL_law 792 = .ok (.iconst 1, 1) := by decide +kernel
theorem dL_law_793 : decode cL_law 793 = .ok (.iadd, 1) := by decide +kernel
theorem dL_law_794 : decode cL_law 794 = .ok (.iaload, 1) := by decide +kernel
theorem dL_law_795 : decode cL_law 795 = .ok (.aload_n 0, 1) := by decide +kernel
theorem dL_law_796 : decode cL_law 796 = .ok (.iload_n 3, 1) := by decide +kernel
theorem dL_law_797 : decode cL_law 797 = .ok (.iconst 2, 1) := by decide +kernel
theorem dL_law_798 : decode cL_law 798 = .ok (.iadd, 1) := by decide +kernel
theorem dL_law_799 : decode cL_law 799 = .ok (.iaload, 1) := by decide +kernel
theorem dL_law_800 : decode cL_law 800 = .ok (.invokevirtual 109, 3) := by decide +kernel
theorem dL_law_803 : decode cL_law 803 = .ok (.aload_n 2, 1) := by decide +kernel
theorem dL_law_804 : decode cL_law 804 = .ok (.aload_n 0, 1) := by decide +kernel
theorem dL_law_805 : decode cL_law 805 = .ok (.iload_n 3, 1) := by decide +kernel
theorem dL_law_806 : decode cL_law 806 = .ok (.iconst 1, 1) := by decide +kernel
theorem dL_law_807 : decode cL_law 807 = .ok (.iadd, 1) := by decide +kernel
theorem dL_law_808 : decode cL_law 808 = .ok (.iaload, 1) := by decide +kernel
theorem dL_law_809 : decode cL_law 809 = .ok (.aload_n 0, 1) := by decide +kernel
theorem dL_law_810 : decode cL_law 810 = .ok (.iload_n 3, 1) := by decide +kernel
theorem dL_law_811 : decode cL_law 811 = .ok (.iconst 2, 1) := by decide +kernel
theorem dL_law_812 : decode cL_law 812 = .ok (.iadd, 1) := by decide +kernel
theorem dL_law_813 : decode cL_law 813 = .ok (.iaload, 1) := by decide +kernel
theorem dL_law_814 : decode cL_law 814 = .ok (.invokevirtual 112, 3) := by decide +kernel
theorem dL_law_817 : decode cL_law 817 = .ok (.if_icmp .eq 88, 3) := by decide +kernel
theorem dL_law_820 : decode cL_law 820 = .ok (.iconst 0, 1) := by decide +kernel
theorem dL_law_821 : decode cL_law 821 = .ok (.ireturn, 1) := by decide +kernel
theorem dL_law_822 : decode cL_law 822 = .ok (.aload_n 1, 1) := by decide +kernel
theorem dL_law_823 : decode cL_law 823 = .ok (.aload_n 0, 1) := by decide +kernel
theorem dL_law_824 : decode cL_law 824 = .ok (.iload_n 3, 1) := by decide +kernel
theorem dL_law_825 : decode cL_law 825 = .ok (.iconst 1, 1) := by decide +kernel
theorem dL_law_826 : decode cL_law 826 = .ok (.iadd, 1) := by decide +kernel
theorem dL_law_827 : decode cL_law 827 = .ok (.iaload, 1) := by decide +kernel
theorem dL_law_828 : decode cL_law 828 = .ok (.invokevirtual 113, 3) := by decide +kernel
theorem dL_law_831 : decode cL_law 831 = .ok (.aload_n 2, 1) := by decide +kernel
theorem dL_law_832 : decode cL_law 832 = .ok (.aload_n 0, 1) := by decide +kernel
theorem dL_law_833 : decode cL_law 833 = .ok (.iload_n 3, 1) := by decide +kernel
theorem dL_law_834 : decode cL_law 834 = .ok (.iconst 1, 1) := by decide +kernel
theorem dL_law_835 : decode cL_law 835 = .ok (.iadd, 1) := by decide +kernel
theorem dL_law_836 : decode cL_law 836 = .ok (.iaload, 1) := by decide +kernel
theorem dL_law_837 : decode cL_law 837 = .ok (.invokevirtual 116, 3) := by decide +kernel
theorem dL_law_840 : decode cL_law 840 = .ok (.if_icmp .eq 65, 3) := by decide +kernel
theorem dL_law_843 : decode cL_law 843 = .ok (.iconst 0, 1) := by decide +kernel
theorem dL_law_844 : decode cL_law 844 = .ok (.ireturn, 1) := by decide +kernel
theorem dL_law_845 : decode cL_law 845 = .ok (.aload_n 1, 1) := by decide +kernel
theorem dL_law_846 : decode cL_law 846 = .ok (.aload_n 0, 1) := by decide +kernel
theorem dL_law_847 : decode cL_law 847 = .ok (.iload_n 3, 1) := by decide +kernel
theorem dL_law_848 : decode cL_law 848 = .ok (.iconst 1, 1) := by decide +kernel
theorem dL_law_849 : decode cL_law 849 = .ok (.iadd, 1) := by decide +kernel
theorem dL_law_850 : decode cL_law 850 = .ok (.iaload, 1) := by decide +kernel
theorem dL_law_851 : decode cL_law 851 = .ok (.invokevirtual 117, 3) := by decide +kernel
theorem dL_law_854 : decode cL_law 854 = .ok (.aload_n 2, 1) := by decide +kernel
theorem dL_law_855 : decode cL_law 855 = .ok (.aload_n 0, 1) := by decide +kernel
theorem dL_law_856 : decode cL_law 856 = .ok (.iload_n 3, 1) := by decide +kernel
theorem dL_law_857 : decode cL_law 857 = .ok (.iconst 1, 1) := by decide +kernel
theorem dL_law_858 : decode cL_law 858 = .ok (.iadd, 1) := by decide +kernel
theorem dL_law_859 : decode cL_law 859 = .ok (.iaload, 1) := by decide +kernel
theorem dL_law_860 : decode cL_law 860 = .ok (.invokevirtual 120, 3) := by decide +kernel
theorem dL_law_863 : decode cL_law 863 = .ok (.if_icmp .eq 42, 3) := by decide +kernel
theorem dL_law_866 : decode cL_law 866 = .ok (.iconst 0, 1) := by decide +kernel
theorem dL_law_867 : decode cL_law 867 = .ok (.ireturn, 1) := by decide +kernel
theorem dL_law_868 : decode cL_law 868 = .ok (.aload_n 1, 1) := by decide +kernel
theorem dL_law_869 : decode cL_law 869 = .ok (.aload_n 0, 1) := by decide +kernel
theorem dL_law_870 : decode cL_law 870 = .ok (.iload_n 3, 1) := by decide +kernel
theorem dL_law_871 : decode cL_law 871 = .ok (.iconst 1, 1) := by decide +kernel
theorem dL_law_872 : decode cL_law 872 = .ok (.iadd, 1) := by decide +kernel
theorem dL_law_873 : decode cL_law 873 = .ok (.iaload, 1) := by decide +kernel
theorem dL_law_874 : decode cL_law 874 = .ok (.invokevirtual 121, 3) := by decide +kernel
theorem dL_law_877 : decode cL_law 877 = .ok (.aload_n 2, 1) := by decide +kernel
theorem dL_law_878 : decode cL_law 878 = .ok (.aload_n 0, 1) := by decide +kernel
theorem dL_law_879 : decode cL_law 879 = .ok (.iload_n 3, 1) := by decide +kernel
theorem dL_law_880 : decode cL_law 880 = .ok (.iconst 1, 1) := by decide +kernel
theorem dL_law_881 : decode cL_law 881 = .ok (.iadd, 1) := by decide +kernel
theorem dL_law_882 : decode cL_law 882 = .ok (.iaload, 1) := by decide +kernel
theorem dL_law_883 : decode cL_law 883 = .ok (.invokevirtual 124, 3) := by decide +kernel
theorem dL_law_886 : decode cL_law 886 = .ok (.if_icmp .eq 19, 3) := by decide +kernel
theorem dL_law_889 : decode cL_law 889 = .ok (.iconst 0, 1) := by decide +kernel
theorem dL_law_890 : decode cL_law 890 = .ok (.ireturn, 1) := by decide +kernel
theorem dL_law_891 : decode cL_law 891 = .ok (.aload_n 1, 1) := by decide +kernel
theorem dL_law_892 : decode cL_law 892 = .ok (.invokevirtual 125, 3) := by decide +kernel
theorem dL_law_895 : decode cL_law 895 = .ok (.aload_n 2, 1) := by decide +kernel
theorem dL_law_896 : decode cL_law 896 = .ok (.invokevirtual 129, 3) := by decide +kernel
theorem dL_law_899 : decode cL_law 899 = .ok (.lcmp, 1) := by decide +kernel
theorem dL_law_900 : decode cL_law 900 = .ok (.ifCond .eq 5, 3) := by decide +kernel
theorem dL_law_903 : decode cL_law 903 = .ok (.iconst 0, 1) := by decide +kernel
theorem dL_law_904 : decode cL_law 904 = .ok (.ireturn, 1) := by decide +kernel
theorem dL_law_905 : decode cL_law 905 = .ok (.iinc 3 4, 3) := by decide +kernel
theorem dL_law_908 : decode cL_law 908 = .ok (.goto (-890), 3) := by decide +kernel
theorem dL_law_911 : decode cL_law 911 = .ok (.iconst 1, 1) := by decide +kernel
theorem dL_law_912 : decode cL_law 912 = .ok (.ireturn, 1) := by decide +kernel
end
section
/-! AN ABSTRACT MACHINE OVER THE KIT'S ROWS: worlds are lists of cells that are named by their places; 'ad' says where they lie -/
def zt : List Cond := lw_tbl.filter goodWord
def zv (ad : Nat → Nat) : Value → Value
  | .ref k => .ref (ad k)
  | v => v
def zc (ad tA : Nat → Nat) : va_E → va_E
  | .inl (t, n, .inr (.inr (.inr (.inr f)))) => .inl (tA t, n, .inr (.inr (.inr (.inr (fun j => (f j).map ad)))))
  | .inl (t, x) => .inl (tA t, x)
  | .inr (ci, fs) => .inr (ci, fs.map (zv ad))
def zw (ad tA : Nat → Nat) (h : List va_E) : va_W := h.mapIdx (fun k e => (ad k, zc ad tA e))
theorem zw_get {ad tA : Nat → Nat} {h : List va_E} {k : Nat} {e : va_E} (hk : h[k]? = some e) : (zw ad tA h)[k]? = some (ad k, zc ad tA e) := by
  unfold zw
  rw [List.getElem?_mapIdx, hk]
  rfl
theorem zw_set {ad tA : Nat → Nat} {h : List va_E} {k : Nat} {e : va_E} : zw ad tA (h.set k e) = (zw ad tA h).set k (ad k, zc ad tA e) := by
  unfold zw
  apply List.ext_getElem?
  intro i
  rw [List.getElem?_mapIdx]
  by_cases hi : k = i
  · subst hi
    by_cases hl : k < h.length
    · rw [List.getElem?_set_self hl, List.getElem?_set_self (by simpa using hl)]
      rfl
    · rw [List.getElem?_eq_none (by simpa using hl), List.getElem?_eq_none (by simpa using hl)]
      rfl
  · rw [List.getElem?_set_ne hi, List.getElem?_set_ne hi, List.getElem?_mapIdx]
def zl (ad : Nat → Nat) (L : List (Nat × Value)) : List (Nat × Value) := L.map (fun q => (q.1, zv ad q.2))
def zlk (i : Nat) : List (Nat × Value) → Option Value
  | [] => none
  | q :: L => cond (Nat.beq q.1 i) (some q.2) (zlk i L)
def zdrop (i : Nat) : List (Nat × Value) → List (Nat × Value)
  | [] => []
  | q :: L => cond (Nat.beq q.1 i) (zdrop i L) (cond (Nat.beq q.2.category 2) (zdrop i L) (q :: zdrop i L))
def zst (i : Nat) (v : Value) (L : List (Nat × Value)) : List (Nat × Value) := (i, v) :: zdrop i L
theorem zlk_mem {i : Nat} {v : Value} : ∀ {L : List (Nat × Value)}, zlk i L = some v → (i, v) ∈ L
  | [], h => by simp [zlk] at h
  | q :: L, h => by
    unfold zlk at h
    cases hb : Nat.beq q.1 i with
    | true =>
      rw [hb] at h
      have h1 : q.1 = i := Nat.eq_of_beq_eq_true hb
      have h2 : q.2 = v := Option.some.inj h
      rw [← h1, ← h2]
      exact List.mem_cons_self
    | false =>
      rw [hb] at h
      exact List.mem_cons_of_mem _ (zlk_mem h)
theorem zdrop_mem {i : Nat} {q : Nat × Value} : ∀ {L : List (Nat × Value)}, q ∈ zdrop i L → q ∈ L ∧ q.1 ≠ i ∧ q.2.category ≠ 2
  | [], h => by simp [zdrop] at h
  | q0 :: L, h => by
    unfold zdrop at h
    cases hb : Nat.beq q0.1 i with
    | true =>
      rw [hb] at h
      have h1 := zdrop_mem (L := L) h
      exact ⟨List.mem_cons_of_mem _ h1.1, h1.2⟩
    | false =>
      rw [hb] at h
      cases hc : Nat.beq q0.2.category 2 with
      | true =>
        rw [hc] at h
        have h1 := zdrop_mem (L := L) h
        exact ⟨List.mem_cons_of_mem _ h1.1, h1.2⟩
      | false =>
        rw [hc] at h
        rcases List.mem_cons.mp h with e | h2
        · subst e
          exact ⟨List.mem_cons_self, Nat.ne_of_beq_eq_false hb, Nat.ne_of_beq_eq_false hc⟩
        · have h1 := zdrop_mem (L := L) h2
          exact ⟨List.mem_cons_of_mem _ h1.1, h1.2⟩
theorem zv_cat (ad : Nat → Nat) (v : Value) : (zv ad v).category = v.category := by cases v <;> rfl
theorem zl_at {ad : Nat → Nat} {ls : Array Slot} {nL i : Nat} {L : List (Nat × Value)} {v : Value} (hl : lv_has ls nL (zl ad L)) (h : zlk i L = some v) : ls[i]? = some (.val (zv ad v)) :=
  hl.2.2 (i, zv ad v) (List.mem_map.mpr ⟨(i, v), zlk_mem h, rfl⟩)
theorem zl_st {ad : Nat → Nat} {ls' : Array Slot} {nL i : Nat} {L : List (Nat × Value)} {v : Value} (hl : lv_has ls' nL ((i, zv ad v) :: (zl ad L).filter (fun q => !(q.1 == i) && !(q.1 + 1 == i && q.2.category == 2)))) : lv_has ls' nL (zl ad (zst i v L)) := by
  refine ⟨hl.1, hl.2.1, fun q hq => hl.2.2 q ?_⟩
  obtain ⟨q0, h1, h2⟩ := List.mem_map.mp hq
  subst h2
  rcases List.mem_cons.mp h1 with e | h3
  · subst e
    exact List.mem_cons_self
  · obtain ⟨a1, a2, a3⟩ := zdrop_mem h3
    refine List.mem_cons_of_mem _ (List.mem_filter.mpr ⟨List.mem_map.mpr ⟨q0, a1, rfl⟩, ?_⟩)
    simp [a2, a3, zv_cat]
def zsub : List (Nat × Value) → List (Nat × Value) → Prop
  | [], _ => True
  | q :: L', L => zlk q.1 L = some q.2 ∧ zsub L' L
theorem zsub_mem : ∀ {L' L : List (Nat × Value)}, zsub L' L → ∀ q ∈ L', q ∈ L
  | [], _, _, q, h => by cases h
  | q0 :: L', L, hs, q, h => by
    rcases List.mem_cons.mp h with e | h
    · subst e
      exact zlk_mem hs.1
    · exact zsub_mem hs.2 q h
/-- the kinds of arrays: 0 int, 1 byte, 2 boolean, 3 Story -/
def ztys (tA : Nat → Nat) : List (ClassId × FieldType) := [(tA 0, .int), (tA 1, .byte), (tA 2, .boolean), (tA 3, .object "KingPrices$Story")]
def zka (j : Nat) : Int32 := [0, 0, 0, 1, 2, 0].getD j 0
def zkt (j : Nat) : Int32 := [1, 10, 100, 1000, 10000, 100000].getD j 0
def zSt0 (ad : Nat → Nat) (A : Nat → Prop) (U : State) (H : Heap) : Prop :=
  (va_Z "KingPrices" "KIND_ABOVE" "[I" (.ref (ad 1000)) A U H ∧ va_T .int (ad 1000) 6 (fun j => .int (zka j)) A U H) ∧
  (va_Z "KingPrices" "KIND_TRACE" "[I" (.ref (ad 1001)) A U H ∧ va_T .int (ad 1001) 6 (fun j => .int (zkt j)) A U H)
theorem zSt0.moved {ad : Nat → Nat} {A : Nat → Prop} {u U : State} {H : Heap} (hvm : u.vm.Alike U.vm) (h : zSt0 ad A u H) : zSt0 ad A U H :=
  ⟨⟨h.1.1.moved hvm, h.1.2.moved hvm⟩, ⟨h.2.1.moved hvm, h.2.2.moved hvm⟩⟩
def zisN : Cond → Bool
  | .fieldLinkNest _ _ _ _ _ _ => true
  | .methodLinkNest _ _ _ _ => true
  | _ => false
def zNs (U : State) : Prop := ∀ w ∈ lw_tbl, zisN w = true → va_Nw w U
theorem zNs.same {u U : State} (h : u.vm = U.vm) (hN : zNs u) : zNs U := by
  intro w hw hi
  have h1 := hN w hw hi
  cases w <;> first | (exact va_Nw.same rfl h h1) | (cases hi)
theorem zNs.warm {s U : State} (hW : s.WarmedH U.vm) (hN : zNs s) : zNs U := by
  intro w hw hi
  have h1 := hN w hw hi
  cases w <;> first | (exact va_Nw.warmF hW h1) | (exact va_Nw.warmM hW h1) | (cases hi)
def zSt (ad : Nat → Nat) (A : Nat → Prop) (U : State) (H : Heap) : Prop := zSt0 ad A U H ∧ zNs U
theorem zSt.same {ad : Nat → Nat} {A : Nat → Prop} {u U : State} {H : Heap} (hvm : u.vm = U.vm) (h : zSt ad A u H) : zSt ad A U H := ⟨h.1.moved (by rw [hvm]; exact Vm.Alike.refl _), h.2.same hvm⟩
theorem zSt.warm {ad : Nat → Nat} {A : Nat → Prop} {s U : State} {H : Heap} (hW : s.WarmedH U.vm) (h : zSt ad A s H) : zSt ad A U H := ⟨h.1.moved hW.alike, h.2.warm hW⟩
theorem zSt.kept {ad : Nat → Nat} {A : Nat → Prop} {U : State} {H H1 : Heap} (h : zSt ad A U H) (hq : ∀ a : Nat, a < H.size → ¬ A a → H1[a]? = H[a]?) : zSt ad A U H1 :=
  ⟨⟨⟨h.1.1.1.kept hq, h.1.1.2.kept hq⟩, ⟨h.1.2.1.kept hq, h.1.2.2.kept hq⟩⟩, h.2⟩
theorem zSt.narrow {ad : Nat → Nat} {A B : Nat → Prop} {U : State} {H : Heap} (h : zSt ad A U H) (hAB : ∀ q, B q → A q) : zSt ad B U H :=
  ⟨⟨⟨h.1.1.1.narrow hAB, h.1.1.2.narrow hAB⟩, ⟨h.1.2.1.narrow hAB, h.1.2.2.narrow hAB⟩⟩, h.2⟩
/-- the law's script, where there is one -/
def zSc (ad : Nat → Nat) (A : Nat → Prop) (sc : Option (Nat × (Nat → Int32))) (s : State) : Prop := match sc with
  | none => True
  | some (n, xs) => va_X (ad 1002) n xs s s.heap ∧ ad 1002 < s.heap.size ∧ ¬ A (ad 1002)
def zroom (d : Nat) : Room := { frames := d, cells := 0, slots := 0, locals := 60 * d }
def zrt (ret : Option FieldType) (v : Option Value) (i : Instr) : Prop :=
  (i = .ireturn ∧ ∃ (x : Int32) (ty : FieldType), v = some (.int x) ∧ ret = some ty ∧ narrow ty (.int x) = .int x) ∨ (i = .return_ ∧ v = none ∧ ret = none) ∨ (i = .lreturn ∧ ∃ x : Int64, v = some (.long x) ∧ ret = some .long)
def zH (sc : Option (Nat × (Nat → Int32))) (d : Nat) (y : MethodName) (cc : ByteArray) (nL : Nat) (ret : Option FieldType) (Q : Option Value → List va_E → Prop)
    (p : Program) (l : Launch) (e : Env) (R : Room) (s : State) (m : MethodId) (args : Array Value) (below : List Frame) (meth : Method) (c : Code) (cells slots : Nat) (Qf : State → Prop) (ad tA : Nat → Nat) (D : va_G) (A : Nat → Prop) : Prop :=
  p.tables.exec = Jvm.exec ∧ c.code = cc ∧ c.maxLocals = nL ∧ s.vm.findClass y.cls = some m.cls ∧ (∀ w ∈ zt, w.before args s = true) ∧
  va_K D vwCl (ztys tA) s ∧ zSt ad A s s.heap ∧ zSc ad A sc s ∧ (∀ q : Nat, s.heap.size ≤ q → A q) ∧ (d ≤ R.frames ∧ 60 * d ≤ R.locals ∧ cells ≤ R.cells ∧ slots ≤ R.slots) ∧
  (∀ (v : Option Value) (h' : List va_E) (H' : Heap) (locs' : List Loc) (pc' : Nat) (ls' : Array Slot) (i : Instr), Q v h' → zrt ret v i → decode cc pc' = .ok (i, 1) → va_P D vwCl (zw ad tA h') H' → va_D A (zw ad tA h') → va_S A s.heap H' locs' →
    W p l e R s m args below meth c H' locs' cells slots Qf (F0 m pc' ls' ((v.map (zv ad)).toList)))
/-- from pc on, with these locals, this stack and this world, the method comes to its end with Q of its answer and its world -/
def zV (sc : Option (Nat × (Nat → Int32))) (d : Nat) (y : MethodName) (cc : ByteArray) (nL : Nat) (ret : Option FieldType) (pc : Nat) (L : List (Nat × Value)) (st : List Value) (h : List va_E) (Q : Option Value → List va_E → Prop) : Prop :=
  ∀ ⦃p : Program⦄ ⦃l : Launch⦄ ⦃e : Env⦄ ⦃R : Room⦄ ⦃s : State⦄ ⦃m : MethodId⦄ ⦃args : Array Value⦄ ⦃below : List Frame⦄ ⦃meth : Method⦄ ⦃c : Code⦄ ⦃cells slots : Nat⦄ ⦃Qf : State → Prop⦄ ⦃ad tA : Nat → Nat⦄ ⦃D : va_G⦄ ⦃A : Nat → Prop⦄,
    zH sc d y cc nL ret Q p l e R s m args below meth c cells slots Qf ad tA D A →
    ∀ (H : Heap) (locs : List Loc) (ls : Array Slot), va_P D vwCl (zw ad tA h) H → va_D A (zw ad tA h) → va_S A s.heap H locs → lv_has ls nL (zl ad L) →
      W p l e R s m args below meth c H locs cells slots Qf (F0 m pc ls (st.map (zv ad)))
def zPre (ad tA : Nat → Nat) (D : va_G) (h : List va_E) (sz : Nat) (U : State) : Prop :=
  U.heap.size = sz ∧ va_P D vwCl (zw ad tA h) U.heap ∧ va_K D vwCl (ztys tA) U ∧ va_D (fun _ => True) (zw ad tA h) ∧ zSt ad (va_A (zw ad tA h) sz) U U.heap
def zPost (ad tA : Nat → Nat) (D : va_G) (h : List va_E) (sz : Nat) (Q : Option Value → List va_E → Prop) : Array Value → State → Outcome → State → Prop := fun _ st o t =>
  (∃ (r : Option Value) (h' : List va_E), o = .returned (r.map (zv ad)) ∧ Q r h' ∧ va_P D vwCl (zw ad tA h') t.heap ∧ va_D (va_A (zw ad tA h) sz) (zw ad tA h')) ∧ va_F (va_A (zw ad tA h) sz) st t
/-- a method's contract -/
def zC (d : Nat) (y : MethodName) (cc : ByteArray) (nL : Nat) (ret : Option FieldType) (av : List Value) (h : List va_E) (Q : Option Value → List va_E → Prop) : Prop :=
  ∀ (l : Launch) (ad tA : Nat → Nat) (D : va_G) (sz : Nat), Met l y (Cond.code y cc nL ret :: zt) (zroom d) (va_Pc (av.map (zv ad)) (zPre ad tA D h sz)) (zPost ad tA D h sz Q) 0 0 (va_A (zw ad tA h) sz)
def zq (rv : Option Value) (h' : List va_E) : Option Value → List va_E → Prop := fun v k => v = rv ∧ k = h'
theorem zl_args (ad : Nat → Nat) : ∀ (av : List Value) (i : Nat), lv_args i (av.map (zv ad)) = zl ad (lv_args i av)
  | [], _ => rfl
  | v :: av, i => by
    simp only [List.map_cons, lv_args, zl, zv_cat]
    rw [zl_args ad av]
    rfl
theorem zC_intro {d : Nat} {y : MethodName} {cc : ByteArray} {nL : Nat} {ret : Option FieldType} {av : List Value} {h : List va_E} {Q : Option Value → List va_E → Prop} {L : List (Nat × Value)}
    (hy : plainName y.cls = true) (hL : lv_args 0 av = L) (hn : (av.map Value.category).sum ≤ nL) (hV : zV none d y cc nL ret 0 L [] h Q) : zC d y cc nL ret av h Q := by
  intro l ad tA D sz
  refine Met.ofW (cc := cc) (maxL := nL) (ret := ret) hy rfl ?_
  intro p e s m args below meth c s₁ B hml hv
  obtain ⟨rfl, hsz, hP, hK, hD0, hSt⟩ := hv
  have hx := B.exec
  have hb := B.bytes
  have hr := B.returns
  have hts := atoms_spec (ws := Cond.code y cc nL ret :: zt) B.pre
  have hown : s.vm.findClass y.cls = some m.cls := findClass_of_methodNamed B.named
  have hlocks := B.notSynchronized
  subst hsz
  have hD := hD0.self (sz := s.heap.size)
  have hS : va_S (va_A (zw ad tA h) s.heap.size) s.heap s.heap [] := va_S.rf
  have hlen : (lg_sl (av.map (zv ad))).length ≤ nL := by
    have key : ∀ l : List Value, (lg_sl (l.map (zv ad))).length = (l.map Value.category).sum := by
      intro l
      induction l with
      | nil => rfl
      | cons v l ih =>
        have h1 : (lg_sl ((v :: l).map (zv ad))).length = (lg_sl [zv ad v]).length + (lg_sl (l.map (zv ad))).length := by
          simp [lg_sl]
        rw [h1, ih]
        have h2 : (lg_sl [zv ad v]).length = v.category := by cases v <;> rfl
        rw [h2]
        simp
    rw [key]; exact hn
  have hl := lv_entry (av.map (zv ad)) (n := nL) hlen
  rw [zl_args, hL] at hl
  rw [lg_entry_eq]
  generalize (lg_sl (av.map (zv ad)) ++ List.replicate (nL - (lg_sl (av.map (zv ad))).length) Slot.unset).toArray = ls at hl ⊢
  refine hV ⟨hx, hb, hml, hown, fun w hw => hts w (List.mem_cons_of_mem _ hw), hK, hSt, trivial, fun q h => Or.inr h, ⟨Nat.le_refl _, Nat.le_refl _, Nat.zero_le _, Nat.zero_le _⟩, ?_⟩ s.heap [] ls hP hD hS hl
  intro v h' H' locs' pc' ls' i hQ hrt hdc hP' hD' hS'
  rcases hrt with ⟨rfl, x, ty, rfl, hret, hn⟩ | ⟨rfl, rfl, hret⟩ | ⟨rfl, x, rfl, hret⟩
  · exact W.zret (ty := ty) hx hb (hr.trans hret) hn (fun t ht hW => ⟨⟨some (.int x), h', rfl, hQ, by rw [ht]; exact hP', hD'⟩, hS'.F ht⟩) hS'.2.2 hdc
  · exact W.vret hx hb (hr.trans hret) (fun t ht hW => ⟨⟨none, h', rfl, hQ, by rw [ht]; exact hP', hD'⟩, hS'.F ht⟩) hS'.2.2 hdc
  · exact W.lret hx hb (hr.trans hret) (fun t ht hW => ⟨⟨some (.long x), h', rfl, hQ, by rw [ht]; exact hP', hD'⟩, hS'.F ht⟩) hS'.2.2 hdc
section ZV
variable {sc : Option (Nat × (Nat → Int32))} {d : Nat} {y : MethodName} {cc : ByteArray} {nL : Nat} {ret : Option FieldType} {pc : Nat} {L : List (Nat × Value)} {st : List Value} {h : List va_E} {Q : Option Value → List va_E → Prop}
theorem zV_sub (L' : List (Nat × Value)) (hs : zsub L' L) (k : zV sc d y cc nL ret pc L' st h Q) : zV sc d y cc nL ret pc L st h Q := by
  intro p l e R s m args below meth c cells slots Qf ad tA D A hH H locs ls hP hD hS hl
  refine k hH H locs ls hP hD hS ⟨hl.1, hl.2.1, fun q hq => hl.2.2 q ?_⟩
  obtain ⟨q0, h1, h2⟩ := List.mem_map.mp hq
  exact List.mem_map.mpr ⟨q0, zsub_mem hs q0 h1, h2⟩
theorem zV_eq {h2 : List va_E} (he : h = h2) (k : zV sc d y cc nL ret pc L st h2 Q) : zV sc d y cc nL ret pc L st h Q := he ▸ k

theorem zv_iconst {n : Int} {v : Int32} (hd : decode cc pc = .ok (.iconst n, 1)) (hv : Int32.ofInt n = v) (k : zV sc d y cc nL ret (pc + 1) L (.int v :: st) h Q) : zV sc d y cc nL ret pc L (st) h Q := by
  intro p l e R s m args below meth c cells slots Qf ad tA D A hH H locs ls hP hD hS hl
  exact lv_iconst hH.1 hH.2.1 hd hv (k hH H locs ls hP hD hS hl)
theorem zv_bipush {n : Int} {v : Int32} (hd : decode cc pc = .ok (.bipush n, 2)) (hv : (Int8.ofInt n).toInt32 = v) (k : zV sc d y cc nL ret (pc + 2) L (.int v :: st) h Q) : zV sc d y cc nL ret pc L (st) h Q := by
  intro p l e R s m args below meth c cells slots Qf ad tA D A hH H locs ls hP hD hS hl
  exact lv_bipush hH.1 hH.2.1 hd hv (k hH H locs ls hP hD hS hl)
theorem zv_sipush {n : Int} {v : Int32} (hd : decode cc pc = .ok (.sipush n, 3)) (hv : (Int16.ofInt n).toInt32 = v) (k : zV sc d y cc nL ret (pc + 3) L (.int v :: st) h Q) : zV sc d y cc nL ret pc L (st) h Q := by
  intro p l e R s m args below meth c cells slots Qf ad tA D A hH H locs ls hP hD hS hl
  exact lv_sipush hH.1 hH.2.1 hd hv (k hH H locs ls hP hD hS hl)
theorem zv_lconst {n : Fin 2} {v : Int64} (hd : decode cc pc = .ok (.lconst n, 1)) (hv : Int64.ofNat (n : Nat) = v) (k : zV sc d y cc nL ret (pc + 1) L (.long v :: st) h Q) : zV sc d y cc nL ret pc L (st) h Q := by
  intro p l e R s m args below meth c cells slots Qf ad tA D A hH H locs ls hP hD hS hl
  exact lv_lconst hH.1 hH.2.1 hd hv (k hH H locs ls hP hD hS hl)
theorem zv_ldc {own : String} {index : Nat} {v : Int32} (ho : y.cls = own) (hw : Cond.constant own index v ∈ zt) (hd : decode cc pc = .ok (.ldc index, 2)) (k : zV sc d y cc nL ret (pc + 2) L (.int v :: st) h Q) : zV sc d y cc nL ret pc L (st) h Q := by
  intro p l e R s m args below meth c cells slots Qf ad tA D A hH H locs ls hP hD hS hl
  exact lv_ldc hH.1 hH.2.1 (own := own) (by rw [← ho]; exact hH.2.2.2.1) (hH.2.2.2.2.1 _ hw) hd (k hH H locs ls hP hD hS hl)
theorem zv_ldcw {own : String} {index : Nat} {v : Int32} (ho : y.cls = own) (hw : Cond.constant own index v ∈ zt) (hd : decode cc pc = .ok (.ldc_w index, 3)) (k : zV sc d y cc nL ret (pc + 3) L (.int v :: st) h Q) : zV sc d y cc nL ret pc L (st) h Q := by
  intro p l e R s m args below meth c cells slots Qf ad tA D A hH H locs ls hP hD hS hl
  exact lv_ldcw hH.1 hH.2.1 (own := own) (by rw [← ho]; exact hH.2.2.2.1) (hH.2.2.2.2.1 _ hw) hd (k hH H locs ls hP hD hS hl)
theorem zv_ldc2 {own : String} {index : Nat} {v : Int64} (ho : y.cls = own) (hw : Cond.constantLong own index v ∈ zt) (hd : decode cc pc = .ok (.ldc2_w index, 3)) (k : zV sc d y cc nL ret (pc + 3) L (.long v :: st) h Q) : zV sc d y cc nL ret pc L (st) h Q := by
  intro p l e R s m args below meth c cells slots Qf ad tA D A hH H locs ls hP hD hS hl
  exact lv_ldc2 hH.1 hH.2.1 (own := own) (by rw [← ho]; exact hH.2.2.2.1) (hH.2.2.2.2.1 _ hw) hd (k hH H locs ls hP hD hS hl)
theorem zv_iload_n {k0 : Fin 4} {i : Nat} {x : Int32} (hd : decode cc pc = .ok (.iload_n k0, 1)) (hi : (k0 : Nat) = i) (hx : zlk i L = some (.int x)) (k : zV sc d y cc nL ret (pc + 1) L (.int x :: st) h Q) : zV sc d y cc nL ret pc L (st) h Q := by
  intro p l e R s m args below meth c cells slots Qf ad tA D A hH H locs ls hP hD hS hl
  exact lv_iload_n hH.1 hH.2.1 hd hi (zl_at hl hx) (k hH H locs ls hP hD hS hl)
theorem zv_iload {i : Nat} {x : Int32} (hd : decode cc pc = .ok (.iload i, 2)) (hx : zlk i L = some (.int x)) (k : zV sc d y cc nL ret (pc + 2) L (.int x :: st) h Q) : zV sc d y cc nL ret pc L (st) h Q := by
  intro p l e R s m args below meth c cells slots Qf ad tA D A hH H locs ls hP hD hS hl
  exact lv_iload hH.1 hH.2.1 hd (zl_at hl hx) (k hH H locs ls hP hD hS hl)
theorem zv_aload_n {k0 : Fin 4} {i x : Nat} (hd : decode cc pc = .ok (.aload_n k0, 1)) (hi : (k0 : Nat) = i) (hx : zlk i L = some (.ref x)) (k : zV sc d y cc nL ret (pc + 1) L (.ref x :: st) h Q) : zV sc d y cc nL ret pc L (st) h Q := by
  intro p l e R s m args below meth c cells slots Qf ad tA D A hH H locs ls hP hD hS hl
  exact lv_aload_n hH.1 hH.2.1 hd hi (zl_at hl hx) (k hH H locs ls hP hD hS hl)
theorem zv_aload {i x : Nat} (hd : decode cc pc = .ok (.aload i, 2)) (hx : zlk i L = some (.ref x)) (k : zV sc d y cc nL ret (pc + 2) L (.ref x :: st) h Q) : zV sc d y cc nL ret pc L (st) h Q := by
  intro p l e R s m args below meth c cells slots Qf ad tA D A hH H locs ls hP hD hS hl
  exact lv_aload hH.1 hH.2.1 hd (zl_at hl hx) (k hH H locs ls hP hD hS hl)
theorem zv_istore_n {k0 : Fin 4} {i : Nat} {x : Int32} (hd : decode cc pc = .ok (.istore_n k0, 1)) (hi : (k0 : Nat) = i) (hn : i < nL) (k : zV sc d y cc nL ret (pc + 1) (zst i (.int x) L) (st) h Q) : zV sc d y cc nL ret pc L (.int x :: st) h Q := by
  intro p l e R s m args below meth c cells slots Qf ad tA D A hH H locs ls hP hD hS hl
  exact lv_istore_n hH.1 hH.2.1 hd hi hl hn rfl (fun ls' hl' => k hH H locs ls' hP hD hS (zl_st hl'))
theorem zv_istore {i : Nat} {x : Int32} (hd : decode cc pc = .ok (.istore i, 2)) (hn : i < nL) (k : zV sc d y cc nL ret (pc + 2) (zst i (.int x) L) (st) h Q) : zV sc d y cc nL ret pc L (.int x :: st) h Q := by
  intro p l e R s m args below meth c cells slots Qf ad tA D A hH H locs ls hP hD hS hl
  exact lv_istore hH.1 hH.2.1 hd hl hn rfl (fun ls' hl' => k hH H locs ls' hP hD hS (zl_st hl'))
theorem zv_astore_n {k0 : Fin 4} {i x : Nat} (hd : decode cc pc = .ok (.astore_n k0, 1)) (hi : (k0 : Nat) = i) (hn : i < nL) (k : zV sc d y cc nL ret (pc + 1) (zst i (.ref x) L) (st) h Q) : zV sc d y cc nL ret pc L (.ref x :: st) h Q := by
  intro p l e R s m args below meth c cells slots Qf ad tA D A hH H locs ls hP hD hS hl
  exact lv_astore_n hH.1 hH.2.1 hd hi hl hn rfl (fun ls' hl' => k hH H locs ls' hP hD hS (zl_st hl'))
theorem zv_iinc {i : Nat} {n : Int} {x v : Int32} (hd : decode cc pc = .ok (.iinc i n, 3)) (hx : zlk i L = some (.int x)) (hv : Int32.ofInt n = v) (hn : i < nL) (k : zV sc d y cc nL ret (pc + 3) (zst i (.int (x + v)) L) st h Q) : zV sc d y cc nL ret pc L st h Q := by
  intro p l e R s m args below meth c cells slots Qf ad tA D A hH H locs ls hP hD hS hl
  obtain ⟨j, hj⟩ := List.getElem?_of_mem (List.mem_map.mpr ⟨(i, .int x), zlk_mem hx, rfl⟩ : (i, zv ad (.int x)) ∈ zl ad L)
  exact lv_iinc (k := j) (v := x + v) hH.1 hH.2.1 hd hl hj (by rw [hv]) hn rfl (fun ls' hl' => k hH H locs ls' hP hD hS (zl_st hl'))
theorem zv_iadd {x z : Int32} (hd : decode cc pc = .ok (.iadd, 1)) (k : zV sc d y cc nL ret (pc + 1) L (.int (x + z) :: st) h Q) : zV sc d y cc nL ret pc L (.int z :: .int x :: st) h Q := by
  intro p l e R s m args below meth c cells slots Qf ad tA D A hH H locs ls hP hD hS hl
  exact lv_iadd hH.1 hH.2.1 hd (k hH H locs ls hP hD hS hl)
theorem zv_isub {x z : Int32} (hd : decode cc pc = .ok (.isub, 1)) (k : zV sc d y cc nL ret (pc + 1) L (.int (x - z) :: st) h Q) : zV sc d y cc nL ret pc L (.int z :: .int x :: st) h Q := by
  intro p l e R s m args below meth c cells slots Qf ad tA D A hH H locs ls hP hD hS hl
  exact lv_isub hH.1 hH.2.1 hd (k hH H locs ls hP hD hS hl)
theorem zv_imul {x z : Int32} (hd : decode cc pc = .ok (.imul, 1)) (k : zV sc d y cc nL ret (pc + 1) L (.int (x * z) :: st) h Q) : zV sc d y cc nL ret pc L (.int z :: .int x :: st) h Q := by
  intro p l e R s m args below meth c cells slots Qf ad tA D A hH H locs ls hP hD hS hl
  exact lv_imul hH.1 hH.2.1 hd (k hH H locs ls hP hD hS hl)
theorem zv_iand {x z : Int32} (hd : decode cc pc = .ok (.iand, 1)) (k : zV sc d y cc nL ret (pc + 1) L (.int (x &&& z) :: st) h Q) : zV sc d y cc nL ret pc L (.int z :: .int x :: st) h Q := by
  intro p l e R s m args below meth c cells slots Qf ad tA D A hH H locs ls hP hD hS hl
  exact lv_iand hH.1 hH.2.1 hd (k hH H locs ls hP hD hS hl)
theorem zv_ior {x z : Int32} (hd : decode cc pc = .ok (.ior, 1)) (k : zV sc d y cc nL ret (pc + 1) L (.int (x ||| z) :: st) h Q) : zV sc d y cc nL ret pc L (.int z :: .int x :: st) h Q := by
  intro p l e R s m args below meth c cells slots Qf ad tA D A hH H locs ls hP hD hS hl
  exact lv_ior hH.1 hH.2.1 hd (k hH H locs ls hP hD hS hl)
theorem zv_ixor {x z : Int32} (hd : decode cc pc = .ok (.ixor, 1)) (k : zV sc d y cc nL ret (pc + 1) L (.int (x ^^^ z) :: st) h Q) : zV sc d y cc nL ret pc L (.int z :: .int x :: st) h Q := by
  intro p l e R s m args below meth c cells slots Qf ad tA D A hH H locs ls hP hD hS hl
  exact lv_ixor hH.1 hH.2.1 hd (k hH H locs ls hP hD hS hl)
theorem zv_ishl {x z : Int32} (hd : decode cc pc = .ok (.ishl, 1)) (k : zV sc d y cc nL ret (pc + 1) L (.int (x <<< (z &&& 31)) :: st) h Q) : zV sc d y cc nL ret pc L (.int z :: .int x :: st) h Q := by
  intro p l e R s m args below meth c cells slots Qf ad tA D A hH H locs ls hP hD hS hl
  exact lv_ishl hH.1 hH.2.1 hd (k hH H locs ls hP hD hS hl)
theorem zv_ishr {x z : Int32} (hd : decode cc pc = .ok (.ishr, 1)) (k : zV sc d y cc nL ret (pc + 1) L (.int (x >>> (z &&& 31)) :: st) h Q) : zV sc d y cc nL ret pc L (.int z :: .int x :: st) h Q := by
  intro p l e R s m args below meth c cells slots Qf ad tA D A hH H locs ls hP hD hS hl
  exact lv_ishr hH.1 hH.2.1 hd (k hH H locs ls hP hD hS hl)
theorem zv_iushr {x z : Int32} (hd : decode cc pc = .ok (.iushr, 1)) (k : zV sc d y cc nL ret (pc + 1) L (.int ((x.toUInt32 >>> (z.toUInt32 &&& Int32.toUInt32 31)).toInt32) :: st) h Q) : zV sc d y cc nL ret pc L (.int z :: .int x :: st) h Q := by
  intro p l e R s m args below meth c cells slots Qf ad tA D A hH H locs ls hP hD hS hl
  exact lv_iushr hH.1 hH.2.1 hd rfl (k hH H locs ls hP hD hS hl)
theorem zv_idiv {x z : Int32} (hz : ¬ z = 0) (hd : decode cc pc = .ok (.idiv, 1)) (k : zV sc d y cc nL ret (pc + 1) L (.int (x / z) :: st) h Q) : zV sc d y cc nL ret pc L (.int z :: .int x :: st) h Q := by
  intro p l e R s m args below meth c cells slots Qf ad tA D A hH H locs ls hP hD hS hl
  exact lv_idiv hH.1 hH.2.1 hd hz (k hH H locs ls hP hD hS hl)
theorem zv_irem {x z : Int32} (hz : ¬ z = 0) (hd : decode cc pc = .ok (.irem, 1)) (k : zV sc d y cc nL ret (pc + 1) L (.int (x - x / z * z) :: st) h Q) : zV sc d y cc nL ret pc L (.int z :: .int x :: st) h Q := by
  intro p l e R s m args below meth c cells slots Qf ad tA D A hH H locs ls hP hD hS hl
  exact lv_irem hH.1 hH.2.1 hd hz (k hH H locs ls hP hD hS hl)
theorem zv_ineg {x : Int32} (hd : decode cc pc = .ok (.ineg, 1)) (k : zV sc d y cc nL ret (pc + 1) L (.int (-x) :: st) h Q) : zV sc d y cc nL ret pc L (.int x :: st) h Q := by
  intro p l e R s m args below meth c cells slots Qf ad tA D A hH H locs ls hP hD hS hl
  exact lv_ineg hH.1 hH.2.1 hd (k hH H locs ls hP hD hS hl)
theorem zv_i2b {x : Int32} (hd : decode cc pc = .ok (.i2b, 1)) (k : zV sc d y cc nL ret (pc + 1) L (.int x.toInt8.toInt32 :: st) h Q) : zV sc d y cc nL ret pc L (.int x :: st) h Q := by
  intro p l e R s m args below meth c cells slots Qf ad tA D A hH H locs ls hP hD hS hl
  exact lv_i2b hH.1 hH.2.1 hd rfl (k hH H locs ls hP hD hS hl)
theorem zv_i2l {x : Int32} (hd : decode cc pc = .ok (.i2l, 1)) (k : zV sc d y cc nL ret (pc + 1) L (.long x.toInt64 :: st) h Q) : zV sc d y cc nL ret pc L (.int x :: st) h Q := by
  intro p l e R s m args below meth c cells slots Qf ad tA D A hH H locs ls hP hD hS hl
  exact lv_i2l hH.1 hH.2.1 hd rfl (k hH H locs ls hP hD hS hl)
theorem zv_ladd {x z : Int64} (hd : decode cc pc = .ok (.ladd, 1)) (k : zV sc d y cc nL ret (pc + 1) L (.long (x + z) :: st) h Q) : zV sc d y cc nL ret pc L (.long z :: .long x :: st) h Q := by
  intro p l e R s m args below meth c cells slots Qf ad tA D A hH H locs ls hP hD hS hl
  exact lv_ladd hH.1 hH.2.1 hd (k hH H locs ls hP hD hS hl)
theorem zv_lcmp {x z : Int64} (hd : decode cc pc = .ok (.lcmp, 1)) (k : zV sc d y cc nL ret (pc + 1) L (.int (lg_cmp x z) :: st) h Q) : zV sc d y cc nL ret pc L (.long z :: .long x :: st) h Q := by
  intro p l e R s m args below meth c cells slots Qf ad tA D A hH H locs ls hP hD hS hl
  exact W.lcmp hH.1 hH.2.1 hd (k hH H locs ls hP hD hS hl)
theorem zv_dup {va : Value} (hd : decode cc pc = .ok (.dup, 1)) (hc : va.category = 1) (k : zV sc d y cc nL ret (pc + 1) L (va :: va :: st) h Q) : zV sc d y cc nL ret pc L (va :: st) h Q := by
  intro p l e R s m args below meth c cells slots Qf ad tA D A hH H locs ls hP hD hS hl
  exact lv_dup hH.1 hH.2.1 hd ((zv_cat ad va).trans hc) (k hH H locs ls hP hD hS hl)
theorem zv_pop {va : Value} (hd : decode cc pc = .ok (.pop, 1)) (hc : va.category = 1) (k : zV sc d y cc nL ret (pc + 1) L (st) h Q) : zV sc d y cc nL ret pc L (va :: st) h Q := by
  intro p l e R s m args below meth c cells slots Qf ad tA D A hH H locs ls hP hD hS hl
  exact lv_pop hH.1 hH.2.1 hd ((zv_cat ad va).trans hc) (k hH H locs ls hP hD hS hl)
theorem zv_dup2 {va vb : Value} (hd : decode cc pc = .ok (.dup2, 1)) (hc : va.category = 1) (hc2 : vb.category = 1) (k : zV sc d y cc nL ret (pc + 1) L (va :: vb :: va :: vb :: st) h Q) : zV sc d y cc nL ret pc L (va :: vb :: st) h Q := by
  intro p l e R s m args below meth c cells slots Qf ad tA D A hH H locs ls hP hD hS hl
  exact lv_dup2_11 hH.1 hH.2.1 hd ((zv_cat ad va).trans hc) ((zv_cat ad vb).trans hc2) (k hH H locs ls hP hD hS hl)
theorem zv_icmp_eq {x z : Int32} {off : Int} {tgt : Nat} (hd : decode cc pc = .ok (.if_icmp .eq off, 3)) (ht : (pc : Int) + off = (tgt : Int)) (kt : x = z → zV sc d y cc nL ret tgt L st h Q) (kf : ¬ x = z → zV sc d y cc nL ret (pc + 3) L st h Q) : zV sc d y cc nL ret pc L (.int z :: .int x :: st) h Q := by
  intro p l e R s m args below meth c cells slots Qf ad tA D A hH H locs ls hP hD hS hl
  exact lv_icmp_eq hH.1 hH.2.1 hd ht (fun q => kt q hH H locs ls hP hD hS hl) (fun q => kf q hH H locs ls hP hD hS hl)
theorem zv_icmp_ne {x z : Int32} {off : Int} {tgt : Nat} (hd : decode cc pc = .ok (.if_icmp .ne off, 3)) (ht : (pc : Int) + off = (tgt : Int)) (kt : ¬ x = z → zV sc d y cc nL ret tgt L st h Q) (kf : x = z → zV sc d y cc nL ret (pc + 3) L st h Q) : zV sc d y cc nL ret pc L (.int z :: .int x :: st) h Q := by
  intro p l e R s m args below meth c cells slots Qf ad tA D A hH H locs ls hP hD hS hl
  exact lv_icmp_ne hH.1 hH.2.1 hd ht (fun q => kt q hH H locs ls hP hD hS hl) (fun q => kf q hH H locs ls hP hD hS hl)
theorem zv_icmp_lt {x z : Int32} {off : Int} {tgt : Nat} (hd : decode cc pc = .ok (.if_icmp .lt off, 3)) (ht : (pc : Int) + off = (tgt : Int)) (kt : x < z → zV sc d y cc nL ret tgt L st h Q) (kf : ¬ x < z → zV sc d y cc nL ret (pc + 3) L st h Q) : zV sc d y cc nL ret pc L (.int z :: .int x :: st) h Q := by
  intro p l e R s m args below meth c cells slots Qf ad tA D A hH H locs ls hP hD hS hl
  exact lv_icmp_lt hH.1 hH.2.1 hd ht (fun q => kt q hH H locs ls hP hD hS hl) (fun q => kf q hH H locs ls hP hD hS hl)
theorem zv_icmp_ge {x z : Int32} {off : Int} {tgt : Nat} (hd : decode cc pc = .ok (.if_icmp .ge off, 3)) (ht : (pc : Int) + off = (tgt : Int)) (kt : z ≤ x → zV sc d y cc nL ret tgt L st h Q) (kf : ¬ z ≤ x → zV sc d y cc nL ret (pc + 3) L st h Q) : zV sc d y cc nL ret pc L (.int z :: .int x :: st) h Q := by
  intro p l e R s m args below meth c cells slots Qf ad tA D A hH H locs ls hP hD hS hl
  exact lv_icmp_ge hH.1 hH.2.1 hd ht (fun q => kt q hH H locs ls hP hD hS hl) (fun q => kf q hH H locs ls hP hD hS hl)
theorem zv_icmp_gt {x z : Int32} {off : Int} {tgt : Nat} (hd : decode cc pc = .ok (.if_icmp .gt off, 3)) (ht : (pc : Int) + off = (tgt : Int)) (kt : z < x → zV sc d y cc nL ret tgt L st h Q) (kf : ¬ z < x → zV sc d y cc nL ret (pc + 3) L st h Q) : zV sc d y cc nL ret pc L (.int z :: .int x :: st) h Q := by
  intro p l e R s m args below meth c cells slots Qf ad tA D A hH H locs ls hP hD hS hl
  exact lv_icmp_gt hH.1 hH.2.1 hd ht (fun q => kt q hH H locs ls hP hD hS hl) (fun q => kf q hH H locs ls hP hD hS hl)
theorem zv_icmp_le {x z : Int32} {off : Int} {tgt : Nat} (hd : decode cc pc = .ok (.if_icmp .le off, 3)) (ht : (pc : Int) + off = (tgt : Int)) (kt : x ≤ z → zV sc d y cc nL ret tgt L st h Q) (kf : ¬ x ≤ z → zV sc d y cc nL ret (pc + 3) L st h Q) : zV sc d y cc nL ret pc L (.int z :: .int x :: st) h Q := by
  intro p l e R s m args below meth c cells slots Qf ad tA D A hH H locs ls hP hD hS hl
  exact lv_icmp_le hH.1 hH.2.1 hd ht (fun q => kt q hH H locs ls hP hD hS hl) (fun q => kf q hH H locs ls hP hD hS hl)
theorem zv_if_eq {x : Int32} {off : Int} {tgt : Nat} (hd : decode cc pc = .ok (.ifCond .eq off, 3)) (ht : (pc : Int) + off = (tgt : Int)) (kt : x = 0 → zV sc d y cc nL ret tgt L st h Q) (kf : ¬ x = 0 → zV sc d y cc nL ret (pc + 3) L st h Q) : zV sc d y cc nL ret pc L (.int x :: st) h Q := by
  intro p l e R s m args below meth c cells slots Qf ad tA D A hH H locs ls hP hD hS hl
  exact lv_if_eq hH.1 hH.2.1 hd ht (fun q => kt q hH H locs ls hP hD hS hl) (fun q => kf q hH H locs ls hP hD hS hl)
theorem zv_if_ne {x : Int32} {off : Int} {tgt : Nat} (hd : decode cc pc = .ok (.ifCond .ne off, 3)) (ht : (pc : Int) + off = (tgt : Int)) (kt : ¬ x = 0 → zV sc d y cc nL ret tgt L st h Q) (kf : x = 0 → zV sc d y cc nL ret (pc + 3) L st h Q) : zV sc d y cc nL ret pc L (.int x :: st) h Q := by
  intro p l e R s m args below meth c cells slots Qf ad tA D A hH H locs ls hP hD hS hl
  exact lv_if_ne hH.1 hH.2.1 hd ht (fun q => kt q hH H locs ls hP hD hS hl) (fun q => kf q hH H locs ls hP hD hS hl)
theorem zv_if_lt {x : Int32} {off : Int} {tgt : Nat} (hd : decode cc pc = .ok (.ifCond .lt off, 3)) (ht : (pc : Int) + off = (tgt : Int)) (kt : x < 0 → zV sc d y cc nL ret tgt L st h Q) (kf : ¬ x < 0 → zV sc d y cc nL ret (pc + 3) L st h Q) : zV sc d y cc nL ret pc L (.int x :: st) h Q := by
  intro p l e R s m args below meth c cells slots Qf ad tA D A hH H locs ls hP hD hS hl
  exact lv_if_lt hH.1 hH.2.1 hd ht (fun q => kt q hH H locs ls hP hD hS hl) (fun q => kf q hH H locs ls hP hD hS hl)
theorem zv_if_ge {x : Int32} {off : Int} {tgt : Nat} (hd : decode cc pc = .ok (.ifCond .ge off, 3)) (ht : (pc : Int) + off = (tgt : Int)) (kt : 0 ≤ x → zV sc d y cc nL ret tgt L st h Q) (kf : ¬ 0 ≤ x → zV sc d y cc nL ret (pc + 3) L st h Q) : zV sc d y cc nL ret pc L (.int x :: st) h Q := by
  intro p l e R s m args below meth c cells slots Qf ad tA D A hH H locs ls hP hD hS hl
  exact lv_if_ge hH.1 hH.2.1 hd ht (fun q => kt q hH H locs ls hP hD hS hl) (fun q => kf q hH H locs ls hP hD hS hl)
theorem zv_if_gt {x : Int32} {off : Int} {tgt : Nat} (hd : decode cc pc = .ok (.ifCond .gt off, 3)) (ht : (pc : Int) + off = (tgt : Int)) (kt : 0 < x → zV sc d y cc nL ret tgt L st h Q) (kf : ¬ 0 < x → zV sc d y cc nL ret (pc + 3) L st h Q) : zV sc d y cc nL ret pc L (.int x :: st) h Q := by
  intro p l e R s m args below meth c cells slots Qf ad tA D A hH H locs ls hP hD hS hl
  exact lv_if_gt hH.1 hH.2.1 hd ht (fun q => kt q hH H locs ls hP hD hS hl) (fun q => kf q hH H locs ls hP hD hS hl)
theorem zv_if_le {x : Int32} {off : Int} {tgt : Nat} (hd : decode cc pc = .ok (.ifCond .le off, 3)) (ht : (pc : Int) + off = (tgt : Int)) (kt : x ≤ 0 → zV sc d y cc nL ret tgt L st h Q) (kf : ¬ x ≤ 0 → zV sc d y cc nL ret (pc + 3) L st h Q) : zV sc d y cc nL ret pc L (.int x :: st) h Q := by
  intro p l e R s m args below meth c cells slots Qf ad tA D A hH H locs ls hP hD hS hl
  exact lv_if_le hH.1 hH.2.1 hd ht (fun q => kt q hH H locs ls hP hD hS hl) (fun q => kf q hH H locs ls hP hD hS hl)
theorem zv_goto {off : Int} {tgt : Nat} (hd : decode cc pc = .ok (.goto off, 3)) (ht : (pc : Int) + off = (tgt : Int)) (k : zV sc d y cc nL ret tgt L st h Q) : zV sc d y cc nL ret pc L st h Q := by
  intro p l e R s m args below meth c cells slots Qf ad tA D A hH H locs ls hP hD hS hl
  exact lv_goto hH.1 hH.2.1 hd ht (k hH H locs ls hP hD hS hl)
theorem zv_tableIn {dflt lo hi : Int} {offs : Array Int} {len : Nat} {x v : Int32} {off : Int} {tgt : Nat} (hd : decode cc pc = .ok (.tableswitch dflt lo hi offs, len)) (hx : x = v) (h1 : ¬ v.toInt < lo) (h2 : ¬ hi < v.toInt) (ho : offs[(v.toInt - lo).toNat]? = some off) (ht : (pc : Int) + off = (tgt : Int)) (k : zV sc d y cc nL ret tgt L st h Q) : zV sc d y cc nL ret pc L (.int x :: st) h Q := by
  subst hx
  intro p l e R s m args below meth c cells slots Qf ad tA D A hH H locs ls hP hD hS hl
  exact lv_tableIn hH.1 hH.2.1 hd h1 h2 ho ht (k hH H locs ls hP hD hS hl)
theorem zv_tableOut {dflt lo hi : Int} {offs : Array Int} {len : Nat} {x : Int32} {tgt : Nat} (hd : decode cc pc = .ok (.tableswitch dflt lo hi offs, len)) (h0 : x.toInt < lo ∨ hi < x.toInt) (ht : (pc : Int) + dflt = (tgt : Int)) (k : zV sc d y cc nL ret tgt L st h Q) : zV sc d y cc nL ret pc L (.int x :: st) h Q := by
  intro p l e R s m args below meth c cells slots Qf ad tA D A hH H locs ls hP hD hS hl
  exact lv_tableOut hH.1 hH.2.1 hd h0 ht (k hH H locs ls hP hD hS hl)
theorem zv_lookup {dflt : Int} {ps : Array (Int × Int)} {len : Nat} {x : Int32} {off : Int} {tgt : Nat} (hd : decode cc pc = .ok (.lookupswitch dflt ps, len)) (hp : (ps.toList.zip (ps.toList.drop 1)).all (fun (a, next) => a.1 < next.1) = true) (ho : Op.lookupswitch.offset ps.toList dflt x.toInt = off) (ht : (pc : Int) + off = (tgt : Int)) (k : zV sc d y cc nL ret tgt L st h Q) : zV sc d y cc nL ret pc L (.int x :: st) h Q := by
  intro p l e R s m args below meth c cells slots Qf ad tA D A hH H locs ls hP hD hS hl
  exact lv_lookup hH.1 hH.2.1 hd hp ho ht (k hH H locs ls hP hD hS hl)
theorem zv_iret {x : Int32} {ty : FieldType} (hd : decode cc pc = .ok (.ireturn, 1)) (hr : ret = some ty) (hn : narrow ty (.int x) = .int x) (hq : Q (some (.int x)) h) : zV sc d y cc nL ret pc L [.int x] h Q := by
  intro p l e R s m args below meth c cells slots Qf ad tA D A hH H locs ls hP hD hS hl
  exact hH.2.2.2.2.2.2.2.2.2.2 (some (.int x)) h H locs pc ls .ireturn hq (Or.inl ⟨rfl, x, ty, rfl, hr, hn⟩) hd hP hD hS
theorem zv_vret (hd : decode cc pc = .ok (.return_, 1)) (hr : ret = none) (hq : Q none h) : zV sc d y cc nL ret pc L [] h Q := by
  intro p l e R s m args below meth c cells slots Qf ad tA D A hH H locs ls hP hD hS hl
  exact hH.2.2.2.2.2.2.2.2.2.2 none h H locs pc ls .return_ hq (Or.inr (Or.inl ⟨rfl, rfl, hr⟩)) hd hP hD hS
theorem zv_lret {x : Int64} (hd : decode cc pc = .ok (.lreturn, 1)) (hr : ret = some .long) (hq : Q (some (.long x)) h) : zV sc d y cc nL ret pc L [.long x] h Q := by
  intro p l e R s m args below meth c cells slots Qf ad tA D A hH H locs ls hP hD hS hl
  exact hH.2.2.2.2.2.2.2.2.2.2 (some (.long x)) h H locs pc ls .lreturn hq (Or.inr (Or.inr ⟨rfl, x, rfl, hr⟩)) hd hP hD hS
end ZV
end
section
theorem zgood_all : zt.all goodWord = true := List.all_eq_true.mpr (fun w hw => (List.mem_filter.mp hw).2)
theorem zgood {y : MethodName} {cc : ByteArray} {nL : Nat} {ret : Option FieldType} (h : Cond.code y cc nL ret ∈ zt) : GoodIn zt (Cond.code y cc nL ret :: zt) := by
  intro w hw
  rcases List.mem_cons.mp hw with e | hw
  · subst e
    exact ⟨h, good_of_word (List.all_eq_true.mp zgood_all _ h)⟩
  · exact ⟨hw, good_of_word (List.all_eq_true.mp zgood_all _ hw)⟩
theorem zmemN {w : Cond} (i : Nat) (h : lw_tbl[i]? = some w) : w ∈ lw_tbl := List.mem_of_getElem? h
theorem zmem {w : Cond} (i : Nat) (h : lw_tbl[i]? = some w) (hg : goodWord w = true) : w ∈ zt := List.mem_filter.mpr ⟨List.mem_of_getElem? h, hg⟩
/-- a field's link -/
def zFd (own : String) (index ci : Nat) (C : String) (T : u_T) (N k : Nat) : Prop :=
  vwCl[ci]? = some (C, T, N) ∧ k < N ∧ (∀ w ∈ u_ws C T N, w ∈ zt) ∧ (T k).1 = C ∧ (Cond.fieldLink own index C (T k).2.1 (T k).2.2.1 ∈ zt ∨ ∃ host, Cond.fieldLinkNest own index C (T k).2.1 (T k).2.2.1 host ∈ lw_tbl)
def zFp (own : String) (index ci : Nat) (C : String) (T : u_T) (N k : Nat) (ty : FieldType) : Prop :=
  zFd own index ci C T N k ∧ (T k).2.2.2 = false ∧ parseFieldDescriptor (T k).2.2.1 = some ty ∧ (∃ ty0 : Nat → FieldType, ∀ k, k < N → parseFieldDescriptor (T k).2.2.1 = some (ty0 k)) ∧ (∀ a, a < N → ∀ b, b < N → a ≠ b → (T a).2.1 ≠ (T b).2.1)
abbrev zin (i : Int32) (n : Nat) : Prop := 0 ≤ i.toInt ∧ i.toInt < (n : Int)
/-- a method that may be called: its words -/
def zMd (y : MethodName) (cc : ByteArray) (nL : Nat) (ret : Option FieldType) (n : Nat) : Prop :=
  Cond.initialized y.cls ∈ zt ∧ Cond.code y cc nL ret ∈ zt ∧ (y.cls ≠ "java/lang/invoke/MethodHandle" ∧ y.cls ≠ "java/lang/invoke/VarHandle") ∧ (parseMethodDescriptor y.desc).map (fun d => d.parameters.length) = some n ∧ nL ≤ 41
def zMv (y : MethodName) (cc : ByteArray) (nL : Nat) (ret : Option FieldType) (n : Nat) : Prop := zMd y cc nL ret n ∧ Cond.instanceMethod y ∈ zt ∧ Cond.selects y.cls y y ∈ zt
def zMs (y : MethodName) (cc : ByteArray) (nL : Nat) (ret : Option FieldType) (n : Nat) : Prop := zMd y cc nL ret n ∧ Cond.static y ∈ zt
section ZB
variable {p : Program} {l : Launch} {e : Env} {R : Room} {s : State} {m : MethodId} {args : Array Value} {below : List Frame} {meth : Method} {c : Code} {H : Heap} {locs : List Loc} {cells slots : Nat} {Qf : State → Prop} {ad tA : Nat → Nat} {D : va_G} {A : Nat → Prop} {h : List va_E}
theorem zCallB {d : Nat} {y2 : MethodName} {cc2 : ByteArray} {nL2 : Nat} {ret2 : Option FieldType} {n : Nat} {own : String} {index : Nat} (hts : ∀ w ∈ zt, w.before args s = true) (hM : zMd y2 cc2 nL2 ret2 n) (hl : Cond.methodLink own index y2 ∈ zt) (hR : d + 1 ≤ R.frames ∧ 60 * (d + 1) ≤ R.locals) :
    CallB R s args own index y2 cc2 nL2 ret2 (Cond.code y2 cc2 nL2 ret2 :: zt) (zroom d) 0 0 n :=
  callB_of n hts (zgood hM.2.1) rfl rfl rfl (hts _ hM.1) (hts _ hl) ⟨hM.2.2.1.1, hM.2.2.1.2, hM.2.2.2.1⟩ ⟨hR.1, by have := hM.2.2.2.2; show 8 + (nL2 + 11) + 60 * d ≤ R.locals; omega⟩
theorem zCallN {d : Nat} {y2 : MethodName} {cc2 : ByteArray} {nL2 : Nat} {ret2 : Option FieldType} {n : Nat} {own host : String} {index : Nat} (hts : ∀ w ∈ zt, w.before args s = true) (hM : zMd y2 cc2 nL2 ret2 n) (hNs : zNs s) (hl : Cond.methodLinkNest own index y2 host ∈ lw_tbl) (hR : d + 1 ≤ R.frames ∧ 60 * (d + 1) ≤ R.locals) :
    va_CN R s args own index y2 host cc2 nL2 ret2 (Cond.code y2 cc2 nL2 ret2 :: zt) (zroom d) 0 0 n :=
  va_cnB n hts (zgood hM.2.1) rfl rfl rfl (hNs _ hl rfl) (hts _ hM.1) ⟨hM.2.2.1.1, hM.2.2.1.2, hM.2.2.2.1⟩ ⟨hR.1, by have := hM.2.2.2.2; show 8 + (nL2 + 11) + 60 * d ≤ R.locals; omega⟩
theorem zblind {av : List Value} {sz : Nat} : FrameBlind (va_Pc (av.map (zv ad)) (zPre ad tA D h sz)) := by
  intro a U g mk q
  obtain ⟨q0, q1, qP, qK, qD, qS⟩ := q
  exact ⟨q0, q1, qP, va_K.moved (u := U) (U := U.calling g mk a) (Vm.Alike.refl U.vm) qK, qD, zSt.same (u := U) (U := U.calling g mk a) rfl qS⟩
theorem zAin (hD : va_D A (zw ad tA h)) (hS : va_S A s.heap H locs) (hA : ∀ q : Nat, s.heap.size ≤ q → A q) : ∀ q, va_A (zw ad tA h) H.size q → A q := by
  intro q hq
  rcases hq with ⟨k, e, hk⟩ | hq
  · exact hD.2 k _ hk
  · exact hA q (Nat.le_trans hS.1 hq)
theorem zpre {av : List Value} (hP : va_P D vwCl (zw ad tA h) H) (hD : va_D A (zw ad tA h)) (hS : va_S A s.heap H locs) (hA : ∀ q : Nat, s.heap.size ≤ q → A q) (hK : va_K D vwCl (ztys tA) s) (hSt : zSt ad A s s.heap) :
    ∀ U : State, U.heap = H → s.WarmedH U.vm → va_Pc (av.map (zv ad)) (zPre ad tA D h H.size) (av.map (zv ad)).toArray U := by
  intro U hU hW
  refine ⟨rfl, by rw [hU], by rw [hU]; exact hP, va_K.moved hW.alike hK, hD.weaken (fun _ _ _ _ => trivial), ?_⟩
  rw [hU]
  exact ((zSt.warm hW hSt).kept (H1 := H) (fun a h1 h2 => hS.2.1 a h1 h2)).narrow (zAin hD hS hA)
/-- behind a call -/
theorem zback {sc : Option (Nat × (Nat → Int32))} {d : Nat} {y : MethodName} {cc : ByteArray} {nL : Nat} {ret : Option FieldType} {pc : Nat} {L : List (Nat × Value)} {st stk : List Value} {h2 : List va_E} {rv : Option Value} {Q : Option Value → List va_E → Prop} {ls : Array Slot} {av : Array Value}
    (hH : zH sc d y cc nL ret Q p l e R s m args below meth c cells slots Qf ad tA D A) (hP : va_P D vwCl (zw ad tA h) H) (hD : va_D A (zw ad tA h)) (hS : va_S A s.heap H locs) (hl : lv_has ls nL (zl ad L))
    (hr : va_Run p l e R s m args below meth c H locs cells slots 0 0 (F0 m pc ls stk) (st.map (zv ad)) (zPost ad tA D h H.size (zq rv h2) av) (va_A (zw ad tA h) H.size))
    (kk : zV sc d y cc nL ret (pc + 3) L (rv.toList ++ st) h2 Q) : W p l e R s m args below meth c H locs cells slots Qf (F0 m pc ls stk) := by
  intro T hT X
  obtain ⟨v, st₀, t, T', L', h0, X', hL, e1, e2, ⟨⟨r, h', hv, ⟨hq1, hq2⟩, hP1, hD1⟩, hz, hk⟩, goes⟩ := hr T hT X
  subst hq1; subst hq2
  have hv : v = r.map (zv ad) := by cases hv; rfl
  subst hv
  rw [h0] at hz hk
  have hAin := zAin hD hS hH.2.2.2.2.2.2.2.2.1
  have hS1 : va_S A s.heap T'.heap (locs ++ L') := ⟨Nat.le_trans hS.1 (by rw [e1]; exact hz), fun q h1 h2 => by
      rw [e1, hk q (Nat.lt_of_lt_of_le h1 hS.1) (fun z => h2 (hAin q z))]; exact hS.2.1 q h1 h2, fun q hq => by
      rcases List.mem_append.mp hq with h | h
      · exact hS.2.2 q h
      · exact hAin _ (hL q h)⟩
  obtain ⟨t2, a1, b1⟩ := kk hH T'.heap (locs ++ L') ls (by rw [e1]; exact hP1) (hD1.weaken (fun k q _ hq => hAin _ hq)) hS1 hl T' rfl X'
  have hst : (r.toList ++ st).map (zv ad) = (r.map (zv ad)).toList ++ st.map (zv ad) := by cases r <;> rfl
  rw [hst] at a1
  exact ⟨t2, goes t2 a1, b1⟩
end ZB
section ZV
variable {sc : Option (Nat × (Nat → Int32))} {d : Nat} {y : MethodName} {cc : ByteArray} {nL : Nat} {ret : Option FieldType} {pc : Nat} {L : List (Nat × Value)} {st : List Value} {h : List va_E} {Q : Option Value → List va_E → Prop}
theorem zv_callV {y2 : MethodName} {cc2 : ByteArray} {nL2 n index r ci N : Nat} {ret2 : Option FieldType} {As stk fs : List Value} {rv : Option Value} {h2 : List va_E} {T : u_T}
    (hd : decode cc pc = .ok (.invokevirtual index, 3)) (hl : Cond.methodLink y.cls index y2 ∈ zt) (hM : zMv y2 cc2 nL2 ret2 n) (hC : zC d y2 cc2 nL2 ret2 (.ref r :: As) h (zq rv h2)) (hr : h[r]? = some (.inr (ci, fs))) (hcl : vwCl[ci]? = some (y2.cls, T, N)) (hn : As.length = n) (hs : stk = As.reverse ++ .ref r :: st) (hsm : (st.map Value.category).sum ≤ 8)
    (kk : zV sc (d + 1) y cc nL ret (pc + 3) L (rv.toList ++ st) h2 Q) : zV sc (d + 1) y cc nL ret pc L stk h Q := by
  intro p l e R s m args below meth c cells slots Qf ad tA D A hH H locs ls hP hD hS hl'
  obtain ⟨hx, hb, hml, hown, hts, hK, hSt, hSc, hA, hR, -⟩ := id hH
  refine zback hH hP hD hS hl' (av := ((Value.ref r :: As).map (zv ad)).toArray) ?_ kk
  exact va_runV (As := As.map (zv ad)) (b := ad r) ⟨hx, hb, hml, hown, hts⟩ (hC l ad tA D H.size) (C := y2.cls) ⟨zCallB hts hM.1 hl ⟨hR.1, hR.2.1⟩, hts _ hM.2.1, hts _ hM.2.2⟩ ⟨zblind, va_recv (q := (y2.cls, T, N)) hK hP hcl (zw_get hr), zpre hP hD hS hA hK hSt⟩ rfl (by rw [List.length_map]; exact hn) hl'.1 (by rw [hs]; simp [zv]) (lv_room (by
      have e1 : ((st.map (zv ad)).map fun v => v.category) = st.map Value.category := by rw [List.map_map]; exact List.map_congr_left (fun v _ => zv_cat ad v)
      rw [e1]; exact hsm)) hd ⟨hR.2.2.1, hR.2.2.2⟩
theorem zv_callS {y2 : MethodName} {cc2 : ByteArray} {nL2 n index : Nat} {ret2 : Option FieldType} {As stk : List Value} {rv : Option Value} {h2 : List va_E}
    (hd : decode cc pc = .ok (.invokestatic index, 3)) (hl : Cond.methodLink y.cls index y2 ∈ zt) (hM : zMs y2 cc2 nL2 ret2 n) (hC : zC d y2 cc2 nL2 ret2 As h (zq rv h2)) (hn : As.length = n) (hs : stk = As.reverse ++ st) (hsm : (st.map Value.category).sum ≤ 8)
    (kk : zV sc (d + 1) y cc nL ret (pc + 3) L (rv.toList ++ st) h2 Q) : zV sc (d + 1) y cc nL ret pc L stk h Q := by
  intro p l e R s m args below meth c cells slots Qf ad tA D A hH H locs ls hP hD hS hl'
  obtain ⟨hx, hb, hml, hown, hts, hK, hSt, hSc, hA, hR, -⟩ := id hH
  refine zback hH hP hD hS hl' (av := (As.map (zv ad)).toArray) ?_ kk
  exact va_runS (As := As.map (zv ad)) ⟨hx, hb, hml, hown, hts⟩ (hC l ad tA D H.size) ⟨zCallB hts hM.1 hl ⟨hR.1, hR.2.1⟩, hts _ hM.2⟩ ⟨zblind, zpre hP hD hS hA hK hSt⟩ rfl (by rw [List.length_map]; exact hn) hl'.1 (by rw [hs]; simp [zv]) (lv_room (by
      have e1 : ((st.map (zv ad)).map fun v => v.category) = st.map Value.category := by rw [List.map_map]; exact List.map_congr_left (fun v _ => zv_cat ad v)
      rw [e1]; exact hsm)) hd ⟨hR.2.2.1, hR.2.2.2⟩
theorem zv_callSN {y2 : MethodName} {cc2 : ByteArray} {nL2 n index : Nat} {ret2 : Option FieldType} {As stk : List Value} {rv : Option Value} {h2 : List va_E} {host : String}
    (hd : decode cc pc = .ok (.invokestatic index, 3)) (hl : Cond.methodLinkNest y.cls index y2 host ∈ lw_tbl) (hM : zMs y2 cc2 nL2 ret2 n) (hC : zC d y2 cc2 nL2 ret2 As h (zq rv h2)) (hn : As.length = n) (hs : stk = As.reverse ++ st) (hsm : (st.map Value.category).sum ≤ 8)
    (kk : zV sc (d + 1) y cc nL ret (pc + 3) L (rv.toList ++ st) h2 Q) : zV sc (d + 1) y cc nL ret pc L stk h Q := by
  intro p l e R s m args below meth c cells slots Qf ad tA D A hH H locs ls hP hD hS hl'
  obtain ⟨hx, hb, hml, hown, hts, hK, hSt, hSc, hA, hR, -⟩ := id hH
  refine zback hH hP hD hS hl' (av := (As.map (zv ad)).toArray) ?_ kk
  exact va_runSN (As := As.map (zv ad)) ⟨hx, hb, hml, hown, hts⟩ (hC l ad tA D H.size) ⟨zCallN hts hM.1 hSt.2 hl ⟨hR.1, hR.2.1⟩, hts _ hM.2, trivial⟩ ⟨zblind, zpre hP hD hS hA hK hSt⟩ rfl (by rw [List.length_map]; exact hn) hl'.1 (by rw [hs]; simp [zv]) (lv_room (by
      have e1 : ((st.map (zv ad)).map fun v => v.category) = st.map Value.category := by rw [List.map_map]; exact List.map_congr_left (fun v _ => zv_cat ad v)
      rw [e1]; exact hsm)) hd ⟨hR.2.2.1, hR.2.2.2⟩
theorem zv_get {index ci N k r : Nat} {C : String} {T : u_T} {fs : List Value} {v : Value} (hf : zFd y.cls index ci C T N k) (hr : h[r]? = some (.inr (ci, fs))) (hv : fs[k]? = some v) (hd : decode cc pc = .ok (.getfield index, 3))
    (kk : zV sc d y cc nL ret (pc + 3) L (v :: st) h Q) : zV sc d y cc nL ret pc L (.ref r :: st) h Q := by
  intro p l e R s m args below meth c cells slots Qf ad tA D A hH H locs ls hP hD hS hl
  obtain ⟨hx, hb, hml, hown, hts, hK, hSt, hSc, hA, hR, -⟩ := id hH
  obtain ⟨hc, hk, hin, hs, hlk⟩ := hf
  rcases hlk with hlk | ⟨host, hlk⟩
  · exact va_get hx hb hts hin hown hK hP r (zw_get hr) hc k hk (hts _ hlk) (fun x q => by rw [← hs]; exact q) (by rw [List.getElem?_map, hv]; rfl) hd (kk hH H locs ls hP hD hS hl)
  · exact va_getN hx hb hts hin hown hK hP r (zw_get hr) hc k hk (va_Nw.use rfl (hSt.2 _ hlk rfl)) (fun x q => by rw [← hs]; exact q) (by rw [List.getElem?_map, hv]; rfl) hd (kk hH H locs ls hP hD hS hl)
theorem zv_put {index ci N k r : Nat} {C : String} {T : u_T} {fs : List Value} {v : Value} {ty : FieldType} {h2 : List va_E} (hf : zFp y.cls index ci C T N k ty) (hr : h[r]? = some (.inr (ci, fs))) (hn : narrow ty v = v) (hn2 : ∀ ad, narrow ty (zv ad v) = zv ad v ∧ fits ty (zv ad v) = true) (hk : k < fs.length) (he : h.set r (.inr (ci, fs.set k v)) = h2) (hd : decode cc pc = .ok (.putfield index, 3))
    (kk : zV sc d y cc nL ret (pc + 3) L st h2 Q) : zV sc d y cc nL ret pc L (v :: .ref r :: st) h Q := by
  intro p l e R s m args below meth c cells slots Qf ad tA D A hH H locs ls hP hD hS hl
  obtain ⟨hx, hb, hml, hown, hts, hK, hSt, hSc, hA, hR, -⟩ := id hH
  obtain ⟨⟨hc, hkN, hin, hs, hlk⟩, hfin, hty, ⟨ty0, hty0⟩, hnm⟩ := hf
  have hz : (zw ad tA h).set r (ad r, .inr (ci, (fs.map (zv ad)).set k (zv ad v))) = zw ad tA h2 := by
    rw [← he, zw_set]
    show _ = (zw ad tA h).set r (ad r, .inr (ci, (fs.set k v).map (zv ad)))
    rw [List.map_set]
  rcases hlk with hlk | ⟨host, hlk⟩
  · exact va_put hx hb hts hin ty0 hty0 hnm hown hK hP hD hS r (zw_get hr) hc k hkN (hts _ hlk) (fun x q => by rw [← hs]; exact q) hfin hty (hn2 ad).1 (hn2 ad).2 (by rw [List.length_map]; exact hk) hd (fun H1 locs1 hP1 hD1 hS1 => kk hH H1 locs1 ls (by rw [← hz]; exact hP1) (by rw [← hz]; exact hD1) hS1 hl)
  · exact va_putN hx hb hts hin ty0 hty0 hnm hown hK hP hD hS r (zw_get hr) hc k hkN (va_Nw.use rfl (hSt.2 _ hlk rfl)) (fun x q => by rw [← hs]; exact q) hfin hty (hn2 ad).1 (hn2 ad).2 (by rw [List.length_map]; exact hk) hd (fun H1 locs1 hP1 hD1 hS1 => kk hH H1 locs1 ls (by rw [← hz]; exact hP1) (by rw [← hz]; exact hD1) hS1 hl)
theorem zv_iald {r n : Nat} {f : Nat → Int32} {i : Int32} (hi : zin i n) (ha : h[r]? = some (.inl (0, n, .inl f))) (hd : decode cc pc = .ok (.iaload, 1)) (kk : zV sc d y cc nL ret (pc + 1) L (.int (f i.toNatClampNeg) :: st) h Q) : zV sc d y cc nL ret pc L (.int i :: .ref r :: st) h Q := by
  intro p l e R s m args below meth c cells slots Qf ad tA D A hH H locs ls hP hD hS hl
  obtain ⟨hx, hb, hml, hown, hts, hK, hSt, hSc, hA, hR, -⟩ := id hH
  exact va_iald hx hb hK hP r 0 (zw_get ha) rfl (vp_in_iff.mpr hi) hd (kk hH H locs ls hP hD hS hl)
theorem zv_bald {r n : Nat} {f : Nat → Int32} {i : Int32} (hi : zin i n) (ha : h[r]? = some (.inl (1, n, .inl f))) (hd : decode cc pc = .ok (.baload, 1)) (kk : zV sc d y cc nL ret (pc + 1) L (.int (f i.toNatClampNeg) :: st) h Q) : zV sc d y cc nL ret pc L (.int i :: .ref r :: st) h Q := by
  intro p l e R s m args below meth c cells slots Qf ad tA D A hH H locs ls hP hD hS hl
  obtain ⟨hx, hb, hml, hown, hts, hK, hSt, hSc, hA, hR, -⟩ := id hH
  exact va_bald hx hb hK hP r 1 (zw_get ha) rfl (vp_in_iff.mpr hi) hd (kk hH H locs ls hP hD hS hl)
theorem zv_zald {r n : Nat} {f : Nat → Int32} {i : Int32} (hi : zin i n) (ha : h[r]? = some (.inl (2, n, .inl f))) (hd : decode cc pc = .ok (.baload, 1)) (kk : zV sc d y cc nL ret (pc + 1) L (.int (f i.toNatClampNeg) :: st) h Q) : zV sc d y cc nL ret pc L (.int i :: .ref r :: st) h Q := by
  intro p l e R s m args below meth c cells slots Qf ad tA D A hH H locs ls hP hD hS hl
  obtain ⟨hx, hb, hml, hown, hts, hK, hSt, hSc, hA, hR, -⟩ := id hH
  exact va_zald hx hb hK hP r 2 (zw_get ha) rfl (vp_in_iff.mpr hi) hd (kk hH H locs ls hP hD hS hl)
theorem zv_aald {r n q : Nat} {f : Nat → Option Nat} {i : Int32} (hi : zin i n) (ha : h[r]? = some (.inl (3, n, .inr (.inr (.inr (.inr f)))))) (hq : f i.toNatClampNeg = some q) (hd : decode cc pc = .ok (.aaload, 1)) (kk : zV sc d y cc nL ret (pc + 1) L (.ref q :: st) h Q) : zV sc d y cc nL ret pc L (.int i :: .ref r :: st) h Q := by
  intro p l e R s m args below meth c cells slots Qf ad tA D A hH H locs ls hP hD hS hl
  obtain ⟨hx, hb, hml, hown, hts, hK, hSt, hSc, hA, hR, -⟩ := id hH
  refine va_aldq hx hb hK hP r 3 (zw_get ha) rfl (vp_in_iff.mpr hi) hd ?_
  have h1 := kk hH H locs ls hP hD hS hl
  show W _ _ _ _ _ _ _ _ _ _ _ _ _ _ _ (F0 m (pc + 1) ls (va_rf ((f i.toNatClampNeg).map ad) :: _))
  rw [hq]
  exact h1

theorem zv_iast {r n : Nat} {f : Nat → Int32} {i x : Int32} {h2 : List va_E} (hi : zin i n) (ha : h[r]? = some (.inl (0, n, .inl f))) (he : h.set r (.inl (0, n, .inl (upd f i.toNatClampNeg x))) = h2) (hd : decode cc pc = .ok (.iastore, 1)) (kk : zV sc d y cc nL ret (pc + 1) L st h2 Q) : zV sc d y cc nL ret pc L (.int x :: .int i :: .ref r :: st) h Q := by
  intro p l e R s m args below meth c cells slots Qf ad tA D A hH H locs ls hP hD hS hl
  obtain ⟨hx, hb, hml, hown, hts, hK, hSt, hSc, hA, hR, -⟩ := id hH
  have hz : (zw ad tA h).set r (ad r, .inl (tA 0, n, .inl (upd f i.toNatClampNeg x))) = zw ad tA h2 := by rw [← he, zw_set]; rfl
  exact va_iast hx hb hK hP hD hS r 0 (zw_get ha) rfl (vp_in_iff.mpr hi) hd (fun H1 locs1 hP1 hD1 hS1 => kk hH H1 locs1 ls (by rw [← hz]; exact hP1) (by rw [← hz]; exact hD1) hS1 hl)
theorem zv_bast {r n : Nat} {f : Nat → Int32} {i x : Int32} {h2 : List va_E} (hi : zin i n) (ha : h[r]? = some (.inl (1, n, .inl f))) (he : h.set r (.inl (1, n, .inl (upd f i.toNatClampNeg (vp_nar .byte x)))) = h2) (hd : decode cc pc = .ok (.bastore, 1)) (kk : zV sc d y cc nL ret (pc + 1) L st h2 Q) : zV sc d y cc nL ret pc L (.int x :: .int i :: .ref r :: st) h Q := by
  intro p l e R s m args below meth c cells slots Qf ad tA D A hH H locs ls hP hD hS hl
  obtain ⟨hx, hb, hml, hown, hts, hK, hSt, hSc, hA, hR, -⟩ := id hH
  have hz : (zw ad tA h).set r (ad r, .inl (tA 1, n, .inl (upd f i.toNatClampNeg (vp_nar .byte x)))) = zw ad tA h2 := by rw [← he, zw_set]; rfl
  exact va_bast hx hb hK hP hD hS r 1 (zw_get ha) rfl (vp_in_iff.mpr hi) hd (fun H1 locs1 hP1 hD1 hS1 => kk hH H1 locs1 ls (by rw [← hz]; exact hP1) (by rw [← hz]; exact hD1) hS1 hl)
theorem zv_zast {r n : Nat} {f : Nat → Int32} {i x : Int32} {h2 : List va_E} (hi : zin i n) (ha : h[r]? = some (.inl (2, n, .inl f))) (he : h.set r (.inl (2, n, .inl (upd f i.toNatClampNeg (vp_nar .boolean x)))) = h2) (hd : decode cc pc = .ok (.bastore, 1)) (kk : zV sc d y cc nL ret (pc + 1) L st h2 Q) : zV sc d y cc nL ret pc L (.int x :: .int i :: .ref r :: st) h Q := by
  intro p l e R s m args below meth c cells slots Qf ad tA D A hH H locs ls hP hD hS hl
  obtain ⟨hx, hb, hml, hown, hts, hK, hSt, hSc, hA, hR, -⟩ := id hH
  have hz : (zw ad tA h).set r (ad r, .inl (tA 2, n, .inl (upd f i.toNatClampNeg (vp_nar .boolean x)))) = zw ad tA h2 := by rw [← he, zw_set]; rfl
  exact va_zast hx hb hK hP hD hS r 2 (zw_get ha) rfl (vp_in_iff.mpr hi) hd (fun H1 locs1 hP1 hD1 hS1 => kk hH H1 locs1 ls (by rw [← hz]; exact hP1) (by rw [← hz]; exact hD1) hS1 hl)
theorem zv_alen {r t n : Nat} {f : Nat → Int32} {v : Int32} (ht : t < 3) (hv : Int32.ofNat n = v) (ha : h[r]? = some (.inl (t, n, .inl f))) (hd : decode cc pc = .ok (.arraylength, 1)) (kk : zV sc d y cc nL ret (pc + 1) L (.int v :: st) h Q) : zV sc d y cc nL ret pc L (.ref r :: st) h Q := by
  intro p l e R s m args below meth c cells slots Qf ad tA D A hH H locs ls hP hD hS hl
  obtain ⟨hx, hb, hml, hown, hts, hK, hSt, hSc, hA, hR, -⟩ := id hH
  have h3 : ∃ ty, (ztys tA)[t]? = some (tA t, ty) := by
    match t, ht with
    | 0, _ => exact ⟨_, rfl⟩
    | 1, _ => exact ⟨_, rfl⟩
    | 2, _ => exact ⟨_, rfl⟩
  obtain ⟨ty, hty⟩ := h3
  exact va_alen hx hb hK hP r t (zw_get ha) hty hv hd (kk hH H locs ls hP hD hS hl)
theorem zv_slen {n : Nat} {xs : Nat → Int32} (hd : decode cc pc = .ok (.arraylength, 1)) (kk : zV (some (n, xs)) d y cc nL ret (pc + 1) L (.int (Int32.ofNat n) :: st) h Q) : zV (some (n, xs)) d y cc nL ret pc L (.ref 1002 :: st) h Q := by
  intro p l e R s m args below meth c cells slots Qf ad tA D A hH H locs ls hP hD hS hl
  obtain ⟨hx, hb, hml, hown, hts, hK, hSt, hSc, hA, hR, -⟩ := id hH
  exact va_slen hx hb hSc.1 hSc.2.1 hSc.2.2 hS hd (kk hH H locs ls hP hD hS hl)
theorem zv_sld {n : Nat} {xs : Nat → Int32} {i : Int32} (hi : zin i n) (hd : decode cc pc = .ok (.iaload, 1)) (kk : zV (some (n, xs)) d y cc nL ret (pc + 1) L (.int (xs i.toNatClampNeg) :: st) h Q) : zV (some (n, xs)) d y cc nL ret pc L (.int i :: .ref 1002 :: st) h Q := by
  intro p l e R s m args below meth c cells slots Qf ad tA D A hH H locs ls hP hD hS hl
  obtain ⟨hx, hb, hml, hown, hts, hK, hSt, hSc, hA, hR, -⟩ := id hH
  exact va_sld hx hb hSc.1 hSc.2.1 hSc.2.2 hS (vp_in_iff.mpr hi) hd (kk hH H locs ls hP hD hS hl)
theorem zv_kald {i : Int32} (hi : zin i 6) (hd : decode cc pc = .ok (.iaload, 1)) (kk : zV sc d y cc nL ret (pc + 1) L (.int (zka i.toNatClampNeg) :: st) h Q) : zV sc d y cc nL ret pc L (.int i :: .ref 1000 :: st) h Q := by
  intro p l e R s m args below meth c cells slots Qf ad tA D A hH H locs ls hP hD hS hl
  obtain ⟨hx, hb, hml, hown, hts, hK, hSt, hSc, hA, hR, -⟩ := id hH
  exact va_ti hx hb hSt.1.1.2 hS (vp_in_iff.mpr hi) rfl hd (kk hH H locs ls hP hD hS hl)
theorem zv_ktld {i : Int32} (hi : zin i 6) (hd : decode cc pc = .ok (.iaload, 1)) (kk : zV sc d y cc nL ret (pc + 1) L (.int (zkt i.toNatClampNeg) :: st) h Q) : zV sc d y cc nL ret pc L (.int i :: .ref 1001 :: st) h Q := by
  intro p l e R s m args below meth c cells slots Qf ad tA D A hH H locs ls hP hD hS hl
  obtain ⟨hx, hb, hml, hown, hts, hK, hSt, hSc, hA, hR, -⟩ := id hH
  exact va_ti hx hb hSt.1.2.2 hS (vp_in_iff.mpr hi) rfl hd (kk hH H locs ls hP hD hS hl)
theorem zv_gka {index : Nat} (hw : Cond.fieldLink y.cls index "KingPrices" "KIND_ABOVE" "[I" ∈ zt) (hd : decode cc pc = .ok (.getstatic index, 3)) (kk : zV sc d y cc nL ret (pc + 3) L (.ref 1000 :: st) h Q) : zV sc d y cc nL ret pc L st h Q := by
  intro p l e R s m args below meth c cells slots Qf ad tA D A hH H locs ls hP hD hS hl
  obtain ⟨hx, hb, hml, hown, hts, hK, hSt, hSc, hA, hR, -⟩ := id hH
  exact va_gets hx hb hSt.1.1.1 hS hown (hts _ hw) (fun _ q => q) hd (kk hH H locs ls hP hD hS hl)
theorem zv_gkt {index : Nat} (hw : Cond.fieldLink y.cls index "KingPrices" "KIND_TRACE" "[I" ∈ zt) (hd : decode cc pc = .ok (.getstatic index, 3)) (kk : zV sc d y cc nL ret (pc + 3) L (.ref 1001 :: st) h Q) : zV sc d y cc nL ret pc L st h Q := by
  intro p l e R s m args below meth c cells slots Qf ad tA D A hH H locs ls hP hD hS hl
  obtain ⟨hx, hb, hml, hown, hts, hK, hSt, hSc, hA, hR, -⟩ := id hH
  exact va_gets hx hb hSt.1.2.1 hS hown (hts _ hw) (fun _ q => q) hd (kk hH H locs ls hP hD hS hl)
/-- System.arraycopy of ints; the lists of conditions as the class can meet them -/
def zcpy (n0 n1 : Nat) (sp dp n : Int32) : Prop := 0 ≤ sp.toInt ∧ 0 ≤ dp.toInt ∧ 0 ≤ n.toInt ∧ sp.toInt + n.toInt ≤ n0 ∧ dp.toInt + n.toInt ≤ n1
theorem zv_copy {index r0 r1 n0 n1 : Nat} {f g : Nat → Int32} {sp dp n : Int32} {h2 : List va_E} (hc : zcpy n0 n1 sp dp n) (hw : Cond.methodLink y.cls index arraycopyName ∈ zt ∧ Cond.native arraycopyName ∈ zt ∧ Cond.static arraycopyName ∈ zt ∧ Cond.initialized "java/lang/System" ∈ zt)
    (ha0 : h[r0]? = some (.inl (0, n0, .inl f))) (ha1 : h[r1]? = some (.inl (0, n1, .inl g))) (he : h.set r1 (.inl (0, n1, .inl (va_cpy f g sp.toNatClampNeg dp.toNatClampNeg n.toNatClampNeg))) = h2) (hsm : (st.map Value.category).sum ≤ 8) (hd : decode cc pc = .ok (.invokestatic index, 3))
    (kk : zV sc (d + 1) y cc nL ret (pc + 3) L st h2 Q) : zV sc (d + 1) y cc nL ret pc L (.int n :: .int dp :: .ref r1 :: .int sp :: .ref r0 :: st) h Q := by
  intro p l e R s m args below meth c cells slots Qf ad tA D A hH H locs ls hP hD hS hl
  obtain ⟨hx, hb, hml, hown, hts, hK, hSt, hSc, hA, hR, -⟩ := id hH
  have hz : (zw ad tA h).set r1 (ad r1, .inl (tA 0, n1, .inl (va_cpy f g sp.toNatClampNeg dp.toNatClampNeg n.toNatClampNeg))) = zw ad tA h2 := by rw [← he, zw_set]; rfl
  obtain ⟨c1, c2, c3, c4, c5⟩ := hc
  have q1 : (sp.toNatClampNeg : Int) = sp.toInt := by show ((sp.toInt).toNat : Int) = _; omega
  have q2 : (dp.toNatClampNeg : Int) = dp.toInt := by show ((dp.toInt).toNat : Int) = _; omega
  have q3 : (n.toNatClampNeg : Int) = n.toInt := by show ((n.toInt).toNat : Int) = _; omega
  have z0 : (0 : Int32).toInt = 0 := rfl
  have e1 : ((st.map (zv ad)).map fun v => v.category) = st.map Value.category := by rw [List.map_map]; exact List.map_congr_left (fun v _ => zv_cat ad v)
  exact va_copyi (ty := .int) hx hb (by rw [hml]; exact hl.1.symm) hown (hts _ hw.1) (hts _ hw.2.1) (hts _ hw.2.2.1) (hts _ hw.2.2.2) hK hP hD hS r0 r1 0 0 (zw_get ha0) (zw_get ha1) rfl rfl rfl
    (fun q => by have := Int32.lt_iff_toInt_lt.mp q; omega) (fun q => by have := Int32.lt_iff_toInt_lt.mp q; omega) (fun q => by have := Int32.lt_iff_toInt_lt.mp q; omega) (by omega) (by omega) (fun _ _ => rfl) (by omega) (by
      rw [e1]
      have hwords : nativeFrameWords "java/lang/System" "arraycopy" 5 + 11 ≤ 52 := by decide +kernel
      have := hR.2.1
      omega) hd (fun H1 locs1 hP1 hD1 hS1 => kk hH H1 locs1 ls (by rw [← hz]; exact hP1) (by rw [← hz]; exact hD1) hS1 hl)

theorem zv_max {index : Nat} {x z : Int32} (hw : Cond.methodLink y.cls index Lib.Math.max.name ∈ zt ∧ Cond.static Lib.Math.max.name ∈ zt ∧ Cond.initialized "java/lang/Math" ∈ zt ∧ Cond.code Lib.Math.max.name Lib.Math.max.code 2 (some .int) ∈ zt) (hsm : (st.map Value.category).sum ≤ 8) (hd : decode cc pc = .ok (.invokestatic index, 3))
    (kk : zV sc (d + 1) y cc nL ret (pc + 3) L (.int (if x < z then z else x) :: st) h Q) : zV sc (d + 1) y cc nL ret pc L (.int z :: .int x :: st) h Q := by
  intro p l e R s m args below meth c cells slots Qf ad tA D A hH H locs ls hP hD hS hl
  obtain ⟨hx, hb, hml, hown, hts, hK, hSt, hSc, hA, hR, -⟩ := id hH
  have e1 : ((st.map (zv ad)).map fun v => v.category) = st.map Value.category := by rw [List.map_map]; exact List.map_congr_left (fun v _ => zv_cat ad v)
  exact va_mmax hx hb (by rw [hml]; exact hl.1.symm) hown (hts _ hw.1) (hts _ hw.2.1) (hts _ hw.2.2.1) (hts _ hw.2.2.2) (by omega) (by rw [e1]; have := hR.2.1; omega) hR.2.2.1 hR.2.2.2 hd (kk hH H locs ls hP hD hS hl)
theorem zv_min {index : Nat} {x z : Int32} (hw : Cond.methodLink y.cls index Lib.Math.min.name ∈ zt ∧ Cond.static Lib.Math.min.name ∈ zt ∧ Cond.initialized "java/lang/Math" ∈ zt ∧ Cond.code Lib.Math.min.name Lib.Math.min.code 2 (some .int) ∈ zt) (hsm : (st.map Value.category).sum ≤ 8) (hd : decode cc pc = .ok (.invokestatic index, 3))
    (kk : zV sc (d + 1) y cc nL ret (pc + 3) L (.int (if z < x then z else x) :: st) h Q) : zV sc (d + 1) y cc nL ret pc L (.int z :: .int x :: st) h Q := by
  intro p l e R s m args below meth c cells slots Qf ad tA D A hH H locs ls hP hD hS hl
  obtain ⟨hx, hb, hml, hown, hts, hK, hSt, hSc, hA, hR, -⟩ := id hH
  have e1 : ((st.map (zv ad)).map fun v => v.category) = st.map Value.category := by rw [List.map_map]; exact List.map_congr_left (fun v _ => zv_cat ad v)
  exact va_mmin hx hb (by rw [hml]; exact hl.1.symm) hown (hts _ hw.1) (hts _ hw.2.1) (hts _ hw.2.2.1) (hts _ hw.2.2.2) (by omega) (by rw [e1]; have := hR.2.1; omega) hR.2.2.1 hR.2.2.2 hd (kk hH H locs ls hP hD hS hl)
end ZV
end
section
theorem zinX0 : ∀ w ∈ wsX00, w ∈ zt := fun w h => List.mem_filter.mpr ⟨inX0 w h, List.all_eq_true.mp (by decide +kernel : (wsX00).all goodWord = true) w h⟩
theorem zinX1 : ∀ w ∈ wsX10, w ∈ zt := fun w h => List.mem_filter.mpr ⟨inX1 w h, List.all_eq_true.mp (by decide +kernel : (wsX10).all goodWord = true) w h⟩
theorem zinX2 : ∀ w ∈ wsX20, w ∈ zt := fun w h => List.mem_filter.mpr ⟨inX2 w h, List.all_eq_true.mp (by decide +kernel : (wsX20).all goodWord = true) w h⟩
theorem zinX3 : ∀ w ∈ wsX30, w ∈ zt := fun w h => List.mem_filter.mpr ⟨inX3 w h, List.all_eq_true.mp (by decide +kernel : (wsX30).all goodWord = true) w h⟩
theorem zinX4 : ∀ w ∈ wsX40, w ∈ zt := fun w h => List.mem_filter.mpr ⟨inX4 w h, List.all_eq_true.mp (by decide +kernel : (wsX40).all goodWord = true) w h⟩
theorem zinX5 : ∀ w ∈ wsX50, w ∈ zt := fun w h => List.mem_filter.mpr ⟨inX5 w h, List.all_eq_true.mp (by decide +kernel : (wsX50).all goodWord = true) w h⟩
theorem zinX6 : ∀ w ∈ wsX60, w ∈ zt := fun w h => List.mem_filter.mpr ⟨inX6 w h, List.all_eq_true.mp (by decide +kernel : (wsX60).all goodWord = true) w h⟩
theorem zf_X3_9 : zFd RX3 9 3 RX3 TX3 6 0 := ⟨rfl, by decide, zinX3, rfl, Or.inl (zmem 71 (by decide +kernel) rfl)⟩
theorem zf_X3_15 : zFd RX3 15 3 RX3 TX3 6 1 := ⟨rfl, by decide, zinX3, rfl, Or.inl (zmem 72 (by decide +kernel) rfl)⟩
theorem zp_X3_15 : zFp RX3 15 3 RX3 TX3 6 1 (.int) := ⟨zf_X3_15, rfl, by decide +kernel, ⟨tyX3, tyX3_ok⟩, nmX3⟩
theorem zf_X5_67 : zFd RX5 67 3 RX3 TX3 6 1 := ⟨rfl, by decide, zinX3, rfl, Or.inr ⟨RX5, zmemN 73 (by decide +kernel)⟩⟩
theorem zp_X5_67 : zFp RX5 67 3 RX3 TX3 6 1 (.int) := ⟨zf_X5_67, rfl, by decide +kernel, ⟨tyX3, tyX3_ok⟩, nmX3⟩
theorem zf_X3_19 : zFd RX3 19 3 RX3 TX3 6 2 := ⟨rfl, by decide, zinX3, rfl, Or.inl (zmem 74 (by decide +kernel) rfl)⟩
theorem zp_X3_19 : zFp RX3 19 3 RX3 TX3 6 2 (.int) := ⟨zf_X3_19, rfl, by decide +kernel, ⟨tyX3, tyX3_ok⟩, nmX3⟩
theorem zf_X3_29 : zFd RX3 29 3 RX3 TX3 6 3 := ⟨rfl, by decide, zinX3, rfl, Or.inl (zmem 75 (by decide +kernel) rfl)⟩
theorem zp_X3_29 : zFp RX3 29 3 RX3 TX3 6 3 (.int) := ⟨zf_X3_29, rfl, by decide +kernel, ⟨tyX3, tyX3_ok⟩, nmX3⟩
theorem zf_X0_74 : zFd RX0 74 3 RX3 TX3 6 3 := ⟨rfl, by decide, zinX3, rfl, Or.inr ⟨RX5, zmemN 76 (by decide +kernel)⟩⟩
theorem zp_X0_74 : zFp RX0 74 3 RX3 TX3 6 3 (.int) := ⟨zf_X0_74, rfl, by decide +kernel, ⟨tyX3, tyX3_ok⟩, nmX3⟩
theorem zf_X3_35 : zFd RX3 35 3 RX3 TX3 6 4 := ⟨rfl, by decide, zinX3, rfl, Or.inl (zmem 77 (by decide +kernel) rfl)⟩
theorem zp_X3_35 : zFp RX3 35 3 RX3 TX3 6 4 (.int) := ⟨zf_X3_35, rfl, by decide +kernel, ⟨tyX3, tyX3_ok⟩, nmX3⟩
theorem zf_X0_67 : zFd RX0 67 3 RX3 TX3 6 4 := ⟨rfl, by decide, zinX3, rfl, Or.inr ⟨RX5, zmemN 78 (by decide +kernel)⟩⟩
theorem zp_X0_67 : zFp RX0 67 3 RX3 TX3 6 4 (.int) := ⟨zf_X0_67, rfl, by decide +kernel, ⟨tyX3, tyX3_ok⟩, nmX3⟩
theorem zf_X3_32 : zFd RX3 32 3 RX3 TX3 6 5 := ⟨rfl, by decide, zinX3, rfl, Or.inl (zmem 79 (by decide +kernel) rfl)⟩
theorem zp_X3_32 : zFp RX3 32 3 RX3 TX3 6 5 (.int) := ⟨zf_X3_32, rfl, by decide +kernel, ⟨tyX3, tyX3_ok⟩, nmX3⟩
theorem zf_X0_80 : zFd RX0 80 3 RX3 TX3 6 5 := ⟨rfl, by decide, zinX3, rfl, Or.inr ⟨RX5, zmemN 80 (by decide +kernel)⟩⟩
theorem zp_X0_80 : zFp RX0 80 3 RX3 TX3 6 5 (.int) := ⟨zf_X0_80, rfl, by decide +kernel, ⟨tyX3, tyX3_ok⟩, nmX3⟩
theorem zf_X2_9 : zFd RX2 9 2 RX2 TX2 2 0 := ⟨rfl, by decide, zinX2, rfl, Or.inl (zmem 101 (by decide +kernel) rfl)⟩
theorem zf_X2_21 : zFd RX2 21 2 RX2 TX2 2 1 := ⟨rfl, by decide, zinX2, rfl, Or.inl (zmem 102 (by decide +kernel) rfl)⟩
theorem zp_X2_21 : zFp RX2 21 2 RX2 TX2 2 1 (.int) := ⟨zf_X2_21, rfl, by decide +kernel, ⟨tyX2, tyX2_ok⟩, nmX2⟩
theorem zf_X5_131 : zFd RX5 131 2 RX2 TX2 2 1 := ⟨rfl, by decide, zinX2, rfl, Or.inr ⟨RX5, zmemN 103 (by decide +kernel)⟩⟩
theorem zp_X5_131 : zFp RX5 131 2 RX2 TX2 2 1 (.int) := ⟨zf_X5_131, rfl, by decide +kernel, ⟨tyX2, tyX2_ok⟩, nmX2⟩
theorem zf_X4_9 : zFd RX4 9 4 RX4 TX4 7 0 := ⟨rfl, by decide, zinX4, rfl, Or.inl (zmem 116 (by decide +kernel) rfl)⟩
theorem zf_X4_15 : zFd RX4 15 4 RX4 TX4 7 1 := ⟨rfl, by decide, zinX4, rfl, Or.inl (zmem 117 (by decide +kernel) rfl)⟩
theorem zf_X4_18 : zFd RX4 18 4 RX4 TX4 7 2 := ⟨rfl, by decide, zinX4, rfl, Or.inl (zmem 118 (by decide +kernel) rfl)⟩
theorem zf_X4_37 : zFd RX4 37 4 RX4 TX4 7 3 := ⟨rfl, by decide, zinX4, rfl, Or.inl (zmem 119 (by decide +kernel) rfl)⟩
theorem zp_X4_37 : zFp RX4 37 4 RX4 TX4 7 3 (.int) := ⟨zf_X4_37, rfl, by decide +kernel, ⟨tyX4, tyX4_ok⟩, nmX4⟩
theorem zf_X5_159 : zFd RX5 159 4 RX4 TX4 7 3 := ⟨rfl, by decide, zinX4, rfl, Or.inr ⟨RX5, zmemN 120 (by decide +kernel)⟩⟩
theorem zp_X5_159 : zFp RX5 159 4 RX4 TX4 7 3 (.int) := ⟨zf_X5_159, rfl, by decide +kernel, ⟨tyX4, tyX4_ok⟩, nmX4⟩
theorem zf_X4_31 : zFd RX4 31 4 RX4 TX4 7 4 := ⟨rfl, by decide, zinX4, rfl, Or.inl (zmem 121 (by decide +kernel) rfl)⟩
theorem zp_X4_31 : zFp RX4 31 4 RX4 TX4 7 4 (.int) := ⟨zf_X4_31, rfl, by decide +kernel, ⟨tyX4, tyX4_ok⟩, nmX4⟩
theorem zf_X4_21 : zFd RX4 21 4 RX4 TX4 7 5 := ⟨rfl, by decide, zinX4, rfl, Or.inl (zmem 122 (by decide +kernel) rfl)⟩
theorem zp_X4_21 : zFp RX4 21 4 RX4 TX4 7 5 (.int) := ⟨zf_X4_21, rfl, by decide +kernel, ⟨tyX4, tyX4_ok⟩, nmX4⟩
theorem zf_X4_34 : zFd RX4 34 4 RX4 TX4 7 6 := ⟨rfl, by decide, zinX4, rfl, Or.inl (zmem 123 (by decide +kernel) rfl)⟩
theorem zp_X4_34 : zFp RX4 34 4 RX4 TX4 7 6 (.int) := ⟨zf_X4_34, rfl, by decide +kernel, ⟨tyX4, tyX4_ok⟩, nmX4⟩
theorem zf_X5_156 : zFd RX5 156 4 RX4 TX4 7 6 := ⟨rfl, by decide, zinX4, rfl, Or.inr ⟨RX5, zmemN 124 (by decide +kernel)⟩⟩
theorem zp_X5_156 : zFp RX5 156 4 RX4 TX4 7 6 (.int) := ⟨zf_X5_156, rfl, by decide +kernel, ⟨tyX4, tyX4_ok⟩, nmX4⟩
theorem zf_X1_9 : zFd RX1 9 1 RX1 TX1 2 0 := ⟨rfl, by decide, zinX1, rfl, Or.inl (zmem 146 (by decide +kernel) rfl)⟩
theorem zf_X1_15 : zFd RX1 15 1 RX1 TX1 2 1 := ⟨rfl, by decide, zinX1, rfl, Or.inl (zmem 147 (by decide +kernel) rfl)⟩
theorem zp_X1_15 : zFp RX1 15 1 RX1 TX1 2 1 (.int) := ⟨zf_X1_15, rfl, by decide +kernel, ⟨tyX1, tyX1_ok⟩, nmX1⟩
theorem zf_X5_189 : zFd RX5 189 1 RX1 TX1 2 1 := ⟨rfl, by decide, zinX1, rfl, Or.inr ⟨RX5, zmemN 148 (by decide +kernel)⟩⟩
theorem zp_X5_189 : zFp RX5 189 1 RX1 TX1 2 1 (.int) := ⟨zf_X5_189, rfl, by decide +kernel, ⟨tyX1, tyX1_ok⟩, nmX1⟩
theorem zf_X0_9 : zFd RX0 9 0 RX0 TX0 12 0 := ⟨rfl, by decide, zinX0, rfl, Or.inl (zmem 167 (by decide +kernel) rfl)⟩
theorem zf_X0_15 : zFd RX0 15 0 RX0 TX0 12 1 := ⟨rfl, by decide, zinX0, rfl, Or.inl (zmem 168 (by decide +kernel) rfl)⟩
theorem zf_X0_18 : zFd RX0 18 0 RX0 TX0 12 2 := ⟨rfl, by decide, zinX0, rfl, Or.inl (zmem 169 (by decide +kernel) rfl)⟩
theorem zf_X0_21 : zFd RX0 21 0 RX0 TX0 12 3 := ⟨rfl, by decide, zinX0, rfl, Or.inl (zmem 170 (by decide +kernel) rfl)⟩
theorem zf_X0_24 : zFd RX0 24 0 RX0 TX0 12 4 := ⟨rfl, by decide, zinX0, rfl, Or.inl (zmem 171 (by decide +kernel) rfl)⟩
theorem zf_X0_27 : zFd RX0 27 0 RX0 TX0 12 5 := ⟨rfl, by decide, zinX0, rfl, Or.inl (zmem 172 (by decide +kernel) rfl)⟩
theorem zf_X0_33 : zFd RX0 33 0 RX0 TX0 12 6 := ⟨rfl, by decide, zinX0, rfl, Or.inl (zmem 173 (by decide +kernel) rfl)⟩
theorem zp_X0_33 : zFp RX0 33 0 RX0 TX0 12 6 (.int) := ⟨zf_X0_33, rfl, by decide +kernel, ⟨tyX0, tyX0_ok⟩, nmX0⟩
theorem zf_X1_19 : zFd RX1 19 0 RX0 TX0 12 6 := ⟨rfl, by decide, zinX0, rfl, Or.inr ⟨RX5, zmemN 174 (by decide +kernel)⟩⟩
theorem zp_X1_19 : zFp RX1 19 0 RX0 TX0 12 6 (.int) := ⟨zf_X1_19, rfl, by decide +kernel, ⟨tyX0, tyX0_ok⟩, nmX0⟩
theorem zf_X2_25 : zFd RX2 25 0 RX0 TX0 12 6 := ⟨rfl, by decide, zinX0, rfl, Or.inr ⟨RX5, zmemN 175 (by decide +kernel)⟩⟩
theorem zp_X2_25 : zFp RX2 25 0 RX0 TX0 12 6 (.int) := ⟨zf_X2_25, rfl, by decide +kernel, ⟨tyX0, tyX0_ok⟩, nmX0⟩
theorem zf_X4_40 : zFd RX4 40 0 RX0 TX0 12 6 := ⟨rfl, by decide, zinX0, rfl, Or.inr ⟨RX5, zmemN 176 (by decide +kernel)⟩⟩
theorem zp_X4_40 : zFp RX4 40 0 RX0 TX0 12 6 (.int) := ⟨zf_X4_40, rfl, by decide +kernel, ⟨tyX0, tyX0_ok⟩, nmX0⟩
theorem zf_X5_114 : zFd RX5 114 0 RX0 TX0 12 6 := ⟨rfl, by decide, zinX0, rfl, Or.inr ⟨RX5, zmemN 177 (by decide +kernel)⟩⟩
theorem zp_X5_114 : zFp RX5 114 0 RX0 TX0 12 6 (.int) := ⟨zf_X5_114, rfl, by decide +kernel, ⟨tyX0, tyX0_ok⟩, nmX0⟩
theorem zf_X0_37 : zFd RX0 37 0 RX0 TX0 12 7 := ⟨rfl, by decide, zinX0, rfl, Or.inl (zmem 178 (by decide +kernel) rfl)⟩
theorem zp_X0_37 : zFp RX0 37 0 RX0 TX0 12 7 (.int) := ⟨zf_X0_37, rfl, by decide +kernel, ⟨tyX0, tyX0_ok⟩, nmX0⟩
theorem zf_X5_199 : zFd RX5 199 0 RX0 TX0 12 7 := ⟨rfl, by decide, zinX0, rfl, Or.inr ⟨RX5, zmemN 179 (by decide +kernel)⟩⟩
theorem zp_X5_199 : zFp RX5 199 0 RX0 TX0 12 7 (.int) := ⟨zf_X5_199, rfl, by decide +kernel, ⟨tyX0, tyX0_ok⟩, nmX0⟩
theorem zf_X0_40 : zFd RX0 40 0 RX0 TX0 12 8 := ⟨rfl, by decide, zinX0, rfl, Or.inl (zmem 180 (by decide +kernel) rfl)⟩
theorem zp_X0_40 : zFp RX0 40 0 RX0 TX0 12 8 (.int) := ⟨zf_X0_40, rfl, by decide +kernel, ⟨tyX0, tyX0_ok⟩, nmX0⟩
theorem zf_X4_49 : zFd RX4 49 0 RX0 TX0 12 8 := ⟨rfl, by decide, zinX0, rfl, Or.inr ⟨RX5, zmemN 181 (by decide +kernel)⟩⟩
theorem zp_X4_49 : zFp RX4 49 0 RX0 TX0 12 8 (.int) := ⟨zf_X4_49, rfl, by decide +kernel, ⟨tyX0, tyX0_ok⟩, nmX0⟩
theorem zf_X5_104 : zFd RX5 104 0 RX0 TX0 12 8 := ⟨rfl, by decide, zinX0, rfl, Or.inr ⟨RX5, zmemN 182 (by decide +kernel)⟩⟩
theorem zp_X5_104 : zFp RX5 104 0 RX0 TX0 12 8 (.int) := ⟨zf_X5_104, rfl, by decide +kernel, ⟨tyX0, tyX0_ok⟩, nmX0⟩
theorem zf_X0_43 : zFd RX0 43 0 RX0 TX0 12 9 := ⟨rfl, by decide, zinX0, rfl, Or.inl (zmem 183 (by decide +kernel) rfl)⟩
theorem zp_X0_43 : zFp RX0 43 0 RX0 TX0 12 9 (.int) := ⟨zf_X0_43, rfl, by decide +kernel, ⟨tyX0, tyX0_ok⟩, nmX0⟩
theorem zf_X5_202 : zFd RX5 202 0 RX0 TX0 12 9 := ⟨rfl, by decide, zinX0, rfl, Or.inr ⟨RX5, zmemN 184 (by decide +kernel)⟩⟩
theorem zp_X5_202 : zFp RX5 202 0 RX0 TX0 12 9 (.int) := ⟨zf_X5_202, rfl, by decide +kernel, ⟨tyX0, tyX0_ok⟩, nmX0⟩
theorem zf_X0_46 : zFd RX0 46 0 RX0 TX0 12 10 := ⟨rfl, by decide, zinX0, rfl, Or.inl (zmem 185 (by decide +kernel) rfl)⟩
theorem zp_X0_46 : zFp RX0 46 0 RX0 TX0 12 10 (.int) := ⟨zf_X0_46, rfl, by decide +kernel, ⟨tyX0, tyX0_ok⟩, nmX0⟩
theorem zf_X2_34 : zFd RX2 34 0 RX0 TX0 12 10 := ⟨rfl, by decide, zinX0, rfl, Or.inr ⟨RX5, zmemN 186 (by decide +kernel)⟩⟩
theorem zp_X2_34 : zFp RX2 34 0 RX0 TX0 12 10 (.int) := ⟨zf_X2_34, rfl, by decide +kernel, ⟨tyX0, tyX0_ok⟩, nmX0⟩
theorem zf_X0_49 : zFd RX0 49 0 RX0 TX0 12 11 := ⟨rfl, by decide, zinX0, rfl, Or.inl (zmem 187 (by decide +kernel) rfl)⟩
theorem zp_X0_49 : zFp RX0 49 0 RX0 TX0 12 11 (.int) := ⟨zf_X0_49, rfl, by decide +kernel, ⟨tyX0, tyX0_ok⟩, nmX0⟩
theorem zf_X5_10 : zFd RX5 10 5 RX5 TX5 10 0 := ⟨rfl, by decide, zinX5, rfl, Or.inl (zmem 230 (by decide +kernel) rfl)⟩
theorem zf_X5_19 : zFd RX5 19 5 RX5 TX5 10 1 := ⟨rfl, by decide, zinX5, rfl, Or.inl (zmem 231 (by decide +kernel) rfl)⟩
theorem zf_X5_23 : zFd RX5 23 5 RX5 TX5 10 2 := ⟨rfl, by decide, zinX5, rfl, Or.inl (zmem 232 (by decide +kernel) rfl)⟩
theorem zf_X5_27 : zFd RX5 27 5 RX5 TX5 10 3 := ⟨rfl, by decide, zinX5, rfl, Or.inl (zmem 233 (by decide +kernel) rfl)⟩
theorem zf_X5_34 : zFd RX5 34 5 RX5 TX5 10 4 := ⟨rfl, by decide, zinX5, rfl, Or.inl (zmem 234 (by decide +kernel) rfl)⟩
theorem zf_X5_41 : zFd RX5 41 5 RX5 TX5 10 5 := ⟨rfl, by decide, zinX5, rfl, Or.inl (zmem 235 (by decide +kernel) rfl)⟩
theorem zf_X5_48 : zFd RX5 48 5 RX5 TX5 10 6 := ⟨rfl, by decide, zinX5, rfl, Or.inl (zmem 236 (by decide +kernel) rfl)⟩
theorem zp_X5_48 : zFp RX5 48 5 RX5 TX5 10 6 (.object "KingPrices$Land") := ⟨zf_X5_48, rfl, by decide +kernel, ⟨tyX5, tyX5_ok⟩, nmX5⟩
theorem zf_X5_52 : zFd RX5 52 5 RX5 TX5 10 7 := ⟨rfl, by decide, zinX5, rfl, Or.inl (zmem 237 (by decide +kernel) rfl)⟩
theorem zp_X5_52 : zFp RX5 52 5 RX5 TX5 10 7 (.object "KingPrices$Land") := ⟨zf_X5_52, rfl, by decide +kernel, ⟨tyX5, tyX5_ok⟩, nmX5⟩
theorem zf_X5_75 : zFd RX5 75 5 RX5 TX5 10 8 := ⟨rfl, by decide, zinX5, rfl, Or.inl (zmem 238 (by decide +kernel) rfl)⟩
theorem zp_X5_75 : zFp RX5 75 5 RX5 TX5 10 8 (.int) := ⟨zf_X5_75, rfl, by decide +kernel, ⟨tyX5, tyX5_ok⟩, nmX5⟩
theorem zf_X5_205 : zFd RX5 205 5 RX5 TX5 10 9 := ⟨rfl, by decide, zinX5, rfl, Or.inl (zmem 239 (by decide +kernel) rfl)⟩
theorem zp_X5_205 : zFp RX5 205 5 RX5 TX5 10 9 (.long) := ⟨zf_X5_205, rfl, by decide +kernel, ⟨tyX5, tyX5_ok⟩, nmX5⟩
theorem zs_X5_220 : Cond.fieldLink RX5 220 "KingPrices" "KIND_TRACE" "[I" ∈ zt := zmem 588 (by decide +kernel) rfl
theorem zs_X5_223 : Cond.fieldLink RX5 223 "KingPrices" "KIND_ABOVE" "[I" ∈ zt := zmem 590 (by decide +kernel) rfl
theorem zf_X6_162 : zFd RX6 162 6 RX6 TX6 23 0 := ⟨rfl, by decide, zinX6, rfl, Or.inl (zmem 626 (by decide +kernel) rfl)⟩
theorem zp_X6_162 : zFp RX6 162 6 RX6 TX6 23 0 (.long) := ⟨zf_X6_162, rfl, by decide +kernel, ⟨tyX6, tyX6_ok⟩, nmX6⟩
theorem zf_X6_7 : zFd RX6 7 6 RX6 TX6 23 1 := ⟨rfl, by decide, zinX6, rfl, Or.inl (zmem 627 (by decide +kernel) rfl)⟩
theorem zf_X6_58 : zFd RX6 58 6 RX6 TX6 23 2 := ⟨rfl, by decide, zinX6, rfl, Or.inl (zmem 628 (by decide +kernel) rfl)⟩
theorem zp_X6_58 : zFp RX6 58 6 RX6 TX6 23 2 (.int) := ⟨zf_X6_58, rfl, by decide +kernel, ⟨tyX6, tyX6_ok⟩, nmX6⟩
theorem zf_X6_13 : zFd RX6 13 6 RX6 TX6 23 3 := ⟨rfl, by decide, zinX6, rfl, Or.inl (zmem 629 (by decide +kernel) rfl)⟩
theorem zf_X6_17 : zFd RX6 17 6 RX6 TX6 23 4 := ⟨rfl, by decide, zinX6, rfl, Or.inl (zmem 630 (by decide +kernel) rfl)⟩
theorem zf_X6_20 : zFd RX6 20 6 RX6 TX6 23 5 := ⟨rfl, by decide, zinX6, rfl, Or.inl (zmem 631 (by decide +kernel) rfl)⟩
theorem zf_X6_23 : zFd RX6 23 6 RX6 TX6 23 6 := ⟨rfl, by decide, zinX6, rfl, Or.inl (zmem 632 (by decide +kernel) rfl)⟩
theorem zf_X6_26 : zFd RX6 26 6 RX6 TX6 23 7 := ⟨rfl, by decide, zinX6, rfl, Or.inl (zmem 633 (by decide +kernel) rfl)⟩
theorem zf_X6_29 : zFd RX6 29 6 RX6 TX6 23 8 := ⟨rfl, by decide, zinX6, rfl, Or.inl (zmem 634 (by decide +kernel) rfl)⟩
theorem zf_X6_32 : zFd RX6 32 6 RX6 TX6 23 9 := ⟨rfl, by decide, zinX6, rfl, Or.inl (zmem 635 (by decide +kernel) rfl)⟩
theorem zf_X6_35 : zFd RX6 35 6 RX6 TX6 23 10 := ⟨rfl, by decide, zinX6, rfl, Or.inl (zmem 636 (by decide +kernel) rfl)⟩
theorem zf_X6_88 : zFd RX6 88 6 RX6 TX6 23 11 := ⟨rfl, by decide, zinX6, rfl, Or.inl (zmem 637 (by decide +kernel) rfl)⟩
theorem zp_X6_88 : zFp RX6 88 6 RX6 TX6 23 11 (.int) := ⟨zf_X6_88, rfl, by decide +kernel, ⟨tyX6, tyX6_ok⟩, nmX6⟩
theorem zf_X6_62 : zFd RX6 62 6 RX6 TX6 23 12 := ⟨rfl, by decide, zinX6, rfl, Or.inl (zmem 638 (by decide +kernel) rfl)⟩
theorem zp_X6_62 : zFp RX6 62 6 RX6 TX6 23 12 (.int) := ⟨zf_X6_62, rfl, by decide +kernel, ⟨tyX6, tyX6_ok⟩, nmX6⟩
theorem zf_X6_69 : zFd RX6 69 6 RX6 TX6 23 13 := ⟨rfl, by decide, zinX6, rfl, Or.inl (zmem 639 (by decide +kernel) rfl)⟩
theorem zp_X6_69 : zFp RX6 69 6 RX6 TX6 23 13 (.int) := ⟨zf_X6_69, rfl, by decide +kernel, ⟨tyX6, tyX6_ok⟩, nmX6⟩
theorem zf_X6_75 : zFd RX6 75 6 RX6 TX6 23 14 := ⟨rfl, by decide, zinX6, rfl, Or.inl (zmem 640 (by decide +kernel) rfl)⟩
theorem zp_X6_75 : zFp RX6 75 6 RX6 TX6 23 14 (.int) := ⟨zf_X6_75, rfl, by decide +kernel, ⟨tyX6, tyX6_ok⟩, nmX6⟩
theorem zf_X6_72 : zFd RX6 72 6 RX6 TX6 23 15 := ⟨rfl, by decide, zinX6, rfl, Or.inl (zmem 641 (by decide +kernel) rfl)⟩
theorem zp_X6_72 : zFp RX6 72 6 RX6 TX6 23 15 (.int) := ⟨zf_X6_72, rfl, by decide +kernel, ⟨tyX6, tyX6_ok⟩, nmX6⟩
theorem zf_X6_78 : zFd RX6 78 6 RX6 TX6 23 16 := ⟨rfl, by decide, zinX6, rfl, Or.inl (zmem 642 (by decide +kernel) rfl)⟩
theorem zp_X6_78 : zFp RX6 78 6 RX6 TX6 23 16 (.int) := ⟨zf_X6_78, rfl, by decide +kernel, ⟨tyX6, tyX6_ok⟩, nmX6⟩
theorem zf_X6_38 : zFd RX6 38 6 RX6 TX6 23 17 := ⟨rfl, by decide, zinX6, rfl, Or.inl (zmem 643 (by decide +kernel) rfl)⟩
theorem zf_X6_41 : zFd RX6 41 6 RX6 TX6 23 18 := ⟨rfl, by decide, zinX6, rfl, Or.inl (zmem 644 (by decide +kernel) rfl)⟩
theorem zf_X6_45 : zFd RX6 45 6 RX6 TX6 23 19 := ⟨rfl, by decide, zinX6, rfl, Or.inl (zmem 645 (by decide +kernel) rfl)⟩
theorem zf_X6_136 : zFd RX6 136 6 RX6 TX6 23 20 := ⟨rfl, by decide, zinX6, rfl, Or.inl (zmem 646 (by decide +kernel) rfl)⟩
theorem zp_X6_136 : zFp RX6 136 6 RX6 TX6 23 20 (.int) := ⟨zf_X6_136, rfl, by decide +kernel, ⟨tyX6, tyX6_ok⟩, nmX6⟩
theorem zf_X6_133 : zFd RX6 133 6 RX6 TX6 23 21 := ⟨rfl, by decide, zinX6, rfl, Or.inl (zmem 647 (by decide +kernel) rfl)⟩
theorem zp_X6_133 : zFp RX6 133 6 RX6 TX6 23 21 (.int) := ⟨zf_X6_133, rfl, by decide +kernel, ⟨tyX6, tyX6_ok⟩, nmX6⟩
theorem zf_X6_123 : zFd RX6 123 6 RX6 TX6 23 22 := ⟨rfl, by decide, zinX6, rfl, Or.inl (zmem 648 (by decide +kernel) rfl)⟩
theorem zp_X6_123 : zFp RX6 123 6 RX6 TX6 23 22 (.int) := ⟨zf_X6_123, rfl, by decide +kernel, ⟨tyX6, tyX6_ok⟩, nmX6⟩
theorem zm_X5_init : zMd yX5_init cX5_init 1 none 0 ∧ Cond.instanceMethod yX5_init ∈ zt := ⟨⟨zmem 46 (by decide +kernel) rfl, zmem 61 (by decide +kernel) rfl, ⟨by decide +kernel, by decide +kernel⟩, by decide +kernel, by decide⟩, zmem 60 (by decide +kernel) rfl⟩
theorem zm_X3_init : zMd yX3_init cX3_init 1 none 0 ∧ Cond.instanceMethod yX3_init ∈ zt := ⟨⟨zmem 47 (by decide +kernel) rfl, zmem 69 (by decide +kernel) rfl, ⟨by decide +kernel, by decide +kernel⟩, by decide +kernel, by decide⟩, zmem 68 (by decide +kernel) rfl⟩
theorem zm_X2_init : zMd yX2_init cX2_init 1 none 0 ∧ Cond.instanceMethod yX2_init ∈ zt := ⟨⟨zmem 48 (by decide +kernel) rfl, zmem 99 (by decide +kernel) rfl, ⟨by decide +kernel, by decide +kernel⟩, by decide +kernel, by decide⟩, zmem 98 (by decide +kernel) rfl⟩
theorem zm_X4_init : zMd yX4_init cX4_init 1 none 0 ∧ Cond.instanceMethod yX4_init ∈ zt := ⟨⟨zmem 49 (by decide +kernel) rfl, zmem 114 (by decide +kernel) rfl, ⟨by decide +kernel, by decide +kernel⟩, by decide +kernel, by decide⟩, zmem 113 (by decide +kernel) rfl⟩
theorem zm_X1_init : zMd yX1_init cX1_init 1 none 0 ∧ Cond.instanceMethod yX1_init ∈ zt := ⟨⟨zmem 50 (by decide +kernel) rfl, zmem 144 (by decide +kernel) rfl, ⟨by decide +kernel, by decide +kernel⟩, by decide +kernel, by decide⟩, zmem 143 (by decide +kernel) rfl⟩
theorem zm_X0_init : zMd yX0_init cX0_init 1 none 0 ∧ Cond.instanceMethod yX0_init ∈ zt := ⟨⟨zmem 51 (by decide +kernel) rfl, zmem 158 (by decide +kernel) rfl, ⟨by decide +kernel, by decide +kernel⟩, by decide +kernel, by decide⟩, zmem 157 (by decide +kernel) rfl⟩
theorem zm_X0_empty : zMv yX0_empty cX0_empty 2 none 0 := ⟨⟨zmem 51 (by decide +kernel) rfl, zmem 163 (by decide +kernel) rfl, ⟨by decide +kernel, by decide +kernel⟩, by decide +kernel, by decide⟩, zmem 162 (by decide +kernel) rfl, zmem 0 (by decide +kernel) rfl⟩
theorem zm_J7_fill_53178 : zMs yJ7_fill_53178 cJ7_fill_53178 4 none 2 := ⟨⟨zmem 52 (by decide +kernel) rfl, zmem 166 (by decide +kernel) rfl, ⟨by decide +kernel, by decide +kernel⟩, by decide +kernel, by decide⟩, zmem 165 (by decide +kernel) rfl⟩
theorem zm_X2_begin : zMv yX2_begin cX2_begin 3 none 1 := ⟨⟨zmem 48 (by decide +kernel) rfl, zmem 216 (by decide +kernel) rfl, ⟨by decide +kernel, by decide +kernel⟩, by decide +kernel, by decide⟩, zmem 214 (by decide +kernel) rfl, zmem 215 (by decide +kernel) rfl⟩
theorem zm_X2_put : zMv yX2_put cX2_put 3 none 2 := ⟨⟨zmem 48 (by decide +kernel) rfl, zmem 221 (by decide +kernel) rfl, ⟨by decide +kernel, by decide +kernel⟩, by decide +kernel, by decide⟩, zmem 219 (by decide +kernel) rfl, zmem 220 (by decide +kernel) rfl⟩
theorem zm_X0_hensOf : zMv yX0_hensOf cX0_hensOf 2 (some .int) 1 := ⟨⟨zmem 51 (by decide +kernel) rfl, zmem 225 (by decide +kernel) rfl, ⟨by decide +kernel, by decide +kernel⟩, by decide +kernel, by decide⟩, zmem 223 (by decide +kernel) rfl, zmem 224 (by decide +kernel) rfl⟩
theorem zm_X0_knows : zMv yX0_knows cX0_knows 2 (some .boolean) 1 := ⟨⟨zmem 51 (by decide +kernel) rfl, zmem 229 (by decide +kernel) rfl, ⟨by decide +kernel, by decide +kernel⟩, by decide +kernel, by decide⟩, zmem 227 (by decide +kernel) rfl, zmem 228 (by decide +kernel) rfl⟩
theorem zm_X5_type : zMv yX5_type cX5_type 2 (some .int) 1 := ⟨⟨zmem 46 (by decide +kernel) rfl, zmem 264 (by decide +kernel) rfl, ⟨by decide +kernel, by decide +kernel⟩, by decide +kernel, by decide⟩, zmem 262 (by decide +kernel) rfl, zmem 263 (by decide +kernel) rfl⟩
theorem zm_X5_isWithin : zMs yX5_isWithin cX5_isWithin 3 (some .boolean) 3 := ⟨⟨zmem 46 (by decide +kernel) rfl, zmem 267 (by decide +kernel) rfl, ⟨by decide +kernel, by decide +kernel⟩, by decide +kernel, by decide⟩, zmem 266 (by decide +kernel) rfl⟩
theorem zm_X3_append : zMv yX3_append cX3_append 2 (some .boolean) 1 := ⟨⟨zmem 47 (by decide +kernel) rfl, zmem 271 (by decide +kernel) rfl, ⟨by decide +kernel, by decide +kernel⟩, by decide +kernel, by decide⟩, zmem 269 (by decide +kernel) rfl, zmem 270 (by decide +kernel) rfl⟩
theorem zm_X5_clear : zMv yX5_clear cX5_clear 2 (some .int) 0 := ⟨⟨zmem 46 (by decide +kernel) rfl, zmem 275 (by decide +kernel) rfl, ⟨by decide +kernel, by decide +kernel⟩, by decide +kernel, by decide⟩, zmem 273 (by decide +kernel) rfl, zmem 274 (by decide +kernel) rfl⟩
theorem zm_X5_land : zMv yX5_land cX5_land 3 (some .int) 0 := ⟨⟨zmem 46 (by decide +kernel) rfl, zmem 279 (by decide +kernel) rfl, ⟨by decide +kernel, by decide +kernel⟩, by decide +kernel, by decide⟩, zmem 277 (by decide +kernel) rfl, zmem 278 (by decide +kernel) rfl⟩
theorem zm_X0_readAll : zMv yX0_readAll cX0_readAll 3 (some .int) 1 := ⟨⟨zmem 51 (by decide +kernel) rfl, zmem 283 (by decide +kernel) rfl, ⟨by decide +kernel, by decide +kernel⟩, by decide +kernel, by decide⟩, zmem 281 (by decide +kernel) rfl, zmem 282 (by decide +kernel) rfl⟩
theorem zm_X3_toFirstToken : zMv yX3_toFirstToken cX3_toFirstToken 1 none 0 := ⟨⟨zmem 47 (by decide +kernel) rfl, zmem 287 (by decide +kernel) rfl, ⟨by decide +kernel, by decide +kernel⟩, by decide +kernel, by decide⟩, zmem 285 (by decide +kernel) rfl, zmem 286 (by decide +kernel) rfl⟩
theorem zm_X3_toNextToken : zMv yX3_toNextToken cX3_toNextToken 2 none 0 := ⟨⟨zmem 47 (by decide +kernel) rfl, zmem 291 (by decide +kernel) rfl, ⟨by decide +kernel, by decide +kernel⟩, by decide +kernel, by decide⟩, zmem 289 (by decide +kernel) rfl, zmem 290 (by decide +kernel) rfl⟩
theorem zm_X3_byteAt : zMv yX3_byteAt cX3_byteAt 2 (some .int) 1 := ⟨⟨zmem 47 (by decide +kernel) rfl, zmem 295 (by decide +kernel) rfl, ⟨by decide +kernel, by decide +kernel⟩, by decide +kernel, by decide⟩, zmem 294 (by decide +kernel) rfl, zmem 1 (by decide +kernel) rfl⟩
theorem zm_X3_readLetters : zMv yX3_readLetters cX3_readLetters 1 none 0 := ⟨⟨zmem 47 (by decide +kernel) rfl, zmem 300 (by decide +kernel) rfl, ⟨by decide +kernel, by decide +kernel⟩, by decide +kernel, by decide⟩, zmem 299 (by decide +kernel) rfl, zmem 2 (by decide +kernel) rfl⟩
theorem zm_X3_readNumber : zMv yX3_readNumber cX3_readNumber 2 none 0 := ⟨⟨zmem 47 (by decide +kernel) rfl, zmem 304 (by decide +kernel) rfl, ⟨by decide +kernel, by decide +kernel⟩, by decide +kernel, by decide⟩, zmem 303 (by decide +kernel) rfl, zmem 3 (by decide +kernel) rfl⟩
theorem zm_J9_min_7cf53 : zMs yJ9_min_7cf53 cJ9_min_7cf53 2 (some .int) 2 := ⟨⟨zmem 54 (by decide +kernel) rfl, zmem 307 (by decide +kernel) rfl, ⟨by decide +kernel, by decide +kernel⟩, by decide +kernel, by decide⟩, zmem 306 (by decide +kernel) rfl⟩
theorem zm_X0_readItem : zMv yX0_readItem cX0_readItem 5 (some .boolean) 1 := ⟨⟨zmem 51 (by decide +kernel) rfl, zmem 311 (by decide +kernel) rfl, ⟨by decide +kernel, by decide +kernel⟩, by decide +kernel, by decide⟩, zmem 310 (by decide +kernel) rfl, zmem 4 (by decide +kernel) rfl⟩
theorem zm_X0_mayBegin : zMv yX0_mayBegin cX0_mayBegin 2 (some .boolean) 1 := ⟨⟨zmem 51 (by decide +kernel) rfl, zmem 315 (by decide +kernel) rfl, ⟨by decide +kernel, by decide +kernel⟩, by decide +kernel, by decide⟩, zmem 314 (by decide +kernel) rfl, zmem 5 (by decide +kernel) rfl⟩
theorem zm_X0_isToldOnce : zMs yX0_isToldOnce cX0_isToldOnce 1 (some .boolean) 1 := ⟨⟨zmem 51 (by decide +kernel) rfl, zmem 318 (by decide +kernel) rfl, ⟨by decide +kernel, by decide +kernel⟩, by decide +kernel, by decide⟩, zmem 317 (by decide +kernel) rfl⟩
theorem zm_X0_bitOf : zMs yX0_bitOf cX0_bitOf 1 (some .int) 1 := ⟨⟨zmem 51 (by decide +kernel) rfl, zmem 321 (by decide +kernel) rfl, ⟨by decide +kernel, by decide +kernel⟩, by decide +kernel, by decide⟩, zmem 320 (by decide +kernel) rfl⟩
theorem zm_X0_mayBeTold : zMv yX0_mayBeTold cX0_mayBeTold 4 (some .boolean) 3 := ⟨⟨zmem 51 (by decide +kernel) rfl, zmem 326 (by decide +kernel) rfl, ⟨by decide +kernel, by decide +kernel⟩, by decide +kernel, by decide⟩, zmem 325 (by decide +kernel) rfl, zmem 6 (by decide +kernel) rfl⟩
theorem zm_X0_mayBeEnd : zMv yX0_mayBeEnd cX0_mayBeEnd 3 (some .boolean) 2 := ⟨⟨zmem 51 (by decide +kernel) rfl, zmem 330 (by decide +kernel) rfl, ⟨by decide +kernel, by decide +kernel⟩, by decide +kernel, by decide⟩, zmem 329 (by decide +kernel) rfl, zmem 7 (by decide +kernel) rfl⟩
theorem zm_X0_takeItem : zMv yX0_takeItem cX0_takeItem 2 none 1 := ⟨⟨zmem 51 (by decide +kernel) rfl, zmem 335 (by decide +kernel) rfl, ⟨by decide +kernel, by decide +kernel⟩, by decide +kernel, by decide⟩, zmem 334 (by decide +kernel) rfl, zmem 8 (by decide +kernel) rfl⟩
theorem zm_X0_takeVillage : zMv yX0_takeVillage cX0_takeVillage 2 none 0 := ⟨⟨zmem 51 (by decide +kernel) rfl, zmem 339 (by decide +kernel) rfl, ⟨by decide +kernel, by decide +kernel⟩, by decide +kernel, by decide⟩, zmem 338 (by decide +kernel) rfl, zmem 9 (by decide +kernel) rfl⟩
theorem zm_X0_takeRoad : zMv yX0_takeRoad cX0_takeRoad 3 none 0 := ⟨⟨zmem 51 (by decide +kernel) rfl, zmem 343 (by decide +kernel) rfl, ⟨by decide +kernel, by decide +kernel⟩, by decide +kernel, by decide⟩, zmem 342 (by decide +kernel) rfl, zmem 10 (by decide +kernel) rfl⟩
theorem zm_X0_shortenWay : zMv yX0_shortenWay cX0_shortenWay 5 none 3 := ⟨⟨zmem 51 (by decide +kernel) rfl, zmem 347 (by decide +kernel) rfl, ⟨by decide +kernel, by decide +kernel⟩, by decide +kernel, by decide⟩, zmem 346 (by decide +kernel) rfl, zmem 11 (by decide +kernel) rfl⟩
theorem zm_X0_takeDebt : zMv yX0_takeDebt cX0_takeDebt 3 none 0 := ⟨⟨zmem 51 (by decide +kernel) rfl, zmem 352 (by decide +kernel) rfl, ⟨by decide +kernel, by decide +kernel⟩, by decide +kernel, by decide⟩, zmem 351 (by decide +kernel) rfl, zmem 12 (by decide +kernel) rfl⟩
theorem zm_X0_debt : zMv yX0_debt cX0_debt 3 (some .int) 2 := ⟨⟨zmem 51 (by decide +kernel) rfl, zmem 356 (by decide +kernel) rfl, ⟨by decide +kernel, by decide +kernel⟩, by decide +kernel, by decide⟩, zmem 354 (by decide +kernel) rfl, zmem 355 (by decide +kernel) rfl⟩
theorem zm_X0_findShortestWays : zMv yX0_findShortestWays cX0_findShortestWays 6 none 0 := ⟨⟨zmem 51 (by decide +kernel) rfl, zmem 360 (by decide +kernel) rfl, ⟨by decide +kernel, by decide +kernel⟩, by decide +kernel, by decide⟩, zmem 359 (by decide +kernel) rfl, zmem 13 (by decide +kernel) rfl⟩
theorem zm_X0_daysBetween : zMv yX0_daysBetween cX0_daysBetween 4 (some .int) 2 := ⟨⟨zmem 51 (by decide +kernel) rfl, zmem 364 (by decide +kernel) rfl, ⟨by decide +kernel, by decide +kernel⟩, by decide +kernel, by decide⟩, zmem 362 (by decide +kernel) rfl, zmem 363 (by decide +kernel) rfl⟩
theorem zm_X5_village : zMv yX5_village cX5_village 3 (some .int) 2 := ⟨⟨zmem 46 (by decide +kernel) rfl, zmem 368 (by decide +kernel) rfl, ⟨by decide +kernel, by decide +kernel⟩, by decide +kernel, by decide⟩, zmem 366 (by decide +kernel) rfl, zmem 367 (by decide +kernel) rfl⟩
theorem zm_X2_get : zMv yX2_get cX2_get 2 (some .int) 1 := ⟨⟨zmem 48 (by decide +kernel) rfl, zmem 373 (by decide +kernel) rfl, ⟨by decide +kernel, by decide +kernel⟩, by decide +kernel, by decide⟩, zmem 371 (by decide +kernel) rfl, zmem 372 (by decide +kernel) rfl⟩
theorem zm_X0_needOf : zMv yX0_needOf cX0_needOf 2 (some .int) 1 := ⟨⟨zmem 51 (by decide +kernel) rfl, zmem 377 (by decide +kernel) rfl, ⟨by decide +kernel, by decide +kernel⟩, by decide +kernel, by decide⟩, zmem 375 (by decide +kernel) rfl, zmem 376 (by decide +kernel) rfl⟩
theorem zm_X0_hasCharter : zMv yX0_hasCharter cX0_hasCharter 2 (some .boolean) 1 := ⟨⟨zmem 51 (by decide +kernel) rfl, zmem 381 (by decide +kernel) rfl, ⟨by decide +kernel, by decide +kernel⟩, by decide +kernel, by decide⟩, zmem 379 (by decide +kernel) rfl, zmem 380 (by decide +kernel) rfl⟩
theorem zm_X5_spareOf : zMv yX5_spareOf cX5_spareOf 4 (some .int) 1 := ⟨⟨zmem 46 (by decide +kernel) rfl, zmem 385 (by decide +kernel) rfl, ⟨by decide +kernel, by decide +kernel⟩, by decide +kernel, by decide⟩, zmem 384 (by decide +kernel) rfl, zmem 14 (by decide +kernel) rfl⟩
theorem zm_J9_max_7cf53 : zMs yJ9_max_7cf53 cJ9_max_7cf53 2 (some .int) 2 := ⟨⟨zmem 54 (by decide +kernel) rfl, zmem 389 (by decide +kernel) rfl, ⟨by decide +kernel, by decide +kernel⟩, by decide +kernel, by decide⟩, zmem 388 (by decide +kernel) rfl⟩
theorem zm_X5_far : zMv yX5_far cX5_far 3 (some .int) 2 := ⟨⟨zmem 46 (by decide +kernel) rfl, zmem 393 (by decide +kernel) rfl, ⟨by decide +kernel, by decide +kernel⟩, by decide +kernel, by decide⟩, zmem 391 (by decide +kernel) rfl, zmem 392 (by decide +kernel) rfl⟩
theorem zm_X5_owes : zMv yX5_owes cX5_owes 3 (some .int) 2 := ⟨⟨zmem 46 (by decide +kernel) rfl, zmem 398 (by decide +kernel) rfl, ⟨by decide +kernel, by decide +kernel⟩, by decide +kernel, by decide⟩, zmem 396 (by decide +kernel) rfl, zmem 397 (by decide +kernel) rfl⟩
theorem zm_X5_goes : zMv yX5_goes cX5_goes 3 (some .int) 1 := ⟨⟨zmem 46 (by decide +kernel) rfl, zmem 403 (by decide +kernel) rfl, ⟨by decide +kernel, by decide +kernel⟩, by decide +kernel, by decide⟩, zmem 401 (by decide +kernel) rfl, zmem 402 (by decide +kernel) rfl⟩
theorem zm_X2_remember : zMv yX2_remember cX2_remember 1 none 0 := ⟨⟨zmem 48 (by decide +kernel) rfl, zmem 407 (by decide +kernel) rfl, ⟨by decide +kernel, by decide +kernel⟩, by decide +kernel, by decide⟩, zmem 405 (by decide +kernel) rfl, zmem 406 (by decide +kernel) rfl⟩
theorem zm_X2_letDaysPass : zMv yX2_letDaysPass cX2_letDaysPass 5 none 2 := ⟨⟨zmem 48 (by decide +kernel) rfl, zmem 415 (by decide +kernel) rfl, ⟨by decide +kernel, by decide +kernel⟩, by decide +kernel, by decide⟩, zmem 413 (by decide +kernel) rfl, zmem 414 (by decide +kernel) rfl⟩
theorem zm_X2_add : zMv yX2_add cX2_add 3 none 2 := ⟨⟨zmem 48 (by decide +kernel) rfl, zmem 420 (by decide +kernel) rfl, ⟨by decide +kernel, by decide +kernel⟩, by decide +kernel, by decide⟩, zmem 418 (by decide +kernel) rfl, zmem 419 (by decide +kernel) rfl⟩
theorem zm_X5_stays : zMv yX5_stays cX5_stays 1 (some .int) 0 := ⟨⟨zmem 46 (by decide +kernel) rfl, zmem 425 (by decide +kernel) rfl, ⟨by decide +kernel, by decide +kernel⟩, by decide +kernel, by decide⟩, zmem 423 (by decide +kernel) rfl, zmem 424 (by decide +kernel) rfl⟩
theorem zm_X5_takes : zMv yX5_takes cX5_takes 4 (some .int) 1 := ⟨⟨zmem 46 (by decide +kernel) rfl, zmem 429 (by decide +kernel) rfl, ⟨by decide +kernel, by decide +kernel⟩, by decide +kernel, by decide⟩, zmem 427 (by decide +kernel) rfl, zmem 428 (by decide +kernel) rfl⟩
theorem zm_X0_writtenFor : zMv yX0_writtenFor cX0_writtenFor 2 (some .int) 1 := ⟨⟨zmem 51 (by decide +kernel) rfl, zmem 433 (by decide +kernel) rfl, ⟨by decide +kernel, by decide +kernel⟩, by decide +kernel, by decide⟩, zmem 431 (by decide +kernel) rfl, zmem 432 (by decide +kernel) rfl⟩
theorem zm_X5_hides : zMv yX5_hides cX5_hides 3 (some .int) 2 := ⟨⟨zmem 46 (by decide +kernel) rfl, zmem 438 (by decide +kernel) rfl, ⟨by decide +kernel, by decide +kernel⟩, by decide +kernel, by decide⟩, zmem 436 (by decide +kernel) rfl, zmem 437 (by decide +kernel) rfl⟩
theorem zm_X5_moveHens : zMv yX5_moveHens cX5_moveHens 5 (some .int) 4 := ⟨⟨zmem 46 (by decide +kernel) rfl, zmem 442 (by decide +kernel) rfl, ⟨by decide +kernel, by decide +kernel⟩, by decide +kernel, by decide⟩, zmem 441 (by decide +kernel) rfl, zmem 15 (by decide +kernel) rfl⟩
theorem zm_X5_shows : zMv yX5_shows cX5_shows 3 (some .int) 2 := ⟨⟨zmem 46 (by decide +kernel) rfl, zmem 446 (by decide +kernel) rfl, ⟨by decide +kernel, by decide +kernel⟩, by decide +kernel, by decide⟩, zmem 444 (by decide +kernel) rfl, zmem 445 (by decide +kernel) rfl⟩
theorem zm_X5_pays : zMv yX5_pays cX5_pays 3 (some .int) 1 := ⟨⟨zmem 46 (by decide +kernel) rfl, zmem 450 (by decide +kernel) rfl, ⟨by decide +kernel, by decide +kernel⟩, by decide +kernel, by decide⟩, zmem 448 (by decide +kernel) rfl, zmem 449 (by decide +kernel) rfl⟩
theorem zm_X5_sells : zMv yX5_sells cX5_sells 3 (some .int) 2 := ⟨⟨zmem 46 (by decide +kernel) rfl, zmem 454 (by decide +kernel) rfl, ⟨by decide +kernel, by decide +kernel⟩, by decide +kernel, by decide⟩, zmem 452 (by decide +kernel) rfl, zmem 453 (by decide +kernel) rfl⟩
theorem zm_X5_undo : zMv yX5_undo cX5_undo 1 (some .int) 0 := ⟨⟨zmem 46 (by decide +kernel) rfl, zmem 458 (by decide +kernel) rfl, ⟨by decide +kernel, by decide +kernel⟩, by decide +kernel, by decide⟩, zmem 456 (by decide +kernel) rfl, zmem 457 (by decide +kernel) rfl⟩
theorem zm_X2_goBack : zMv yX2_goBack cX2_goBack 1 (some .boolean) 0 := ⟨⟨zmem 48 (by decide +kernel) rfl, zmem 462 (by decide +kernel) rfl, ⟨by decide +kernel, by decide +kernel⟩, by decide +kernel, by decide⟩, zmem 460 (by decide +kernel) rfl, zmem 461 (by decide +kernel) rfl⟩
theorem zm_X5_now : zMv yX5_now cX5_now 2 (some .int) 1 := ⟨⟨zmem 46 (by decide +kernel) rfl, zmem 466 (by decide +kernel) rfl, ⟨by decide +kernel, by decide +kernel⟩, by decide +kernel, by decide⟩, zmem 464 (by decide +kernel) rfl, zmem 465 (by decide +kernel) rfl⟩
theorem zm_X5_allTallies : zMv yX5_allTallies cX5_allTallies 3 (some .int) 0 := ⟨⟨zmem 46 (by decide +kernel) rfl, zmem 470 (by decide +kernel) rfl, ⟨by decide +kernel, by decide +kernel⟩, by decide +kernel, by decide⟩, zmem 469 (by decide +kernel) rfl, zmem 16 (by decide +kernel) rfl⟩
theorem zm_X5_allSpare : zMv yX5_allSpare cX5_allSpare 3 (some .int) 0 := ⟨⟨zmem 46 (by decide +kernel) rfl, zmem 474 (by decide +kernel) rfl, ⟨by decide +kernel, by decide +kernel⟩, by decide +kernel, by decide⟩, zmem 473 (by decide +kernel) rfl, zmem 17 (by decide +kernel) rfl⟩
theorem zm_X5_tour : zMv yX5_tour cX5_tour 6 (some .int) 2 := ⟨⟨zmem 46 (by decide +kernel) rfl, zmem 478 (by decide +kernel) rfl, ⟨by decide +kernel, by decide +kernel⟩, by decide +kernel, by decide⟩, zmem 476 (by decide +kernel) rfl, zmem 477 (by decide +kernel) rfl⟩
theorem zm_X5_fillSpares : zMv yX5_fillSpares cX5_fillSpares 2 none 0 := ⟨⟨zmem 46 (by decide +kernel) rfl, zmem 482 (by decide +kernel) rfl, ⟨by decide +kernel, by decide +kernel⟩, by decide +kernel, by decide⟩, zmem 481 (by decide +kernel) rfl, zmem 18 (by decide +kernel) rfl⟩
theorem zm_X5_fewestWith : zMv yX5_fewestWith cX5_fewestWith 5 (some .int) 1 := ⟨⟨zmem 46 (by decide +kernel) rfl, zmem 486 (by decide +kernel) rfl, ⟨by decide +kernel, by decide +kernel⟩, by decide +kernel, by decide⟩, zmem 485 (by decide +kernel) rfl, zmem 19 (by decide +kernel) rfl⟩
theorem zm_J6_bitCount_0f7a4 : zMs yJ6_bitCount_0f7a4 cJ6_bitCount_0f7a4 1 (some .int) 1 := ⟨⟨zmem 56 (by decide +kernel) rfl, zmem 489 (by decide +kernel) rfl, ⟨by decide +kernel, by decide +kernel⟩, by decide +kernel, by decide⟩, zmem 488 (by decide +kernel) rfl⟩
theorem zm_X5_spareTogether : zMv yX5_spareTogether cX5_spareTogether 4 (some .int) 1 := ⟨⟨zmem 46 (by decide +kernel) rfl, zmem 496 (by decide +kernel) rfl, ⟨by decide +kernel, by decide +kernel⟩, by decide +kernel, by decide⟩, zmem 495 (by decide +kernel) rfl, zmem 20 (by decide +kernel) rfl⟩
theorem zm_X4_find : zMv yX4_find cX4_find 8 (some .boolean) 6 := ⟨⟨zmem 49 (by decide +kernel) rfl, zmem 500 (by decide +kernel) rfl, ⟨by decide +kernel, by decide +kernel⟩, by decide +kernel, by decide⟩, zmem 498 (by decide +kernel) rfl, zmem 499 (by decide +kernel) rfl⟩
theorem zm_X4_goOn : zMv yX4_goOn cX4_goOn 11 none 6 := ⟨⟨zmem 49 (by decide +kernel) rfl, zmem 505 (by decide +kernel) rfl, ⟨by decide +kernel, by decide +kernel⟩, by decide +kernel, by decide⟩, zmem 504 (by decide +kernel) rfl, zmem 21 (by decide +kernel) rfl⟩
theorem zm_X4_isWorthGoing : zMv yX4_isWorthGoing cX4_isWorthGoing 7 (some .boolean) 5 := ⟨⟨zmem 49 (by decide +kernel) rfl, zmem 511 (by decide +kernel) rfl, ⟨by decide +kernel, by decide +kernel⟩, by decide +kernel, by decide⟩, zmem 510 (by decide +kernel) rfl, zmem 22 (by decide +kernel) rfl⟩
theorem zm_X4_at : zMv yX4_at cX4_at 2 (some .int) 1 := ⟨⟨zmem 49 (by decide +kernel) rfl, zmem 515 (by decide +kernel) rfl, ⟨by decide +kernel, by decide +kernel⟩, by decide +kernel, by decide⟩, zmem 513 (by decide +kernel) rfl, zmem 514 (by decide +kernel) rfl⟩
theorem zm_X5_from : zMv yX5_from cX5_from 2 (some .int) 1 := ⟨⟨zmem 46 (by decide +kernel) rfl, zmem 519 (by decide +kernel) rfl, ⟨by decide +kernel, by decide +kernel⟩, by decide +kernel, by decide⟩, zmem 517 (by decide +kernel) rfl, zmem 518 (by decide +kernel) rfl⟩
theorem zm_X5_had : zMv yX5_had cX5_had 5 (some .int) 2 := ⟨⟨zmem 46 (by decide +kernel) rfl, zmem 523 (by decide +kernel) rfl, ⟨by decide +kernel, by decide +kernel⟩, by decide +kernel, by decide⟩, zmem 521 (by decide +kernel) rfl, zmem 522 (by decide +kernel) rfl⟩
theorem zm_X5_odds : zMv yX5_odds cX5_odds 7 (some .int) 3 := ⟨⟨zmem 46 (by decide +kernel) rfl, zmem 527 (by decide +kernel) rfl, ⟨by decide +kernel, by decide +kernel⟩, by decide +kernel, by decide⟩, zmem 525 (by decide +kernel) rfl, zmem 526 (by decide +kernel) rfl⟩
theorem zm_X5_chanceOf : zMv yX5_chanceOf cX5_chanceOf 5 (some .int) 2 := ⟨⟨zmem 46 (by decide +kernel) rfl, zmem 531 (by decide +kernel) rfl, ⟨by decide +kernel, by decide +kernel⟩, by decide +kernel, by decide⟩, zmem 530 (by decide +kernel) rfl, zmem 23 (by decide +kernel) rfl⟩
theorem zm_X5_partOfFraction : zMs yX5_partOfFraction cX5_partOfFraction 4 (some .int) 3 := ⟨⟨zmem 46 (by decide +kernel) rfl, zmem 534 (by decide +kernel) rfl, ⟨by decide +kernel, by decide +kernel⟩, by decide +kernel, by decide⟩, zmem 533 (by decide +kernel) rfl⟩
theorem zm_X5_greatestDivisor : zMs yX5_greatestDivisor cX5_greatestDivisor 6 (some .int) 2 := ⟨⟨zmem 46 (by decide +kernel) rfl, zmem 537 (by decide +kernel) rfl, ⟨by decide +kernel, by decide +kernel⟩, by decide +kernel, by decide⟩, zmem 536 (by decide +kernel) rfl⟩
theorem zm_X5_rests : zMv yX5_rests cX5_rests 10 (some .int) 3 := ⟨⟨zmem 46 (by decide +kernel) rfl, zmem 541 (by decide +kernel) rfl, ⟨by decide +kernel, by decide +kernel⟩, by decide +kernel, by decide⟩, zmem 539 (by decide +kernel) rfl, zmem 540 (by decide +kernel) rfl⟩
theorem zm_X5_villageHas : zMs yX5_villageHas cX5_villageHas 4 (some .int) 4 := ⟨⟨zmem 46 (by decide +kernel) rfl, zmem 544 (by decide +kernel) rfl, ⟨by decide +kernel, by decide +kernel⟩, by decide +kernel, by decide⟩, zmem 543 (by decide +kernel) rfl⟩
theorem zm_X5_buyerHas : zMs yX5_buyerHas cX5_buyerHas 5 (some .int) 4 := ⟨⟨zmem 46 (by decide +kernel) rfl, zmem 547 (by decide +kernel) rfl, ⟨by decide +kernel, by decide +kernel⟩, by decide +kernel, by decide⟩, zmem 546 (by decide +kernel) rfl⟩
theorem zm_X5_mixed : zMv yX5_mixed cX5_mixed 4 (some .int) 3 := ⟨⟨zmem 46 (by decide +kernel) rfl, zmem 551 (by decide +kernel) rfl, ⟨by decide +kernel, by decide +kernel⟩, by decide +kernel, by decide⟩, zmem 549 (by decide +kernel) rfl, zmem 550 (by decide +kernel) rfl⟩
theorem zm_X5_ring : zMv yX5_ring cX5_ring 2 (some .int) 1 := ⟨⟨zmem 46 (by decide +kernel) rfl, zmem 555 (by decide +kernel) rfl, ⟨by decide +kernel, by decide +kernel⟩, by decide +kernel, by decide⟩, zmem 553 (by decide +kernel) rfl, zmem 554 (by decide +kernel) rfl⟩
theorem zm_X1_find : zMv yX1_find cX1_find 3 (some .boolean) 1 := ⟨⟨zmem 50 (by decide +kernel) rfl, zmem 559 (by decide +kernel) rfl, ⟨by decide +kernel, by decide +kernel⟩, by decide +kernel, by decide⟩, zmem 557 (by decide +kernel) rfl, zmem 558 (by decide +kernel) rfl⟩
theorem zm_X1_goOn : zMv yX1_goOn cX1_goOn 6 (some .boolean) 3 := ⟨⟨zmem 50 (by decide +kernel) rfl, zmem 563 (by decide +kernel) rfl, ⟨by decide +kernel, by decide +kernel⟩, by decide +kernel, by decide⟩, zmem 562 (by decide +kernel) rfl, zmem 24 (by decide +kernel) rfl⟩
theorem zm_X1_leastDebt : zMv yX1_leastDebt cX1_leastDebt 5 (some .int) 1 := ⟨⟨zmem 50 (by decide +kernel) rfl, zmem 568 (by decide +kernel) rfl, ⟨by decide +kernel, by decide +kernel⟩, by decide +kernel, by decide⟩, zmem 566 (by decide +kernel) rfl, zmem 567 (by decide +kernel) rfl⟩
theorem zm_X1_at : zMv yX1_at cX1_at 2 (some .int) 1 := ⟨⟨zmem 50 (by decide +kernel) rfl, zmem 572 (by decide +kernel) rfl, ⟨by decide +kernel, by decide +kernel⟩, by decide +kernel, by decide⟩, zmem 570 (by decide +kernel) rfl, zmem 571 (by decide +kernel) rfl⟩
theorem zm_X5_net : zMv yX5_net cX5_net 4 (some .int) 1 := ⟨⟨zmem 46 (by decide +kernel) rfl, zmem 578 (by decide +kernel) rfl, ⟨by decide +kernel, by decide +kernel⟩, by decide +kernel, by decide⟩, zmem 576 (by decide +kernel) rfl, zmem 577 (by decide +kernel) rfl⟩
theorem zm_X5_mark : zMv yX5_mark cX5_mark 3 (some .int) 2 := ⟨⟨zmem 46 (by decide +kernel) rfl, zmem 583 (by decide +kernel) rfl, ⟨by decide +kernel, by decide +kernel⟩, by decide +kernel, by decide⟩, zmem 581 (by decide +kernel) rfl, zmem 582 (by decide +kernel) rfl⟩
theorem zm_X5_askKind : zMv yX5_askKind cX5_askKind 5 (some .int) 3 := ⟨⟨zmem 46 (by decide +kernel) rfl, zmem 587 (by decide +kernel) rfl, ⟨by decide +kernel, by decide +kernel⟩, by decide +kernel, by decide⟩, zmem 586 (by decide +kernel) rfl, zmem 25 (by decide +kernel) rfl⟩
theorem zm_X5_keep : zMv yX5_keep cX5_keep 2 (some .int) 1 := ⟨⟨zmem 46 (by decide +kernel) rfl, zmem 595 (by decide +kernel) rfl, ⟨by decide +kernel, by decide +kernel⟩, by decide +kernel, by decide⟩, zmem 593 (by decide +kernel) rfl, zmem 594 (by decide +kernel) rfl⟩
theorem zm_X2_copyFrom : zMv yX2_copyFrom cX2_copyFrom 2 none 1 := ⟨⟨zmem 48 (by decide +kernel) rfl, zmem 599 (by decide +kernel) rfl, ⟨by decide +kernel, by decide +kernel⟩, by decide +kernel, by decide⟩, zmem 597 (by decide +kernel) rfl, zmem 598 (by decide +kernel) rfl⟩
theorem zm_X5_back : zMv yX5_back cX5_back 2 (some .int) 1 := ⟨⟨zmem 46 (by decide +kernel) rfl, zmem 603 (by decide +kernel) rfl, ⟨by decide +kernel, by decide +kernel⟩, by decide +kernel, by decide⟩, zmem 601 (by decide +kernel) rfl, zmem 602 (by decide +kernel) rfl⟩
theorem zm_X5_count : zMv yX5_count cX5_count 2 (some .int) 1 := ⟨⟨zmem 46 (by decide +kernel) rfl, zmem 607 (by decide +kernel) rfl, ⟨by decide +kernel, by decide +kernel⟩, by decide +kernel, by decide⟩, zmem 605 (by decide +kernel) rfl, zmem 606 (by decide +kernel) rfl⟩
theorem zm_X5_trace : zMv yX5_trace cX5_trace 1 (some .long) 0 := ⟨⟨zmem 46 (by decide +kernel) rfl, zmem 611 (by decide +kernel) rfl, ⟨by decide +kernel, by decide +kernel⟩, by decide +kernel, by decide⟩, zmem 609 (by decide +kernel) rfl, zmem 610 (by decide +kernel) rfl⟩
theorem zm_X6_init : zMd yX6_init cX6_init 1 none 0 ∧ Cond.instanceMethod yX6_init ∈ zt := ⟨⟨zmem 53 (by decide +kernel) rfl, zmem 616 (by decide +kernel) rfl, ⟨by decide +kernel, by decide +kernel⟩, by decide +kernel, by decide⟩, zmem 615 (by decide +kernel) rfl⟩
theorem zm_X6_plain : zMv yX6_plain cX6_plain 2 none 0 := ⟨⟨zmem 53 (by decide +kernel) rfl, zmem 621 (by decide +kernel) rfl, ⟨by decide +kernel, by decide +kernel⟩, by decide +kernel, by decide⟩, zmem 620 (by decide +kernel) rfl, zmem 26 (by decide +kernel) rfl⟩
theorem zm_X6_takeDraft : zMv yX6_takeDraft cX6_takeDraft 4 none 0 := ⟨⟨zmem 53 (by decide +kernel) rfl, zmem 625 (by decide +kernel) rfl, ⟨by decide +kernel, by decide +kernel⟩, by decide +kernel, by decide⟩, zmem 624 (by decide +kernel) rfl, zmem 27 (by decide +kernel) rfl⟩
theorem zm_X6_type : zMv yX6_type cX6_type 2 (some .int) 1 := ⟨⟨zmem 53 (by decide +kernel) rfl, zmem 701 (by decide +kernel) rfl, ⟨by decide +kernel, by decide +kernel⟩, by decide +kernel, by decide⟩, zmem 699 (by decide +kernel) rfl, zmem 700 (by decide +kernel) rfl⟩
theorem zm_X6_in : zMs yX6_in cX6_in 3 (some .boolean) 3 := ⟨⟨zmem 53 (by decide +kernel) rfl, zmem 704 (by decide +kernel) rfl, ⟨by decide +kernel, by decide +kernel⟩, by decide +kernel, by decide⟩, zmem 703 (by decide +kernel) rfl⟩
theorem zm_X6_clear : zMv yX6_clear cX6_clear 2 (some .int) 0 := ⟨⟨zmem 53 (by decide +kernel) rfl, zmem 708 (by decide +kernel) rfl, ⟨by decide +kernel, by decide +kernel⟩, by decide +kernel, by decide⟩, zmem 706 (by decide +kernel) rfl, zmem 707 (by decide +kernel) rfl⟩
theorem zm_X6_land : zMv yX6_land cX6_land 3 (some .int) 0 := ⟨⟨zmem 53 (by decide +kernel) rfl, zmem 712 (by decide +kernel) rfl, ⟨by decide +kernel, by decide +kernel⟩, by decide +kernel, by decide⟩, zmem 710 (by decide +kernel) rfl, zmem 711 (by decide +kernel) rfl⟩
theorem zm_X6_step : zMv yX6_step cX6_step 2 none 0 := ⟨⟨zmem 53 (by decide +kernel) rfl, zmem 716 (by decide +kernel) rfl, ⟨by decide +kernel, by decide +kernel⟩, by decide +kernel, by decide⟩, zmem 715 (by decide +kernel) rfl, zmem 28 (by decide +kernel) rfl⟩
theorem zm_X6_here : zMv yX6_here cX6_here 1 (some .int) 0 := ⟨⟨zmem 53 (by decide +kernel) rfl, zmem 720 (by decide +kernel) rfl, ⟨by decide +kernel, by decide +kernel⟩, by decide +kernel, by decide⟩, zmem 719 (by decide +kernel) rfl, zmem 29 (by decide +kernel) rfl⟩
theorem zm_X6_mayBe : zMv yX6_mayBe cX6_mayBe 2 (some .boolean) 1 := ⟨⟨zmem 53 (by decide +kernel) rfl, zmem 724 (by decide +kernel) rfl, ⟨by decide +kernel, by decide +kernel⟩, by decide +kernel, by decide⟩, zmem 723 (by decide +kernel) rfl, zmem 30 (by decide +kernel) rfl⟩
theorem zm_X6_due : zMv yX6_due cX6_due 3 (some .int) 1 := ⟨⟨zmem 53 (by decide +kernel) rfl, zmem 728 (by decide +kernel) rfl, ⟨by decide +kernel, by decide +kernel⟩, by decide +kernel, by decide⟩, zmem 727 (by decide +kernel) rfl, zmem 31 (by decide +kernel) rfl⟩
theorem zm_X6_readRow : zMv yX6_readRow cX6_readRow 6 none 1 := ⟨⟨zmem 53 (by decide +kernel) rfl, zmem 732 (by decide +kernel) rfl, ⟨by decide +kernel, by decide +kernel⟩, by decide +kernel, by decide⟩, zmem 731 (by decide +kernel) rfl, zmem 32 (by decide +kernel) rfl⟩
theorem zm_X6_number : zMv yX6_number cX6_number 3 (some .int) 2 := ⟨⟨zmem 53 (by decide +kernel) rfl, zmem 736 (by decide +kernel) rfl, ⟨by decide +kernel, by decide +kernel⟩, by decide +kernel, by decide⟩, zmem 735 (by decide +kernel) rfl, zmem 33 (by decide +kernel) rfl⟩
theorem zm_X6_another : zMv yX6_another cX6_another 2 (some .int) 1 := ⟨⟨zmem 53 (by decide +kernel) rfl, zmem 740 (by decide +kernel) rfl, ⟨by decide +kernel, by decide +kernel⟩, by decide +kernel, by decide⟩, zmem 739 (by decide +kernel) rfl, zmem 34 (by decide +kernel) rfl⟩
theorem zm_X6_village : zMv yX6_village cX6_village 3 (some .int) 2 := ⟨⟨zmem 53 (by decide +kernel) rfl, zmem 744 (by decide +kernel) rfl, ⟨by decide +kernel, by decide +kernel⟩, by decide +kernel, by decide⟩, zmem 742 (by decide +kernel) rfl, zmem 743 (by decide +kernel) rfl⟩
theorem zm_X6_isVillage : zMv yX6_isVillage cX6_isVillage 2 (some .boolean) 1 := ⟨⟨zmem 53 (by decide +kernel) rfl, zmem 748 (by decide +kernel) rfl, ⟨by decide +kernel, by decide +kernel⟩, by decide +kernel, by decide⟩, zmem 747 (by decide +kernel) rfl, zmem 35 (by decide +kernel) rfl⟩
theorem zm_X6_spare : zMv yX6_spare cX6_spare 4 (some .int) 1 := ⟨⟨zmem 53 (by decide +kernel) rfl, zmem 752 (by decide +kernel) rfl, ⟨by decide +kernel, by decide +kernel⟩, by decide +kernel, by decide⟩, zmem 751 (by decide +kernel) rfl, zmem 36 (by decide +kernel) rfl⟩
theorem zm_X6_far : zMv yX6_far cX6_far 3 (some .int) 2 := ⟨⟨zmem 53 (by decide +kernel) rfl, zmem 756 (by decide +kernel) rfl, ⟨by decide +kernel, by decide +kernel⟩, by decide +kernel, by decide⟩, zmem 754 (by decide +kernel) rfl, zmem 755 (by decide +kernel) rfl⟩
theorem zm_X6_owes : zMv yX6_owes cX6_owes 3 (some .int) 2 := ⟨⟨zmem 53 (by decide +kernel) rfl, zmem 760 (by decide +kernel) rfl, ⟨by decide +kernel, by decide +kernel⟩, by decide +kernel, by decide⟩, zmem 758 (by decide +kernel) rfl, zmem 759 (by decide +kernel) rfl⟩
theorem zm_X6_goes : zMv yX6_goes cX6_goes 3 (some .int) 1 := ⟨⟨zmem 53 (by decide +kernel) rfl, zmem 764 (by decide +kernel) rfl, ⟨by decide +kernel, by decide +kernel⟩, by decide +kernel, by decide⟩, zmem 762 (by decide +kernel) rfl, zmem 763 (by decide +kernel) rfl⟩
theorem zm_X6_know : zMv yX6_know cX6_know 2 none 0 := ⟨⟨zmem 53 (by decide +kernel) rfl, zmem 768 (by decide +kernel) rfl, ⟨by decide +kernel, by decide +kernel⟩, by decide +kernel, by decide⟩, zmem 767 (by decide +kernel) rfl, zmem 37 (by decide +kernel) rfl⟩
theorem zm_X6_pass : zMv yX6_pass cX6_pass 4 none 1 := ⟨⟨zmem 53 (by decide +kernel) rfl, zmem 772 (by decide +kernel) rfl, ⟨by decide +kernel, by decide +kernel⟩, by decide +kernel, by decide⟩, zmem 771 (by decide +kernel) rfl, zmem 38 (by decide +kernel) rfl⟩
theorem zm_X6_stays : zMv yX6_stays cX6_stays 1 (some .int) 0 := ⟨⟨zmem 53 (by decide +kernel) rfl, zmem 776 (by decide +kernel) rfl, ⟨by decide +kernel, by decide +kernel⟩, by decide +kernel, by decide⟩, zmem 774 (by decide +kernel) rfl, zmem 775 (by decide +kernel) rfl⟩
theorem zm_X6_takes : zMv yX6_takes cX6_takes 4 (some .int) 1 := ⟨⟨zmem 53 (by decide +kernel) rfl, zmem 780 (by decide +kernel) rfl, ⟨by decide +kernel, by decide +kernel⟩, by decide +kernel, by decide⟩, zmem 778 (by decide +kernel) rfl, zmem 779 (by decide +kernel) rfl⟩
theorem zm_X6_hides : zMv yX6_hides cX6_hides 3 (some .int) 2 := ⟨⟨zmem 53 (by decide +kernel) rfl, zmem 784 (by decide +kernel) rfl, ⟨by decide +kernel, by decide +kernel⟩, by decide +kernel, by decide⟩, zmem 782 (by decide +kernel) rfl, zmem 783 (by decide +kernel) rfl⟩
theorem zm_X6_shift : zMv yX6_shift cX6_shift 5 (some .int) 4 := ⟨⟨zmem 53 (by decide +kernel) rfl, zmem 788 (by decide +kernel) rfl, ⟨by decide +kernel, by decide +kernel⟩, by decide +kernel, by decide⟩, zmem 787 (by decide +kernel) rfl, zmem 39 (by decide +kernel) rfl⟩
theorem zm_X6_shows : zMv yX6_shows cX6_shows 3 (some .int) 2 := ⟨⟨zmem 53 (by decide +kernel) rfl, zmem 792 (by decide +kernel) rfl, ⟨by decide +kernel, by decide +kernel⟩, by decide +kernel, by decide⟩, zmem 790 (by decide +kernel) rfl, zmem 791 (by decide +kernel) rfl⟩
theorem zm_X6_pays : zMv yX6_pays cX6_pays 3 (some .int) 1 := ⟨⟨zmem 53 (by decide +kernel) rfl, zmem 796 (by decide +kernel) rfl, ⟨by decide +kernel, by decide +kernel⟩, by decide +kernel, by decide⟩, zmem 794 (by decide +kernel) rfl, zmem 795 (by decide +kernel) rfl⟩
theorem zm_X6_sells : zMv yX6_sells cX6_sells 3 (some .int) 2 := ⟨⟨zmem 53 (by decide +kernel) rfl, zmem 800 (by decide +kernel) rfl, ⟨by decide +kernel, by decide +kernel⟩, by decide +kernel, by decide⟩, zmem 798 (by decide +kernel) rfl, zmem 799 (by decide +kernel) rfl⟩
theorem zm_X6_undo : zMv yX6_undo cX6_undo 2 (some .int) 0 := ⟨⟨zmem 53 (by decide +kernel) rfl, zmem 804 (by decide +kernel) rfl, ⟨by decide +kernel, by decide +kernel⟩, by decide +kernel, by decide⟩, zmem 802 (by decide +kernel) rfl, zmem 803 (by decide +kernel) rfl⟩
theorem zm_X6_now : zMv yX6_now cX6_now 4 (some .int) 1 := ⟨⟨zmem 53 (by decide +kernel) rfl, zmem 808 (by decide +kernel) rfl, ⟨by decide +kernel, by decide +kernel⟩, by decide +kernel, by decide⟩, zmem 806 (by decide +kernel) rfl, zmem 807 (by decide +kernel) rfl⟩
theorem zm_X6_tour : zMv yX6_tour cX6_tour 3 (some .int) 2 := ⟨⟨zmem 53 (by decide +kernel) rfl, zmem 812 (by decide +kernel) rfl, ⟨by decide +kernel, by decide +kernel⟩, by decide +kernel, by decide⟩, zmem 810 (by decide +kernel) rfl, zmem 811 (by decide +kernel) rfl⟩
theorem zm_X6_findTour : zMv yX6_findTour cX6_findTour 6 none 1 := ⟨⟨zmem 53 (by decide +kernel) rfl, zmem 816 (by decide +kernel) rfl, ⟨by decide +kernel, by decide +kernel⟩, by decide +kernel, by decide⟩, zmem 815 (by decide +kernel) rfl, zmem 40 (by decide +kernel) rfl⟩
theorem zm_X6_takeRow : zMv yX6_takeRow cX6_takeRow 5 none 2 := ⟨⟨zmem 53 (by decide +kernel) rfl, zmem 820 (by decide +kernel) rfl, ⟨by decide +kernel, by decide +kernel⟩, by decide +kernel, by decide⟩, zmem 819 (by decide +kernel) rfl, zmem 41 (by decide +kernel) rfl⟩
theorem zm_X6_daysOf : zMv yX6_daysOf cX6_daysOf 11 (some .int) 2 := ⟨⟨zmem 53 (by decide +kernel) rfl, zmem 824 (by decide +kernel) rfl, ⟨by decide +kernel, by decide +kernel⟩, by decide +kernel, by decide⟩, zmem 823 (by decide +kernel) rfl, zmem 42 (by decide +kernel) rfl⟩
theorem zm_X6_from : zMv yX6_from cX6_from 5 (some .int) 1 := ⟨⟨zmem 53 (by decide +kernel) rfl, zmem 828 (by decide +kernel) rfl, ⟨by decide +kernel, by decide +kernel⟩, by decide +kernel, by decide⟩, zmem 826 (by decide +kernel) rfl, zmem 827 (by decide +kernel) rfl⟩
theorem zm_X6_manyOf : zMs yX6_manyOf cX6_manyOf 3 (some .int) 1 := ⟨⟨zmem 53 (by decide +kernel) rfl, zmem 831 (by decide +kernel) rfl, ⟨by decide +kernel, by decide +kernel⟩, by decide +kernel, by decide⟩, zmem 830 (by decide +kernel) rfl⟩
theorem zm_X6_spareOf : zMv yX6_spareOf cX6_spareOf 4 (some .int) 1 := ⟨⟨zmem 53 (by decide +kernel) rfl, zmem 835 (by decide +kernel) rfl, ⟨by decide +kernel, by decide +kernel⟩, by decide +kernel, by decide⟩, zmem 834 (by decide +kernel) rfl, zmem 43 (by decide +kernel) rfl⟩
theorem zm_X6_had : zMv yX6_had cX6_had 6 (some .int) 2 := ⟨⟨zmem 53 (by decide +kernel) rfl, zmem 839 (by decide +kernel) rfl, ⟨by decide +kernel, by decide +kernel⟩, by decide +kernel, by decide⟩, zmem 837 (by decide +kernel) rfl, zmem 838 (by decide +kernel) rfl⟩
theorem zm_X6_odds : zMv yX6_odds cX6_odds 9 (some .int) 3 := ⟨⟨zmem 53 (by decide +kernel) rfl, zmem 843 (by decide +kernel) rfl, ⟨by decide +kernel, by decide +kernel⟩, by decide +kernel, by decide⟩, zmem 841 (by decide +kernel) rfl, zmem 842 (by decide +kernel) rfl⟩
theorem zm_X6_part : zMs yX6_part cX6_part 6 (some .int) 3 := ⟨⟨zmem 53 (by decide +kernel) rfl, zmem 846 (by decide +kernel) rfl, ⟨by decide +kernel, by decide +kernel⟩, by decide +kernel, by decide⟩, zmem 845 (by decide +kernel) rfl⟩
theorem zm_X6_rests : zMv yX6_rests cX6_rests 9 (some .int) 3 := ⟨⟨zmem 53 (by decide +kernel) rfl, zmem 850 (by decide +kernel) rfl, ⟨by decide +kernel, by decide +kernel⟩, by decide +kernel, by decide⟩, zmem 848 (by decide +kernel) rfl, zmem 849 (by decide +kernel) rfl⟩
theorem zm_X6_villageHas : zMs yX6_villageHas cX6_villageHas 4 (some .int) 4 := ⟨⟨zmem 53 (by decide +kernel) rfl, zmem 853 (by decide +kernel) rfl, ⟨by decide +kernel, by decide +kernel⟩, by decide +kernel, by decide⟩, zmem 852 (by decide +kernel) rfl⟩
theorem zm_X6_buyerHas : zMs yX6_buyerHas cX6_buyerHas 5 (some .int) 4 := ⟨⟨zmem 53 (by decide +kernel) rfl, zmem 856 (by decide +kernel) rfl, ⟨by decide +kernel, by decide +kernel⟩, by decide +kernel, by decide⟩, zmem 855 (by decide +kernel) rfl⟩
theorem zm_X6_mixed : zMv yX6_mixed cX6_mixed 4 (some .int) 3 := ⟨⟨zmem 53 (by decide +kernel) rfl, zmem 860 (by decide +kernel) rfl, ⟨by decide +kernel, by decide +kernel⟩, by decide +kernel, by decide⟩, zmem 858 (by decide +kernel) rfl, zmem 859 (by decide +kernel) rfl⟩
theorem zm_X6_ring : zMv yX6_ring cX6_ring 6 (some .int) 1 := ⟨⟨zmem 53 (by decide +kernel) rfl, zmem 864 (by decide +kernel) rfl, ⟨by decide +kernel, by decide +kernel⟩, by decide +kernel, by decide⟩, zmem 862 (by decide +kernel) rfl, zmem 863 (by decide +kernel) rfl⟩
theorem zm_X6_leastOf : zMv yX6_leastOf cX6_leastOf 7 (some .int) 1 := ⟨⟨zmem 53 (by decide +kernel) rfl, zmem 868 (by decide +kernel) rfl, ⟨by decide +kernel, by decide +kernel⟩, by decide +kernel, by decide⟩, zmem 867 (by decide +kernel) rfl, zmem 44 (by decide +kernel) rfl⟩
theorem zm_X6_net : zMv yX6_net cX6_net 4 (some .int) 1 := ⟨⟨zmem 53 (by decide +kernel) rfl, zmem 872 (by decide +kernel) rfl, ⟨by decide +kernel, by decide +kernel⟩, by decide +kernel, by decide⟩, zmem 870 (by decide +kernel) rfl, zmem 871 (by decide +kernel) rfl⟩
theorem zm_X6_mark : zMv yX6_mark cX6_mark 5 (some .int) 2 := ⟨⟨zmem 53 (by decide +kernel) rfl, zmem 877 (by decide +kernel) rfl, ⟨by decide +kernel, by decide +kernel⟩, by decide +kernel, by decide⟩, zmem 875 (by decide +kernel) rfl, zmem 876 (by decide +kernel) rfl⟩
theorem zm_X6_keep : zMv yX6_keep cX6_keep 3 (some .int) 1 := ⟨⟨zmem 53 (by decide +kernel) rfl, zmem 886 (by decide +kernel) rfl, ⟨by decide +kernel, by decide +kernel⟩, by decide +kernel, by decide⟩, zmem 884 (by decide +kernel) rfl, zmem 885 (by decide +kernel) rfl⟩
theorem zm_X6_back : zMv yX6_back cX6_back 3 (some .int) 1 := ⟨⟨zmem 53 (by decide +kernel) rfl, zmem 890 (by decide +kernel) rfl, ⟨by decide +kernel, by decide +kernel⟩, by decide +kernel, by decide⟩, zmem 888 (by decide +kernel) rfl, zmem 889 (by decide +kernel) rfl⟩
theorem zm_X6_count : zMv yX6_count cX6_count 2 (some .int) 1 := ⟨⟨zmem 53 (by decide +kernel) rfl, zmem 894 (by decide +kernel) rfl, ⟨by decide +kernel, by decide +kernel⟩, by decide +kernel, by decide⟩, zmem 892 (by decide +kernel) rfl, zmem 893 (by decide +kernel) rfl⟩
theorem zm_X6_trace : zMv yX6_trace cX6_trace 1 (some .long) 0 := ⟨⟨zmem 53 (by decide +kernel) rfl, zmem 898 (by decide +kernel) rfl, ⟨by decide +kernel, by decide +kernel⟩, by decide +kernel, by decide⟩, zmem 896 (by decide +kernel) rfl, zmem 897 (by decide +kernel) rfl⟩
theorem zk_L_9 : Cond.methodLink RL 9 yX5_init ∈ zt := zmem 59 (by decide +kernel) rfl
theorem zk_X5_1 : Cond.methodLink RX5 1 objectInit ∈ zt := zmem 62 (by decide +kernel) rfl
theorem zk_X5_9 : Cond.methodLinkNest RX5 9 yX3_init RX5 ∈ lw_tbl := zmemN 67 (by decide +kernel)
theorem zk_X3_3 : Cond.methodLink RX3 3 objectInit ∈ zt := zmem 70 (by decide +kernel) rfl
theorem zk_X5_18 : Cond.methodLinkNest RX5 18 yX2_init RX5 ∈ lw_tbl := zmemN 97 (by decide +kernel)
theorem zk_X2_3 : Cond.methodLink RX2 3 objectInit ∈ zt := zmem 100 (by decide +kernel) rfl
theorem zk_X5_33 : Cond.methodLinkNest RX5 33 yX4_init RX5 ∈ lw_tbl := zmemN 112 (by decide +kernel)
theorem zk_X4_3 : Cond.methodLink RX4 3 objectInit ∈ zt := zmem 115 (by decide +kernel) rfl
theorem zk_X5_40 : Cond.methodLinkNest RX5 40 yX1_init RX5 ∈ lw_tbl := zmemN 142 (by decide +kernel)
theorem zk_X1_3 : Cond.methodLink RX1 3 objectInit ∈ zt := zmem 145 (by decide +kernel) rfl
theorem zk_X5_47 : Cond.methodLink RX5 47 yX0_init ∈ zt := zmem 156 (by decide +kernel) rfl
theorem zk_X0_3 : Cond.methodLink RX0 3 objectInit ∈ zt := zmem 159 (by decide +kernel) rfl
theorem zk_X0_30 : Cond.methodLink RX0 30 yX0_empty ∈ zt := zmem 160 (by decide +kernel) rfl
theorem zk_X0_52 : Cond.methodLink RX0 52 yJ7_fill_53178 ∈ zt := zmem 164 (by decide +kernel) rfl
theorem zk_X5_55 : Cond.methodLink RX5 55 yX2_begin ∈ zt := zmem 213 (by decide +kernel) rfl
theorem zk_X2_15 : Cond.methodLink RX2 15 yJ7_fill_53178 ∈ zt := zmem 217 (by decide +kernel) rfl
theorem zk_X2_30 : Cond.methodLink RX2 30 yX2_put ∈ zt := zmem 218 (by decide +kernel) rfl
theorem zk_X2_37 : Cond.methodLink RX2 37 yX0_hensOf ∈ zt := zmem 222 (by decide +kernel) rfl
theorem zk_X0_58 : Cond.methodLink RX0 58 yX0_knows ∈ zt := zmem 226 (by decide +kernel) rfl
theorem zk_L_13 : Cond.methodLink RL 13 yX5_type ∈ zt := zmem 261 (by decide +kernel) rfl
theorem zk_X5_59 : Cond.methodLink RX5 59 yX5_isWithin ∈ zt := zmem 265 (by decide +kernel) rfl
theorem zk_X5_63 : Cond.methodLink RX5 63 yX3_append ∈ zt := zmem 268 (by decide +kernel) rfl
theorem zk_L_18 : Cond.methodLink RL 18 yX5_clear ∈ zt := zmem 272 (by decide +kernel) rfl
theorem zk_L_23 : Cond.methodLink RL 23 yX5_land ∈ zt := zmem 276 (by decide +kernel) rfl
theorem zk_X5_71 : Cond.methodLink RX5 71 yX0_readAll ∈ zt := zmem 280 (by decide +kernel) rfl
theorem zk_X0_62 : Cond.methodLink RX0 62 yX3_toFirstToken ∈ zt := zmem 284 (by decide +kernel) rfl
theorem zk_X3_22 : Cond.methodLink RX3 22 yX3_toNextToken ∈ zt := zmem 288 (by decide +kernel) rfl
theorem zk_X3_25 : Cond.methodLink RX3 25 yX3_byteAt ∈ zt := zmem 292 (by decide +kernel) rfl
theorem zk_X3_38 : Cond.methodLinkNest RX3 38 yX5_isWithin RX5 ∈ lw_tbl := zmemN 296 (by decide +kernel)
theorem zk_X3_42 : Cond.methodLink RX3 42 yX3_readLetters ∈ zt := zmem 297 (by decide +kernel) rfl
theorem zk_X3_45 : Cond.methodLink RX3 45 yX3_readNumber ∈ zt := zmem 301 (by decide +kernel) rfl
theorem zk_X3_48 : Cond.methodLink RX3 48 Lib.Math.min.name ∈ zt ∧ Cond.static Lib.Math.min.name ∈ zt ∧ Cond.initialized "java/lang/Math" ∈ zt ∧ Cond.code Lib.Math.min.name Lib.Math.min.code 2 (some .int) ∈ zt := ⟨zmem 305 (by decide +kernel) rfl, zmem 306 (by decide +kernel) rfl, zmem 54 (by decide +kernel) rfl, zmem 307 (by decide +kernel) rfl⟩
theorem zk_X0_70 : Cond.methodLink RX0 70 yX0_readItem ∈ zt := zmem 308 (by decide +kernel) rfl
theorem zk_X0_83 : Cond.methodLink RX0 83 yX0_mayBegin ∈ zt := zmem 312 (by decide +kernel) rfl
theorem zk_X0_89 : Cond.methodLink RX0 89 yX0_isToldOnce ∈ zt := zmem 316 (by decide +kernel) rfl
theorem zk_X0_100 : Cond.methodLink RX0 100 yX0_bitOf ∈ zt := zmem 319 (by decide +kernel) rfl
theorem zk_X0_86 : Cond.methodLink RX0 86 yX3_toNextToken ∈ zt := zmem 322 (by decide +kernel) rfl
theorem zk_X0_92 : Cond.methodLink RX0 92 yX0_mayBeTold ∈ zt := zmem 323 (by decide +kernel) rfl
theorem zk_X0_104 : Cond.methodLink RX0 104 yX0_mayBeEnd ∈ zt := zmem 327 (by decide +kernel) rfl
theorem zk_X0_108 : Cond.methodLinkNest RX0 108 yX5_isWithin RX5 ∈ lw_tbl := zmemN 331 (by decide +kernel)
theorem zk_X0_96 : Cond.methodLink RX0 96 yX0_takeItem ∈ zt := zmem 332 (by decide +kernel) rfl
theorem zk_X0_111 : Cond.methodLink RX0 111 yX0_takeVillage ∈ zt := zmem 336 (by decide +kernel) rfl
theorem zk_X0_114 : Cond.methodLink RX0 114 yX0_takeRoad ∈ zt := zmem 340 (by decide +kernel) rfl
theorem zk_X0_120 : Cond.methodLink RX0 120 yX0_shortenWay ∈ zt := zmem 344 (by decide +kernel) rfl
theorem zk_X0_128 : Cond.methodLink RX0 128 Lib.Math.min.name ∈ zt ∧ Cond.static Lib.Math.min.name ∈ zt ∧ Cond.initialized "java/lang/Math" ∈ zt ∧ Cond.code Lib.Math.min.name Lib.Math.min.code 2 (some .int) ∈ zt := ⟨zmem 348 (by decide +kernel) rfl, zmem 306 (by decide +kernel) rfl, zmem 54 (by decide +kernel) rfl, zmem 307 (by decide +kernel) rfl⟩
theorem zk_X0_117 : Cond.methodLink RX0 117 yX0_takeDebt ∈ zt := zmem 349 (by decide +kernel) rfl
theorem zk_X0_124 : Cond.methodLink RX0 124 yX0_debt ∈ zt := zmem 353 (by decide +kernel) rfl
theorem zk_X0_77 : Cond.methodLink RX0 77 yX0_findShortestWays ∈ zt := zmem 357 (by decide +kernel) rfl
theorem zk_X0_133 : Cond.methodLink RX0 133 yX0_daysBetween ∈ zt := zmem 361 (by decide +kernel) rfl
theorem zk_L_27 : Cond.methodLink RL 27 yX5_village ∈ zt := zmem 365 (by decide +kernel) rfl
theorem zk_X5_78 : Cond.methodLink RX5 78 yX0_knows ∈ zt := zmem 369 (by decide +kernel) rfl
theorem zk_X5_81 : Cond.methodLink RX5 81 yX2_get ∈ zt := zmem 370 (by decide +kernel) rfl
theorem zk_X5_85 : Cond.methodLink RX5 85 yX0_needOf ∈ zt := zmem 374 (by decide +kernel) rfl
theorem zk_X5_88 : Cond.methodLink RX5 88 yX0_hasCharter ∈ zt := zmem 378 (by decide +kernel) rfl
theorem zk_X5_91 : Cond.methodLink RX5 91 yX5_spareOf ∈ zt := zmem 382 (by decide +kernel) rfl
theorem zk_X5_209 : Cond.methodLink RX5 209 Lib.Math.min.name ∈ zt ∧ Cond.static Lib.Math.min.name ∈ zt ∧ Cond.initialized "java/lang/Math" ∈ zt ∧ Cond.code Lib.Math.min.name Lib.Math.min.code 2 (some .int) ∈ zt := ⟨zmem 386 (by decide +kernel) rfl, zmem 306 (by decide +kernel) rfl, zmem 54 (by decide +kernel) rfl, zmem 307 (by decide +kernel) rfl⟩
theorem zk_X5_214 : Cond.methodLink RX5 214 Lib.Math.max.name ∈ zt ∧ Cond.static Lib.Math.max.name ∈ zt ∧ Cond.initialized "java/lang/Math" ∈ zt ∧ Cond.code Lib.Math.max.name Lib.Math.max.code 2 (some .int) ∈ zt := ⟨zmem 387 (by decide +kernel) rfl, zmem 388 (by decide +kernel) rfl, zmem 54 (by decide +kernel) rfl, zmem 389 (by decide +kernel) rfl⟩
theorem zk_L_32 : Cond.methodLink RL 32 yX5_far ∈ zt := zmem 390 (by decide +kernel) rfl
theorem zk_X5_94 : Cond.methodLink RX5 94 yX0_daysBetween ∈ zt := zmem 394 (by decide +kernel) rfl
theorem zk_L_36 : Cond.methodLink RL 36 yX5_owes ∈ zt := zmem 395 (by decide +kernel) rfl
theorem zk_X5_98 : Cond.methodLink RX5 98 yX0_debt ∈ zt := zmem 399 (by decide +kernel) rfl
theorem zk_L_40 : Cond.methodLink RL 40 yX5_goes ∈ zt := zmem 400 (by decide +kernel) rfl
theorem zk_X5_101 : Cond.methodLink RX5 101 yX2_remember ∈ zt := zmem 404 (by decide +kernel) rfl
theorem zk_X2_53 : Cond.methodLink RX2 53 arraycopyName ∈ zt ∧ Cond.native arraycopyName ∈ zt ∧ Cond.static arraycopyName ∈ zt ∧ Cond.initialized "java/lang/System" ∈ zt := ⟨zmem 408 (by decide +kernel) rfl, zmem 410 (by decide +kernel) rfl, zmem 409 (by decide +kernel) rfl, zmem 55 (by decide +kernel) rfl⟩
theorem zk_X2_44 : Cond.methodLink RX2 44 Lib.Math.min.name ∈ zt ∧ Cond.static Lib.Math.min.name ∈ zt ∧ Cond.initialized "java/lang/Math" ∈ zt ∧ Cond.code Lib.Math.min.name Lib.Math.min.code 2 (some .int) ∈ zt := ⟨zmem 411 (by decide +kernel) rfl, zmem 306 (by decide +kernel) rfl, zmem 54 (by decide +kernel) rfl, zmem 307 (by decide +kernel) rfl⟩
theorem zk_X5_107 : Cond.methodLink RX5 107 yX2_letDaysPass ∈ zt := zmem 412 (by decide +kernel) rfl
theorem zk_X2_41 : Cond.methodLink RX2 41 yX2_get ∈ zt := zmem 416 (by decide +kernel) rfl
theorem zk_X2_50 : Cond.methodLink RX2 50 yX2_add ∈ zt := zmem 417 (by decide +kernel) rfl
theorem zk_X5_111 : Cond.methodLink RX5 111 yX2_put ∈ zt := zmem 421 (by decide +kernel) rfl
theorem zk_L_44 : Cond.methodLink RL 44 yX5_stays ∈ zt := zmem 422 (by decide +kernel) rfl
theorem zk_L_48 : Cond.methodLink RL 48 yX5_takes ∈ zt := zmem 426 (by decide +kernel) rfl
theorem zk_X5_117 : Cond.methodLink RX5 117 yX0_writtenFor ∈ zt := zmem 430 (by decide +kernel) rfl
theorem zk_X5_120 : Cond.methodLink RX5 120 yX2_add ∈ zt := zmem 434 (by decide +kernel) rfl
theorem zk_L_52 : Cond.methodLink RL 52 yX5_hides ∈ zt := zmem 435 (by decide +kernel) rfl
theorem zk_X5_123 : Cond.methodLink RX5 123 yX5_moveHens ∈ zt := zmem 439 (by decide +kernel) rfl
theorem zk_L_56 : Cond.methodLink RL 56 yX5_shows ∈ zt := zmem 443 (by decide +kernel) rfl
theorem zk_L_60 : Cond.methodLink RL 60 yX5_pays ∈ zt := zmem 447 (by decide +kernel) rfl
theorem zk_L_64 : Cond.methodLink RL 64 yX5_sells ∈ zt := zmem 451 (by decide +kernel) rfl
theorem zk_L_68 : Cond.methodLink RL 68 yX5_undo ∈ zt := zmem 455 (by decide +kernel) rfl
theorem zk_X5_127 : Cond.methodLink RX5 127 yX2_goBack ∈ zt := zmem 459 (by decide +kernel) rfl
theorem zk_L_72 : Cond.methodLink RL 72 yX5_now ∈ zt := zmem 463 (by decide +kernel) rfl
theorem zk_X5_134 : Cond.methodLink RX5 134 yX5_allTallies ∈ zt := zmem 467 (by decide +kernel) rfl
theorem zk_X5_138 : Cond.methodLink RX5 138 yX5_allSpare ∈ zt := zmem 471 (by decide +kernel) rfl
theorem zk_L_76 : Cond.methodLink RL 76 yX5_tour ∈ zt := zmem 475 (by decide +kernel) rfl
theorem zk_X5_141 : Cond.methodLink RX5 141 yX5_fillSpares ∈ zt := zmem 479 (by decide +kernel) rfl
theorem zk_X5_144 : Cond.methodLink RX5 144 yX5_fewestWith ∈ zt := zmem 483 (by decide +kernel) rfl
theorem zk_X5_147 : Cond.methodLink RX5 147 yJ6_bitCount_0f7a4 ∈ zt := zmem 487 (by decide +kernel) rfl
theorem zcn_J6_265 : Cond.constant RJ6 265 (1431655765) ∈ zt := zmem 490 (by decide +kernel) rfl
theorem zcn_J6_266 : Cond.constant RJ6 266 (858993459) ∈ zt := zmem 491 (by decide +kernel) rfl
theorem zcn_J6_267 : Cond.constant RJ6 267 (252645135) ∈ zt := zmem 492 (by decide +kernel) rfl
theorem zk_X5_165 : Cond.methodLink RX5 165 yX5_spareTogether ∈ zt := zmem 493 (by decide +kernel) rfl
theorem zk_X5_152 : Cond.methodLink RX5 152 yX4_find ∈ zt := zmem 497 (by decide +kernel) rfl
theorem zk_X4_25 : Cond.methodLink RX4 25 Lib.Math.max.name ∈ zt ∧ Cond.static Lib.Math.max.name ∈ zt ∧ Cond.initialized "java/lang/Math" ∈ zt ∧ Cond.code Lib.Math.max.name Lib.Math.max.code 2 (some .int) ∈ zt := ⟨zmem 501 (by decide +kernel) rfl, zmem 388 (by decide +kernel) rfl, zmem 54 (by decide +kernel) rfl, zmem 389 (by decide +kernel) rfl⟩
theorem zk_X4_45 : Cond.methodLink RX4 45 yX4_goOn ∈ zt := zmem 502 (by decide +kernel) rfl
theorem zk_X4_52 : Cond.methodLink RX4 52 arraycopyName ∈ zt ∧ Cond.native arraycopyName ∈ zt ∧ Cond.static arraycopyName ∈ zt ∧ Cond.initialized "java/lang/System" ∈ zt := ⟨zmem 506 (by decide +kernel) rfl, zmem 410 (by decide +kernel) rfl, zmem 409 (by decide +kernel) rfl, zmem 55 (by decide +kernel) rfl⟩
theorem zk_X4_58 : Cond.methodLink RX4 58 yX0_daysBetween ∈ zt := zmem 507 (by decide +kernel) rfl
theorem zk_X4_61 : Cond.methodLink RX4 61 yX4_isWorthGoing ∈ zt := zmem 508 (by decide +kernel) rfl
theorem zk_X5_162 : Cond.methodLink RX5 162 yX4_at ∈ zt := zmem 512 (by decide +kernel) rfl
theorem zk_L_80 : Cond.methodLink RL 80 yX5_from ∈ zt := zmem 516 (by decide +kernel) rfl
theorem zk_L_84 : Cond.methodLink RL 84 yX5_had ∈ zt := zmem 520 (by decide +kernel) rfl
theorem zk_L_88 : Cond.methodLink RL 88 yX5_odds ∈ zt := zmem 524 (by decide +kernel) rfl
theorem zk_X5_168 : Cond.methodLink RX5 168 yX5_chanceOf ∈ zt := zmem 528 (by decide +kernel) rfl
theorem zk_X5_171 : Cond.methodLink RX5 171 yX5_partOfFraction ∈ zt := zmem 532 (by decide +kernel) rfl
theorem zk_X5_217 : Cond.methodLink RX5 217 yX5_greatestDivisor ∈ zt := zmem 535 (by decide +kernel) rfl
theorem zk_L_93 : Cond.methodLink RL 93 yX5_rests ∈ zt := zmem 538 (by decide +kernel) rfl
theorem zk_X5_175 : Cond.methodLink RX5 175 yX5_villageHas ∈ zt := zmem 542 (by decide +kernel) rfl
theorem zk_X5_179 : Cond.methodLink RX5 179 yX5_buyerHas ∈ zt := zmem 545 (by decide +kernel) rfl
theorem zk_L_97 : Cond.methodLink RL 97 yX5_mixed ∈ zt := zmem 548 (by decide +kernel) rfl
theorem zk_L_101 : Cond.methodLink RL 101 yX5_ring ∈ zt := zmem 552 (by decide +kernel) rfl
theorem zk_X5_182 : Cond.methodLink RX5 182 yX1_find ∈ zt := zmem 556 (by decide +kernel) rfl
theorem zk_X1_24 : Cond.methodLink RX1 24 yX1_goOn ∈ zt := zmem 560 (by decide +kernel) rfl
theorem zk_X1_32 : Cond.methodLink RX1 32 yX0_debt ∈ zt := zmem 564 (by decide +kernel) rfl
theorem zk_X5_185 : Cond.methodLink RX5 185 yX1_leastDebt ∈ zt := zmem 565 (by decide +kernel) rfl
theorem zk_X1_28 : Cond.methodLink RX1 28 yX1_at ∈ zt := zmem 569 (by decide +kernel) rfl
theorem zk_X1_36 : Cond.methodLink RX1 36 Lib.Math.min.name ∈ zt ∧ Cond.static Lib.Math.min.name ∈ zt ∧ Cond.initialized "java/lang/Math" ∈ zt ∧ Cond.code Lib.Math.min.name Lib.Math.min.code 2 (some .int) ∈ zt := ⟨zmem 573 (by decide +kernel) rfl, zmem 306 (by decide +kernel) rfl, zmem 54 (by decide +kernel) rfl, zmem 307 (by decide +kernel) rfl⟩
theorem zk_X5_190 : Cond.methodLink RX5 190 yX1_at ∈ zt := zmem 574 (by decide +kernel) rfl
theorem zk_L_105 : Cond.methodLink RL 105 yX5_net ∈ zt := zmem 575 (by decide +kernel) rfl
theorem zcn_X5_191 : Cond.constant RX5 191 (-1000000) ∈ zt := zmem 579 (by decide +kernel) rfl
theorem zk_L_109 : Cond.methodLink RL 109 yX5_mark ∈ zt := zmem 580 (by decide +kernel) rfl
theorem zk_X5_192 : Cond.methodLink RX5 192 yX5_askKind ∈ zt := zmem 584 (by decide +kernel) rfl
theorem zk_L_113 : Cond.methodLink RL 113 yX5_keep ∈ zt := zmem 592 (by decide +kernel) rfl
theorem zk_X5_195 : Cond.methodLink RX5 195 yX2_copyFrom ∈ zt := zmem 596 (by decide +kernel) rfl
theorem zk_L_117 : Cond.methodLink RL 117 yX5_back ∈ zt := zmem 600 (by decide +kernel) rfl
theorem zk_L_121 : Cond.methodLink RL 121 yX5_count ∈ zt := zmem 604 (by decide +kernel) rfl
theorem zk_L_125 : Cond.methodLink RL 125 yX5_trace ∈ zt := zmem 608 (by decide +kernel) rfl
theorem zk_L_12 : Cond.methodLink RL 12 yX6_init ∈ zt := zmem 614 (by decide +kernel) rfl
theorem zk_X6_1 : Cond.methodLink RX6 1 objectInit ∈ zt := zmem 617 (by decide +kernel) rfl
theorem zk_X6_48 : Cond.methodLink RX6 48 yX6_plain ∈ zt := zmem 618 (by decide +kernel) rfl
theorem zk_X6_51 : Cond.methodLink RX6 51 yX6_takeDraft ∈ zt := zmem 622 (by decide +kernel) rfl
theorem zk_L_17 : Cond.methodLink RL 17 yX6_type ∈ zt := zmem 698 (by decide +kernel) rfl
theorem zk_X6_54 : Cond.methodLink RX6 54 yX6_in ∈ zt := zmem 702 (by decide +kernel) rfl
theorem zk_L_22 : Cond.methodLink RL 22 yX6_clear ∈ zt := zmem 705 (by decide +kernel) rfl
theorem zk_L_26 : Cond.methodLink RL 26 yX6_land ∈ zt := zmem 709 (by decide +kernel) rfl
theorem zk_X6_81 : Cond.methodLink RX6 81 yX6_step ∈ zt := zmem 713 (by decide +kernel) rfl
theorem zk_X6_65 : Cond.methodLink RX6 65 yX6_here ∈ zt := zmem 717 (by decide +kernel) rfl
theorem zk_X6_99 : Cond.methodLink RX6 99 yX6_mayBe ∈ zt := zmem 721 (by decide +kernel) rfl
theorem zk_X6_84 : Cond.methodLink RX6 84 yX6_due ∈ zt := zmem 725 (by decide +kernel) rfl
theorem zk_X6_103 : Cond.methodLink RX6 103 yX6_readRow ∈ zt := zmem 729 (by decide +kernel) rfl
theorem zk_X6_91 : Cond.methodLink RX6 91 yX6_number ∈ zt := zmem 733 (by decide +kernel) rfl
theorem zk_X6_95 : Cond.methodLink RX6 95 yX6_another ∈ zt := zmem 737 (by decide +kernel) rfl
theorem zk_L_31 : Cond.methodLink RL 31 yX6_village ∈ zt := zmem 741 (by decide +kernel) rfl
theorem zk_X6_107 : Cond.methodLink RX6 107 yX6_isVillage ∈ zt := zmem 745 (by decide +kernel) rfl
theorem zk_X6_110 : Cond.methodLink RX6 110 yX6_spare ∈ zt := zmem 749 (by decide +kernel) rfl
theorem zk_L_35 : Cond.methodLink RL 35 yX6_far ∈ zt := zmem 753 (by decide +kernel) rfl
theorem zk_L_39 : Cond.methodLink RL 39 yX6_owes ∈ zt := zmem 757 (by decide +kernel) rfl
theorem zk_L_43 : Cond.methodLink RL 43 yX6_goes ∈ zt := zmem 761 (by decide +kernel) rfl
theorem zk_X6_113 : Cond.methodLink RX6 113 yX6_know ∈ zt := zmem 765 (by decide +kernel) rfl
theorem zk_X6_116 : Cond.methodLink RX6 116 yX6_pass ∈ zt := zmem 769 (by decide +kernel) rfl
theorem zk_L_47 : Cond.methodLink RL 47 yX6_stays ∈ zt := zmem 773 (by decide +kernel) rfl
theorem zk_L_51 : Cond.methodLink RL 51 yX6_takes ∈ zt := zmem 777 (by decide +kernel) rfl
theorem zk_L_55 : Cond.methodLink RL 55 yX6_hides ∈ zt := zmem 781 (by decide +kernel) rfl
theorem zk_X6_119 : Cond.methodLink RX6 119 yX6_shift ∈ zt := zmem 785 (by decide +kernel) rfl
theorem zk_L_59 : Cond.methodLink RL 59 yX6_shows ∈ zt := zmem 789 (by decide +kernel) rfl
theorem zk_L_63 : Cond.methodLink RL 63 yX6_pays ∈ zt := zmem 793 (by decide +kernel) rfl
theorem zk_L_67 : Cond.methodLink RL 67 yX6_sells ∈ zt := zmem 797 (by decide +kernel) rfl
theorem zk_L_71 : Cond.methodLink RL 71 yX6_undo ∈ zt := zmem 801 (by decide +kernel) rfl
theorem zk_L_75 : Cond.methodLink RL 75 yX6_now ∈ zt := zmem 805 (by decide +kernel) rfl
theorem zk_L_79 : Cond.methodLink RL 79 yX6_tour ∈ zt := zmem 809 (by decide +kernel) rfl
theorem zk_X6_139 : Cond.methodLink RX6 139 yX6_findTour ∈ zt := zmem 813 (by decide +kernel) rfl
theorem zk_X6_126 : Cond.methodLink RX6 126 yX6_takeRow ∈ zt := zmem 817 (by decide +kernel) rfl
theorem zk_X6_130 : Cond.methodLink RX6 130 yX6_daysOf ∈ zt := zmem 821 (by decide +kernel) rfl
theorem zk_L_83 : Cond.methodLink RL 83 yX6_from ∈ zt := zmem 825 (by decide +kernel) rfl
theorem zk_X6_142 : Cond.methodLink RX6 142 yX6_manyOf ∈ zt := zmem 829 (by decide +kernel) rfl
theorem zk_X6_145 : Cond.methodLink RX6 145 yX6_spareOf ∈ zt := zmem 832 (by decide +kernel) rfl
theorem zk_L_87 : Cond.methodLink RL 87 yX6_had ∈ zt := zmem 836 (by decide +kernel) rfl
theorem zk_L_92 : Cond.methodLink RL 92 yX6_odds ∈ zt := zmem 840 (by decide +kernel) rfl
theorem zk_X6_148 : Cond.methodLink RX6 148 yX6_part ∈ zt := zmem 844 (by decide +kernel) rfl
theorem zk_L_96 : Cond.methodLink RL 96 yX6_rests ∈ zt := zmem 847 (by decide +kernel) rfl
theorem zk_X6_152 : Cond.methodLink RX6 152 yX6_villageHas ∈ zt := zmem 851 (by decide +kernel) rfl
theorem zk_X6_155 : Cond.methodLink RX6 155 yX6_buyerHas ∈ zt := zmem 854 (by decide +kernel) rfl
theorem zk_L_100 : Cond.methodLink RL 100 yX6_mixed ∈ zt := zmem 857 (by decide +kernel) rfl
theorem zk_L_104 : Cond.methodLink RL 104 yX6_ring ∈ zt := zmem 861 (by decide +kernel) rfl
theorem zk_X6_158 : Cond.methodLink RX6 158 yX6_leastOf ∈ zt := zmem 865 (by decide +kernel) rfl
theorem zk_L_108 : Cond.methodLink RL 108 yX6_net ∈ zt := zmem 869 (by decide +kernel) rfl
theorem zcn_X6_161 : Cond.constant RX6 161 (-1000000) ∈ zt := zmem 873 (by decide +kernel) rfl
theorem zk_L_112 : Cond.methodLink RL 112 yX6_mark ∈ zt := zmem 874 (by decide +kernel) rfl
theorem zcn_X6_166 : Cond.constantLong RX6 166 (11) ∈ zt := zmem 878 (by decide +kernel) rfl
theorem zcn_X6_168 : Cond.constantLong RX6 168 (101) ∈ zt := zmem 879 (by decide +kernel) rfl
theorem zcn_X6_170 : Cond.constantLong RX6 170 (1011) ∈ zt := zmem 880 (by decide +kernel) rfl
theorem zcn_X6_172 : Cond.constantLong RX6 172 (10101) ∈ zt := zmem 881 (by decide +kernel) rfl
theorem zcn_X6_174 : Cond.constantLong RX6 174 (100001) ∈ zt := zmem 882 (by decide +kernel) rfl
theorem zk_L_116 : Cond.methodLink RL 116 yX6_keep ∈ zt := zmem 883 (by decide +kernel) rfl
theorem zk_L_120 : Cond.methodLink RL 120 yX6_back ∈ zt := zmem 887 (by decide +kernel) rfl
theorem zk_L_124 : Cond.methodLink RL 124 yX6_count ∈ zt := zmem 891 (by decide +kernel) rfl
theorem zk_L_129 : Cond.methodLink RL 129 yX6_trace ∈ zt := zmem 895 (by decide +kernel) rfl
end
section
/-! the state: numbers by cell and place, longs, which lands are told and drafted -/
abbrev zS : Type := (Nat → Nat → Int32) × (Nat → Int64) × Bool × Bool
def lr (b : Bool) : Nat := cond b 24 17
def zr (S : zS) (k : Nat) (g : Nat → Int32) : zS := (fun c => cond (Nat.beq c k) g (S.1 c), S.2)
def zu (S : zS) (k j : Nat) (x : Int32) : zS := (fun c => cond (Nat.beq c k) (fun i => cond (Nat.beq i j) x (S.1 c i)) (S.1 c), S.2)
def zT (S : zS) (k : Nat) (x : Int64) : zS := (S.1, fun c => cond (Nat.beq c k) x (S.2.1 c), S.2.2)
def zbt (S : zS) (b : Bool) : zS := (S.1, S.2.1, b, S.2.2.2)
def zbd (S : zS) (b : Bool) : zS := (S.1, S.2.1, S.2.2.1, b)
theorem zbind {α β : Type} {o : Option α} {g : α → Option β} {v : β} (h : o.bind g = some v) : ∃ x, o = some x ∧ g x = some v := by
  cases o with
  | none => cases h
  | some x => exact ⟨x, rfl, h⟩
def zb2 {α β γ : Type} (o : Option (α × β)) (g : α → β → Option γ) : Option γ := o.bind (fun p => g p.1 p.2)
theorem zbind2 {α β γ : Type} {o : Option (α × β)} {g : α → β → Option γ} {v : γ} (h : zb2 o g = some v) : ∃ x y, o = some (x, y) ∧ g x y = some v := by
  cases o with
  | none => cases h
  | some x => exact ⟨x.1, x.2, rfl, h⟩
theorem zifb {α : Type} {p : Prop} [Decidable p] {x : Option α} {v : α} (h : (if p then x else none) = some v) : p ∧ x = some v := by
  by_cases hp : p
  · rw [if_pos hp] at h; exact ⟨hp, h⟩
  · rw [if_neg hp] at h; cases h
theorem zifn {α : Type} {p : Prop} [Decidable p] {x : Option α} {v : α} (h : (if p then none else x) = some v) : ¬ p ∧ x = some v := by
  by_cases hp : p
  · rw [if_pos hp] at h; cases h
  · rw [if_neg hp] at h; exact ⟨hp, h⟩
def zN : Nat := 100000
theorem zret1 {e v : Int32} {h : List va_E} (hf : some e = some v) : zq (some (.int v)) h (some (.int e)) h := by
  rw [Option.some.inj hf]; exact ⟨rfl, rfl⟩
theorem zretl {e v : Int64} {h : List va_E} (hf : some e = some v) : zq (some (.long v)) h (some (.long e)) h := by
  rw [Option.some.inj hf]; exact ⟨rfl, rfl⟩
theorem zret0 (W : zS → List va_E) {S S' : zS} (hf : some S = some S') : zq none (W S') none (W S) := by
  rw [Option.some.inj hf]; exact ⟨rfl, rfl⟩
theorem zret2 (W : zS → List va_E) {e v : Int32} {S S' : zS} (hf : some (e, S) = some (v, S')) : zq (some (.int v)) (W S') (some (.int e)) (W S) := by
  have h1 := Option.some.inj hf
  have h2 : e = v := congrArg Prod.fst h1
  have h3 : S = S' := congrArg Prod.snd h1
  rw [h2, h3]; exact ⟨rfl, rfl⟩
abbrev zbl (v : Int32) : Prop := v = 0 ∨ v = 1
theorem zbl_n {v : Int32} (h : zbl v) : narrow .boolean (.int v) = .int v := by
  rcases h with h | h <;> rw [h] <;> rfl
def wl (S : zS) : List va_E := [.inr (0, [.ref 1, .ref 2, .ref 3, .ref 4, .ref 5, .ref 6, .int (S.1 0 6), .int (S.1 0 7), .int (S.1 0 8), .int (S.1 0 9), .int (S.1 0 10), .int (S.1 0 11)]), .inl (0, 6, .inl (S.1 1)), .inl (0, 6, .inl (S.1 2)), .inl (0, 6, .inl (S.1 3)), .inl (0, 36, .inl (S.1 4)), .inl (0, 36, .inl (S.1 5)), .inl (0, 3, .inl (S.1 6))]
def wk (S : zS) : List va_E := [.inr (5, [.ref 1, .ref 3, .ref 5, .ref 10, .ref 11, .ref 15, .ref (lr S.2.2.1), .ref (lr S.2.2.2), .int (S.1 0 8), .long (S.2.1 0)]),
  .inr (3, [.ref 2, .int (S.1 1 1), .int (S.1 1 2), .int (S.1 1 3), .int (S.1 1 4), .int (S.1 1 5)]),
  .inl (0, 180, .inl (S.1 2)),
  .inr (2, [.ref 4, .int (S.1 3 1)]),
  .inl (0, 308, .inl (S.1 4)),
  .inl (3, 2, .inr (.inr (.inr (.inr (fun j => some (cond (Nat.beq j 0) 6 8)))))),
  .inr (2, [.ref 7, .int (S.1 6 1)]),
  .inl (0, 308, .inl (S.1 7)),
  .inr (2, [.ref 9, .int (S.1 8 1)]),
  .inl (0, 308, .inl (S.1 9)),
  .inl (0, 6, .inl (S.1 10)),
  .inr (4, [.ref 12, .ref 13, .ref 14, .int (S.1 11 3), .int (S.1 11 4), .int (S.1 11 5), .int (S.1 11 6)]),
  .inl (0, 6, .inl (S.1 12)),
  .inl (0, 6, .inl (S.1 13)),
  .inl (0, 6, .inl (S.1 14)),
  .inr (1, [.ref 16, .int (S.1 15 1)]),
  .inl (0, 6, .inl (S.1 16)),
  .inr (0, [.ref 18, .ref 19, .ref 20, .ref 21, .ref 22, .ref 23, .int (S.1 17 6), .int (S.1 17 7), .int (S.1 17 8), .int (S.1 17 9), .int (S.1 17 10), .int (S.1 17 11)]),
  .inl (0, 6, .inl (S.1 18)),
  .inl (0, 6, .inl (S.1 19)),
  .inl (0, 6, .inl (S.1 20)),
  .inl (0, 36, .inl (S.1 21)),
  .inl (0, 36, .inl (S.1 22)),
  .inl (0, 3, .inl (S.1 23)),
  .inr (0, [.ref 25, .ref 26, .ref 27, .ref 28, .ref 29, .ref 30, .int (S.1 24 6), .int (S.1 24 7), .int (S.1 24 8), .int (S.1 24 9), .int (S.1 24 10), .int (S.1 24 11)]),
  .inl (0, 6, .inl (S.1 25)),
  .inl (0, 6, .inl (S.1 26)),
  .inl (0, 6, .inl (S.1 27)),
  .inl (0, 36, .inl (S.1 28)),
  .inl (0, 36, .inl (S.1 29)),
  .inl (0, 3, .inl (S.1 30))]
def wd (S : zS) : List va_E := [.inr (5, [.ref 1, .ref 3, .ref 5, .ref 10, .ref 11, .ref 15, .ref (lr S.2.2.1), .ref (lr S.2.2.2), .int (S.1 0 8), .long (S.2.1 0)]),
  .inr (3, [.ref 2, .int (S.1 1 1), .int (S.1 1 2), .int (S.1 1 3), .int (S.1 1 4), .int (S.1 1 5)]),
  .inl (0, 180, .inl (S.1 2)),
  .inr (2, [.ref 4, .int (S.1 3 1)]),
  .inl (0, 308, .inl (S.1 4)),
  .inl (3, 2, .inr (.inr (.inr (.inr (fun j => some (cond (Nat.beq j 0) 6 8)))))),
  .inr (2, [.ref 7, .int (S.1 6 1)]),
  .inl (0, 308, .inl (S.1 7)),
  .inr (2, [.ref 9, .int (S.1 8 1)]),
  .inl (0, 308, .inl (S.1 9)),
  .inl (0, 6, .inl (S.1 10)),
  .inr (4, [.ref 12, .ref 13, .ref 14, .int (S.1 11 3), .int (S.1 11 4), .int (S.1 11 5), .int (S.1 11 6)]),
  .inl (0, 6, .inl (S.1 12)),
  .inl (0, 6, .inl (S.1 13)),
  .inl (0, 6, .inl (S.1 14)),
  .inr (1, [.ref 16, .int (S.1 15 1)]),
  .inl (0, 6, .inl (S.1 16)),
  .inr (0, [.ref 18, .ref 19, .ref 20, .ref 21, .ref 22, .ref 23, .int (S.1 17 6), .int (S.1 17 7), .int (S.1 17 8), .int (S.1 17 9), .int (S.1 17 10), .int (S.1 17 11)]),
  .inl (0, 6, .inl (S.1 18)),
  .inl (0, 6, .inl (S.1 19)),
  .inl (0, 6, .inl (S.1 20)),
  .inl (0, 36, .inl (S.1 21)),
  .inl (0, 36, .inl (S.1 22)),
  .inl (0, 3, .inl (S.1 23)),
  .inr (0, [.ref 25, .ref 26, .ref 27, .ref 28, .ref 29, .ref 30, .int (S.1 24 6), .int (S.1 24 7), .int (S.1 24 8), .int (S.1 24 9), .int (S.1 24 10), .int (S.1 24 11)]),
  .inl (0, 6, .inl (S.1 25)),
  .inl (0, 6, .inl (S.1 26)),
  .inl (0, 6, .inl (S.1 27)),
  .inl (0, 36, .inl (S.1 28)),
  .inl (0, 36, .inl (S.1 29)),
  .inl (0, 3, .inl (S.1 30)),
  .inr (6, [.long (S.2.1 1), .ref 32, .int (S.1 31 2), .ref 33, .ref 34, .ref 35, .ref 36, .ref 37, .ref 38, .ref 39, .ref 40, .int (S.1 31 11), .int (S.1 31 12), .int (S.1 31 13), .int (S.1 31 14), .int (S.1 31 15), .int (S.1 31 16), .ref 41, .ref 42, .ref 43, .int (S.1 31 20), .int (S.1 31 21), .int (S.1 31 22)]),
  .inl (1, 180, .inl (S.1 32)),
  .inl (0, 2, .inl (S.1 33)),
  .inl (0, 6, .inl (S.1 34)),
  .inl (0, 12, .inl (S.1 35)),
  .inl (0, 12, .inl (S.1 36)),
  .inl (0, 2, .inl (S.1 37)),
  .inl (0, 72, .inl (S.1 38)),
  .inl (0, 72, .inl (S.1 39)),
  .inl (0, 6, .inl (S.1 40)),
  .inl (0, 927, .inl (S.1 41)),
  .inl (2, 2, .inl (S.1 42)),
  .inl (0, 6, .inl (S.1 43))]

theorem wo_0 (S : zS) : (wd S)[0]? = some (.inr (5, [.ref 1, .ref 3, .ref 5, .ref 10, .ref 11, .ref 15, .ref (lr S.2.2.1), .ref (lr S.2.2.2), .int (S.1 0 8), .long (S.2.1 0)])) := rfl
theorem wp_0_6 (S : zS) (b : Bool) : (wd S).set 0 (.inr (5, ([.ref 1, .ref 3, .ref 5, .ref 10, .ref 11, .ref 15, .ref (lr S.2.2.1), .ref (lr S.2.2.2), .int (S.1 0 8), .long (S.2.1 0)] : List Value).set 6 (.ref (lr b)))) = wd (zbt S b) := rfl
theorem wp_0_7 (S : zS) (b : Bool) : (wd S).set 0 (.inr (5, ([.ref 1, .ref 3, .ref 5, .ref 10, .ref 11, .ref 15, .ref (lr S.2.2.1), .ref (lr S.2.2.2), .int (S.1 0 8), .long (S.2.1 0)] : List Value).set 7 (.ref (lr b)))) = wd (zbd S b) := rfl
theorem wp_0_8 (S : zS) (x : Int32) : (wd S).set 0 (.inr (5, ([.ref 1, .ref 3, .ref 5, .ref 10, .ref 11, .ref 15, .ref (lr S.2.2.1), .ref (lr S.2.2.2), .int (S.1 0 8), .long (S.2.1 0)] : List Value).set 8 (.int x))) = wd (zu S 0 8 x) := rfl
theorem wp_0_9 (S : zS) (x : Int64) : (wd S).set 0 (.inr (5, ([.ref 1, .ref 3, .ref 5, .ref 10, .ref 11, .ref 15, .ref (lr S.2.2.1), .ref (lr S.2.2.2), .int (S.1 0 8), .long (S.2.1 0)] : List Value).set 9 (.long x))) = wd (zT S 0 x) := rfl
theorem wo_1 (S : zS) : (wd S)[1]? = some (.inr (3, [.ref 2, .int (S.1 1 1), .int (S.1 1 2), .int (S.1 1 3), .int (S.1 1 4), .int (S.1 1 5)])) := rfl
theorem wp_1_1 (S : zS) (x : Int32) : (wd S).set 1 (.inr (3, ([.ref 2, .int (S.1 1 1), .int (S.1 1 2), .int (S.1 1 3), .int (S.1 1 4), .int (S.1 1 5)] : List Value).set 1 (.int x))) = wd (zu S 1 1 x) := rfl
theorem wp_1_2 (S : zS) (x : Int32) : (wd S).set 1 (.inr (3, ([.ref 2, .int (S.1 1 1), .int (S.1 1 2), .int (S.1 1 3), .int (S.1 1 4), .int (S.1 1 5)] : List Value).set 2 (.int x))) = wd (zu S 1 2 x) := rfl
theorem wp_1_3 (S : zS) (x : Int32) : (wd S).set 1 (.inr (3, ([.ref 2, .int (S.1 1 1), .int (S.1 1 2), .int (S.1 1 3), .int (S.1 1 4), .int (S.1 1 5)] : List Value).set 3 (.int x))) = wd (zu S 1 3 x) := rfl
theorem wp_1_4 (S : zS) (x : Int32) : (wd S).set 1 (.inr (3, ([.ref 2, .int (S.1 1 1), .int (S.1 1 2), .int (S.1 1 3), .int (S.1 1 4), .int (S.1 1 5)] : List Value).set 4 (.int x))) = wd (zu S 1 4 x) := rfl
theorem wp_1_5 (S : zS) (x : Int32) : (wd S).set 1 (.inr (3, ([.ref 2, .int (S.1 1 1), .int (S.1 1 2), .int (S.1 1 3), .int (S.1 1 4), .int (S.1 1 5)] : List Value).set 5 (.int x))) = wd (zu S 1 5 x) := rfl
theorem wo_2 (S : zS) : (wd S)[2]? = some (.inl (0, 180, .inl (S.1 2))) := rfl
theorem ws_2 (S : zS) (g : Nat → Int32) : (wd S).set 2 (.inl (0, 180, .inl g)) = wd (zr S 2 g) := rfl
theorem wo_3 (S : zS) : (wd S)[3]? = some (.inr (2, [.ref 4, .int (S.1 3 1)])) := rfl
theorem wp_3_1 (S : zS) (x : Int32) : (wd S).set 3 (.inr (2, ([.ref 4, .int (S.1 3 1)] : List Value).set 1 (.int x))) = wd (zu S 3 1 x) := rfl
theorem wo_4 (S : zS) : (wd S)[4]? = some (.inl (0, 308, .inl (S.1 4))) := rfl
theorem ws_4 (S : zS) (g : Nat → Int32) : (wd S).set 4 (.inl (0, 308, .inl g)) = wd (zr S 4 g) := rfl
theorem wo_5 (S : zS) : (wd S)[5]? = some (.inl (3, 2, .inr (.inr (.inr (.inr (fun j => some (cond (Nat.beq j 0) 6 8))))))) := rfl
theorem wo_6 (S : zS) : (wd S)[6]? = some (.inr (2, [.ref 7, .int (S.1 6 1)])) := rfl
theorem wp_6_1 (S : zS) (x : Int32) : (wd S).set 6 (.inr (2, ([.ref 7, .int (S.1 6 1)] : List Value).set 1 (.int x))) = wd (zu S 6 1 x) := rfl
theorem wo_7 (S : zS) : (wd S)[7]? = some (.inl (0, 308, .inl (S.1 7))) := rfl
theorem ws_7 (S : zS) (g : Nat → Int32) : (wd S).set 7 (.inl (0, 308, .inl g)) = wd (zr S 7 g) := rfl
theorem wo_8 (S : zS) : (wd S)[8]? = some (.inr (2, [.ref 9, .int (S.1 8 1)])) := rfl
theorem wp_8_1 (S : zS) (x : Int32) : (wd S).set 8 (.inr (2, ([.ref 9, .int (S.1 8 1)] : List Value).set 1 (.int x))) = wd (zu S 8 1 x) := rfl
theorem wo_9 (S : zS) : (wd S)[9]? = some (.inl (0, 308, .inl (S.1 9))) := rfl
theorem ws_9 (S : zS) (g : Nat → Int32) : (wd S).set 9 (.inl (0, 308, .inl g)) = wd (zr S 9 g) := rfl
theorem wo_10 (S : zS) : (wd S)[10]? = some (.inl (0, 6, .inl (S.1 10))) := rfl
theorem ws_10 (S : zS) (g : Nat → Int32) : (wd S).set 10 (.inl (0, 6, .inl g)) = wd (zr S 10 g) := rfl
theorem wo_11 (S : zS) : (wd S)[11]? = some (.inr (4, [.ref 12, .ref 13, .ref 14, .int (S.1 11 3), .int (S.1 11 4), .int (S.1 11 5), .int (S.1 11 6)])) := rfl
theorem wp_11_3 (S : zS) (x : Int32) : (wd S).set 11 (.inr (4, ([.ref 12, .ref 13, .ref 14, .int (S.1 11 3), .int (S.1 11 4), .int (S.1 11 5), .int (S.1 11 6)] : List Value).set 3 (.int x))) = wd (zu S 11 3 x) := rfl
theorem wp_11_4 (S : zS) (x : Int32) : (wd S).set 11 (.inr (4, ([.ref 12, .ref 13, .ref 14, .int (S.1 11 3), .int (S.1 11 4), .int (S.1 11 5), .int (S.1 11 6)] : List Value).set 4 (.int x))) = wd (zu S 11 4 x) := rfl
theorem wp_11_5 (S : zS) (x : Int32) : (wd S).set 11 (.inr (4, ([.ref 12, .ref 13, .ref 14, .int (S.1 11 3), .int (S.1 11 4), .int (S.1 11 5), .int (S.1 11 6)] : List Value).set 5 (.int x))) = wd (zu S 11 5 x) := rfl
theorem wp_11_6 (S : zS) (x : Int32) : (wd S).set 11 (.inr (4, ([.ref 12, .ref 13, .ref 14, .int (S.1 11 3), .int (S.1 11 4), .int (S.1 11 5), .int (S.1 11 6)] : List Value).set 6 (.int x))) = wd (zu S 11 6 x) := rfl
theorem wo_12 (S : zS) : (wd S)[12]? = some (.inl (0, 6, .inl (S.1 12))) := rfl
theorem ws_12 (S : zS) (g : Nat → Int32) : (wd S).set 12 (.inl (0, 6, .inl g)) = wd (zr S 12 g) := rfl
theorem wo_13 (S : zS) : (wd S)[13]? = some (.inl (0, 6, .inl (S.1 13))) := rfl
theorem ws_13 (S : zS) (g : Nat → Int32) : (wd S).set 13 (.inl (0, 6, .inl g)) = wd (zr S 13 g) := rfl
theorem wo_14 (S : zS) : (wd S)[14]? = some (.inl (0, 6, .inl (S.1 14))) := rfl
theorem ws_14 (S : zS) (g : Nat → Int32) : (wd S).set 14 (.inl (0, 6, .inl g)) = wd (zr S 14 g) := rfl
theorem wo_15 (S : zS) : (wd S)[15]? = some (.inr (1, [.ref 16, .int (S.1 15 1)])) := rfl
theorem wp_15_1 (S : zS) (x : Int32) : (wd S).set 15 (.inr (1, ([.ref 16, .int (S.1 15 1)] : List Value).set 1 (.int x))) = wd (zu S 15 1 x) := rfl
theorem wo_16 (S : zS) : (wd S)[16]? = some (.inl (0, 6, .inl (S.1 16))) := rfl
theorem ws_16 (S : zS) (g : Nat → Int32) : (wd S).set 16 (.inl (0, 6, .inl g)) = wd (zr S 16 g) := rfl
theorem wo_17 (S : zS) : (wd S)[17]? = some (.inr (0, [.ref 18, .ref 19, .ref 20, .ref 21, .ref 22, .ref 23, .int (S.1 17 6), .int (S.1 17 7), .int (S.1 17 8), .int (S.1 17 9), .int (S.1 17 10), .int (S.1 17 11)])) := rfl
theorem wo_18 (S : zS) : (wd S)[18]? = some (.inl (0, 6, .inl (S.1 18))) := rfl
theorem ws_18 (S : zS) (g : Nat → Int32) : (wd S).set 18 (.inl (0, 6, .inl g)) = wd (zr S 18 g) := rfl
theorem wo_19 (S : zS) : (wd S)[19]? = some (.inl (0, 6, .inl (S.1 19))) := rfl
theorem ws_19 (S : zS) (g : Nat → Int32) : (wd S).set 19 (.inl (0, 6, .inl g)) = wd (zr S 19 g) := rfl
theorem wo_20 (S : zS) : (wd S)[20]? = some (.inl (0, 6, .inl (S.1 20))) := rfl
theorem ws_20 (S : zS) (g : Nat → Int32) : (wd S).set 20 (.inl (0, 6, .inl g)) = wd (zr S 20 g) := rfl
theorem wo_21 (S : zS) : (wd S)[21]? = some (.inl (0, 36, .inl (S.1 21))) := rfl
theorem ws_21 (S : zS) (g : Nat → Int32) : (wd S).set 21 (.inl (0, 36, .inl g)) = wd (zr S 21 g) := rfl
theorem wo_22 (S : zS) : (wd S)[22]? = some (.inl (0, 36, .inl (S.1 22))) := rfl
theorem ws_22 (S : zS) (g : Nat → Int32) : (wd S).set 22 (.inl (0, 36, .inl g)) = wd (zr S 22 g) := rfl
theorem wo_23 (S : zS) : (wd S)[23]? = some (.inl (0, 3, .inl (S.1 23))) := rfl
theorem ws_23 (S : zS) (g : Nat → Int32) : (wd S).set 23 (.inl (0, 3, .inl g)) = wd (zr S 23 g) := rfl
theorem wo_24 (S : zS) : (wd S)[24]? = some (.inr (0, [.ref 25, .ref 26, .ref 27, .ref 28, .ref 29, .ref 30, .int (S.1 24 6), .int (S.1 24 7), .int (S.1 24 8), .int (S.1 24 9), .int (S.1 24 10), .int (S.1 24 11)])) := rfl
theorem wo_25 (S : zS) : (wd S)[25]? = some (.inl (0, 6, .inl (S.1 25))) := rfl
theorem ws_25 (S : zS) (g : Nat → Int32) : (wd S).set 25 (.inl (0, 6, .inl g)) = wd (zr S 25 g) := rfl
theorem wo_26 (S : zS) : (wd S)[26]? = some (.inl (0, 6, .inl (S.1 26))) := rfl
theorem ws_26 (S : zS) (g : Nat → Int32) : (wd S).set 26 (.inl (0, 6, .inl g)) = wd (zr S 26 g) := rfl
theorem wo_27 (S : zS) : (wd S)[27]? = some (.inl (0, 6, .inl (S.1 27))) := rfl
theorem ws_27 (S : zS) (g : Nat → Int32) : (wd S).set 27 (.inl (0, 6, .inl g)) = wd (zr S 27 g) := rfl
theorem wo_28 (S : zS) : (wd S)[28]? = some (.inl (0, 36, .inl (S.1 28))) := rfl
theorem ws_28 (S : zS) (g : Nat → Int32) : (wd S).set 28 (.inl (0, 36, .inl g)) = wd (zr S 28 g) := rfl
theorem wo_29 (S : zS) : (wd S)[29]? = some (.inl (0, 36, .inl (S.1 29))) := rfl
theorem ws_29 (S : zS) (g : Nat → Int32) : (wd S).set 29 (.inl (0, 36, .inl g)) = wd (zr S 29 g) := rfl
theorem wo_30 (S : zS) : (wd S)[30]? = some (.inl (0, 3, .inl (S.1 30))) := rfl
theorem ws_30 (S : zS) (g : Nat → Int32) : (wd S).set 30 (.inl (0, 3, .inl g)) = wd (zr S 30 g) := rfl
theorem wo_31 (S : zS) : (wd S)[31]? = some (.inr (6, [.long (S.2.1 1), .ref 32, .int (S.1 31 2), .ref 33, .ref 34, .ref 35, .ref 36, .ref 37, .ref 38, .ref 39, .ref 40, .int (S.1 31 11), .int (S.1 31 12), .int (S.1 31 13), .int (S.1 31 14), .int (S.1 31 15), .int (S.1 31 16), .ref 41, .ref 42, .ref 43, .int (S.1 31 20), .int (S.1 31 21), .int (S.1 31 22)])) := rfl
theorem wp_31_0 (S : zS) (x : Int64) : (wd S).set 31 (.inr (6, ([.long (S.2.1 1), .ref 32, .int (S.1 31 2), .ref 33, .ref 34, .ref 35, .ref 36, .ref 37, .ref 38, .ref 39, .ref 40, .int (S.1 31 11), .int (S.1 31 12), .int (S.1 31 13), .int (S.1 31 14), .int (S.1 31 15), .int (S.1 31 16), .ref 41, .ref 42, .ref 43, .int (S.1 31 20), .int (S.1 31 21), .int (S.1 31 22)] : List Value).set 0 (.long x))) = wd (zT S 1 x) := rfl
theorem wp_31_2 (S : zS) (x : Int32) : (wd S).set 31 (.inr (6, ([.long (S.2.1 1), .ref 32, .int (S.1 31 2), .ref 33, .ref 34, .ref 35, .ref 36, .ref 37, .ref 38, .ref 39, .ref 40, .int (S.1 31 11), .int (S.1 31 12), .int (S.1 31 13), .int (S.1 31 14), .int (S.1 31 15), .int (S.1 31 16), .ref 41, .ref 42, .ref 43, .int (S.1 31 20), .int (S.1 31 21), .int (S.1 31 22)] : List Value).set 2 (.int x))) = wd (zu S 31 2 x) := rfl
theorem wp_31_11 (S : zS) (x : Int32) : (wd S).set 31 (.inr (6, ([.long (S.2.1 1), .ref 32, .int (S.1 31 2), .ref 33, .ref 34, .ref 35, .ref 36, .ref 37, .ref 38, .ref 39, .ref 40, .int (S.1 31 11), .int (S.1 31 12), .int (S.1 31 13), .int (S.1 31 14), .int (S.1 31 15), .int (S.1 31 16), .ref 41, .ref 42, .ref 43, .int (S.1 31 20), .int (S.1 31 21), .int (S.1 31 22)] : List Value).set 11 (.int x))) = wd (zu S 31 11 x) := rfl
theorem wp_31_12 (S : zS) (x : Int32) : (wd S).set 31 (.inr (6, ([.long (S.2.1 1), .ref 32, .int (S.1 31 2), .ref 33, .ref 34, .ref 35, .ref 36, .ref 37, .ref 38, .ref 39, .ref 40, .int (S.1 31 11), .int (S.1 31 12), .int (S.1 31 13), .int (S.1 31 14), .int (S.1 31 15), .int (S.1 31 16), .ref 41, .ref 42, .ref 43, .int (S.1 31 20), .int (S.1 31 21), .int (S.1 31 22)] : List Value).set 12 (.int x))) = wd (zu S 31 12 x) := rfl
theorem wp_31_13 (S : zS) (x : Int32) : (wd S).set 31 (.inr (6, ([.long (S.2.1 1), .ref 32, .int (S.1 31 2), .ref 33, .ref 34, .ref 35, .ref 36, .ref 37, .ref 38, .ref 39, .ref 40, .int (S.1 31 11), .int (S.1 31 12), .int (S.1 31 13), .int (S.1 31 14), .int (S.1 31 15), .int (S.1 31 16), .ref 41, .ref 42, .ref 43, .int (S.1 31 20), .int (S.1 31 21), .int (S.1 31 22)] : List Value).set 13 (.int x))) = wd (zu S 31 13 x) := rfl
theorem wp_31_14 (S : zS) (x : Int32) : (wd S).set 31 (.inr (6, ([.long (S.2.1 1), .ref 32, .int (S.1 31 2), .ref 33, .ref 34, .ref 35, .ref 36, .ref 37, .ref 38, .ref 39, .ref 40, .int (S.1 31 11), .int (S.1 31 12), .int (S.1 31 13), .int (S.1 31 14), .int (S.1 31 15), .int (S.1 31 16), .ref 41, .ref 42, .ref 43, .int (S.1 31 20), .int (S.1 31 21), .int (S.1 31 22)] : List Value).set 14 (.int x))) = wd (zu S 31 14 x) := rfl
theorem wp_31_15 (S : zS) (x : Int32) : (wd S).set 31 (.inr (6, ([.long (S.2.1 1), .ref 32, .int (S.1 31 2), .ref 33, .ref 34, .ref 35, .ref 36, .ref 37, .ref 38, .ref 39, .ref 40, .int (S.1 31 11), .int (S.1 31 12), .int (S.1 31 13), .int (S.1 31 14), .int (S.1 31 15), .int (S.1 31 16), .ref 41, .ref 42, .ref 43, .int (S.1 31 20), .int (S.1 31 21), .int (S.1 31 22)] : List Value).set 15 (.int x))) = wd (zu S 31 15 x) := rfl
theorem wp_31_16 (S : zS) (x : Int32) : (wd S).set 31 (.inr (6, ([.long (S.2.1 1), .ref 32, .int (S.1 31 2), .ref 33, .ref 34, .ref 35, .ref 36, .ref 37, .ref 38, .ref 39, .ref 40, .int (S.1 31 11), .int (S.1 31 12), .int (S.1 31 13), .int (S.1 31 14), .int (S.1 31 15), .int (S.1 31 16), .ref 41, .ref 42, .ref 43, .int (S.1 31 20), .int (S.1 31 21), .int (S.1 31 22)] : List Value).set 16 (.int x))) = wd (zu S 31 16 x) := rfl
theorem wp_31_20 (S : zS) (x : Int32) : (wd S).set 31 (.inr (6, ([.long (S.2.1 1), .ref 32, .int (S.1 31 2), .ref 33, .ref 34, .ref 35, .ref 36, .ref 37, .ref 38, .ref 39, .ref 40, .int (S.1 31 11), .int (S.1 31 12), .int (S.1 31 13), .int (S.1 31 14), .int (S.1 31 15), .int (S.1 31 16), .ref 41, .ref 42, .ref 43, .int (S.1 31 20), .int (S.1 31 21), .int (S.1 31 22)] : List Value).set 20 (.int x))) = wd (zu S 31 20 x) := rfl
theorem wp_31_21 (S : zS) (x : Int32) : (wd S).set 31 (.inr (6, ([.long (S.2.1 1), .ref 32, .int (S.1 31 2), .ref 33, .ref 34, .ref 35, .ref 36, .ref 37, .ref 38, .ref 39, .ref 40, .int (S.1 31 11), .int (S.1 31 12), .int (S.1 31 13), .int (S.1 31 14), .int (S.1 31 15), .int (S.1 31 16), .ref 41, .ref 42, .ref 43, .int (S.1 31 20), .int (S.1 31 21), .int (S.1 31 22)] : List Value).set 21 (.int x))) = wd (zu S 31 21 x) := rfl
theorem wp_31_22 (S : zS) (x : Int32) : (wd S).set 31 (.inr (6, ([.long (S.2.1 1), .ref 32, .int (S.1 31 2), .ref 33, .ref 34, .ref 35, .ref 36, .ref 37, .ref 38, .ref 39, .ref 40, .int (S.1 31 11), .int (S.1 31 12), .int (S.1 31 13), .int (S.1 31 14), .int (S.1 31 15), .int (S.1 31 16), .ref 41, .ref 42, .ref 43, .int (S.1 31 20), .int (S.1 31 21), .int (S.1 31 22)] : List Value).set 22 (.int x))) = wd (zu S 31 22 x) := rfl
theorem wo_32 (S : zS) : (wd S)[32]? = some (.inl (1, 180, .inl (S.1 32))) := rfl
theorem ws_32 (S : zS) (g : Nat → Int32) : (wd S).set 32 (.inl (1, 180, .inl g)) = wd (zr S 32 g) := rfl
theorem wo_33 (S : zS) : (wd S)[33]? = some (.inl (0, 2, .inl (S.1 33))) := rfl
theorem ws_33 (S : zS) (g : Nat → Int32) : (wd S).set 33 (.inl (0, 2, .inl g)) = wd (zr S 33 g) := rfl
theorem wo_34 (S : zS) : (wd S)[34]? = some (.inl (0, 6, .inl (S.1 34))) := rfl
theorem ws_34 (S : zS) (g : Nat → Int32) : (wd S).set 34 (.inl (0, 6, .inl g)) = wd (zr S 34 g) := rfl
theorem wo_35 (S : zS) : (wd S)[35]? = some (.inl (0, 12, .inl (S.1 35))) := rfl
theorem ws_35 (S : zS) (g : Nat → Int32) : (wd S).set 35 (.inl (0, 12, .inl g)) = wd (zr S 35 g) := rfl
theorem wo_36 (S : zS) : (wd S)[36]? = some (.inl (0, 12, .inl (S.1 36))) := rfl
theorem ws_36 (S : zS) (g : Nat → Int32) : (wd S).set 36 (.inl (0, 12, .inl g)) = wd (zr S 36 g) := rfl
theorem wo_37 (S : zS) : (wd S)[37]? = some (.inl (0, 2, .inl (S.1 37))) := rfl
theorem ws_37 (S : zS) (g : Nat → Int32) : (wd S).set 37 (.inl (0, 2, .inl g)) = wd (zr S 37 g) := rfl
theorem wo_38 (S : zS) : (wd S)[38]? = some (.inl (0, 72, .inl (S.1 38))) := rfl
theorem ws_38 (S : zS) (g : Nat → Int32) : (wd S).set 38 (.inl (0, 72, .inl g)) = wd (zr S 38 g) := rfl
theorem wo_39 (S : zS) : (wd S)[39]? = some (.inl (0, 72, .inl (S.1 39))) := rfl
theorem ws_39 (S : zS) (g : Nat → Int32) : (wd S).set 39 (.inl (0, 72, .inl g)) = wd (zr S 39 g) := rfl
theorem wo_40 (S : zS) : (wd S)[40]? = some (.inl (0, 6, .inl (S.1 40))) := rfl
theorem ws_40 (S : zS) (g : Nat → Int32) : (wd S).set 40 (.inl (0, 6, .inl g)) = wd (zr S 40 g) := rfl
theorem wo_41 (S : zS) : (wd S)[41]? = some (.inl (0, 927, .inl (S.1 41))) := rfl
theorem ws_41 (S : zS) (g : Nat → Int32) : (wd S).set 41 (.inl (0, 927, .inl g)) = wd (zr S 41 g) := rfl
theorem wo_42 (S : zS) : (wd S)[42]? = some (.inl (2, 2, .inl (S.1 42))) := rfl
theorem ws_42 (S : zS) (g : Nat → Int32) : (wd S).set 42 (.inl (2, 2, .inl g)) = wd (zr S 42 g) := rfl
theorem wo_43 (S : zS) : (wd S)[43]? = some (.inl (0, 6, .inl (S.1 43))) := rfl
theorem ws_43 (S : zS) (g : Nat → Int32) : (wd S).set 43 (.inl (0, 6, .inl g)) = wd (zr S 43 g) := rfl
/-- a Land in a world -/
def zlf (S : zS) (r : Nat) : List Value := [.ref (r + 1), .ref (r + 2), .ref (r + 3), .ref (r + 4), .ref (r + 5), .ref (r + 6), .int (S.1 r 6), .int (S.1 r 7), .int (S.1 r 8), .int (S.1 r 9), .int (S.1 r 10), .int (S.1 r 11)]
def zll (k : Nat) : Nat := [0, 6, 6, 6, 36, 36, 3].getD k 0
def zLand (W : zS → List va_E) (r : Nat) : Prop :=
  (∀ S, (W S)[r]? = some (.inr (0, zlf S r))) ∧ (∀ S k x, 6 ≤ k → k < 12 → (W S).set r (.inr (0, (zlf S r).set k (.int x))) = W (zu S r k x)) ∧
  (∀ S k, 1 ≤ k → k ≤ 6 → (W S)[r + k]? = some (.inl (0, zll k, .inl (S.1 (r + k))))) ∧ (∀ S k g, 1 ≤ k → k ≤ 6 → (W S).set (r + k) (.inl (0, zll k, .inl g)) = W (zr S (r + k) g))
theorem zLand.a1 {W : zS → List va_E} {r : Nat} (h : zLand W r) (S : zS) : (W S)[r + 1]? = some (.inl (0, 6, .inl (S.1 (r + 1)))) := h.2.2.1 S 1 (by decide) (by decide)
theorem zLand.s1 {W : zS → List va_E} {r : Nat} (h : zLand W r) (S : zS) (g : Nat → Int32) : (W S).set (r + 1) (.inl (0, 6, .inl g)) = W (zr S (r + 1) g) := h.2.2.2 S 1 g (by decide) (by decide)
theorem zLand.a2 {W : zS → List va_E} {r : Nat} (h : zLand W r) (S : zS) : (W S)[r + 2]? = some (.inl (0, 6, .inl (S.1 (r + 2)))) := h.2.2.1 S 2 (by decide) (by decide)
theorem zLand.s2 {W : zS → List va_E} {r : Nat} (h : zLand W r) (S : zS) (g : Nat → Int32) : (W S).set (r + 2) (.inl (0, 6, .inl g)) = W (zr S (r + 2) g) := h.2.2.2 S 2 g (by decide) (by decide)
theorem zLand.a3 {W : zS → List va_E} {r : Nat} (h : zLand W r) (S : zS) : (W S)[r + 3]? = some (.inl (0, 6, .inl (S.1 (r + 3)))) := h.2.2.1 S 3 (by decide) (by decide)
theorem zLand.s3 {W : zS → List va_E} {r : Nat} (h : zLand W r) (S : zS) (g : Nat → Int32) : (W S).set (r + 3) (.inl (0, 6, .inl g)) = W (zr S (r + 3) g) := h.2.2.2 S 3 g (by decide) (by decide)
theorem zLand.a4 {W : zS → List va_E} {r : Nat} (h : zLand W r) (S : zS) : (W S)[r + 4]? = some (.inl (0, 36, .inl (S.1 (r + 4)))) := h.2.2.1 S 4 (by decide) (by decide)
theorem zLand.s4 {W : zS → List va_E} {r : Nat} (h : zLand W r) (S : zS) (g : Nat → Int32) : (W S).set (r + 4) (.inl (0, 36, .inl g)) = W (zr S (r + 4) g) := h.2.2.2 S 4 g (by decide) (by decide)
theorem zLand.a5 {W : zS → List va_E} {r : Nat} (h : zLand W r) (S : zS) : (W S)[r + 5]? = some (.inl (0, 36, .inl (S.1 (r + 5)))) := h.2.2.1 S 5 (by decide) (by decide)
theorem zLand.s5 {W : zS → List va_E} {r : Nat} (h : zLand W r) (S : zS) (g : Nat → Int32) : (W S).set (r + 5) (.inl (0, 36, .inl g)) = W (zr S (r + 5) g) := h.2.2.2 S 5 g (by decide) (by decide)
theorem zLand.a6 {W : zS → List va_E} {r : Nat} (h : zLand W r) (S : zS) : (W S)[r + 6]? = some (.inl (0, 3, .inl (S.1 (r + 6)))) := h.2.2.1 S 6 (by decide) (by decide)
theorem zLand.s6 {W : zS → List va_E} {r : Nat} (h : zLand W r) (S : zS) (g : Nat → Int32) : (W S).set (r + 6) (.inl (0, 3, .inl g)) = W (zr S (r + 6) g) := h.2.2.2 S 6 g (by decide) (by decide)
theorem zLand.p6 {W : zS → List va_E} {r : Nat} (h : zLand W r) (S : zS) (x : Int32) : (W S).set r (.inr (0, (zlf S r).set 6 (.int x))) = W (zu S r 6 x) := h.2.1 S 6 x (by decide) (by decide)
theorem zLand.p7 {W : zS → List va_E} {r : Nat} (h : zLand W r) (S : zS) (x : Int32) : (W S).set r (.inr (0, (zlf S r).set 7 (.int x))) = W (zu S r 7 x) := h.2.1 S 7 x (by decide) (by decide)
theorem zLand.p8 {W : zS → List va_E} {r : Nat} (h : zLand W r) (S : zS) (x : Int32) : (W S).set r (.inr (0, (zlf S r).set 8 (.int x))) = W (zu S r 8 x) := h.2.1 S 8 x (by decide) (by decide)
theorem zLand.p9 {W : zS → List va_E} {r : Nat} (h : zLand W r) (S : zS) (x : Int32) : (W S).set r (.inr (0, (zlf S r).set 9 (.int x))) = W (zu S r 9 x) := h.2.1 S 9 x (by decide) (by decide)
theorem zLand.p10 {W : zS → List va_E} {r : Nat} (h : zLand W r) (S : zS) (x : Int32) : (W S).set r (.inr (0, (zlf S r).set 10 (.int x))) = W (zu S r 10 x) := h.2.1 S 10 x (by decide) (by decide)
theorem zLand.p11 {W : zS → List va_E} {r : Nat} (h : zLand W r) (S : zS) (x : Int32) : (W S).set r (.inr (0, (zlf S r).set 11 (.int x))) = W (zu S r 11 x) := h.2.1 S 11 x (by decide) (by decide)
theorem zLand_of {W : zS → List va_E} {r : Nat} (h0 : ∀ S, (W S)[r]? = some (.inr (0, zlf S r))) (p6 : ∀ S x, (W S).set r (.inr (0, (zlf S r).set 6 (.int x))) = W (zu S r 6 x)) (p7 : ∀ S x, (W S).set r (.inr (0, (zlf S r).set 7 (.int x))) = W (zu S r 7 x)) (p8 : ∀ S x, (W S).set r (.inr (0, (zlf S r).set 8 (.int x))) = W (zu S r 8 x)) (p9 : ∀ S x, (W S).set r (.inr (0, (zlf S r).set 9 (.int x))) = W (zu S r 9 x)) (p10 : ∀ S x, (W S).set r (.inr (0, (zlf S r).set 10 (.int x))) = W (zu S r 10 x)) (p11 : ∀ S x, (W S).set r (.inr (0, (zlf S r).set 11 (.int x))) = W (zu S r 11 x))
    (a1 : ∀ S, (W S)[r + 1]? = some (.inl (0, 6, .inl (S.1 (r + 1))))) (a2 : ∀ S, (W S)[r + 2]? = some (.inl (0, 6, .inl (S.1 (r + 2))))) (a3 : ∀ S, (W S)[r + 3]? = some (.inl (0, 6, .inl (S.1 (r + 3))))) (a4 : ∀ S, (W S)[r + 4]? = some (.inl (0, 36, .inl (S.1 (r + 4))))) (a5 : ∀ S, (W S)[r + 5]? = some (.inl (0, 36, .inl (S.1 (r + 5))))) (a6 : ∀ S, (W S)[r + 6]? = some (.inl (0, 3, .inl (S.1 (r + 6)))))
    (s1 : ∀ S g, (W S).set (r + 1) (.inl (0, 6, .inl g)) = W (zr S (r + 1) g)) (s2 : ∀ S g, (W S).set (r + 2) (.inl (0, 6, .inl g)) = W (zr S (r + 2) g)) (s3 : ∀ S g, (W S).set (r + 3) (.inl (0, 6, .inl g)) = W (zr S (r + 3) g)) (s4 : ∀ S g, (W S).set (r + 4) (.inl (0, 36, .inl g)) = W (zr S (r + 4) g)) (s5 : ∀ S g, (W S).set (r + 5) (.inl (0, 36, .inl g)) = W (zr S (r + 5) g)) (s6 : ∀ S g, (W S).set (r + 6) (.inl (0, 3, .inl g)) = W (zr S (r + 6) g)) : zLand W r := by
  refine ⟨h0, ?_, ?_, ?_⟩
  · intro S k x h1 h2
    rcases (show k = 6 ∨ k = 7 ∨ k = 8 ∨ k = 9 ∨ k = 10 ∨ k = 11 by omega) with rfl | rfl | rfl | rfl | rfl | rfl
    · exact p6 S x
    · exact p7 S x
    · exact p8 S x
    · exact p9 S x
    · exact p10 S x
    · exact p11 S x
  · intro S k h1 h2
    rcases (show k = 1 ∨ k = 2 ∨ k = 3 ∨ k = 4 ∨ k = 5 ∨ k = 6 by omega) with rfl | rfl | rfl | rfl | rfl | rfl
    · exact a1 S
    · exact a2 S
    · exact a3 S
    · exact a4 S
    · exact a5 S
    · exact a6 S
  · intro S k g h1 h2
    rcases (show k = 1 ∨ k = 2 ∨ k = 3 ∨ k = 4 ∨ k = 5 ∨ k = 6 by omega) with rfl | rfl | rfl | rfl | rfl | rfl
    · exact s1 S g
    · exact s2 S g
    · exact s3 S g
    · exact s4 S g
    · exact s5 S g
    · exact s6 S g
theorem zLwl : zLand wl 0 := zLand_of (fun _ => rfl) (fun _ _ => rfl) (fun _ _ => rfl) (fun _ _ => rfl) (fun _ _ => rfl) (fun _ _ => rfl) (fun _ _ => rfl) (fun _ => rfl) (fun _ => rfl) (fun _ => rfl) (fun _ => rfl) (fun _ => rfl) (fun _ => rfl) (fun _ _ => rfl) (fun _ _ => rfl) (fun _ _ => rfl) (fun _ _ => rfl) (fun _ _ => rfl) (fun _ _ => rfl)
theorem zLwk : zLand wk 17 := zLand_of (fun _ => rfl) (fun _ _ => rfl) (fun _ _ => rfl) (fun _ _ => rfl) (fun _ _ => rfl) (fun _ _ => rfl) (fun _ _ => rfl) (fun _ => rfl) (fun _ => rfl) (fun _ => rfl) (fun _ => rfl) (fun _ => rfl) (fun _ => rfl) (fun _ _ => rfl) (fun _ _ => rfl) (fun _ _ => rfl) (fun _ _ => rfl) (fun _ _ => rfl) (fun _ _ => rfl)
theorem zLwd17 : zLand wd 17 := zLand_of (fun _ => rfl) (fun _ _ => rfl) (fun _ _ => rfl) (fun _ _ => rfl) (fun _ _ => rfl) (fun _ _ => rfl) (fun _ _ => rfl) (fun _ => rfl) (fun _ => rfl) (fun _ => rfl) (fun _ => rfl) (fun _ => rfl) (fun _ => rfl) (fun _ _ => rfl) (fun _ _ => rfl) (fun _ _ => rfl) (fun _ _ => rfl) (fun _ _ => rfl) (fun _ _ => rfl)
theorem zLwd24 : zLand wd 24 := zLand_of (fun _ => rfl) (fun _ _ => rfl) (fun _ _ => rfl) (fun _ _ => rfl) (fun _ _ => rfl) (fun _ _ => rfl) (fun _ _ => rfl) (fun _ => rfl) (fun _ => rfl) (fun _ => rfl) (fun _ => rfl) (fun _ => rfl) (fun _ => rfl) (fun _ _ => rfl) (fun _ _ => rfl) (fun _ _ => rfl) (fun _ _ => rfl) (fun _ _ => rfl) (fun _ _ => rfl)
theorem zLwd (b : Bool) : zLand wd (lr b) := by
  cases b
  · exact zLwd17
  · exact zLwd24
/-- a Story in a world -/
def zStory (W : zS → List va_E) (r : Nat) : Prop :=
  (∀ S : zS, (W S)[r]? = some (.inr (2, [.ref (r + 1), .int (S.1 r 1)]))) ∧ (∀ (S : zS) (x : Int32), (W S).set r (.inr (2, ([.ref (r + 1), .int (S.1 r 1)] : List Value).set 1 (.int x))) = W (zu S r 1 x)) ∧
  (∀ S : zS, (W S)[r + 1]? = some (.inl (0, 308, .inl (S.1 (r + 1))))) ∧ (∀ (S : zS) (g : Nat → Int32), (W S).set (r + 1) (.inl (0, 308, .inl g)) = W (zr S (r + 1) g))
theorem zTwk_3 : zStory wk 3 := ⟨fun _ => rfl, fun _ _ => rfl, fun _ => rfl, fun _ _ => rfl⟩
theorem zTwd_3 : zStory wd 3 := ⟨fun _ => rfl, fun _ _ => rfl, fun _ => rfl, fun _ _ => rfl⟩
theorem zTwd_6 : zStory wd 6 := ⟨fun _ => rfl, fun _ _ => rfl, fun _ => rfl, fun _ _ => rfl⟩
theorem zTwd_8 : zStory wd 8 := ⟨fun _ => rfl, fun _ _ => rfl, fun _ => rfl, fun _ _ => rfl⟩
section ZV
variable {sc : Option (Nat × (Nat → Int32))} {d : Nat} {y : MethodName} {cc : ByteArray} {nL : Nat} {ret : Option FieldType} {pc : Nat} {L : List (Nat × Value)} {st : List Value} {h : List va_E} {Q : Option Value → List va_E → Prop}
theorem zv_ialdK {r n k : Nat} {f : Nat → Int32} {i : Int32} (hk : i.toNatClampNeg = k) (hi : zin i n) (ha : h[r]? = some (.inl (0, n, .inl f))) (hd : decode cc pc = .ok (.iaload, 1)) (kk : zV sc d y cc nL ret (pc + 1) L (.int (f k) :: st) h Q) : zV sc d y cc nL ret pc L (.int i :: .ref r :: st) h Q := by
  subst hk
  exact zv_iald hi ha hd kk
theorem zv_iastK {r n k : Nat} {f : Nat → Int32} {i x : Int32} {h2 : List va_E} (hk : i.toNatClampNeg = k) (hi : zin i n) (ha : h[r]? = some (.inl (0, n, .inl f))) (he : h.set r (.inl (0, n, .inl (upd f k x))) = h2) (hd : decode cc pc = .ok (.iastore, 1)) (kk : zV sc d y cc nL ret (pc + 1) L st h2 Q) : zV sc d y cc nL ret pc L (.int x :: .int i :: .ref r :: st) h Q := by
  subst hk
  exact zv_iast hi ha he hd kk
theorem zv_zastK {r n k : Nat} {f : Nat → Int32} {i x x' : Int32} {h2 : List va_E} (hk : i.toNatClampNeg = k) (hx : vp_nar .boolean x = x') (hi : zin i n) (ha : h[r]? = some (.inl (2, n, .inl f))) (he : h.set r (.inl (2, n, .inl (upd f k x'))) = h2) (hd : decode cc pc = .ok (.bastore, 1)) (kk : zV sc d y cc nL ret (pc + 1) L st h2 Q) : zV sc d y cc nL ret pc L (.int x :: .int i :: .ref r :: st) h Q := by
  subst hk; subst hx
  exact zv_zast hi ha he hd kk
theorem zv_zastV {r n : Nat} {f : Nat → Int32} {i x x' : Int32} {h2 : List va_E} (hx : vp_nar .boolean x = x') (hi : zin i n) (ha : h[r]? = some (.inl (2, n, .inl f))) (he : h.set r (.inl (2, n, .inl (upd f i.toNatClampNeg x'))) = h2) (hd : decode cc pc = .ok (.bastore, 1)) (kk : zV sc d y cc nL ret (pc + 1) L st h2 Q) : zV sc d y cc nL ret pc L (.int x :: .int i :: .ref r :: st) h Q := by
  subst hx
  exact zv_zast hi ha he hd kk
theorem zv_copyK {index r0 r1 n0 n1 k0 k1 k2 : Nat} {f g : Nat → Int32} {sp dp n : Int32} {h2 : List va_E} (e0 : sp.toNatClampNeg = k0) (e1 : dp.toNatClampNeg = k1) (e2 : n.toNatClampNeg = k2) (hc : zcpy n0 n1 sp dp n) (hw : Cond.methodLink y.cls index arraycopyName ∈ zt ∧ Cond.native arraycopyName ∈ zt ∧ Cond.static arraycopyName ∈ zt ∧ Cond.initialized "java/lang/System" ∈ zt)
    (ha0 : h[r0]? = some (.inl (0, n0, .inl f))) (ha1 : h[r1]? = some (.inl (0, n1, .inl g))) (he : h.set r1 (.inl (0, n1, .inl (va_cpy f g k0 k1 k2))) = h2) (hsm : (st.map Value.category).sum ≤ 8) (hd : decode cc pc = .ok (.invokestatic index, 3))
    (kk : zV sc (d + 1) y cc nL ret (pc + 3) L st h2 Q) : zV sc (d + 1) y cc nL ret pc L (.int n :: .int dp :: .ref r1 :: .int sp :: .ref r0 :: st) h Q := by
  subst e0; subst e1; subst e2
  exact zv_copy hc hw ha0 ha1 he hsm hd kk
theorem zim1 {i : Int32} (h : zin i 2) (h0 : ¬ i = 0) : i.toNatClampNeg = 1 := by
  have h1 : ¬ i.toInt = 0 := fun q => h0 (Int32.toInt_inj.mp q)
  show i.toInt.toNat = 1
  have := h.1; have := h.2
  omega
end ZV
end
section
-- java/lang/Integer.bitCount(I)I height 0 reads
def f_J6_bitCount_0f7a4_48 (a0 : Int32) : Option Int32 :=
  some ((a0 &&& (63 : Int32)))
set_option maxRecDepth 100000 in
set_option maxHeartbeats 4000000 in
theorem v_J6_bitCount_0f7a4_48 {h : List va_E} (d : Nat) (a0 : Int32) (v : Int32) (hf : f_J6_bitCount_0f7a4_48 a0 = (some v)) : zV none d yJ6_bitCount_0f7a4 cJ6_bitCount_0f7a4 1 (some .int) 48 [(0, .int a0)] [] h (zq (some (.int v)) h) := by
  unfold f_J6_bitCount_0f7a4_48 at hf
  refine zv_iload_n dJ6_bitCount_0f7a4_48 rfl rfl ?_
  refine zv_bipush (v := 63) dJ6_bitCount_0f7a4_49 (by decide) ?_
  refine zv_iand dJ6_bitCount_0f7a4_51 ?_
  exact zv_iret (ty := .int) dJ6_bitCount_0f7a4_52 rfl rfl (zret1 hf)
def f_J6_bitCount_0f7a4_41 (a0 : Int32) : Option Int32 :=
  f_J6_bitCount_0f7a4_48 (a0 + ((a0).toUInt32 >>> (((16 : Int32)).toUInt32 &&& Int32.toUInt32 31)).toInt32)
set_option maxRecDepth 100000 in
set_option maxHeartbeats 4000000 in
theorem v_J6_bitCount_0f7a4_41 {h : List va_E} (d : Nat) (a0 : Int32) (v : Int32) (hf : f_J6_bitCount_0f7a4_41 a0 = (some v)) : zV none d yJ6_bitCount_0f7a4 cJ6_bitCount_0f7a4 1 (some .int) 41 [(0, .int a0)] [] h (zq (some (.int v)) h) := by
  unfold f_J6_bitCount_0f7a4_41 at hf
  refine zv_iload_n dJ6_bitCount_0f7a4_41 rfl rfl ?_
  refine zv_iload_n dJ6_bitCount_0f7a4_42 rfl rfl ?_
  refine zv_bipush (v := 16) dJ6_bitCount_0f7a4_43 (by decide) ?_
  refine zv_iushr dJ6_bitCount_0f7a4_45 ?_
  refine zv_iadd dJ6_bitCount_0f7a4_46 ?_
  refine zv_istore_n dJ6_bitCount_0f7a4_47 rfl (by decide) ?_
  exact zV_sub ([(0, .int (a0 + ((a0).toUInt32 >>> (((16 : Int32)).toUInt32 &&& Int32.toUInt32 31)).toInt32))]) ⟨rfl, trivial⟩ (v_J6_bitCount_0f7a4_48 d (a0 + ((a0).toUInt32 >>> (((16 : Int32)).toUInt32 &&& Int32.toUInt32 31)).toInt32) _ hf)
def f_J6_bitCount_0f7a4_34 (a0 : Int32) : Option Int32 :=
  f_J6_bitCount_0f7a4_41 (a0 + ((a0).toUInt32 >>> (((8 : Int32)).toUInt32 &&& Int32.toUInt32 31)).toInt32)
set_option maxRecDepth 100000 in
set_option maxHeartbeats 4000000 in
theorem v_J6_bitCount_0f7a4_34 {h : List va_E} (d : Nat) (a0 : Int32) (v : Int32) (hf : f_J6_bitCount_0f7a4_34 a0 = (some v)) : zV none d yJ6_bitCount_0f7a4 cJ6_bitCount_0f7a4 1 (some .int) 34 [(0, .int a0)] [] h (zq (some (.int v)) h) := by
  unfold f_J6_bitCount_0f7a4_34 at hf
  refine zv_iload_n dJ6_bitCount_0f7a4_34 rfl rfl ?_
  refine zv_iload_n dJ6_bitCount_0f7a4_35 rfl rfl ?_
  refine zv_bipush (v := 8) dJ6_bitCount_0f7a4_36 (by decide) ?_
  refine zv_iushr dJ6_bitCount_0f7a4_38 ?_
  refine zv_iadd dJ6_bitCount_0f7a4_39 ?_
  refine zv_istore_n dJ6_bitCount_0f7a4_40 rfl (by decide) ?_
  exact zV_sub ([(0, .int (a0 + ((a0).toUInt32 >>> (((8 : Int32)).toUInt32 &&& Int32.toUInt32 31)).toInt32))]) ⟨rfl, trivial⟩ (v_J6_bitCount_0f7a4_41 d (a0 + ((a0).toUInt32 >>> (((8 : Int32)).toUInt32 &&& Int32.toUInt32 31)).toInt32) _ hf)
def f_J6_bitCount_0f7a4_24 (a0 : Int32) : Option Int32 :=
  f_J6_bitCount_0f7a4_34 ((a0 + ((a0).toUInt32 >>> (((4 : Int32)).toUInt32 &&& Int32.toUInt32 31)).toInt32) &&& (252645135 : Int32))
set_option maxRecDepth 100000 in
set_option maxHeartbeats 4000000 in
theorem v_J6_bitCount_0f7a4_24 {h : List va_E} (d : Nat) (a0 : Int32) (v : Int32) (hf : f_J6_bitCount_0f7a4_24 a0 = (some v)) : zV none d yJ6_bitCount_0f7a4 cJ6_bitCount_0f7a4 1 (some .int) 24 [(0, .int a0)] [] h (zq (some (.int v)) h) := by
  unfold f_J6_bitCount_0f7a4_24 at hf
  refine zv_iload_n dJ6_bitCount_0f7a4_24 rfl rfl ?_
  refine zv_iload_n dJ6_bitCount_0f7a4_25 rfl rfl ?_
  refine zv_iconst (v := 4) dJ6_bitCount_0f7a4_26 (by decide) ?_
  refine zv_iushr dJ6_bitCount_0f7a4_27 ?_
  refine zv_iadd dJ6_bitCount_0f7a4_28 ?_
  refine zv_ldcw rfl zcn_J6_267 dJ6_bitCount_0f7a4_29 ?_
  refine zv_iand dJ6_bitCount_0f7a4_32 ?_
  refine zv_istore_n dJ6_bitCount_0f7a4_33 rfl (by decide) ?_
  exact zV_sub ([(0, .int ((a0 + ((a0).toUInt32 >>> (((4 : Int32)).toUInt32 &&& Int32.toUInt32 31)).toInt32) &&& (252645135 : Int32)))]) ⟨rfl, trivial⟩ (v_J6_bitCount_0f7a4_34 d ((a0 + ((a0).toUInt32 >>> (((4 : Int32)).toUInt32 &&& Int32.toUInt32 31)).toInt32) &&& (252645135 : Int32)) _ hf)
def f_J6_bitCount_0f7a4_10 (a0 : Int32) : Option Int32 :=
  f_J6_bitCount_0f7a4_24 ((a0 &&& (858993459 : Int32)) + (((a0).toUInt32 >>> (((2 : Int32)).toUInt32 &&& Int32.toUInt32 31)).toInt32 &&& (858993459 : Int32)))
set_option maxRecDepth 100000 in
set_option maxHeartbeats 4000000 in
theorem v_J6_bitCount_0f7a4_10 {h : List va_E} (d : Nat) (a0 : Int32) (v : Int32) (hf : f_J6_bitCount_0f7a4_10 a0 = (some v)) : zV none d yJ6_bitCount_0f7a4 cJ6_bitCount_0f7a4 1 (some .int) 10 [(0, .int a0)] [] h (zq (some (.int v)) h) := by
  unfold f_J6_bitCount_0f7a4_10 at hf
  refine zv_iload_n dJ6_bitCount_0f7a4_10 rfl rfl ?_
  refine zv_ldcw rfl zcn_J6_266 dJ6_bitCount_0f7a4_11 ?_
  refine zv_iand dJ6_bitCount_0f7a4_14 ?_
  refine zv_iload_n dJ6_bitCount_0f7a4_15 rfl rfl ?_
  refine zv_iconst (v := 2) dJ6_bitCount_0f7a4_16 (by decide) ?_
  refine zv_iushr dJ6_bitCount_0f7a4_17 ?_
  refine zv_ldcw rfl zcn_J6_266 dJ6_bitCount_0f7a4_18 ?_
  refine zv_iand dJ6_bitCount_0f7a4_21 ?_
  refine zv_iadd dJ6_bitCount_0f7a4_22 ?_
  refine zv_istore_n dJ6_bitCount_0f7a4_23 rfl (by decide) ?_
  exact zV_sub ([(0, .int ((a0 &&& (858993459 : Int32)) + (((a0).toUInt32 >>> (((2 : Int32)).toUInt32 &&& Int32.toUInt32 31)).toInt32 &&& (858993459 : Int32))))]) ⟨rfl, trivial⟩ (v_J6_bitCount_0f7a4_24 d ((a0 &&& (858993459 : Int32)) + (((a0).toUInt32 >>> (((2 : Int32)).toUInt32 &&& Int32.toUInt32 31)).toInt32 &&& (858993459 : Int32))) _ hf)
def f_J6_bitCount_0f7a4 (a0 : Int32) : Option Int32 :=
  f_J6_bitCount_0f7a4_10 (a0 - (((a0).toUInt32 >>> (((1 : Int32)).toUInt32 &&& Int32.toUInt32 31)).toInt32 &&& (1431655765 : Int32)))
set_option maxRecDepth 100000 in
set_option maxHeartbeats 4000000 in
theorem c_J6_bitCount_0f7a4 {h : List va_E} (d : Nat) (a0 : Int32) (v : Int32) (hf : f_J6_bitCount_0f7a4 a0 = (some v)) : zC d yJ6_bitCount_0f7a4 cJ6_bitCount_0f7a4 1 (some .int) [.int a0] h (zq (some (.int v)) h) := by
  refine zC_intro (by decide) rfl (Nat.le_of_ble_eq_true rfl) ?_
  unfold f_J6_bitCount_0f7a4 at hf
  refine zv_iload_n dJ6_bitCount_0f7a4_0 rfl rfl ?_
  refine zv_iload_n dJ6_bitCount_0f7a4_1 rfl rfl ?_
  refine zv_iconst (v := 1) dJ6_bitCount_0f7a4_2 (by decide) ?_
  refine zv_iushr dJ6_bitCount_0f7a4_3 ?_
  refine zv_ldcw rfl zcn_J6_265 dJ6_bitCount_0f7a4_4 ?_
  refine zv_iand dJ6_bitCount_0f7a4_7 ?_
  refine zv_isub dJ6_bitCount_0f7a4_8 ?_
  refine zv_istore_n dJ6_bitCount_0f7a4_9 rfl (by decide) ?_
  exact zV_sub ([(0, .int (a0 - (((a0).toUInt32 >>> (((1 : Int32)).toUInt32 &&& Int32.toUInt32 31)).toInt32 &&& (1431655765 : Int32))))]) ⟨rfl, trivial⟩ (v_J6_bitCount_0f7a4_10 d (a0 - (((a0).toUInt32 >>> (((1 : Int32)).toUInt32 &&& Int32.toUInt32 31)).toInt32 &&& (1431655765 : Int32))) _ hf)
-- java/util/Arrays.fill([II)V height 0 writes
def f_J7_fill_53178_5 (q : Nat) (len : Nat) : Nat → zS → Int32 → Int32 → Int32 → Option zS
  | 0, _, _, _, _ => none
  | n + 1, S, a1, a2, a3 => (if a3 ≤ a2 then some S else (if zin a2 len then f_J7_fill_53178_5 q len n (zr S q (upd (S.1 q) (a2).toNatClampNeg a1)) a1 (a2 + (1 : Int32)) a3 else none))
set_option maxRecDepth 100000 in
set_option maxHeartbeats 4000000 in
theorem v_J7_fill_53178_5 {W : zS → List va_E} {q : Nat} {len : Nat} (hn : len < 1000) (hr : ∀ S : zS, (W S)[q]? = some (.inl (0, len, .inl (S.1 q)))) (hs : ∀ (S : zS) (g : Nat → Int32), (W S).set q (.inl (0, len, .inl g)) = W (zr S q g)) (d : Nat) : ∀ (n : Nat) (S : zS) (a1 : Int32) (a2 : Int32) (a3 : Int32) (S' : zS), f_J7_fill_53178_5 q len n S a1 a2 a3 = (some S') → zV none d yJ7_fill_53178 cJ7_fill_53178 4 none 5 [(0, .ref q), (1, .int a1), (2, .int a2), (3, .int a3)] [] (W S) (zq none (W S')) := by
  intro n
  induction n with
  | zero =>
    intro S a1 a2 a3 S' hf
    cases hf
  | succ n ih =>
    intro S a1 a2 a3 S' hf
    rw [f_J7_fill_53178_5] at hf
    refine zv_iload_n dJ7_fill_53178_5 rfl rfl ?_
    refine zv_iload_n dJ7_fill_53178_6 rfl rfl ?_
    refine zv_icmp_ge (tgt := 20) dJ7_fill_53178_7 (by decide) (fun c1 => ?_) (fun c1 => ?_)
    · replace hf := (if_pos c1).symm.trans hf
      exact zv_vret dJ7_fill_53178_20 rfl (zret0 W hf)
    · replace hf := (if_neg c1).symm.trans hf
      refine zv_aload_n dJ7_fill_53178_10 rfl rfl ?_
      refine zv_iload_n dJ7_fill_53178_11 rfl rfl ?_
      refine zv_iload_n dJ7_fill_53178_12 rfl rfl ?_
      obtain ⟨hb2, hf⟩ := zifb hf
      refine zv_iast hb2 (hr S) (hs S (upd (S.1 q) (a2).toNatClampNeg a1)) dJ7_fill_53178_13 ?_
      refine zv_iinc (v := 1) dJ7_fill_53178_14 rfl (by decide) (by decide) ?_
      refine zv_goto (tgt := 5) dJ7_fill_53178_17 (by decide) ?_
      exact zV_sub ([(0, .ref q), (1, .int a1), (2, .int (a2 + (1 : Int32))), (3, .int a3)]) ⟨rfl, rfl, rfl, rfl, trivial⟩ (ih (zr S q (upd (S.1 q) (a2).toNatClampNeg a1)) a1 (a2 + (1 : Int32)) a3 _ hf)
def f_J7_fill_53178 (S : zS) (q : Nat) (len : Nat) (a1 : Int32) : Option zS :=
  f_J7_fill_53178_5 q len zN S a1 (0 : Int32) (nI len)
set_option maxRecDepth 100000 in
set_option maxHeartbeats 4000000 in
theorem c_J7_fill_53178 {W : zS → List va_E} {q : Nat} {len : Nat} (hn : len < 1000) (hr : ∀ S : zS, (W S)[q]? = some (.inl (0, len, .inl (S.1 q)))) (hs : ∀ (S : zS) (g : Nat → Int32), (W S).set q (.inl (0, len, .inl g)) = W (zr S q g)) (d : Nat) (S : zS) (a1 : Int32) (S' : zS) (hf : f_J7_fill_53178 S q len a1 = (some S')) : zC d yJ7_fill_53178 cJ7_fill_53178 4 none [.ref q, .int a1] (W S) (zq none (W S')) := by
  refine zC_intro (by decide) rfl (Nat.le_of_ble_eq_true rfl) ?_
  unfold f_J7_fill_53178 at hf
  refine zv_iconst (v := 0) dJ7_fill_53178_0 (by decide) ?_
  refine zv_istore_n dJ7_fill_53178_1 rfl (by decide) ?_
  refine zv_aload_n dJ7_fill_53178_2 rfl rfl ?_
  refine zv_alen (t := 0) (by decide) rfl (hr S) dJ7_fill_53178_3 ?_
  refine zv_istore_n dJ7_fill_53178_4 rfl (by decide) ?_
  exact zV_sub ([(0, .ref q), (1, .int a1), (2, .int (0 : Int32)), (3, .int (nI len))]) ⟨rfl, rfl, rfl, rfl, trivial⟩ (v_J7_fill_53178_5 hn hr hs d zN S a1 (0 : Int32) (nI len) _ hf)
-- KingPrices$Land.bitOf(I)I height 0 reads
def f_X0_bitOf (a0 : Int32) : Option Int32 :=
  some (((1 : Int32) <<< ((a0 - (97 : Int32)) &&& 31)))
set_option maxRecDepth 100000 in
set_option maxHeartbeats 4000000 in
theorem c_X0_bitOf {h : List va_E} (d : Nat) (a0 : Int32) (v : Int32) (hf : f_X0_bitOf a0 = (some v)) : zC d yX0_bitOf cX0_bitOf 1 (some .int) [.int a0] h (zq (some (.int v)) h) := by
  refine zC_intro (by decide) rfl (Nat.le_of_ble_eq_true rfl) ?_
  unfold f_X0_bitOf at hf
  refine zv_iconst (v := 1) dX0_bitOf_0 (by decide) ?_
  refine zv_iload_n dX0_bitOf_1 rfl rfl ?_
  refine zv_bipush (v := 97) dX0_bitOf_2 (by decide) ?_
  refine zv_isub dX0_bitOf_4 ?_
  refine zv_ishl dX0_bitOf_5 ?_
  exact zv_iret (ty := .int) dX0_bitOf_6 rfl rfl (zret1 hf)
-- KingPrices$Land.knows(I)Z height 0 reads
def f_X0_knows (S : zS) (r : Nat) (a1 : Int32) : Option Int32 :=
  (if a1 < (0 : Int32) then some ((0 : Int32)) else (if (S.1 r 6) ≤ a1 then some ((0 : Int32)) else (if (6 : Int32) ≤ a1 then some ((0 : Int32)) else some ((1 : Int32)))))
set_option maxRecDepth 100000 in
set_option maxHeartbeats 4000000 in
theorem c_X0_knows {W : zS → List va_E} {r : Nat} (hL : zLand W r) (d : Nat) (S : zS) (a1 : Int32) (v : Int32) (hf : f_X0_knows S r a1 = (some v)) : zC d yX0_knows cX0_knows 2 (some .boolean) [.ref r, .int a1] (W S) (zq (some (.int v)) (W S)) := by
  refine zC_intro (by decide) rfl (Nat.le_of_ble_eq_true rfl) ?_
  unfold f_X0_knows at hf
  refine zv_iconst (v := 0) dX0_knows_0 (by decide) ?_
  refine zv_iload_n dX0_knows_1 rfl rfl ?_
  refine zv_icmp_gt (tgt := 23) dX0_knows_2 (by decide) (fun c1 => ?_) (fun c1 => ?_)
  · replace hf := (if_pos c1).symm.trans hf
    refine zv_iconst (v := 0) dX0_knows_23 (by decide) ?_
    exact zv_iret (ty := .boolean) dX0_knows_24 rfl rfl (zret1 hf)
  · replace hf := (if_neg c1).symm.trans hf
    refine zv_iload_n dX0_knows_5 rfl rfl ?_
    refine zv_aload_n dX0_knows_6 rfl rfl ?_
    refine zv_get zf_X0_33 (hL.1 S) rfl dX0_knows_7 ?_
    refine zv_icmp_ge (tgt := 23) dX0_knows_10 (by decide) (fun c2 => ?_) (fun c2 => ?_)
    · replace hf := (if_pos c2).symm.trans hf
      refine zv_iconst (v := 0) dX0_knows_23 (by decide) ?_
      exact zv_iret (ty := .boolean) dX0_knows_24 rfl rfl (zret1 hf)
    · replace hf := (if_neg c2).symm.trans hf
      refine zv_iload_n dX0_knows_13 rfl rfl ?_
      refine zv_bipush (v := 6) dX0_knows_14 (by decide) ?_
      refine zv_icmp_ge (tgt := 23) dX0_knows_16 (by decide) (fun c3 => ?_) (fun c3 => ?_)
      · replace hf := (if_pos c3).symm.trans hf
        refine zv_iconst (v := 0) dX0_knows_23 (by decide) ?_
        exact zv_iret (ty := .boolean) dX0_knows_24 rfl rfl (zret1 hf)
      · replace hf := (if_neg c3).symm.trans hf
        refine zv_iconst (v := 1) dX0_knows_19 (by decide) ?_
        refine zv_goto (tgt := 24) dX0_knows_20 (by decide) ?_
        exact zv_iret (ty := .boolean) dX0_knows_24 rfl rfl (zret1 hf)
-- KingPrices$Land.daysBetween(II)I height 1 reads
def f_X0_daysBetween (S : zS) (r : Nat) (a1 : Int32) (a2 : Int32) : Option Int32 :=
  ((f_X0_knows S r a1).bind (fun x2 => (if x2 = 0 then some ((-9 : Int32)) else ((f_X0_knows S r a2).bind (fun x5 => (if x5 = 0 then some ((-9 : Int32)) else (if zin ((a1 * (6 : Int32)) + a2) 36 then (if (S.1 (r + 4) (((a1 * (6 : Int32)) + a2)).toNatClampNeg) < (1000 : Int32) then some ((S.1 (r + 4) (((a1 * (6 : Int32)) + a2)).toNatClampNeg)) else some ((-9 : Int32))) else none)))))))
set_option maxRecDepth 100000 in
set_option maxHeartbeats 4000000 in
theorem c_X0_daysBetween {W : zS → List va_E} {r : Nat} (hL : zLand W r) (d : Nat) (hd : 1 ≤ d) (S : zS) (a1 : Int32) (a2 : Int32) (v : Int32) (hf : f_X0_daysBetween S r a1 a2 = (some v)) : zC d yX0_daysBetween cX0_daysBetween 4 (some .int) [.ref r, .int a1, .int a2] (W S) (zq (some (.int v)) (W S)) := by
  obtain ⟨d, rfl⟩ : ∃ e, d = e + 1 := ⟨d - 1, by omega⟩
  refine zC_intro (by decide) rfl (Nat.le_of_ble_eq_true rfl) ?_
  unfold f_X0_daysBetween at hf
  refine zv_aload_n dX0_daysBetween_0 rfl rfl ?_
  refine zv_iload_n dX0_daysBetween_1 rfl rfl ?_
  obtain ⟨x2, hc1, hf⟩ := zbind hf
  refine zv_callV dX0_daysBetween_2 zk_X0_58 zm_X0_knows (c_X0_knows hL d S a1 x2 hc1) (hL.1 S) rfl rfl rfl (Nat.le_of_ble_eq_true rfl) ?_
  refine zv_if_eq (tgt := 16) dX0_daysBetween_5 (by decide) (fun c3 => ?_) (fun c3 => ?_)
  · replace hf := (if_pos c3).symm.trans hf
    refine zv_bipush (v := -9) dX0_daysBetween_16 (by decide) ?_
    exact zv_iret (ty := .int) dX0_daysBetween_18 rfl rfl (zret1 hf)
  · replace hf := (if_neg c3).symm.trans hf
    refine zv_aload_n dX0_daysBetween_8 rfl rfl ?_
    refine zv_iload_n dX0_daysBetween_9 rfl rfl ?_
    obtain ⟨x5, hc4, hf⟩ := zbind hf
    refine zv_callV dX0_daysBetween_10 zk_X0_58 zm_X0_knows (c_X0_knows hL d S a2 x5 hc4) (hL.1 S) rfl rfl rfl (Nat.le_of_ble_eq_true rfl) ?_
    refine zv_if_ne (tgt := 19) dX0_daysBetween_13 (by decide) (fun c6 => ?_) (fun c6 => ?_)
    · replace hf := (if_neg c6).symm.trans hf
      refine zv_aload_n dX0_daysBetween_19 rfl rfl ?_
      refine zv_get zf_X0_21 (hL.1 S) rfl dX0_daysBetween_20 ?_
      refine zv_iload_n dX0_daysBetween_23 rfl rfl ?_
      refine zv_bipush (v := 6) dX0_daysBetween_24 (by decide) ?_
      refine zv_imul dX0_daysBetween_26 ?_
      refine zv_iload_n dX0_daysBetween_27 rfl rfl ?_
      refine zv_iadd dX0_daysBetween_28 ?_
      obtain ⟨hb7, hf⟩ := zifb hf
      refine zv_iald hb7 (hL.a4 S) dX0_daysBetween_29 ?_
      refine zv_istore_n dX0_daysBetween_30 rfl (by decide) ?_
      refine zv_iload_n dX0_daysBetween_31 rfl rfl ?_
      refine zv_sipush (v := 1000) dX0_daysBetween_32 (by decide) ?_
      refine zv_icmp_lt (tgt := 43) dX0_daysBetween_35 (by decide) (fun c8 => ?_) (fun c8 => ?_)
      · replace hf := (if_pos c8).symm.trans hf
        refine zv_iload_n dX0_daysBetween_43 rfl rfl ?_
        exact zv_iret (ty := .int) dX0_daysBetween_44 rfl rfl (zret1 hf)
      · replace hf := (if_neg c8).symm.trans hf
        refine zv_bipush (v := -9) dX0_daysBetween_38 (by decide) ?_
        refine zv_goto (tgt := 44) dX0_daysBetween_40 (by decide) ?_
        exact zv_iret (ty := .int) dX0_daysBetween_44 rfl rfl (zret1 hf)
    · replace hf := (if_pos c6).symm.trans hf
      refine zv_bipush (v := -9) dX0_daysBetween_16 (by decide) ?_
      exact zv_iret (ty := .int) dX0_daysBetween_18 rfl rfl (zret1 hf)
-- KingPrices$Land.debt(II)I height 1 reads
def f_X0_debt (S : zS) (r : Nat) (a1 : Int32) (a2 : Int32) : Option Int32 :=
  ((f_X0_knows S r a1).bind (fun x2 => (if x2 = 0 then some ((0 : Int32)) else ((f_X0_knows S r a2).bind (fun x5 => (if x5 = 0 then some ((0 : Int32)) else (if zin ((a1 * (6 : Int32)) + a2) 36 then some ((S.1 (r + 5) (((a1 * (6 : Int32)) + a2)).toNatClampNeg)) else none)))))))
set_option maxRecDepth 100000 in
set_option maxHeartbeats 4000000 in
theorem c_X0_debt {W : zS → List va_E} {r : Nat} (hL : zLand W r) (d : Nat) (hd : 1 ≤ d) (S : zS) (a1 : Int32) (a2 : Int32) (v : Int32) (hf : f_X0_debt S r a1 a2 = (some v)) : zC d yX0_debt cX0_debt 3 (some .int) [.ref r, .int a1, .int a2] (W S) (zq (some (.int v)) (W S)) := by
  obtain ⟨d, rfl⟩ : ∃ e, d = e + 1 := ⟨d - 1, by omega⟩
  refine zC_intro (by decide) rfl (Nat.le_of_ble_eq_true rfl) ?_
  unfold f_X0_debt at hf
  refine zv_aload_n dX0_debt_0 rfl rfl ?_
  refine zv_iload_n dX0_debt_1 rfl rfl ?_
  obtain ⟨x2, hc1, hf⟩ := zbind hf
  refine zv_callV dX0_debt_2 zk_X0_58 zm_X0_knows (c_X0_knows hL d S a1 x2 hc1) (hL.1 S) rfl rfl rfl (Nat.le_of_ble_eq_true rfl) ?_
  refine zv_if_eq (tgt := 30) dX0_debt_5 (by decide) (fun c3 => ?_) (fun c3 => ?_)
  · replace hf := (if_pos c3).symm.trans hf
    refine zv_iconst (v := 0) dX0_debt_30 (by decide) ?_
    exact zv_iret (ty := .int) dX0_debt_31 rfl rfl (zret1 hf)
  · replace hf := (if_neg c3).symm.trans hf
    refine zv_aload_n dX0_debt_8 rfl rfl ?_
    refine zv_iload_n dX0_debt_9 rfl rfl ?_
    obtain ⟨x5, hc4, hf⟩ := zbind hf
    refine zv_callV dX0_debt_10 zk_X0_58 zm_X0_knows (c_X0_knows hL d S a2 x5 hc4) (hL.1 S) rfl rfl rfl (Nat.le_of_ble_eq_true rfl) ?_
    refine zv_if_eq (tgt := 30) dX0_debt_13 (by decide) (fun c6 => ?_) (fun c6 => ?_)
    · replace hf := (if_pos c6).symm.trans hf
      refine zv_iconst (v := 0) dX0_debt_30 (by decide) ?_
      exact zv_iret (ty := .int) dX0_debt_31 rfl rfl (zret1 hf)
    · replace hf := (if_neg c6).symm.trans hf
      refine zv_aload_n dX0_debt_16 rfl rfl ?_
      refine zv_get zf_X0_24 (hL.1 S) rfl dX0_debt_17 ?_
      refine zv_iload_n dX0_debt_20 rfl rfl ?_
      refine zv_bipush (v := 6) dX0_debt_21 (by decide) ?_
      refine zv_imul dX0_debt_23 ?_
      refine zv_iload_n dX0_debt_24 rfl rfl ?_
      refine zv_iadd dX0_debt_25 ?_
      obtain ⟨hb7, hf⟩ := zifb hf
      refine zv_iald hb7 (hL.a5 S) dX0_debt_26 ?_
      refine zv_goto (tgt := 31) dX0_debt_27 (by decide) ?_
      exact zv_iret (ty := .int) dX0_debt_31 rfl rfl (zret1 hf)
-- KingPrices$Land.empty()V height 1 writes
def f_X0_empty_51 (r : Nat) : Nat → zS → Int32 → Option zS
  | 0, _, _ => none
  | n + 1, S, a1 => (if (6 : Int32) ≤ a1 then some S else (if zin ((a1 * (6 : Int32)) + a1) 36 then f_X0_empty_51 r n (zr S (r + 4) (upd (S.1 (r + 4)) (((a1 * (6 : Int32)) + a1)).toNatClampNeg (0 : Int32))) (a1 + (1 : Int32)) else none))
set_option maxRecDepth 100000 in
set_option maxHeartbeats 4000000 in
theorem v_X0_empty_51 {W : zS → List va_E} {r : Nat} (hL : zLand W r) (d : Nat) (hd : 0 ≤ d) : ∀ (n : Nat) (S : zS) (a1 : Int32) (S' : zS), f_X0_empty_51 r n S a1 = (some S') → zV none (d + 1) yX0_empty cX0_empty 2 none 51 [(0, .ref r), (1, .int a1)] [] (W S) (zq none (W S')) := by
  intro n
  induction n with
  | zero =>
    intro S a1 S' hf
    cases hf
  | succ n ih =>
    intro S a1 S' hf
    rw [f_X0_empty_51] at hf
    refine zv_iload_n dX0_empty_51 rfl rfl ?_
    refine zv_bipush (v := 6) dX0_empty_52 (by decide) ?_
    refine zv_icmp_ge (tgt := 75) dX0_empty_54 (by decide) (fun c1 => ?_) (fun c1 => ?_)
    · replace hf := (if_pos c1).symm.trans hf
      exact zv_vret dX0_empty_75 rfl (zret0 W hf)
    · replace hf := (if_neg c1).symm.trans hf
      refine zv_aload_n dX0_empty_57 rfl rfl ?_
      refine zv_get zf_X0_21 (hL.1 S) rfl dX0_empty_58 ?_
      refine zv_iload_n dX0_empty_61 rfl rfl ?_
      refine zv_bipush (v := 6) dX0_empty_62 (by decide) ?_
      refine zv_imul dX0_empty_64 ?_
      refine zv_iload_n dX0_empty_65 rfl rfl ?_
      refine zv_iadd dX0_empty_66 ?_
      refine zv_iconst (v := 0) dX0_empty_67 (by decide) ?_
      obtain ⟨hb2, hf⟩ := zifb hf
      refine zv_iast hb2 (hL.a4 S) (hL.s4 S (upd (S.1 (r + 4)) (((a1 * (6 : Int32)) + a1)).toNatClampNeg (0 : Int32))) dX0_empty_68 ?_
      refine zv_iinc (v := 1) dX0_empty_69 rfl (by decide) (by decide) ?_
      refine zv_goto (tgt := 51) dX0_empty_72 (by decide) ?_
      exact zV_sub ([(0, .ref r), (1, .int (a1 + (1 : Int32)))]) ⟨rfl, rfl, trivial⟩ (ih (zr S (r + 4) (upd (S.1 (r + 4)) (((a1 * (6 : Int32)) + a1)).toNatClampNeg (0 : Int32))) (a1 + (1 : Int32)) _ hf)
def f_X0_empty (S : zS) (r : Nat) : Option zS :=
  ((f_J7_fill_53178 (zu (zu (zu (zu (zu (zu S r 6 (0 : Int32)) r 7 (0 : Int32)) r 8 (3 : Int32)) r 9 (8 : Int32)) r 10 (0 : Int32)) r 11 (0 : Int32)) (r + 5) 36 (0 : Int32)).bind (fun S2 => ((f_J7_fill_53178 S2 (r + 4) 36 (1000 : Int32)).bind (fun S4 => f_X0_empty_51 r zN S4 (0 : Int32)))))
set_option maxRecDepth 100000 in
set_option maxHeartbeats 4000000 in
theorem c_X0_empty {W : zS → List va_E} {r : Nat} (hL : zLand W r) (d : Nat) (hd : 1 ≤ d) (S : zS) (S' : zS) (hf : f_X0_empty S r = (some S')) : zC d yX0_empty cX0_empty 2 none [.ref r] (W S) (zq none (W S')) := by
  obtain ⟨d, rfl⟩ : ∃ e, d = e + 1 := ⟨d - 1, by omega⟩
  refine zC_intro (by decide) rfl (Nat.le_of_ble_eq_true rfl) ?_
  unfold f_X0_empty at hf
  refine zv_aload_n dX0_empty_0 rfl rfl ?_
  refine zv_iconst (v := 0) dX0_empty_1 (by decide) ?_
  refine zv_put zp_X0_33 (hL.1 S) rfl (fun _ => ⟨rfl, rfl⟩) (Nat.le_of_ble_eq_true rfl) (hL.p6 S (0 : Int32)) dX0_empty_2 ?_
  refine zv_aload_n dX0_empty_5 rfl rfl ?_
  refine zv_iconst (v := 0) dX0_empty_6 (by decide) ?_
  refine zv_put zp_X0_37 (hL.1 (zu S r 6 (0 : Int32))) rfl (fun _ => ⟨rfl, rfl⟩) (Nat.le_of_ble_eq_true rfl) (hL.p7 (zu S r 6 (0 : Int32)) (0 : Int32)) dX0_empty_7 ?_
  refine zv_aload_n dX0_empty_10 rfl rfl ?_
  refine zv_iconst (v := 3) dX0_empty_11 (by decide) ?_
  refine zv_put zp_X0_40 (hL.1 (zu (zu S r 6 (0 : Int32)) r 7 (0 : Int32))) rfl (fun _ => ⟨rfl, rfl⟩) (Nat.le_of_ble_eq_true rfl) (hL.p8 (zu (zu S r 6 (0 : Int32)) r 7 (0 : Int32)) (3 : Int32)) dX0_empty_12 ?_
  refine zv_aload_n dX0_empty_15 rfl rfl ?_
  refine zv_bipush (v := 8) dX0_empty_16 (by decide) ?_
  refine zv_put zp_X0_43 (hL.1 (zu (zu (zu S r 6 (0 : Int32)) r 7 (0 : Int32)) r 8 (3 : Int32))) rfl (fun _ => ⟨rfl, rfl⟩) (Nat.le_of_ble_eq_true rfl) (hL.p9 (zu (zu (zu S r 6 (0 : Int32)) r 7 (0 : Int32)) r 8 (3 : Int32)) (8 : Int32)) dX0_empty_18 ?_
  refine zv_aload_n dX0_empty_21 rfl rfl ?_
  refine zv_iconst (v := 0) dX0_empty_22 (by decide) ?_
  refine zv_put zp_X0_46 (hL.1 (zu (zu (zu (zu S r 6 (0 : Int32)) r 7 (0 : Int32)) r 8 (3 : Int32)) r 9 (8 : Int32))) rfl (fun _ => ⟨rfl, rfl⟩) (Nat.le_of_ble_eq_true rfl) (hL.p10 (zu (zu (zu (zu S r 6 (0 : Int32)) r 7 (0 : Int32)) r 8 (3 : Int32)) r 9 (8 : Int32)) (0 : Int32)) dX0_empty_23 ?_
  refine zv_aload_n dX0_empty_26 rfl rfl ?_
  refine zv_iconst (v := 0) dX0_empty_27 (by decide) ?_
  refine zv_put zp_X0_49 (hL.1 (zu (zu (zu (zu (zu S r 6 (0 : Int32)) r 7 (0 : Int32)) r 8 (3 : Int32)) r 9 (8 : Int32)) r 10 (0 : Int32))) rfl (fun _ => ⟨rfl, rfl⟩) (Nat.le_of_ble_eq_true rfl) (hL.p11 (zu (zu (zu (zu (zu S r 6 (0 : Int32)) r 7 (0 : Int32)) r 8 (3 : Int32)) r 9 (8 : Int32)) r 10 (0 : Int32)) (0 : Int32)) dX0_empty_28 ?_
  refine zv_aload_n dX0_empty_31 rfl rfl ?_
  refine zv_get zf_X0_24 (hL.1 (zu (zu (zu (zu (zu (zu S r 6 (0 : Int32)) r 7 (0 : Int32)) r 8 (3 : Int32)) r 9 (8 : Int32)) r 10 (0 : Int32)) r 11 (0 : Int32))) rfl dX0_empty_32 ?_
  refine zv_iconst (v := 0) dX0_empty_35 (by decide) ?_
  obtain ⟨S2, hc1, hf⟩ := zbind hf
  refine zv_callS dX0_empty_36 zk_X0_52 zm_J7_fill_53178 (c_J7_fill_53178 (by decide) hL.a5 hL.s5 d (zu (zu (zu (zu (zu (zu S r 6 (0 : Int32)) r 7 (0 : Int32)) r 8 (3 : Int32)) r 9 (8 : Int32)) r 10 (0 : Int32)) r 11 (0 : Int32)) (0 : Int32) S2 hc1) rfl rfl (Nat.le_of_ble_eq_true rfl) ?_
  refine zv_aload_n dX0_empty_39 rfl rfl ?_
  refine zv_get zf_X0_21 (hL.1 S2) rfl dX0_empty_40 ?_
  refine zv_sipush (v := 1000) dX0_empty_43 (by decide) ?_
  obtain ⟨S4, hc3, hf⟩ := zbind hf
  refine zv_callS dX0_empty_46 zk_X0_52 zm_J7_fill_53178 (c_J7_fill_53178 (by decide) hL.a4 hL.s4 d S2 (1000 : Int32) S4 hc3) rfl rfl (Nat.le_of_ble_eq_true rfl) ?_
  refine zv_iconst (v := 0) dX0_empty_49 (by decide) ?_
  refine zv_istore_n dX0_empty_50 rfl (by decide) ?_
  exact zV_sub ([(0, .ref r), (1, .int (0 : Int32))]) ⟨rfl, rfl, trivial⟩ (v_X0_empty_51 hL d (by omega) zN S4 (0 : Int32) _ hf)
-- KingPrices$Land.shortenWay(III)V height 1 writes
def f_X0_shortenWay (S : zS) (r : Nat) (a1 : Int32) (a2 : Int32) (a3 : Int32) : Option zS :=
  ((f_X0_knows S r a1).bind (fun x2 => (if x2 = 0 then some S else ((f_X0_knows S r a2).bind (fun x5 => (if x5 = 0 then some S else (if zin ((a1 * (6 : Int32)) + a2) 36 then (if zin ((a1 * (6 : Int32)) + a2) 36 then some (zr S (r + 4) (upd (S.1 (r + 4)) (((a1 * (6 : Int32)) + a2)).toNatClampNeg (if a3 < (S.1 (r + 4) (((a1 * (6 : Int32)) + a2)).toNatClampNeg) then a3 else (S.1 (r + 4) (((a1 * (6 : Int32)) + a2)).toNatClampNeg)))) else none) else none)))))))
set_option maxRecDepth 100000 in
set_option maxHeartbeats 4000000 in
theorem c_X0_shortenWay {W : zS → List va_E} {r : Nat} (hL : zLand W r) (d : Nat) (hd : 1 ≤ d) (S : zS) (a1 : Int32) (a2 : Int32) (a3 : Int32) (S' : zS) (hf : f_X0_shortenWay S r a1 a2 a3 = (some S')) : zC d yX0_shortenWay cX0_shortenWay 5 none [.ref r, .int a1, .int a2, .int a3] (W S) (zq none (W S')) := by
  obtain ⟨d, rfl⟩ : ∃ e, d = e + 1 := ⟨d - 1, by omega⟩
  refine zC_intro (by decide) rfl (Nat.le_of_ble_eq_true rfl) ?_
  unfold f_X0_shortenWay at hf
  refine zv_aload_n dX0_shortenWay_0 rfl rfl ?_
  refine zv_iload_n dX0_shortenWay_1 rfl rfl ?_
  obtain ⟨x2, hc1, hf⟩ := zbind hf
  refine zv_callV dX0_shortenWay_2 zk_X0_58 zm_X0_knows (c_X0_knows hL d S a1 x2 hc1) (hL.1 S) rfl rfl rfl (Nat.le_of_ble_eq_true rfl) ?_
  refine zv_if_eq (tgt := 42) dX0_shortenWay_5 (by decide) (fun c3 => ?_) (fun c3 => ?_)
  · replace hf := (if_pos c3).symm.trans hf
    exact zv_vret dX0_shortenWay_42 rfl (zret0 W hf)
  · replace hf := (if_neg c3).symm.trans hf
    refine zv_aload_n dX0_shortenWay_8 rfl rfl ?_
    refine zv_iload_n dX0_shortenWay_9 rfl rfl ?_
    obtain ⟨x5, hc4, hf⟩ := zbind hf
    refine zv_callV dX0_shortenWay_10 zk_X0_58 zm_X0_knows (c_X0_knows hL d S a2 x5 hc4) (hL.1 S) rfl rfl rfl (Nat.le_of_ble_eq_true rfl) ?_
    refine zv_if_eq (tgt := 42) dX0_shortenWay_13 (by decide) (fun c6 => ?_) (fun c6 => ?_)
    · replace hf := (if_pos c6).symm.trans hf
      exact zv_vret dX0_shortenWay_42 rfl (zret0 W hf)
    · replace hf := (if_neg c6).symm.trans hf
      refine zv_iload_n dX0_shortenWay_16 rfl rfl ?_
      refine zv_bipush (v := 6) dX0_shortenWay_17 (by decide) ?_
      refine zv_imul dX0_shortenWay_19 ?_
      refine zv_iload_n dX0_shortenWay_20 rfl rfl ?_
      refine zv_iadd dX0_shortenWay_21 ?_
      refine zv_istore dX0_shortenWay_22 (by decide) ?_
      refine zv_aload_n dX0_shortenWay_24 rfl rfl ?_
      refine zv_get zf_X0_21 (hL.1 S) rfl dX0_shortenWay_25 ?_
      refine zv_iload dX0_shortenWay_28 rfl ?_
      refine zv_aload_n dX0_shortenWay_30 rfl rfl ?_
      refine zv_get zf_X0_21 (hL.1 S) rfl dX0_shortenWay_31 ?_
      refine zv_iload dX0_shortenWay_34 rfl ?_
      obtain ⟨hb7, hf⟩ := zifb hf
      refine zv_iald hb7 (hL.a4 S) dX0_shortenWay_36 ?_
      refine zv_iload_n dX0_shortenWay_37 rfl rfl ?_
      refine zv_min zk_X0_128 (Nat.le_of_ble_eq_true rfl) dX0_shortenWay_38 ?_
      obtain ⟨hb8, hf⟩ := zifb hf
      refine zv_iast hb8 (hL.a4 S) (hL.s4 S (upd (S.1 (r + 4)) (((a1 * (6 : Int32)) + a2)).toNatClampNeg (if a3 < (S.1 (r + 4) (((a1 * (6 : Int32)) + a2)).toNatClampNeg) then a3 else (S.1 (r + 4) (((a1 * (6 : Int32)) + a2)).toNatClampNeg)))) dX0_shortenWay_41 ?_
      exact zv_vret dX0_shortenWay_42 rfl (zret0 W hf)
-- KingPrices$Land.findShortestWays()V height 2 writes
def f_X0_findShortestWays_71 (k2 : zS → Int32 → Option zS) (k12 : zS → Int32 → Int32 → Option zS) (k22 : zS → Int32 → Int32 → Int32 → Option zS) (r : Nat) (S : zS) (a1 : Int32) (a2 : Int32) (a3 : Int32) : Option zS :=
  k22 S a1 a2 (a3 + (1 : Int32))
set_option maxRecDepth 100000 in
set_option maxHeartbeats 4000000 in
theorem v_X0_findShortestWays_71 {W : zS → List va_E} {r : Nat} (hL : zLand W r) (d : Nat) (hd : 1 ≤ d) (k2 : zS → Int32 → Option zS) (hk2 : ∀ (S : zS) (a1 : Int32) S', k2 S a1 = (some S') → zV none (d + 1) yX0_findShortestWays cX0_findShortestWays 6 none 2 [(0, .ref r), (1, .int a1)] [] (W S) (zq none (W S'))) (k12 : zS → Int32 → Int32 → Option zS) (hk12 : ∀ (S : zS) (a1 a2 : Int32) S', k12 S a1 a2 = (some S') → zV none (d + 1) yX0_findShortestWays cX0_findShortestWays 6 none 12 [(0, .ref r), (1, .int a1), (2, .int a2)] [] (W S) (zq none (W S'))) (k22 : zS → Int32 → Int32 → Int32 → Option zS) (hk22 : ∀ (S : zS) (a1 a2 a3 : Int32) S', k22 S a1 a2 a3 = (some S') → zV none (d + 1) yX0_findShortestWays cX0_findShortestWays 6 none 22 [(0, .ref r), (1, .int a1), (2, .int a2), (3, .int a3)] [] (W S) (zq none (W S'))) (S : zS) (a1 : Int32) (a2 : Int32) (a3 : Int32) (S' : zS) (hf : f_X0_findShortestWays_71 k2 k12 k22 r S a1 a2 a3 = (some S')) : zV none (d + 1) yX0_findShortestWays cX0_findShortestWays 6 none 71 [(0, .ref r), (1, .int a1), (2, .int a2), (3, .int a3)] [] (W S) (zq none (W S')) := by
  unfold f_X0_findShortestWays_71 at hf
  refine zv_iinc (v := 1) dX0_findShortestWays_71 rfl (by decide) (by decide) ?_
  refine zv_goto (tgt := 22) dX0_findShortestWays_74 (by decide) ?_
  exact zV_sub ([(0, .ref r), (1, .int a1), (2, .int a2), (3, .int (a3 + (1 : Int32)))]) ⟨rfl, rfl, rfl, rfl, trivial⟩ (hk22 S a1 a2 (a3 + (1 : Int32)) _ hf)
def f_X0_findShortestWays_22 (k2 : zS → Int32 → Option zS) (k12 : zS → Int32 → Int32 → Option zS) (r : Nat) : Nat → zS → Int32 → Int32 → Int32 → Option zS
  | 0, _, _, _, _ => none
  | n + 1, S, a1, a2, a3 => (if (S.1 r 6) ≤ a3 then k12 S a1 (a2 + (1 : Int32)) else ((f_X0_daysBetween S r a2 a1).bind (fun x3 => ((f_X0_daysBetween S r a1 a3).bind (fun x5 => (if x3 = (-9 : Int32) then f_X0_findShortestWays_71 k2 k12 (f_X0_findShortestWays_22 k2 k12 r n) r S a1 a2 a3 else (if x5 = (-9 : Int32) then f_X0_findShortestWays_71 k2 k12 (f_X0_findShortestWays_22 k2 k12 r n) r S a1 a2 a3 else ((f_X0_shortenWay S r a2 a3 (x3 + x5)).bind (fun S9 => f_X0_findShortestWays_71 k2 k12 (f_X0_findShortestWays_22 k2 k12 r n) r S9 a1 a2 a3)))))))))
set_option maxRecDepth 100000 in
set_option maxHeartbeats 4000000 in
theorem v_X0_findShortestWays_22 {W : zS → List va_E} {r : Nat} (hL : zLand W r) (d : Nat) (hd : 1 ≤ d) (k2 : zS → Int32 → Option zS) (hk2 : ∀ (S : zS) (a1 : Int32) S', k2 S a1 = (some S') → zV none (d + 1) yX0_findShortestWays cX0_findShortestWays 6 none 2 [(0, .ref r), (1, .int a1)] [] (W S) (zq none (W S'))) (k12 : zS → Int32 → Int32 → Option zS) (hk12 : ∀ (S : zS) (a1 a2 : Int32) S', k12 S a1 a2 = (some S') → zV none (d + 1) yX0_findShortestWays cX0_findShortestWays 6 none 12 [(0, .ref r), (1, .int a1), (2, .int a2)] [] (W S) (zq none (W S'))) : ∀ (n : Nat) (S : zS) (a1 : Int32) (a2 : Int32) (a3 : Int32) (S' : zS), f_X0_findShortestWays_22 k2 k12 r n S a1 a2 a3 = (some S') → zV none (d + 1) yX0_findShortestWays cX0_findShortestWays 6 none 22 [(0, .ref r), (1, .int a1), (2, .int a2), (3, .int a3)] [] (W S) (zq none (W S')) := by
  intro n
  induction n with
  | zero =>
    intro S a1 a2 a3 S' hf
    cases hf
  | succ n ih =>
    intro S a1 a2 a3 S' hf
    rw [f_X0_findShortestWays_22] at hf
    refine zv_iload_n dX0_findShortestWays_22 rfl rfl ?_
    refine zv_aload_n dX0_findShortestWays_23 rfl rfl ?_
    refine zv_get zf_X0_33 (hL.1 S) rfl dX0_findShortestWays_24 ?_
    refine zv_icmp_ge (tgt := 77) dX0_findShortestWays_27 (by decide) (fun c1 => ?_) (fun c1 => ?_)
    · replace hf := (if_pos c1).symm.trans hf
      refine zv_iinc (v := 1) dX0_findShortestWays_77 rfl (by decide) (by decide) ?_
      refine zv_goto (tgt := 12) dX0_findShortestWays_80 (by decide) ?_
      exact zV_sub ([(0, .ref r), (1, .int a1), (2, .int (a2 + (1 : Int32)))]) ⟨rfl, rfl, rfl, trivial⟩ (hk12 S a1 (a2 + (1 : Int32)) _ hf)
    · replace hf := (if_neg c1).symm.trans hf
      refine zv_aload_n dX0_findShortestWays_30 rfl rfl ?_
      refine zv_iload_n dX0_findShortestWays_31 rfl rfl ?_
      refine zv_iload_n dX0_findShortestWays_32 rfl rfl ?_
      obtain ⟨x3, hc2, hf⟩ := zbind hf
      refine zv_callV dX0_findShortestWays_33 zk_X0_133 zm_X0_daysBetween (c_X0_daysBetween hL d (by omega) S a2 a1 x3 hc2) (hL.1 S) rfl rfl rfl (Nat.le_of_ble_eq_true rfl) ?_
      refine zv_istore dX0_findShortestWays_36 (by decide) ?_
      refine zv_aload_n dX0_findShortestWays_38 rfl rfl ?_
      refine zv_iload_n dX0_findShortestWays_39 rfl rfl ?_
      refine zv_iload_n dX0_findShortestWays_40 rfl rfl ?_
      obtain ⟨x5, hc4, hf⟩ := zbind hf
      refine zv_callV dX0_findShortestWays_41 zk_X0_133 zm_X0_daysBetween (c_X0_daysBetween hL d (by omega) S a1 a3 x5 hc4) (hL.1 S) rfl rfl rfl (Nat.le_of_ble_eq_true rfl) ?_
      refine zv_istore dX0_findShortestWays_44 (by decide) ?_
      refine zv_iload dX0_findShortestWays_46 rfl ?_
      refine zv_bipush (v := -9) dX0_findShortestWays_48 (by decide) ?_
      refine zv_icmp_eq (tgt := 71) dX0_findShortestWays_50 (by decide) (fun c6 => ?_) (fun c6 => ?_)
      · replace hf := (if_pos c6).symm.trans hf
        exact zV_sub ([(0, .ref r), (1, .int a1), (2, .int a2), (3, .int a3)]) ⟨rfl, rfl, rfl, rfl, trivial⟩ (v_X0_findShortestWays_71 hL d (by omega) k2 hk2 k12 hk12 (f_X0_findShortestWays_22 k2 k12 r n) ih S a1 a2 a3 _ hf)
      · replace hf := (if_neg c6).symm.trans hf
        refine zv_iload dX0_findShortestWays_53 rfl ?_
        refine zv_bipush (v := -9) dX0_findShortestWays_55 (by decide) ?_
        refine zv_icmp_eq (tgt := 71) dX0_findShortestWays_57 (by decide) (fun c7 => ?_) (fun c7 => ?_)
        · replace hf := (if_pos c7).symm.trans hf
          exact zV_sub ([(0, .ref r), (1, .int a1), (2, .int a2), (3, .int a3)]) ⟨rfl, rfl, rfl, rfl, trivial⟩ (v_X0_findShortestWays_71 hL d (by omega) k2 hk2 k12 hk12 (f_X0_findShortestWays_22 k2 k12 r n) ih S a1 a2 a3 _ hf)
        · replace hf := (if_neg c7).symm.trans hf
          refine zv_aload_n dX0_findShortestWays_60 rfl rfl ?_
          refine zv_iload_n dX0_findShortestWays_61 rfl rfl ?_
          refine zv_iload_n dX0_findShortestWays_62 rfl rfl ?_
          refine zv_iload dX0_findShortestWays_63 rfl ?_
          refine zv_iload dX0_findShortestWays_65 rfl ?_
          refine zv_iadd dX0_findShortestWays_67 ?_
          obtain ⟨S9, hc8, hf⟩ := zbind hf
          refine zv_callV dX0_findShortestWays_68 zk_X0_120 zm_X0_shortenWay (c_X0_shortenWay hL d (by omega) S a2 a3 (x3 + x5) S9 hc8) (hL.1 S) rfl rfl rfl (Nat.le_of_ble_eq_true rfl) ?_
          exact zV_sub ([(0, .ref r), (1, .int a1), (2, .int a2), (3, .int a3)]) ⟨rfl, rfl, rfl, rfl, trivial⟩ (v_X0_findShortestWays_71 hL d (by omega) k2 hk2 k12 hk12 (f_X0_findShortestWays_22 k2 k12 r n) ih S9 a1 a2 a3 _ hf)
def f_X0_findShortestWays_12 (k2 : zS → Int32 → Option zS) (r : Nat) : Nat → zS → Int32 → Int32 → Option zS
  | 0, _, _, _ => none
  | n + 1, S, a1, a2 => (if (S.1 r 6) ≤ a2 then k2 S (a1 + (1 : Int32)) else f_X0_findShortestWays_22 k2 (f_X0_findShortestWays_12 k2 r n) r zN S a1 a2 (0 : Int32))
set_option maxRecDepth 100000 in
set_option maxHeartbeats 4000000 in
theorem v_X0_findShortestWays_12 {W : zS → List va_E} {r : Nat} (hL : zLand W r) (d : Nat) (hd : 1 ≤ d) (k2 : zS → Int32 → Option zS) (hk2 : ∀ (S : zS) (a1 : Int32) S', k2 S a1 = (some S') → zV none (d + 1) yX0_findShortestWays cX0_findShortestWays 6 none 2 [(0, .ref r), (1, .int a1)] [] (W S) (zq none (W S'))) : ∀ (n : Nat) (S : zS) (a1 : Int32) (a2 : Int32) (S' : zS), f_X0_findShortestWays_12 k2 r n S a1 a2 = (some S') → zV none (d + 1) yX0_findShortestWays cX0_findShortestWays 6 none 12 [(0, .ref r), (1, .int a1), (2, .int a2)] [] (W S) (zq none (W S')) := by
  intro n
  induction n with
  | zero =>
    intro S a1 a2 S' hf
    cases hf
  | succ n ih =>
    intro S a1 a2 S' hf
    rw [f_X0_findShortestWays_12] at hf
    refine zv_iload_n dX0_findShortestWays_12 rfl rfl ?_
    refine zv_aload_n dX0_findShortestWays_13 rfl rfl ?_
    refine zv_get zf_X0_33 (hL.1 S) rfl dX0_findShortestWays_14 ?_
    refine zv_icmp_ge (tgt := 83) dX0_findShortestWays_17 (by decide) (fun c1 => ?_) (fun c1 => ?_)
    · replace hf := (if_pos c1).symm.trans hf
      refine zv_iinc (v := 1) dX0_findShortestWays_83 rfl (by decide) (by decide) ?_
      refine zv_goto (tgt := 2) dX0_findShortestWays_86 (by decide) ?_
      exact zV_sub ([(0, .ref r), (1, .int (a1 + (1 : Int32)))]) ⟨rfl, rfl, trivial⟩ (hk2 S (a1 + (1 : Int32)) _ hf)
    · replace hf := (if_neg c1).symm.trans hf
      refine zv_iconst (v := 0) dX0_findShortestWays_20 (by decide) ?_
      refine zv_istore_n dX0_findShortestWays_21 rfl (by decide) ?_
      exact zV_sub ([(0, .ref r), (1, .int a1), (2, .int a2), (3, .int (0 : Int32))]) ⟨rfl, rfl, rfl, rfl, trivial⟩ (v_X0_findShortestWays_22 hL d (by omega) k2 hk2 (f_X0_findShortestWays_12 k2 r n) ih zN S a1 a2 (0 : Int32) _ hf)
def f_X0_findShortestWays_2 (r : Nat) : Nat → zS → Int32 → Option zS
  | 0, _, _ => none
  | n + 1, S, a1 => (if (S.1 r 6) ≤ a1 then some S else f_X0_findShortestWays_12 (f_X0_findShortestWays_2 r n) r zN S a1 (0 : Int32))
set_option maxRecDepth 100000 in
set_option maxHeartbeats 4000000 in
theorem v_X0_findShortestWays_2 {W : zS → List va_E} {r : Nat} (hL : zLand W r) (d : Nat) (hd : 1 ≤ d) : ∀ (n : Nat) (S : zS) (a1 : Int32) (S' : zS), f_X0_findShortestWays_2 r n S a1 = (some S') → zV none (d + 1) yX0_findShortestWays cX0_findShortestWays 6 none 2 [(0, .ref r), (1, .int a1)] [] (W S) (zq none (W S')) := by
  intro n
  induction n with
  | zero =>
    intro S a1 S' hf
    cases hf
  | succ n ih =>
    intro S a1 S' hf
    rw [f_X0_findShortestWays_2] at hf
    refine zv_iload_n dX0_findShortestWays_2 rfl rfl ?_
    refine zv_aload_n dX0_findShortestWays_3 rfl rfl ?_
    refine zv_get zf_X0_33 (hL.1 S) rfl dX0_findShortestWays_4 ?_
    refine zv_icmp_ge (tgt := 89) dX0_findShortestWays_7 (by decide) (fun c1 => ?_) (fun c1 => ?_)
    · replace hf := (if_pos c1).symm.trans hf
      exact zv_vret dX0_findShortestWays_89 rfl (zret0 W hf)
    · replace hf := (if_neg c1).symm.trans hf
      refine zv_iconst (v := 0) dX0_findShortestWays_10 (by decide) ?_
      refine zv_istore_n dX0_findShortestWays_11 rfl (by decide) ?_
      exact zV_sub ([(0, .ref r), (1, .int a1), (2, .int (0 : Int32))]) ⟨rfl, rfl, rfl, trivial⟩ (v_X0_findShortestWays_12 hL d (by omega) (f_X0_findShortestWays_2 r n) ih zN S a1 (0 : Int32) _ hf)
def f_X0_findShortestWays (S : zS) (r : Nat) : Option zS :=
  f_X0_findShortestWays_2 r zN S (0 : Int32)
set_option maxRecDepth 100000 in
set_option maxHeartbeats 4000000 in
theorem c_X0_findShortestWays {W : zS → List va_E} {r : Nat} (hL : zLand W r) (d : Nat) (hd : 2 ≤ d) (S : zS) (S' : zS) (hf : f_X0_findShortestWays S r = (some S')) : zC d yX0_findShortestWays cX0_findShortestWays 6 none [.ref r] (W S) (zq none (W S')) := by
  obtain ⟨d, rfl⟩ : ∃ e, d = e + 1 := ⟨d - 1, by omega⟩
  refine zC_intro (by decide) rfl (Nat.le_of_ble_eq_true rfl) ?_
  unfold f_X0_findShortestWays at hf
  refine zv_iconst (v := 0) dX0_findShortestWays_0 (by decide) ?_
  refine zv_istore_n dX0_findShortestWays_1 rfl (by decide) ?_
  exact zV_sub ([(0, .ref r), (1, .int (0 : Int32))]) ⟨rfl, rfl, trivial⟩ (v_X0_findShortestWays_2 hL d (by omega) zN S (0 : Int32) _ hf)
-- KingPrices$Land.hasCharter(I)Z height 1 reads
def f_X0_hasCharter (S : zS) (r : Nat) (a1 : Int32) : Option Int32 :=
  ((f_X0_knows S r a1).bind (fun x2 => (if x2 = 0 then some ((0 : Int32)) else (if zin a1 6 then (if (S.1 (r + 3) (a1).toNatClampNeg) = (1 : Int32) then some ((1 : Int32)) else some ((0 : Int32))) else none))))
set_option maxRecDepth 100000 in
set_option maxHeartbeats 4000000 in
theorem c_X0_hasCharter {W : zS → List va_E} {r : Nat} (hL : zLand W r) (d : Nat) (hd : 1 ≤ d) (S : zS) (a1 : Int32) (v : Int32) (hf : f_X0_hasCharter S r a1 = (some v)) : zC d yX0_hasCharter cX0_hasCharter 2 (some .boolean) [.ref r, .int a1] (W S) (zq (some (.int v)) (W S)) := by
  obtain ⟨d, rfl⟩ : ∃ e, d = e + 1 := ⟨d - 1, by omega⟩
  refine zC_intro (by decide) rfl (Nat.le_of_ble_eq_true rfl) ?_
  unfold f_X0_hasCharter at hf
  refine zv_aload_n dX0_hasCharter_0 rfl rfl ?_
  refine zv_iload_n dX0_hasCharter_1 rfl rfl ?_
  obtain ⟨x2, hc1, hf⟩ := zbind hf
  refine zv_callV dX0_hasCharter_2 zk_X0_58 zm_X0_knows (c_X0_knows hL d S a1 x2 hc1) (hL.1 S) rfl rfl rfl (Nat.le_of_ble_eq_true rfl) ?_
  refine zv_if_eq (tgt := 22) dX0_hasCharter_5 (by decide) (fun c3 => ?_) (fun c3 => ?_)
  · replace hf := (if_pos c3).symm.trans hf
    refine zv_iconst (v := 0) dX0_hasCharter_22 (by decide) ?_
    exact zv_iret (ty := .boolean) dX0_hasCharter_23 rfl rfl (zret1 hf)
  · replace hf := (if_neg c3).symm.trans hf
    refine zv_aload_n dX0_hasCharter_8 rfl rfl ?_
    refine zv_get zf_X0_18 (hL.1 S) rfl dX0_hasCharter_9 ?_
    refine zv_iload_n dX0_hasCharter_12 rfl rfl ?_
    obtain ⟨hb4, hf⟩ := zifb hf
    refine zv_iald hb4 (hL.a3 S) dX0_hasCharter_13 ?_
    refine zv_iconst (v := 1) dX0_hasCharter_14 (by decide) ?_
    refine zv_icmp_ne (tgt := 22) dX0_hasCharter_15 (by decide) (fun c5 => ?_) (fun c5 => ?_)
    · replace hf := (if_neg c5).symm.trans hf
      refine zv_iconst (v := 0) dX0_hasCharter_22 (by decide) ?_
      exact zv_iret (ty := .boolean) dX0_hasCharter_23 rfl rfl (zret1 hf)
    · replace hf := (if_pos c5).symm.trans hf
      refine zv_iconst (v := 1) dX0_hasCharter_18 (by decide) ?_
      refine zv_goto (tgt := 23) dX0_hasCharter_19 (by decide) ?_
      exact zv_iret (ty := .boolean) dX0_hasCharter_23 rfl rfl (zret1 hf)
-- KingPrices$Land.hensOf(I)I height 1 reads
def f_X0_hensOf (S : zS) (r : Nat) (a1 : Int32) : Option Int32 :=
  ((f_X0_knows S r a1).bind (fun x2 => (if x2 = 0 then some ((0 : Int32)) else (if zin a1 6 then some ((S.1 (r + 1) (a1).toNatClampNeg)) else none))))
set_option maxRecDepth 100000 in
set_option maxHeartbeats 4000000 in
theorem c_X0_hensOf {W : zS → List va_E} {r : Nat} (hL : zLand W r) (d : Nat) (hd : 1 ≤ d) (S : zS) (a1 : Int32) (v : Int32) (hf : f_X0_hensOf S r a1 = (some v)) : zC d yX0_hensOf cX0_hensOf 2 (some .int) [.ref r, .int a1] (W S) (zq (some (.int v)) (W S)) := by
  obtain ⟨d, rfl⟩ : ∃ e, d = e + 1 := ⟨d - 1, by omega⟩
  refine zC_intro (by decide) rfl (Nat.le_of_ble_eq_true rfl) ?_
  unfold f_X0_hensOf at hf
  refine zv_aload_n dX0_hensOf_0 rfl rfl ?_
  refine zv_iload_n dX0_hensOf_1 rfl rfl ?_
  obtain ⟨x2, hc1, hf⟩ := zbind hf
  refine zv_callV dX0_hensOf_2 zk_X0_58 zm_X0_knows (c_X0_knows hL d S a1 x2 hc1) (hL.1 S) rfl rfl rfl (Nat.le_of_ble_eq_true rfl) ?_
  refine zv_if_eq (tgt := 17) dX0_hensOf_5 (by decide) (fun c3 => ?_) (fun c3 => ?_)
  · replace hf := (if_pos c3).symm.trans hf
    refine zv_iconst (v := 0) dX0_hensOf_17 (by decide) ?_
    exact zv_iret (ty := .int) dX0_hensOf_18 rfl rfl (zret1 hf)
  · replace hf := (if_neg c3).symm.trans hf
    refine zv_aload_n dX0_hensOf_8 rfl rfl ?_
    refine zv_get zf_X0_9 (hL.1 S) rfl dX0_hensOf_9 ?_
    refine zv_iload_n dX0_hensOf_12 rfl rfl ?_
    obtain ⟨hb4, hf⟩ := zifb hf
    refine zv_iald hb4 (hL.a1 S) dX0_hensOf_13 ?_
    refine zv_goto (tgt := 18) dX0_hensOf_14 (by decide) ?_
    exact zv_iret (ty := .int) dX0_hensOf_18 rfl rfl (zret1 hf)
-- KingPrices$Land.isToldOnce(I)Z height 0 reads
def f_X0_isToldOnce (a0 : Int32) : Option Int32 :=
  (if a0 = (109 : Int32) then some ((1 : Int32)) else (if a0 = (119 : Int32) then some ((1 : Int32)) else (if a0 = (98 : Int32) then some ((1 : Int32)) else some ((0 : Int32)))))
set_option maxRecDepth 100000 in
set_option maxHeartbeats 4000000 in
theorem c_X0_isToldOnce {h : List va_E} (d : Nat) (a0 : Int32) (v : Int32) (hf : f_X0_isToldOnce a0 = (some v)) : zC d yX0_isToldOnce cX0_isToldOnce 1 (some .boolean) [.int a0] h (zq (some (.int v)) h) := by
  refine zC_intro (by decide) rfl (Nat.le_of_ble_eq_true rfl) ?_
  unfold f_X0_isToldOnce at hf
  refine zv_iload_n dX0_isToldOnce_0 rfl rfl ?_
  refine zv_bipush (v := 109) dX0_isToldOnce_1 (by decide) ?_
  refine zv_icmp_eq (tgt := 18) dX0_isToldOnce_3 (by decide) (fun c1 => ?_) (fun c1 => ?_)
  · replace hf := (if_pos c1).symm.trans hf
    refine zv_iconst (v := 1) dX0_isToldOnce_18 (by decide) ?_
    refine zv_goto (tgt := 23) dX0_isToldOnce_19 (by decide) ?_
    exact zv_iret (ty := .boolean) dX0_isToldOnce_23 rfl rfl (zret1 hf)
  · replace hf := (if_neg c1).symm.trans hf
    refine zv_iload_n dX0_isToldOnce_6 rfl rfl ?_
    refine zv_bipush (v := 119) dX0_isToldOnce_7 (by decide) ?_
    refine zv_icmp_eq (tgt := 18) dX0_isToldOnce_9 (by decide) (fun c2 => ?_) (fun c2 => ?_)
    · replace hf := (if_pos c2).symm.trans hf
      refine zv_iconst (v := 1) dX0_isToldOnce_18 (by decide) ?_
      refine zv_goto (tgt := 23) dX0_isToldOnce_19 (by decide) ?_
      exact zv_iret (ty := .boolean) dX0_isToldOnce_23 rfl rfl (zret1 hf)
    · replace hf := (if_neg c2).symm.trans hf
      refine zv_iload_n dX0_isToldOnce_12 rfl rfl ?_
      refine zv_bipush (v := 98) dX0_isToldOnce_13 (by decide) ?_
      refine zv_icmp_ne (tgt := 22) dX0_isToldOnce_15 (by decide) (fun c3 => ?_) (fun c3 => ?_)
      · replace hf := (if_neg c3).symm.trans hf
        refine zv_iconst (v := 0) dX0_isToldOnce_22 (by decide) ?_
        exact zv_iret (ty := .boolean) dX0_isToldOnce_23 rfl rfl (zret1 hf)
      · replace hf := (if_pos c3).symm.trans hf
        refine zv_iconst (v := 1) dX0_isToldOnce_18 (by decide) ?_
        refine zv_goto (tgt := 23) dX0_isToldOnce_19 (by decide) ?_
        exact zv_iret (ty := .boolean) dX0_isToldOnce_23 rfl rfl (zret1 hf)
-- KingPrices$Land.mayBeEnd(II)Z height 1 reads
def f_X0_mayBeEnd (S : zS) (r : Nat) (a1 : Int32) (a2 : Int32) : Option Int32 :=
  ((f_X0_knows S r a2).bind (fun x2 => (if x2 = 0 then some ((0 : Int32)) else (if a1 = 0 then some ((1 : Int32)) else (if a2 = (S.1 (r + 6) 0) then some ((0 : Int32)) else some ((1 : Int32)))))))
set_option maxRecDepth 100000 in
set_option maxHeartbeats 4000000 in
theorem c_X0_mayBeEnd {W : zS → List va_E} {r : Nat} (hL : zLand W r) (d : Nat) (hd : 1 ≤ d) (S : zS) (a1 : Int32) (a2 : Int32) (v : Int32) (hf : f_X0_mayBeEnd S r a1 a2 = (some v)) : zC d yX0_mayBeEnd cX0_mayBeEnd 3 (some .boolean) [.ref r, .int a1, .int a2] (W S) (zq (some (.int v)) (W S)) := by
  obtain ⟨d, rfl⟩ : ∃ e, d = e + 1 := ⟨d - 1, by omega⟩
  refine zC_intro (by decide) rfl (Nat.le_of_ble_eq_true rfl) ?_
  unfold f_X0_mayBeEnd at hf
  refine zv_aload_n dX0_mayBeEnd_0 rfl rfl ?_
  refine zv_iload_n dX0_mayBeEnd_1 rfl rfl ?_
  obtain ⟨x2, hc1, hf⟩ := zbind hf
  refine zv_callV dX0_mayBeEnd_2 zk_X0_58 zm_X0_knows (c_X0_knows hL d S a2 x2 hc1) (hL.1 S) rfl rfl rfl (Nat.le_of_ble_eq_true rfl) ?_
  refine zv_if_eq (tgt := 26) dX0_mayBeEnd_5 (by decide) (fun c3 => ?_) (fun c3 => ?_)
  · replace hf := (if_pos c3).symm.trans hf
    refine zv_iconst (v := 0) dX0_mayBeEnd_26 (by decide) ?_
    exact zv_iret (ty := .boolean) dX0_mayBeEnd_27 rfl rfl (zret1 hf)
  · replace hf := (if_neg c3).symm.trans hf
    refine zv_iload_n dX0_mayBeEnd_8 rfl rfl ?_
    refine zv_if_eq (tgt := 22) dX0_mayBeEnd_9 (by decide) (fun c4 => ?_) (fun c4 => ?_)
    · replace hf := (if_pos c4).symm.trans hf
      refine zv_iconst (v := 1) dX0_mayBeEnd_22 (by decide) ?_
      refine zv_goto (tgt := 27) dX0_mayBeEnd_23 (by decide) ?_
      exact zv_iret (ty := .boolean) dX0_mayBeEnd_27 rfl rfl (zret1 hf)
    · replace hf := (if_neg c4).symm.trans hf
      refine zv_iload_n dX0_mayBeEnd_12 rfl rfl ?_
      refine zv_aload_n dX0_mayBeEnd_13 rfl rfl ?_
      refine zv_get zf_X0_27 (hL.1 S) rfl dX0_mayBeEnd_14 ?_
      refine zv_iconst (v := 0) dX0_mayBeEnd_17 (by decide) ?_
      refine zv_ialdK (k := 0) (by decide) (by decide) (hL.a6 S) dX0_mayBeEnd_18 ?_
      refine zv_icmp_eq (tgt := 26) dX0_mayBeEnd_19 (by decide) (fun c5 => ?_) (fun c5 => ?_)
      · replace hf := (if_pos c5).symm.trans hf
        refine zv_iconst (v := 0) dX0_mayBeEnd_26 (by decide) ?_
        exact zv_iret (ty := .boolean) dX0_mayBeEnd_27 rfl rfl (zret1 hf)
      · replace hf := (if_neg c5).symm.trans hf
        refine zv_iconst (v := 1) dX0_mayBeEnd_22 (by decide) ?_
        refine zv_goto (tgt := 27) dX0_mayBeEnd_23 (by decide) ?_
        exact zv_iret (ty := .boolean) dX0_mayBeEnd_27 rfl rfl (zret1 hf)
-- KingPrices.isWithin(III)Z height 0 reads
def f_X5_isWithin (a0 : Int32) (a1 : Int32) (a2 : Int32) : Option Int32 :=
  (if a0 < a1 then some ((0 : Int32)) else (if a2 < a0 then some ((0 : Int32)) else some ((1 : Int32))))
set_option maxRecDepth 100000 in
set_option maxHeartbeats 4000000 in
theorem c_X5_isWithin {h : List va_E} (d : Nat) (a0 : Int32) (a1 : Int32) (a2 : Int32) (v : Int32) (hf : f_X5_isWithin a0 a1 a2 = (some v)) : zC d yX5_isWithin cX5_isWithin 3 (some .boolean) [.int a0, .int a1, .int a2] h (zq (some (.int v)) h) := by
  refine zC_intro (by decide) rfl (Nat.le_of_ble_eq_true rfl) ?_
  unfold f_X5_isWithin at hf
  refine zv_iload_n dX5_isWithin_0 rfl rfl ?_
  refine zv_iload_n dX5_isWithin_1 rfl rfl ?_
  refine zv_icmp_gt (tgt := 14) dX5_isWithin_2 (by decide) (fun c1 => ?_) (fun c1 => ?_)
  · replace hf := (if_pos c1).symm.trans hf
    refine zv_iconst (v := 0) dX5_isWithin_14 (by decide) ?_
    exact zv_iret (ty := .boolean) dX5_isWithin_15 rfl rfl (zret1 hf)
  · replace hf := (if_neg c1).symm.trans hf
    refine zv_iload_n dX5_isWithin_5 rfl rfl ?_
    refine zv_iload_n dX5_isWithin_6 rfl rfl ?_
    refine zv_icmp_gt (tgt := 14) dX5_isWithin_7 (by decide) (fun c2 => ?_) (fun c2 => ?_)
    · replace hf := (if_pos c2).symm.trans hf
      refine zv_iconst (v := 0) dX5_isWithin_14 (by decide) ?_
      exact zv_iret (ty := .boolean) dX5_isWithin_15 rfl rfl (zret1 hf)
    · replace hf := (if_neg c2).symm.trans hf
      refine zv_iconst (v := 1) dX5_isWithin_10 (by decide) ?_
      refine zv_goto (tgt := 15) dX5_isWithin_11 (by decide) ?_
      exact zv_iret (ty := .boolean) dX5_isWithin_15 rfl rfl (zret1 hf)
-- KingPrices$Land.mayBeTold(III)Z height 2 reads
def f_X0_mayBeTold (S : zS) (r : Nat) (a1 : Int32) (a2 : Int32) (a3 : Int32) : Option Int32 :=
  (if a1 = 100 then (if (2 : Int32) ≤ a2 then ((f_X5_isWithin a3 (1 : Int32) (99 : Int32)).bind (fun x4 => (if zbl x4 then some x4 else none))) else ((f_X0_mayBeEnd S r a2 a3).bind (fun x7 => (if zbl x7 then some x7 else none)))) else (if a1 = 109 then ((f_X5_isWithin a3 (1 : Int32) (9 : Int32)).bind (fun x11 => (if zbl x11 then some x11 else none))) else (if a1 = 114 then (if (2 : Int32) ≤ a2 then ((f_X5_isWithin a3 (1 : Int32) (9 : Int32)).bind (fun x16 => (if zbl x16 then some x16 else none))) else ((f_X0_mayBeEnd S r a2 a3).bind (fun x19 => (if zbl x19 then some x19 else none)))) else (if a1 = 118 then (if (2 : Int32) ≤ a2 then (if (1 : Int32) < a3 then some ((0 : Int32)) else some ((1 : Int32))) else (if (60 : Int32) < a3 then some ((0 : Int32)) else some ((1 : Int32)))) else (if a1 = 119 then (if (10 : Int32) < a3 then some ((0 : Int32)) else some ((1 : Int32))) else (if (99 : Int32) < a3 then some ((0 : Int32)) else some ((1 : Int32))))))))
set_option maxRecDepth 100000 in
set_option maxHeartbeats 4000000 in
theorem c_X0_mayBeTold {W : zS → List va_E} {r : Nat} (hL : zLand W r) (d : Nat) (hd : 2 ≤ d) (S : zS) (a1 : Int32) (a2 : Int32) (a3 : Int32) (v : Int32) (hf : f_X0_mayBeTold S r a1 a2 a3 = (some v)) : zC d yX0_mayBeTold cX0_mayBeTold 4 (some .boolean) [.ref r, .int a1, .int a2, .int a3] (W S) (zq (some (.int v)) (W S)) := by
  obtain ⟨d, rfl⟩ : ∃ e, d = e + 1 := ⟨d - 1, by omega⟩
  refine zC_intro (by decide) rfl (Nat.le_of_ble_eq_true rfl) ?_
  unfold f_X0_mayBeTold at hf
  refine zv_iload_n dX0_mayBeTold_0 rfl rfl ?_
  by_cases c1 : a1 = 100
  · replace hf := (if_pos c1).symm.trans hf
    refine zv_lookup (off := 94) (tgt := 95) dX0_mayBeTold_1 (by decide) (by rw [c1]; decide) (by decide) ?_
    refine zv_iload_n dX0_mayBeTold_95 rfl rfl ?_
    refine zv_iconst (v := 2) dX0_mayBeTold_96 (by decide) ?_
    refine zv_icmp_ge (tgt := 109) dX0_mayBeTold_97 (by decide) (fun c2 => ?_) (fun c2 => ?_)
    · replace hf := (if_pos c2).symm.trans hf
      refine zv_iload_n dX0_mayBeTold_109 rfl rfl ?_
      refine zv_iconst (v := 1) dX0_mayBeTold_110 (by decide) ?_
      refine zv_bipush (v := 99) dX0_mayBeTold_111 (by decide) ?_
      obtain ⟨x4, hc3, hf⟩ := zbind hf
      refine zv_callSN dX0_mayBeTold_113 zk_X0_108 zm_X5_isWithin (c_X5_isWithin  d a3 (1 : Int32) (99 : Int32) x4 hc3) rfl rfl (Nat.le_of_ble_eq_true rfl) ?_
      obtain ⟨hb5, hf⟩ := zifb hf
      exact zv_iret (ty := .boolean) dX0_mayBeTold_116 rfl (zbl_n hb5) (zret1 hf)
    · replace hf := (if_neg c2).symm.trans hf
      refine zv_aload_n dX0_mayBeTold_100 rfl rfl ?_
      refine zv_iload_n dX0_mayBeTold_101 rfl rfl ?_
      refine zv_iload_n dX0_mayBeTold_102 rfl rfl ?_
      obtain ⟨x7, hc6, hf⟩ := zbind hf
      refine zv_callV dX0_mayBeTold_103 zk_X0_104 zm_X0_mayBeEnd (c_X0_mayBeEnd hL d (by omega) S a2 a3 x7 hc6) (hL.1 S) rfl rfl rfl (Nat.le_of_ble_eq_true rfl) ?_
      refine zv_goto (tgt := 116) dX0_mayBeTold_106 (by decide) ?_
      obtain ⟨hb8, hf⟩ := zifb hf
      exact zv_iret (ty := .boolean) dX0_mayBeTold_116 rfl (zbl_n hb8) (zret1 hf)
  replace hf := (if_neg c1).symm.trans hf
  by_cases c9 : a1 = 109
  · replace hf := (if_pos c9).symm.trans hf
    refine zv_lookup (off := 116) (tgt := 117) dX0_mayBeTold_1 (by decide) (by rw [c9]; decide) (by decide) ?_
    refine zv_iload_n dX0_mayBeTold_117 rfl rfl ?_
    refine zv_iconst (v := 1) dX0_mayBeTold_118 (by decide) ?_
    refine zv_bipush (v := 9) dX0_mayBeTold_119 (by decide) ?_
    obtain ⟨x11, hc10, hf⟩ := zbind hf
    refine zv_callSN dX0_mayBeTold_121 zk_X0_108 zm_X5_isWithin (c_X5_isWithin  d a3 (1 : Int32) (9 : Int32) x11 hc10) rfl rfl (Nat.le_of_ble_eq_true rfl) ?_
    obtain ⟨hb12, hf⟩ := zifb hf
    exact zv_iret (ty := .boolean) dX0_mayBeTold_124 rfl (zbl_n hb12) (zret1 hf)
  replace hf := (if_neg c9).symm.trans hf
  by_cases c13 : a1 = 114
  · replace hf := (if_pos c13).symm.trans hf
    refine zv_lookup (off := 72) (tgt := 73) dX0_mayBeTold_1 (by decide) (by rw [c13]; decide) (by decide) ?_
    refine zv_iload_n dX0_mayBeTold_73 rfl rfl ?_
    refine zv_iconst (v := 2) dX0_mayBeTold_74 (by decide) ?_
    refine zv_icmp_ge (tgt := 87) dX0_mayBeTold_75 (by decide) (fun c14 => ?_) (fun c14 => ?_)
    · replace hf := (if_pos c14).symm.trans hf
      refine zv_iload_n dX0_mayBeTold_87 rfl rfl ?_
      refine zv_iconst (v := 1) dX0_mayBeTold_88 (by decide) ?_
      refine zv_bipush (v := 9) dX0_mayBeTold_89 (by decide) ?_
      obtain ⟨x16, hc15, hf⟩ := zbind hf
      refine zv_callSN dX0_mayBeTold_91 zk_X0_108 zm_X5_isWithin (c_X5_isWithin  d a3 (1 : Int32) (9 : Int32) x16 hc15) rfl rfl (Nat.le_of_ble_eq_true rfl) ?_
      obtain ⟨hb17, hf⟩ := zifb hf
      exact zv_iret (ty := .boolean) dX0_mayBeTold_94 rfl (zbl_n hb17) (zret1 hf)
    · replace hf := (if_neg c14).symm.trans hf
      refine zv_aload_n dX0_mayBeTold_78 rfl rfl ?_
      refine zv_iload_n dX0_mayBeTold_79 rfl rfl ?_
      refine zv_iload_n dX0_mayBeTold_80 rfl rfl ?_
      obtain ⟨x19, hc18, hf⟩ := zbind hf
      refine zv_callV dX0_mayBeTold_81 zk_X0_104 zm_X0_mayBeEnd (c_X0_mayBeEnd hL d (by omega) S a2 a3 x19 hc18) (hL.1 S) rfl rfl rfl (Nat.le_of_ble_eq_true rfl) ?_
      refine zv_goto (tgt := 94) dX0_mayBeTold_84 (by decide) ?_
      obtain ⟨hb20, hf⟩ := zifb hf
      exact zv_iret (ty := .boolean) dX0_mayBeTold_94 rfl (zbl_n hb20) (zret1 hf)
  replace hf := (if_neg c13).symm.trans hf
  by_cases c21 : a1 = 118
  · replace hf := (if_pos c21).symm.trans hf
    refine zv_lookup (off := 51) (tgt := 52) dX0_mayBeTold_1 (by decide) (by rw [c21]; decide) (by decide) ?_
    refine zv_iload_n dX0_mayBeTold_52 rfl rfl ?_
    refine zv_iload_n dX0_mayBeTold_53 rfl rfl ?_
    refine zv_iconst (v := 2) dX0_mayBeTold_54 (by decide) ?_
    refine zv_icmp_ge (tgt := 63) dX0_mayBeTold_55 (by decide) (fun c22 => ?_) (fun c22 => ?_)
    · replace hf := (if_pos c22).symm.trans hf
      refine zv_iconst (v := 1) dX0_mayBeTold_63 (by decide) ?_
      refine zv_icmp_gt (tgt := 71) dX0_mayBeTold_64 (by decide) (fun c23 => ?_) (fun c23 => ?_)
      · replace hf := (if_pos c23).symm.trans hf
        refine zv_iconst (v := 0) dX0_mayBeTold_71 (by decide) ?_
        exact zv_iret (ty := .boolean) dX0_mayBeTold_72 rfl rfl (zret1 hf)
      · replace hf := (if_neg c23).symm.trans hf
        refine zv_iconst (v := 1) dX0_mayBeTold_67 (by decide) ?_
        refine zv_goto (tgt := 72) dX0_mayBeTold_68 (by decide) ?_
        exact zv_iret (ty := .boolean) dX0_mayBeTold_72 rfl rfl (zret1 hf)
    · replace hf := (if_neg c22).symm.trans hf
      refine zv_bipush (v := 60) dX0_mayBeTold_58 (by decide) ?_
      refine zv_goto (tgt := 64) dX0_mayBeTold_60 (by decide) ?_
      refine zv_icmp_gt (tgt := 71) dX0_mayBeTold_64 (by decide) (fun c24 => ?_) (fun c24 => ?_)
      · replace hf := (if_pos c24).symm.trans hf
        refine zv_iconst (v := 0) dX0_mayBeTold_71 (by decide) ?_
        exact zv_iret (ty := .boolean) dX0_mayBeTold_72 rfl rfl (zret1 hf)
      · replace hf := (if_neg c24).symm.trans hf
        refine zv_iconst (v := 1) dX0_mayBeTold_67 (by decide) ?_
        refine zv_goto (tgt := 72) dX0_mayBeTold_68 (by decide) ?_
        exact zv_iret (ty := .boolean) dX0_mayBeTold_72 rfl rfl (zret1 hf)
  replace hf := (if_neg c21).symm.trans hf
  by_cases c25 : a1 = 119
  · replace hf := (if_pos c25).symm.trans hf
    refine zv_lookup (off := 124) (tgt := 125) dX0_mayBeTold_1 (by decide) (by rw [c25]; decide) (by decide) ?_
    refine zv_iload_n dX0_mayBeTold_125 rfl rfl ?_
    refine zv_bipush (v := 10) dX0_mayBeTold_126 (by decide) ?_
    refine zv_icmp_gt (tgt := 135) dX0_mayBeTold_128 (by decide) (fun c26 => ?_) (fun c26 => ?_)
    · replace hf := (if_pos c26).symm.trans hf
      refine zv_iconst (v := 0) dX0_mayBeTold_135 (by decide) ?_
      exact zv_iret (ty := .boolean) dX0_mayBeTold_136 rfl rfl (zret1 hf)
    · replace hf := (if_neg c26).symm.trans hf
      refine zv_iconst (v := 1) dX0_mayBeTold_131 (by decide) ?_
      refine zv_goto (tgt := 136) dX0_mayBeTold_132 (by decide) ?_
      exact zv_iret (ty := .boolean) dX0_mayBeTold_136 rfl rfl (zret1 hf)
  replace hf := (if_neg c25).symm.trans hf
  refine zv_lookup (off := 136) (tgt := 137) dX0_mayBeTold_1 (by decide) ((lv_osw c1 (by decide)).trans ((lv_osw c9 (by decide)).trans ((lv_osw c13 (by decide)).trans ((lv_osw c21 (by decide)).trans ((lv_osw c25 (by decide)).trans rfl))))) (by decide) ?_
  refine zv_iload_n dX0_mayBeTold_137 rfl rfl ?_
  refine zv_bipush (v := 99) dX0_mayBeTold_138 (by decide) ?_
  refine zv_icmp_gt (tgt := 147) dX0_mayBeTold_140 (by decide) (fun c27 => ?_) (fun c27 => ?_)
  · replace hf := (if_pos c27).symm.trans hf
    refine zv_iconst (v := 0) dX0_mayBeTold_147 (by decide) ?_
    exact zv_iret (ty := .boolean) dX0_mayBeTold_148 rfl rfl (zret1 hf)
  · replace hf := (if_neg c27).symm.trans hf
    refine zv_iconst (v := 1) dX0_mayBeTold_143 (by decide) ?_
    refine zv_goto (tgt := 148) dX0_mayBeTold_144 (by decide) ?_
    exact zv_iret (ty := .boolean) dX0_mayBeTold_148 rfl rfl (zret1 hf)
-- KingPrices$Land.mayBegin(I)Z height 1 reads
def f_X0_mayBegin (S : zS) (r : Nat) (a1 : Int32) : Option Int32 :=
  (if a1 = 100 then some ((1 : Int32)) else (if a1 = 114 then (if (10 : Int32) ≤ (S.1 r 7) then some ((0 : Int32)) else some ((1 : Int32))) else (if a1 = 118 then (if (6 : Int32) ≤ (S.1 r 6) then some ((0 : Int32)) else some ((1 : Int32))) else ((f_X0_isToldOnce a1).bind (fun x7 => (if x7 = 0 then some ((0 : Int32)) else ((f_X0_bitOf a1).bind (fun x10 => (if ((S.1 r 11) &&& x10) = 0 then some ((1 : Int32)) else some ((0 : Int32)))))))))))
set_option maxRecDepth 100000 in
set_option maxHeartbeats 4000000 in
theorem c_X0_mayBegin {W : zS → List va_E} {r : Nat} (hL : zLand W r) (d : Nat) (hd : 1 ≤ d) (S : zS) (a1 : Int32) (v : Int32) (hf : f_X0_mayBegin S r a1 = (some v)) : zC d yX0_mayBegin cX0_mayBegin 2 (some .boolean) [.ref r, .int a1] (W S) (zq (some (.int v)) (W S)) := by
  obtain ⟨d, rfl⟩ : ∃ e, d = e + 1 := ⟨d - 1, by omega⟩
  refine zC_intro (by decide) rfl (Nat.le_of_ble_eq_true rfl) ?_
  unfold f_X0_mayBegin at hf
  refine zv_iload_n dX0_mayBegin_0 rfl rfl ?_
  by_cases c1 : a1 = 100
  · replace hf := (if_pos c1).symm.trans hf
    refine zv_lookup (off := 65) (tgt := 66) dX0_mayBegin_1 (by decide) (by rw [c1]; decide) (by decide) ?_
    refine zv_iconst (v := 1) dX0_mayBegin_66 (by decide) ?_
    exact zv_iret (ty := .boolean) dX0_mayBegin_67 rfl rfl (zret1 hf)
  replace hf := (if_neg c1).symm.trans hf
  by_cases c2 : a1 = 114
  · replace hf := (if_pos c2).symm.trans hf
    refine zv_lookup (off := 50) (tgt := 51) dX0_mayBegin_1 (by decide) (by rw [c2]; decide) (by decide) ?_
    refine zv_aload_n dX0_mayBegin_51 rfl rfl ?_
    refine zv_get zf_X0_37 (hL.1 S) rfl dX0_mayBegin_52 ?_
    refine zv_bipush (v := 10) dX0_mayBegin_55 (by decide) ?_
    refine zv_icmp_ge (tgt := 64) dX0_mayBegin_57 (by decide) (fun c3 => ?_) (fun c3 => ?_)
    · replace hf := (if_pos c3).symm.trans hf
      refine zv_iconst (v := 0) dX0_mayBegin_64 (by decide) ?_
      exact zv_iret (ty := .boolean) dX0_mayBegin_65 rfl rfl (zret1 hf)
    · replace hf := (if_neg c3).symm.trans hf
      refine zv_iconst (v := 1) dX0_mayBegin_60 (by decide) ?_
      refine zv_goto (tgt := 65) dX0_mayBegin_61 (by decide) ?_
      exact zv_iret (ty := .boolean) dX0_mayBegin_65 rfl rfl (zret1 hf)
  replace hf := (if_neg c2).symm.trans hf
  by_cases c4 : a1 = 118
  · replace hf := (if_pos c4).symm.trans hf
    refine zv_lookup (off := 35) (tgt := 36) dX0_mayBegin_1 (by decide) (by rw [c4]; decide) (by decide) ?_
    refine zv_aload_n dX0_mayBegin_36 rfl rfl ?_
    refine zv_get zf_X0_33 (hL.1 S) rfl dX0_mayBegin_37 ?_
    refine zv_bipush (v := 6) dX0_mayBegin_40 (by decide) ?_
    refine zv_icmp_ge (tgt := 49) dX0_mayBegin_42 (by decide) (fun c5 => ?_) (fun c5 => ?_)
    · replace hf := (if_pos c5).symm.trans hf
      refine zv_iconst (v := 0) dX0_mayBegin_49 (by decide) ?_
      exact zv_iret (ty := .boolean) dX0_mayBegin_50 rfl rfl (zret1 hf)
    · replace hf := (if_neg c5).symm.trans hf
      refine zv_iconst (v := 1) dX0_mayBegin_45 (by decide) ?_
      refine zv_goto (tgt := 50) dX0_mayBegin_46 (by decide) ?_
      exact zv_iret (ty := .boolean) dX0_mayBegin_50 rfl rfl (zret1 hf)
  replace hf := (if_neg c4).symm.trans hf
  refine zv_lookup (off := 67) (tgt := 68) dX0_mayBegin_1 (by decide) ((lv_osw c1 (by decide)).trans ((lv_osw c2 (by decide)).trans ((lv_osw c4 (by decide)).trans rfl))) (by decide) ?_
  refine zv_iload_n dX0_mayBegin_68 rfl rfl ?_
  obtain ⟨x7, hc6, hf⟩ := zbind hf
  refine zv_callS dX0_mayBegin_69 zk_X0_89 zm_X0_isToldOnce (c_X0_isToldOnce  d a1 x7 hc6) rfl rfl (Nat.le_of_ble_eq_true rfl) ?_
  refine zv_if_eq (tgt := 91) dX0_mayBegin_72 (by decide) (fun c8 => ?_) (fun c8 => ?_)
  · replace hf := (if_pos c8).symm.trans hf
    refine zv_iconst (v := 0) dX0_mayBegin_91 (by decide) ?_
    exact zv_iret (ty := .boolean) dX0_mayBegin_92 rfl rfl (zret1 hf)
  · replace hf := (if_neg c8).symm.trans hf
    refine zv_aload_n dX0_mayBegin_75 rfl rfl ?_
    refine zv_get zf_X0_49 (hL.1 S) rfl dX0_mayBegin_76 ?_
    refine zv_iload_n dX0_mayBegin_79 rfl rfl ?_
    obtain ⟨x10, hc9, hf⟩ := zbind hf
    refine zv_callS dX0_mayBegin_80 zk_X0_100 zm_X0_bitOf (c_X0_bitOf  d a1 x10 hc9) rfl rfl (Nat.le_of_ble_eq_true rfl) ?_
    refine zv_iand dX0_mayBegin_83 ?_
    refine zv_if_ne (tgt := 91) dX0_mayBegin_84 (by decide) (fun c11 => ?_) (fun c11 => ?_)
    · replace hf := (if_neg c11).symm.trans hf
      refine zv_iconst (v := 0) dX0_mayBegin_91 (by decide) ?_
      exact zv_iret (ty := .boolean) dX0_mayBegin_92 rfl rfl (zret1 hf)
    · replace hf := (if_pos c11).symm.trans hf
      refine zv_iconst (v := 1) dX0_mayBegin_87 (by decide) ?_
      refine zv_goto (tgt := 92) dX0_mayBegin_88 (by decide) ?_
      exact zv_iret (ty := .boolean) dX0_mayBegin_92 rfl rfl (zret1 hf)
-- KingPrices$Land.needOf(I)I height 1 reads
def f_X0_needOf (S : zS) (r : Nat) (a1 : Int32) : Option Int32 :=
  ((f_X0_knows S r a1).bind (fun x2 => (if x2 = 0 then some ((0 : Int32)) else (if zin a1 6 then some ((S.1 (r + 2) (a1).toNatClampNeg)) else none))))
set_option maxRecDepth 100000 in
set_option maxHeartbeats 4000000 in
theorem c_X0_needOf {W : zS → List va_E} {r : Nat} (hL : zLand W r) (d : Nat) (hd : 1 ≤ d) (S : zS) (a1 : Int32) (v : Int32) (hf : f_X0_needOf S r a1 = (some v)) : zC d yX0_needOf cX0_needOf 2 (some .int) [.ref r, .int a1] (W S) (zq (some (.int v)) (W S)) := by
  obtain ⟨d, rfl⟩ : ∃ e, d = e + 1 := ⟨d - 1, by omega⟩
  refine zC_intro (by decide) rfl (Nat.le_of_ble_eq_true rfl) ?_
  unfold f_X0_needOf at hf
  refine zv_aload_n dX0_needOf_0 rfl rfl ?_
  refine zv_iload_n dX0_needOf_1 rfl rfl ?_
  obtain ⟨x2, hc1, hf⟩ := zbind hf
  refine zv_callV dX0_needOf_2 zk_X0_58 zm_X0_knows (c_X0_knows hL d S a1 x2 hc1) (hL.1 S) rfl rfl rfl (Nat.le_of_ble_eq_true rfl) ?_
  refine zv_if_eq (tgt := 17) dX0_needOf_5 (by decide) (fun c3 => ?_) (fun c3 => ?_)
  · replace hf := (if_pos c3).symm.trans hf
    refine zv_iconst (v := 0) dX0_needOf_17 (by decide) ?_
    exact zv_iret (ty := .int) dX0_needOf_18 rfl rfl (zret1 hf)
  · replace hf := (if_neg c3).symm.trans hf
    refine zv_aload_n dX0_needOf_8 rfl rfl ?_
    refine zv_get zf_X0_15 (hL.1 S) rfl dX0_needOf_9 ?_
    refine zv_iload_n dX0_needOf_12 rfl rfl ?_
    obtain ⟨hb4, hf⟩ := zifb hf
    refine zv_iald hb4 (hL.a2 S) dX0_needOf_13 ?_
    refine zv_goto (tgt := 18) dX0_needOf_14 (by decide) ?_
    exact zv_iret (ty := .int) dX0_needOf_18 rfl rfl (zret1 hf)
-- KingPrices$Land.takeDebt()V height 2 writes
def f_X0_takeDebt (S : zS) (r : Nat) : Option zS :=
  ((f_X0_knows S r (S.1 (r + 6) 0)).bind (fun x2 => (if x2 = 0 then some S else ((f_X0_knows S r (S.1 (r + 6) 1)).bind (fun x5 => (if x5 = 0 then some S else ((f_X0_debt S r (S.1 (r + 6) 0) (S.1 (r + 6) 1)).bind (fun x8 => (if zin (((S.1 (r + 6) 0) * (6 : Int32)) + (S.1 (r + 6) 1)) 36 then some (zr S (r + 5) (upd (S.1 (r + 5)) ((((S.1 (r + 6) 0) * (6 : Int32)) + (S.1 (r + 6) 1))).toNatClampNeg (if (x8 + (S.1 (r + 6) 2)) < (999 : Int32) then (x8 + (S.1 (r + 6) 2)) else (999 : Int32)))) else none)))))))))
set_option maxRecDepth 100000 in
set_option maxHeartbeats 4000000 in
theorem c_X0_takeDebt {W : zS → List va_E} {r : Nat} (hL : zLand W r) (d : Nat) (hd : 2 ≤ d) (S : zS) (S' : zS) (hf : f_X0_takeDebt S r = (some S')) : zC d yX0_takeDebt cX0_takeDebt 3 none [.ref r] (W S) (zq none (W S')) := by
  obtain ⟨d, rfl⟩ : ∃ e, d = e + 1 := ⟨d - 1, by omega⟩
  refine zC_intro (by decide) rfl (Nat.le_of_ble_eq_true rfl) ?_
  unfold f_X0_takeDebt at hf
  refine zv_aload_n dX0_takeDebt_0 rfl rfl ?_
  refine zv_get zf_X0_27 (hL.1 S) rfl dX0_takeDebt_1 ?_
  refine zv_iconst (v := 0) dX0_takeDebt_4 (by decide) ?_
  refine zv_ialdK (k := 0) (by decide) (by decide) (hL.a6 S) dX0_takeDebt_5 ?_
  refine zv_istore_n dX0_takeDebt_6 rfl (by decide) ?_
  refine zv_aload_n dX0_takeDebt_7 rfl rfl ?_
  refine zv_get zf_X0_27 (hL.1 S) rfl dX0_takeDebt_8 ?_
  refine zv_iconst (v := 1) dX0_takeDebt_11 (by decide) ?_
  refine zv_ialdK (k := 1) (by decide) (by decide) (hL.a6 S) dX0_takeDebt_12 ?_
  refine zv_istore_n dX0_takeDebt_13 rfl (by decide) ?_
  refine zv_aload_n dX0_takeDebt_14 rfl rfl ?_
  refine zv_iload_n dX0_takeDebt_15 rfl rfl ?_
  obtain ⟨x2, hc1, hf⟩ := zbind hf
  refine zv_callV dX0_takeDebt_16 zk_X0_58 zm_X0_knows (c_X0_knows hL d S (S.1 (r + 6) 0) x2 hc1) (hL.1 S) rfl rfl rfl (Nat.le_of_ble_eq_true rfl) ?_
  refine zv_if_eq (tgt := 60) dX0_takeDebt_19 (by decide) (fun c3 => ?_) (fun c3 => ?_)
  · replace hf := (if_pos c3).symm.trans hf
    exact zv_vret dX0_takeDebt_60 rfl (zret0 W hf)
  · replace hf := (if_neg c3).symm.trans hf
    refine zv_aload_n dX0_takeDebt_22 rfl rfl ?_
    refine zv_iload_n dX0_takeDebt_23 rfl rfl ?_
    obtain ⟨x5, hc4, hf⟩ := zbind hf
    refine zv_callV dX0_takeDebt_24 zk_X0_58 zm_X0_knows (c_X0_knows hL d S (S.1 (r + 6) 1) x5 hc4) (hL.1 S) rfl rfl rfl (Nat.le_of_ble_eq_true rfl) ?_
    refine zv_if_eq (tgt := 60) dX0_takeDebt_27 (by decide) (fun c6 => ?_) (fun c6 => ?_)
    · replace hf := (if_pos c6).symm.trans hf
      exact zv_vret dX0_takeDebt_60 rfl (zret0 W hf)
    · replace hf := (if_neg c6).symm.trans hf
      refine zv_aload_n dX0_takeDebt_30 rfl rfl ?_
      refine zv_get zf_X0_24 (hL.1 S) rfl dX0_takeDebt_31 ?_
      refine zv_iload_n dX0_takeDebt_34 rfl rfl ?_
      refine zv_bipush (v := 6) dX0_takeDebt_35 (by decide) ?_
      refine zv_imul dX0_takeDebt_37 ?_
      refine zv_iload_n dX0_takeDebt_38 rfl rfl ?_
      refine zv_iadd dX0_takeDebt_39 ?_
      refine zv_sipush (v := 999) dX0_takeDebt_40 (by decide) ?_
      refine zv_aload_n dX0_takeDebt_43 rfl rfl ?_
      refine zv_iload_n dX0_takeDebt_44 rfl rfl ?_
      refine zv_iload_n dX0_takeDebt_45 rfl rfl ?_
      obtain ⟨x8, hc7, hf⟩ := zbind hf
      refine zv_callV dX0_takeDebt_46 zk_X0_124 zm_X0_debt (c_X0_debt hL d (by omega) S (S.1 (r + 6) 0) (S.1 (r + 6) 1) x8 hc7) (hL.1 S) rfl rfl rfl (Nat.le_of_ble_eq_true rfl) ?_
      refine zv_aload_n dX0_takeDebt_49 rfl rfl ?_
      refine zv_get zf_X0_27 (hL.1 S) rfl dX0_takeDebt_50 ?_
      refine zv_iconst (v := 2) dX0_takeDebt_53 (by decide) ?_
      refine zv_ialdK (k := 2) (by decide) (by decide) (hL.a6 S) dX0_takeDebt_54 ?_
      refine zv_iadd dX0_takeDebt_55 ?_
      refine zv_min zk_X0_128 (Nat.le_of_ble_eq_true rfl) dX0_takeDebt_56 ?_
      obtain ⟨hb9, hf⟩ := zifb hf
      refine zv_iast hb9 (hL.a5 S) (hL.s5 S (upd (S.1 (r + 5)) ((((S.1 (r + 6) 0) * (6 : Int32)) + (S.1 (r + 6) 1))).toNatClampNeg (if (x8 + (S.1 (r + 6) 2)) < (999 : Int32) then (x8 + (S.1 (r + 6) 2)) else (999 : Int32)))) dX0_takeDebt_59 ?_
      exact zv_vret dX0_takeDebt_60 rfl (zret0 W hf)
-- KingPrices$Land.takeRoad()V height 2 writes
def f_X0_takeRoad (S : zS) (r : Nat) : Option zS :=
  ((f_X0_knows S r (S.1 (r + 6) 0)).bind (fun x2 => (if x2 = 0 then some S else ((f_X0_knows S r (S.1 (r + 6) 1)).bind (fun x5 => (if x5 = 0 then some S else ((f_X0_shortenWay S r (S.1 (r + 6) 0) (S.1 (r + 6) 1) (S.1 (r + 6) 2)).bind (fun S8 => ((f_X0_shortenWay S8 r (S.1 (r + 6) 1) (S.1 (r + 6) 0) (S8.1 (r + 6) 2)).bind (fun S10 => some (zu S10 r 7 ((S10.1 r 7) + (1 : Int32)))))))))))))
set_option maxRecDepth 100000 in
set_option maxHeartbeats 4000000 in
theorem c_X0_takeRoad {W : zS → List va_E} {r : Nat} (hL : zLand W r) (d : Nat) (hd : 2 ≤ d) (S : zS) (S' : zS) (hf : f_X0_takeRoad S r = (some S')) : zC d yX0_takeRoad cX0_takeRoad 3 none [.ref r] (W S) (zq none (W S')) := by
  obtain ⟨d, rfl⟩ : ∃ e, d = e + 1 := ⟨d - 1, by omega⟩
  refine zC_intro (by decide) rfl (Nat.le_of_ble_eq_true rfl) ?_
  unfold f_X0_takeRoad at hf
  refine zv_aload_n dX0_takeRoad_0 rfl rfl ?_
  refine zv_get zf_X0_27 (hL.1 S) rfl dX0_takeRoad_1 ?_
  refine zv_iconst (v := 0) dX0_takeRoad_4 (by decide) ?_
  refine zv_ialdK (k := 0) (by decide) (by decide) (hL.a6 S) dX0_takeRoad_5 ?_
  refine zv_istore_n dX0_takeRoad_6 rfl (by decide) ?_
  refine zv_aload_n dX0_takeRoad_7 rfl rfl ?_
  refine zv_get zf_X0_27 (hL.1 S) rfl dX0_takeRoad_8 ?_
  refine zv_iconst (v := 1) dX0_takeRoad_11 (by decide) ?_
  refine zv_ialdK (k := 1) (by decide) (by decide) (hL.a6 S) dX0_takeRoad_12 ?_
  refine zv_istore_n dX0_takeRoad_13 rfl (by decide) ?_
  refine zv_aload_n dX0_takeRoad_14 rfl rfl ?_
  refine zv_iload_n dX0_takeRoad_15 rfl rfl ?_
  obtain ⟨x2, hc1, hf⟩ := zbind hf
  refine zv_callV dX0_takeRoad_16 zk_X0_58 zm_X0_knows (c_X0_knows hL d S (S.1 (r + 6) 0) x2 hc1) (hL.1 S) rfl rfl rfl (Nat.le_of_ble_eq_true rfl) ?_
  refine zv_if_eq (tgt := 64) dX0_takeRoad_19 (by decide) (fun c3 => ?_) (fun c3 => ?_)
  · replace hf := (if_pos c3).symm.trans hf
    exact zv_vret dX0_takeRoad_64 rfl (zret0 W hf)
  · replace hf := (if_neg c3).symm.trans hf
    refine zv_aload_n dX0_takeRoad_22 rfl rfl ?_
    refine zv_iload_n dX0_takeRoad_23 rfl rfl ?_
    obtain ⟨x5, hc4, hf⟩ := zbind hf
    refine zv_callV dX0_takeRoad_24 zk_X0_58 zm_X0_knows (c_X0_knows hL d S (S.1 (r + 6) 1) x5 hc4) (hL.1 S) rfl rfl rfl (Nat.le_of_ble_eq_true rfl) ?_
    refine zv_if_eq (tgt := 64) dX0_takeRoad_27 (by decide) (fun c6 => ?_) (fun c6 => ?_)
    · replace hf := (if_pos c6).symm.trans hf
      exact zv_vret dX0_takeRoad_64 rfl (zret0 W hf)
    · replace hf := (if_neg c6).symm.trans hf
      refine zv_aload_n dX0_takeRoad_30 rfl rfl ?_
      refine zv_iload_n dX0_takeRoad_31 rfl rfl ?_
      refine zv_iload_n dX0_takeRoad_32 rfl rfl ?_
      refine zv_aload_n dX0_takeRoad_33 rfl rfl ?_
      refine zv_get zf_X0_27 (hL.1 S) rfl dX0_takeRoad_34 ?_
      refine zv_iconst (v := 2) dX0_takeRoad_37 (by decide) ?_
      refine zv_ialdK (k := 2) (by decide) (by decide) (hL.a6 S) dX0_takeRoad_38 ?_
      obtain ⟨S8, hc7, hf⟩ := zbind hf
      refine zv_callV dX0_takeRoad_39 zk_X0_120 zm_X0_shortenWay (c_X0_shortenWay hL d (by omega) S (S.1 (r + 6) 0) (S.1 (r + 6) 1) (S.1 (r + 6) 2) S8 hc7) (hL.1 S) rfl rfl rfl (Nat.le_of_ble_eq_true rfl) ?_
      refine zv_aload_n dX0_takeRoad_42 rfl rfl ?_
      refine zv_iload_n dX0_takeRoad_43 rfl rfl ?_
      refine zv_iload_n dX0_takeRoad_44 rfl rfl ?_
      refine zv_aload_n dX0_takeRoad_45 rfl rfl ?_
      refine zv_get zf_X0_27 (hL.1 S8) rfl dX0_takeRoad_46 ?_
      refine zv_iconst (v := 2) dX0_takeRoad_49 (by decide) ?_
      refine zv_ialdK (k := 2) (by decide) (by decide) (hL.a6 S8) dX0_takeRoad_50 ?_
      obtain ⟨S10, hc9, hf⟩ := zbind hf
      refine zv_callV dX0_takeRoad_51 zk_X0_120 zm_X0_shortenWay (c_X0_shortenWay hL d (by omega) S8 (S.1 (r + 6) 1) (S.1 (r + 6) 0) (S8.1 (r + 6) 2) S10 hc9) (hL.1 S8) rfl rfl rfl (Nat.le_of_ble_eq_true rfl) ?_
      refine zv_aload_n dX0_takeRoad_54 rfl rfl ?_
      refine zv_dup dX0_takeRoad_55 rfl ?_
      refine zv_get zf_X0_37 (hL.1 S10) rfl dX0_takeRoad_56 ?_
      refine zv_iconst (v := 1) dX0_takeRoad_59 (by decide) ?_
      refine zv_iadd dX0_takeRoad_60 ?_
      refine zv_put zp_X0_37 (hL.1 S10) rfl (fun _ => ⟨rfl, rfl⟩) (Nat.le_of_ble_eq_true rfl) (hL.p7 S10 ((S10.1 r 7) + (1 : Int32))) dX0_takeRoad_61 ?_
      exact zv_vret dX0_takeRoad_64 rfl (zret0 W hf)
-- KingPrices$Land.takeVillage()V height 0 writes
def f_X0_takeVillage (S : zS) (r : Nat) : Option zS :=
  (if (S.1 r 6) < (0 : Int32) then some S else (if (6 : Int32) ≤ (S.1 r 6) then some S else (if zin (S.1 r 6) 6 then (if zin (S.1 r 6) 6 then (if zin (S.1 r 6) 6 then some (zu (zr (zr (zr S (r + 1) (upd (S.1 (r + 1)) ((S.1 r 6)).toNatClampNeg (S.1 (r + 6) 0))) (r + 2) (upd ((zr S (r + 1) (upd (S.1 (r + 1)) ((S.1 r 6)).toNatClampNeg (S.1 (r + 6) 0))).1 (r + 2)) ((S.1 r 6)).toNatClampNeg ((zr S (r + 1) (upd (S.1 (r + 1)) ((S.1 r 6)).toNatClampNeg (S.1 (r + 6) 0))).1 (r + 6) 1))) (r + 3) (upd ((zr (zr S (r + 1) (upd (S.1 (r + 1)) ((S.1 r 6)).toNatClampNeg (S.1 (r + 6) 0))) (r + 2) (upd ((zr S (r + 1) (upd (S.1 (r + 1)) ((S.1 r 6)).toNatClampNeg (S.1 (r + 6) 0))).1 (r + 2)) ((S.1 r 6)).toNatClampNeg ((zr S (r + 1) (upd (S.1 (r + 1)) ((S.1 r 6)).toNatClampNeg (S.1 (r + 6) 0))).1 (r + 6) 1))).1 (r + 3)) ((S.1 r 6)).toNatClampNeg ((zr (zr S (r + 1) (upd (S.1 (r + 1)) ((S.1 r 6)).toNatClampNeg (S.1 (r + 6) 0))) (r + 2) (upd ((zr S (r + 1) (upd (S.1 (r + 1)) ((S.1 r 6)).toNatClampNeg (S.1 (r + 6) 0))).1 (r + 2)) ((S.1 r 6)).toNatClampNeg ((zr S (r + 1) (upd (S.1 (r + 1)) ((S.1 r 6)).toNatClampNeg (S.1 (r + 6) 0))).1 (r + 6) 1))).1 (r + 6) 2))) r 6 (((zr (zr (zr S (r + 1) (upd (S.1 (r + 1)) ((S.1 r 6)).toNatClampNeg (S.1 (r + 6) 0))) (r + 2) (upd ((zr S (r + 1) (upd (S.1 (r + 1)) ((S.1 r 6)).toNatClampNeg (S.1 (r + 6) 0))).1 (r + 2)) ((S.1 r 6)).toNatClampNeg ((zr S (r + 1) (upd (S.1 (r + 1)) ((S.1 r 6)).toNatClampNeg (S.1 (r + 6) 0))).1 (r + 6) 1))) (r + 3) (upd ((zr (zr S (r + 1) (upd (S.1 (r + 1)) ((S.1 r 6)).toNatClampNeg (S.1 (r + 6) 0))) (r + 2) (upd ((zr S (r + 1) (upd (S.1 (r + 1)) ((S.1 r 6)).toNatClampNeg (S.1 (r + 6) 0))).1 (r + 2)) ((S.1 r 6)).toNatClampNeg ((zr S (r + 1) (upd (S.1 (r + 1)) ((S.1 r 6)).toNatClampNeg (S.1 (r + 6) 0))).1 (r + 6) 1))).1 (r + 3)) ((S.1 r 6)).toNatClampNeg ((zr (zr S (r + 1) (upd (S.1 (r + 1)) ((S.1 r 6)).toNatClampNeg (S.1 (r + 6) 0))) (r + 2) (upd ((zr S (r + 1) (upd (S.1 (r + 1)) ((S.1 r 6)).toNatClampNeg (S.1 (r + 6) 0))).1 (r + 2)) ((S.1 r 6)).toNatClampNeg ((zr S (r + 1) (upd (S.1 (r + 1)) ((S.1 r 6)).toNatClampNeg (S.1 (r + 6) 0))).1 (r + 6) 1))).1 (r + 6) 2))).1 r 6) + (1 : Int32))) else none) else none) else none)))
set_option maxRecDepth 100000 in
set_option maxHeartbeats 4000000 in
theorem c_X0_takeVillage {W : zS → List va_E} {r : Nat} (hL : zLand W r) (d : Nat) (S : zS) (S' : zS) (hf : f_X0_takeVillage S r = (some S')) : zC d yX0_takeVillage cX0_takeVillage 2 none [.ref r] (W S) (zq none (W S')) := by
  refine zC_intro (by decide) rfl (Nat.le_of_ble_eq_true rfl) ?_
  unfold f_X0_takeVillage at hf
  refine zv_aload_n dX0_takeVillage_0 rfl rfl ?_
  refine zv_get zf_X0_33 (hL.1 S) rfl dX0_takeVillage_1 ?_
  refine zv_istore_n dX0_takeVillage_4 rfl (by decide) ?_
  refine zv_iconst (v := 0) dX0_takeVillage_5 (by decide) ?_
  refine zv_iload_n dX0_takeVillage_6 rfl rfl ?_
  refine zv_icmp_gt (tgt := 62) dX0_takeVillage_7 (by decide) (fun c1 => ?_) (fun c1 => ?_)
  · replace hf := (if_pos c1).symm.trans hf
    exact zv_vret dX0_takeVillage_62 rfl (zret0 W hf)
  · replace hf := (if_neg c1).symm.trans hf
    refine zv_iload_n dX0_takeVillage_10 rfl rfl ?_
    refine zv_bipush (v := 6) dX0_takeVillage_11 (by decide) ?_
    refine zv_icmp_ge (tgt := 62) dX0_takeVillage_13 (by decide) (fun c2 => ?_) (fun c2 => ?_)
    · replace hf := (if_pos c2).symm.trans hf
      exact zv_vret dX0_takeVillage_62 rfl (zret0 W hf)
    · replace hf := (if_neg c2).symm.trans hf
      refine zv_aload_n dX0_takeVillage_16 rfl rfl ?_
      refine zv_get zf_X0_9 (hL.1 S) rfl dX0_takeVillage_17 ?_
      refine zv_iload_n dX0_takeVillage_20 rfl rfl ?_
      refine zv_aload_n dX0_takeVillage_21 rfl rfl ?_
      refine zv_get zf_X0_27 (hL.1 S) rfl dX0_takeVillage_22 ?_
      refine zv_iconst (v := 0) dX0_takeVillage_25 (by decide) ?_
      refine zv_ialdK (k := 0) (by decide) (by decide) (hL.a6 S) dX0_takeVillage_26 ?_
      obtain ⟨hb3, hf⟩ := zifb hf
      refine zv_iast hb3 (hL.a1 S) (hL.s1 S (upd (S.1 (r + 1)) ((S.1 r 6)).toNatClampNeg (S.1 (r + 6) 0))) dX0_takeVillage_27 ?_
      refine zv_aload_n dX0_takeVillage_28 rfl rfl ?_
      refine zv_get zf_X0_15 (hL.1 (zr S (r + 1) (upd (S.1 (r + 1)) ((S.1 r 6)).toNatClampNeg (S.1 (r + 6) 0)))) rfl dX0_takeVillage_29 ?_
      refine zv_iload_n dX0_takeVillage_32 rfl rfl ?_
      refine zv_aload_n dX0_takeVillage_33 rfl rfl ?_
      refine zv_get zf_X0_27 (hL.1 (zr S (r + 1) (upd (S.1 (r + 1)) ((S.1 r 6)).toNatClampNeg (S.1 (r + 6) 0)))) rfl dX0_takeVillage_34 ?_
      refine zv_iconst (v := 1) dX0_takeVillage_37 (by decide) ?_
      refine zv_ialdK (k := 1) (by decide) (by decide) (hL.a6 (zr S (r + 1) (upd (S.1 (r + 1)) ((S.1 r 6)).toNatClampNeg (S.1 (r + 6) 0)))) dX0_takeVillage_38 ?_
      obtain ⟨hb4, hf⟩ := zifb hf
      refine zv_iast hb4 (hL.a2 (zr S (r + 1) (upd (S.1 (r + 1)) ((S.1 r 6)).toNatClampNeg (S.1 (r + 6) 0)))) (hL.s2 (zr S (r + 1) (upd (S.1 (r + 1)) ((S.1 r 6)).toNatClampNeg (S.1 (r + 6) 0))) (upd ((zr S (r + 1) (upd (S.1 (r + 1)) ((S.1 r 6)).toNatClampNeg (S.1 (r + 6) 0))).1 (r + 2)) ((S.1 r 6)).toNatClampNeg ((zr S (r + 1) (upd (S.1 (r + 1)) ((S.1 r 6)).toNatClampNeg (S.1 (r + 6) 0))).1 (r + 6) 1))) dX0_takeVillage_39 ?_
      refine zv_aload_n dX0_takeVillage_40 rfl rfl ?_
      refine zv_get zf_X0_18 (hL.1 (zr (zr S (r + 1) (upd (S.1 (r + 1)) ((S.1 r 6)).toNatClampNeg (S.1 (r + 6) 0))) (r + 2) (upd ((zr S (r + 1) (upd (S.1 (r + 1)) ((S.1 r 6)).toNatClampNeg (S.1 (r + 6) 0))).1 (r + 2)) ((S.1 r 6)).toNatClampNeg ((zr S (r + 1) (upd (S.1 (r + 1)) ((S.1 r 6)).toNatClampNeg (S.1 (r + 6) 0))).1 (r + 6) 1)))) rfl dX0_takeVillage_41 ?_
      refine zv_iload_n dX0_takeVillage_44 rfl rfl ?_
      refine zv_aload_n dX0_takeVillage_45 rfl rfl ?_
      refine zv_get zf_X0_27 (hL.1 (zr (zr S (r + 1) (upd (S.1 (r + 1)) ((S.1 r 6)).toNatClampNeg (S.1 (r + 6) 0))) (r + 2) (upd ((zr S (r + 1) (upd (S.1 (r + 1)) ((S.1 r 6)).toNatClampNeg (S.1 (r + 6) 0))).1 (r + 2)) ((S.1 r 6)).toNatClampNeg ((zr S (r + 1) (upd (S.1 (r + 1)) ((S.1 r 6)).toNatClampNeg (S.1 (r + 6) 0))).1 (r + 6) 1)))) rfl dX0_takeVillage_46 ?_
      refine zv_iconst (v := 2) dX0_takeVillage_49 (by decide) ?_
      refine zv_ialdK (k := 2) (by decide) (by decide) (hL.a6 (zr (zr S (r + 1) (upd (S.1 (r + 1)) ((S.1 r 6)).toNatClampNeg (S.1 (r + 6) 0))) (r + 2) (upd ((zr S (r + 1) (upd (S.1 (r + 1)) ((S.1 r 6)).toNatClampNeg (S.1 (r + 6) 0))).1 (r + 2)) ((S.1 r 6)).toNatClampNeg ((zr S (r + 1) (upd (S.1 (r + 1)) ((S.1 r 6)).toNatClampNeg (S.1 (r + 6) 0))).1 (r + 6) 1)))) dX0_takeVillage_50 ?_
      obtain ⟨hb5, hf⟩ := zifb hf
      refine zv_iast hb5 (hL.a3 (zr (zr S (r + 1) (upd (S.1 (r + 1)) ((S.1 r 6)).toNatClampNeg (S.1 (r + 6) 0))) (r + 2) (upd ((zr S (r + 1) (upd (S.1 (r + 1)) ((S.1 r 6)).toNatClampNeg (S.1 (r + 6) 0))).1 (r + 2)) ((S.1 r 6)).toNatClampNeg ((zr S (r + 1) (upd (S.1 (r + 1)) ((S.1 r 6)).toNatClampNeg (S.1 (r + 6) 0))).1 (r + 6) 1)))) (hL.s3 (zr (zr S (r + 1) (upd (S.1 (r + 1)) ((S.1 r 6)).toNatClampNeg (S.1 (r + 6) 0))) (r + 2) (upd ((zr S (r + 1) (upd (S.1 (r + 1)) ((S.1 r 6)).toNatClampNeg (S.1 (r + 6) 0))).1 (r + 2)) ((S.1 r 6)).toNatClampNeg ((zr S (r + 1) (upd (S.1 (r + 1)) ((S.1 r 6)).toNatClampNeg (S.1 (r + 6) 0))).1 (r + 6) 1))) (upd ((zr (zr S (r + 1) (upd (S.1 (r + 1)) ((S.1 r 6)).toNatClampNeg (S.1 (r + 6) 0))) (r + 2) (upd ((zr S (r + 1) (upd (S.1 (r + 1)) ((S.1 r 6)).toNatClampNeg (S.1 (r + 6) 0))).1 (r + 2)) ((S.1 r 6)).toNatClampNeg ((zr S (r + 1) (upd (S.1 (r + 1)) ((S.1 r 6)).toNatClampNeg (S.1 (r + 6) 0))).1 (r + 6) 1))).1 (r + 3)) ((S.1 r 6)).toNatClampNeg ((zr (zr S (r + 1) (upd (S.1 (r + 1)) ((S.1 r 6)).toNatClampNeg (S.1 (r + 6) 0))) (r + 2) (upd ((zr S (r + 1) (upd (S.1 (r + 1)) ((S.1 r 6)).toNatClampNeg (S.1 (r + 6) 0))).1 (r + 2)) ((S.1 r 6)).toNatClampNeg ((zr S (r + 1) (upd (S.1 (r + 1)) ((S.1 r 6)).toNatClampNeg (S.1 (r + 6) 0))).1 (r + 6) 1))).1 (r + 6) 2))) dX0_takeVillage_51 ?_
      refine zv_aload_n dX0_takeVillage_52 rfl rfl ?_
      refine zv_dup dX0_takeVillage_53 rfl ?_
      refine zv_get zf_X0_33 (hL.1 (zr (zr (zr S (r + 1) (upd (S.1 (r + 1)) ((S.1 r 6)).toNatClampNeg (S.1 (r + 6) 0))) (r + 2) (upd ((zr S (r + 1) (upd (S.1 (r + 1)) ((S.1 r 6)).toNatClampNeg (S.1 (r + 6) 0))).1 (r + 2)) ((S.1 r 6)).toNatClampNeg ((zr S (r + 1) (upd (S.1 (r + 1)) ((S.1 r 6)).toNatClampNeg (S.1 (r + 6) 0))).1 (r + 6) 1))) (r + 3) (upd ((zr (zr S (r + 1) (upd (S.1 (r + 1)) ((S.1 r 6)).toNatClampNeg (S.1 (r + 6) 0))) (r + 2) (upd ((zr S (r + 1) (upd (S.1 (r + 1)) ((S.1 r 6)).toNatClampNeg (S.1 (r + 6) 0))).1 (r + 2)) ((S.1 r 6)).toNatClampNeg ((zr S (r + 1) (upd (S.1 (r + 1)) ((S.1 r 6)).toNatClampNeg (S.1 (r + 6) 0))).1 (r + 6) 1))).1 (r + 3)) ((S.1 r 6)).toNatClampNeg ((zr (zr S (r + 1) (upd (S.1 (r + 1)) ((S.1 r 6)).toNatClampNeg (S.1 (r + 6) 0))) (r + 2) (upd ((zr S (r + 1) (upd (S.1 (r + 1)) ((S.1 r 6)).toNatClampNeg (S.1 (r + 6) 0))).1 (r + 2)) ((S.1 r 6)).toNatClampNeg ((zr S (r + 1) (upd (S.1 (r + 1)) ((S.1 r 6)).toNatClampNeg (S.1 (r + 6) 0))).1 (r + 6) 1))).1 (r + 6) 2)))) rfl dX0_takeVillage_54 ?_
      refine zv_iconst (v := 1) dX0_takeVillage_57 (by decide) ?_
      refine zv_iadd dX0_takeVillage_58 ?_
      refine zv_put zp_X0_33 (hL.1 (zr (zr (zr S (r + 1) (upd (S.1 (r + 1)) ((S.1 r 6)).toNatClampNeg (S.1 (r + 6) 0))) (r + 2) (upd ((zr S (r + 1) (upd (S.1 (r + 1)) ((S.1 r 6)).toNatClampNeg (S.1 (r + 6) 0))).1 (r + 2)) ((S.1 r 6)).toNatClampNeg ((zr S (r + 1) (upd (S.1 (r + 1)) ((S.1 r 6)).toNatClampNeg (S.1 (r + 6) 0))).1 (r + 6) 1))) (r + 3) (upd ((zr (zr S (r + 1) (upd (S.1 (r + 1)) ((S.1 r 6)).toNatClampNeg (S.1 (r + 6) 0))) (r + 2) (upd ((zr S (r + 1) (upd (S.1 (r + 1)) ((S.1 r 6)).toNatClampNeg (S.1 (r + 6) 0))).1 (r + 2)) ((S.1 r 6)).toNatClampNeg ((zr S (r + 1) (upd (S.1 (r + 1)) ((S.1 r 6)).toNatClampNeg (S.1 (r + 6) 0))).1 (r + 6) 1))).1 (r + 3)) ((S.1 r 6)).toNatClampNeg ((zr (zr S (r + 1) (upd (S.1 (r + 1)) ((S.1 r 6)).toNatClampNeg (S.1 (r + 6) 0))) (r + 2) (upd ((zr S (r + 1) (upd (S.1 (r + 1)) ((S.1 r 6)).toNatClampNeg (S.1 (r + 6) 0))).1 (r + 2)) ((S.1 r 6)).toNatClampNeg ((zr S (r + 1) (upd (S.1 (r + 1)) ((S.1 r 6)).toNatClampNeg (S.1 (r + 6) 0))).1 (r + 6) 1))).1 (r + 6) 2)))) rfl (fun _ => ⟨rfl, rfl⟩) (Nat.le_of_ble_eq_true rfl) (hL.p6 (zr (zr (zr S (r + 1) (upd (S.1 (r + 1)) ((S.1 r 6)).toNatClampNeg (S.1 (r + 6) 0))) (r + 2) (upd ((zr S (r + 1) (upd (S.1 (r + 1)) ((S.1 r 6)).toNatClampNeg (S.1 (r + 6) 0))).1 (r + 2)) ((S.1 r 6)).toNatClampNeg ((zr S (r + 1) (upd (S.1 (r + 1)) ((S.1 r 6)).toNatClampNeg (S.1 (r + 6) 0))).1 (r + 6) 1))) (r + 3) (upd ((zr (zr S (r + 1) (upd (S.1 (r + 1)) ((S.1 r 6)).toNatClampNeg (S.1 (r + 6) 0))) (r + 2) (upd ((zr S (r + 1) (upd (S.1 (r + 1)) ((S.1 r 6)).toNatClampNeg (S.1 (r + 6) 0))).1 (r + 2)) ((S.1 r 6)).toNatClampNeg ((zr S (r + 1) (upd (S.1 (r + 1)) ((S.1 r 6)).toNatClampNeg (S.1 (r + 6) 0))).1 (r + 6) 1))).1 (r + 3)) ((S.1 r 6)).toNatClampNeg ((zr (zr S (r + 1) (upd (S.1 (r + 1)) ((S.1 r 6)).toNatClampNeg (S.1 (r + 6) 0))) (r + 2) (upd ((zr S (r + 1) (upd (S.1 (r + 1)) ((S.1 r 6)).toNatClampNeg (S.1 (r + 6) 0))).1 (r + 2)) ((S.1 r 6)).toNatClampNeg ((zr S (r + 1) (upd (S.1 (r + 1)) ((S.1 r 6)).toNatClampNeg (S.1 (r + 6) 0))).1 (r + 6) 1))).1 (r + 6) 2))) (((zr (zr (zr S (r + 1) (upd (S.1 (r + 1)) ((S.1 r 6)).toNatClampNeg (S.1 (r + 6) 0))) (r + 2) (upd ((zr S (r + 1) (upd (S.1 (r + 1)) ((S.1 r 6)).toNatClampNeg (S.1 (r + 6) 0))).1 (r + 2)) ((S.1 r 6)).toNatClampNeg ((zr S (r + 1) (upd (S.1 (r + 1)) ((S.1 r 6)).toNatClampNeg (S.1 (r + 6) 0))).1 (r + 6) 1))) (r + 3) (upd ((zr (zr S (r + 1) (upd (S.1 (r + 1)) ((S.1 r 6)).toNatClampNeg (S.1 (r + 6) 0))) (r + 2) (upd ((zr S (r + 1) (upd (S.1 (r + 1)) ((S.1 r 6)).toNatClampNeg (S.1 (r + 6) 0))).1 (r + 2)) ((S.1 r 6)).toNatClampNeg ((zr S (r + 1) (upd (S.1 (r + 1)) ((S.1 r 6)).toNatClampNeg (S.1 (r + 6) 0))).1 (r + 6) 1))).1 (r + 3)) ((S.1 r 6)).toNatClampNeg ((zr (zr S (r + 1) (upd (S.1 (r + 1)) ((S.1 r 6)).toNatClampNeg (S.1 (r + 6) 0))) (r + 2) (upd ((zr S (r + 1) (upd (S.1 (r + 1)) ((S.1 r 6)).toNatClampNeg (S.1 (r + 6) 0))).1 (r + 2)) ((S.1 r 6)).toNatClampNeg ((zr S (r + 1) (upd (S.1 (r + 1)) ((S.1 r 6)).toNatClampNeg (S.1 (r + 6) 0))).1 (r + 6) 1))).1 (r + 6) 2))).1 r 6) + (1 : Int32))) dX0_takeVillage_59 ?_
      exact zv_vret dX0_takeVillage_62 rfl (zret0 W hf)
-- KingPrices$Land.takeItem(I)V height 3 writes
def f_X0_takeItem_109 (r : Nat) (S : zS) (a1 : Int32) : Option zS :=
  ((f_X0_isToldOnce a1).bind (fun x2 => (if x2 = 0 then some S else ((f_X0_bitOf a1).bind (fun x5 => some (zu S r 11 ((S.1 r 11) ||| x5)))))))
set_option maxRecDepth 100000 in
set_option maxHeartbeats 4000000 in
theorem v_X0_takeItem_109 {W : zS → List va_E} {r : Nat} (hL : zLand W r) (d : Nat) (hd : 2 ≤ d) (S : zS) (a1 : Int32) (S' : zS) (hf : f_X0_takeItem_109 r S a1 = (some S')) : zV none (d + 1) yX0_takeItem cX0_takeItem 2 none 109 [(0, .ref r), (1, .int a1)] [] (W S) (zq none (W S')) := by
  unfold f_X0_takeItem_109 at hf
  refine zv_iload_n dX0_takeItem_109 rfl rfl ?_
  obtain ⟨x2, hc1, hf⟩ := zbind hf
  refine zv_callS dX0_takeItem_110 zk_X0_89 zm_X0_isToldOnce (c_X0_isToldOnce  d a1 x2 hc1) rfl rfl (Nat.le_of_ble_eq_true rfl) ?_
  refine zv_if_eq (tgt := 129) dX0_takeItem_113 (by decide) (fun c3 => ?_) (fun c3 => ?_)
  · replace hf := (if_pos c3).symm.trans hf
    exact zv_vret dX0_takeItem_129 rfl (zret0 W hf)
  · replace hf := (if_neg c3).symm.trans hf
    refine zv_aload_n dX0_takeItem_116 rfl rfl ?_
    refine zv_dup dX0_takeItem_117 rfl ?_
    refine zv_get zf_X0_49 (hL.1 S) rfl dX0_takeItem_118 ?_
    refine zv_iload_n dX0_takeItem_121 rfl rfl ?_
    obtain ⟨x5, hc4, hf⟩ := zbind hf
    refine zv_callS dX0_takeItem_122 zk_X0_100 zm_X0_bitOf (c_X0_bitOf  d a1 x5 hc4) rfl rfl (Nat.le_of_ble_eq_true rfl) ?_
    refine zv_ior dX0_takeItem_125 ?_
    refine zv_put zp_X0_49 (hL.1 S) rfl (fun _ => ⟨rfl, rfl⟩) (Nat.le_of_ble_eq_true rfl) (hL.p11 S ((S.1 r 11) ||| x5)) dX0_takeItem_126 ?_
    exact zv_vret dX0_takeItem_129 rfl (zret0 W hf)
def f_X0_takeItem (S : zS) (r : Nat) (a1 : Int32) : Option zS :=
  (if a1 = 100 then ((f_X0_takeDebt S r).bind (fun S3 => f_X0_takeItem_109 r S3 a1)) else (if a1 = 109 then f_X0_takeItem_109 r (zu S r 8 (S.1 (r + 6) 0)) a1 else (if a1 = 114 then ((f_X0_takeRoad S r).bind (fun S7 => f_X0_takeItem_109 r S7 a1)) else (if a1 = 118 then ((f_X0_takeVillage S r).bind (fun S10 => f_X0_takeItem_109 r S10 a1)) else (if a1 = 119 then f_X0_takeItem_109 r (zu S r 9 (S.1 (r + 6) 0)) a1 else f_X0_takeItem_109 r (zu S r 10 (S.1 (r + 6) 0)) a1)))))
set_option maxRecDepth 100000 in
set_option maxHeartbeats 4000000 in
theorem c_X0_takeItem {W : zS → List va_E} {r : Nat} (hL : zLand W r) (d : Nat) (hd : 3 ≤ d) (S : zS) (a1 : Int32) (S' : zS) (hf : f_X0_takeItem S r a1 = (some S')) : zC d yX0_takeItem cX0_takeItem 2 none [.ref r, .int a1] (W S) (zq none (W S')) := by
  obtain ⟨d, rfl⟩ : ∃ e, d = e + 1 := ⟨d - 1, by omega⟩
  refine zC_intro (by decide) rfl (Nat.le_of_ble_eq_true rfl) ?_
  unfold f_X0_takeItem at hf
  refine zv_iload_n dX0_takeItem_0 rfl rfl ?_
  by_cases c1 : a1 = 100
  · replace hf := (if_pos c1).symm.trans hf
    refine zv_lookup (off := 65) (tgt := 66) dX0_takeItem_1 (by decide) (by rw [c1]; decide) (by decide) ?_
    refine zv_aload_n dX0_takeItem_66 rfl rfl ?_
    obtain ⟨S3, hc2, hf⟩ := zbind hf
    refine zv_callV dX0_takeItem_67 zk_X0_117 zm_X0_takeDebt (c_X0_takeDebt hL d (by omega) S S3 hc2) (hL.1 S) rfl rfl rfl (Nat.le_of_ble_eq_true rfl) ?_
    refine zv_goto (tgt := 109) dX0_takeItem_70 (by decide) ?_
    exact zV_sub ([(0, .ref r), (1, .int a1)]) ⟨rfl, rfl, trivial⟩ (v_X0_takeItem_109 hL d (by omega) S3 a1 _ hf)
  replace hf := (if_neg c1).symm.trans hf
  by_cases c4 : a1 = 109
  · replace hf := (if_pos c4).symm.trans hf
    refine zv_lookup (off := 72) (tgt := 73) dX0_takeItem_1 (by decide) (by rw [c4]; decide) (by decide) ?_
    refine zv_aload_n dX0_takeItem_73 rfl rfl ?_
    refine zv_aload_n dX0_takeItem_74 rfl rfl ?_
    refine zv_get zf_X0_27 (hL.1 S) rfl dX0_takeItem_75 ?_
    refine zv_iconst (v := 0) dX0_takeItem_78 (by decide) ?_
    refine zv_ialdK (k := 0) (by decide) (by decide) (hL.a6 S) dX0_takeItem_79 ?_
    refine zv_put zp_X0_40 (hL.1 S) rfl (fun _ => ⟨rfl, rfl⟩) (Nat.le_of_ble_eq_true rfl) (hL.p8 S (S.1 (r + 6) 0)) dX0_takeItem_80 ?_
    refine zv_goto (tgt := 109) dX0_takeItem_83 (by decide) ?_
    exact zV_sub ([(0, .ref r), (1, .int a1)]) ⟨rfl, rfl, trivial⟩ (v_X0_takeItem_109 hL d (by omega) (zu S r 8 (S.1 (r + 6) 0)) a1 _ hf)
  replace hf := (if_neg c4).symm.trans hf
  by_cases c5 : a1 = 114
  · replace hf := (if_pos c5).symm.trans hf
    refine zv_lookup (off := 58) (tgt := 59) dX0_takeItem_1 (by decide) (by rw [c5]; decide) (by decide) ?_
    refine zv_aload_n dX0_takeItem_59 rfl rfl ?_
    obtain ⟨S7, hc6, hf⟩ := zbind hf
    refine zv_callV dX0_takeItem_60 zk_X0_114 zm_X0_takeRoad (c_X0_takeRoad hL d (by omega) S S7 hc6) (hL.1 S) rfl rfl rfl (Nat.le_of_ble_eq_true rfl) ?_
    refine zv_goto (tgt := 109) dX0_takeItem_63 (by decide) ?_
    exact zV_sub ([(0, .ref r), (1, .int a1)]) ⟨rfl, rfl, trivial⟩ (v_X0_takeItem_109 hL d (by omega) S7 a1 _ hf)
  replace hf := (if_neg c5).symm.trans hf
  by_cases c8 : a1 = 118
  · replace hf := (if_pos c8).symm.trans hf
    refine zv_lookup (off := 51) (tgt := 52) dX0_takeItem_1 (by decide) (by rw [c8]; decide) (by decide) ?_
    refine zv_aload_n dX0_takeItem_52 rfl rfl ?_
    obtain ⟨S10, hc9, hf⟩ := zbind hf
    refine zv_callV dX0_takeItem_53 zk_X0_111 zm_X0_takeVillage (c_X0_takeVillage hL d S S10 hc9) (hL.1 S) rfl rfl rfl (Nat.le_of_ble_eq_true rfl) ?_
    refine zv_goto (tgt := 109) dX0_takeItem_56 (by decide) ?_
    exact zV_sub ([(0, .ref r), (1, .int a1)]) ⟨rfl, rfl, trivial⟩ (v_X0_takeItem_109 hL d (by omega) S10 a1 _ hf)
  replace hf := (if_neg c8).symm.trans hf
  by_cases c11 : a1 = 119
  · replace hf := (if_pos c11).symm.trans hf
    refine zv_lookup (off := 85) (tgt := 86) dX0_takeItem_1 (by decide) (by rw [c11]; decide) (by decide) ?_
    refine zv_aload_n dX0_takeItem_86 rfl rfl ?_
    refine zv_aload_n dX0_takeItem_87 rfl rfl ?_
    refine zv_get zf_X0_27 (hL.1 S) rfl dX0_takeItem_88 ?_
    refine zv_iconst (v := 0) dX0_takeItem_91 (by decide) ?_
    refine zv_ialdK (k := 0) (by decide) (by decide) (hL.a6 S) dX0_takeItem_92 ?_
    refine zv_put zp_X0_43 (hL.1 S) rfl (fun _ => ⟨rfl, rfl⟩) (Nat.le_of_ble_eq_true rfl) (hL.p9 S (S.1 (r + 6) 0)) dX0_takeItem_93 ?_
    refine zv_goto (tgt := 109) dX0_takeItem_96 (by decide) ?_
    exact zV_sub ([(0, .ref r), (1, .int a1)]) ⟨rfl, rfl, trivial⟩ (v_X0_takeItem_109 hL d (by omega) (zu S r 9 (S.1 (r + 6) 0)) a1 _ hf)
  replace hf := (if_neg c11).symm.trans hf
  refine zv_lookup (off := 98) (tgt := 99) dX0_takeItem_1 (by decide) ((lv_osw c1 (by decide)).trans ((lv_osw c4 (by decide)).trans ((lv_osw c5 (by decide)).trans ((lv_osw c8 (by decide)).trans ((lv_osw c11 (by decide)).trans rfl))))) (by decide) ?_
  refine zv_aload_n dX0_takeItem_99 rfl rfl ?_
  refine zv_aload_n dX0_takeItem_100 rfl rfl ?_
  refine zv_get zf_X0_27 (hL.1 S) rfl dX0_takeItem_101 ?_
  refine zv_iconst (v := 0) dX0_takeItem_104 (by decide) ?_
  refine zv_ialdK (k := 0) (by decide) (by decide) (hL.a6 S) dX0_takeItem_105 ?_
  refine zv_put zp_X0_46 (hL.1 S) rfl (fun _ => ⟨rfl, rfl⟩) (Nat.le_of_ble_eq_true rfl) (hL.p10 S (S.1 (r + 6) 0)) dX0_takeItem_106 ?_
  exact zV_sub ([(0, .ref r), (1, .int a1)]) ⟨rfl, rfl, trivial⟩ (v_X0_takeItem_109 hL d (by omega) (zu S r 10 (S.1 (r + 6) 0)) a1 _ hf)
-- KingPrices$Text.byteAt(I)I height 0 reads
def f_X3_byteAt (S : zS) (a1 : Int32) : Option Int32 :=
  (if a1 < (0 : Int32) then some ((0 : Int32)) else (if (180 : Int32) ≤ a1 then some ((0 : Int32)) else (if zin a1 180 then some ((S.1 2 (a1).toNatClampNeg)) else none)))
set_option maxRecDepth 100000 in
set_option maxHeartbeats 4000000 in
theorem c_X3_byteAt  (d : Nat) (S : zS) (a1 : Int32) (v : Int32) (hf : f_X3_byteAt S a1 = (some v)) : zC d yX3_byteAt cX3_byteAt 2 (some .int) [.ref 1, .int a1] (wd S) (zq (some (.int v)) (wd S)) := by
  refine zC_intro (by decide) rfl (Nat.le_of_ble_eq_true rfl) ?_
  unfold f_X3_byteAt at hf
  refine zv_iconst (v := 0) dX3_byteAt_0 (by decide) ?_
  refine zv_iload_n dX3_byteAt_1 rfl rfl ?_
  refine zv_icmp_gt (tgt := 23) dX3_byteAt_2 (by decide) (fun c1 => ?_) (fun c1 => ?_)
  · replace hf := (if_pos c1).symm.trans hf
    refine zv_iconst (v := 0) dX3_byteAt_23 (by decide) ?_
    exact zv_iret (ty := .int) dX3_byteAt_24 rfl rfl (zret1 hf)
  · replace hf := (if_neg c1).symm.trans hf
    refine zv_iload_n dX3_byteAt_5 rfl rfl ?_
    refine zv_aload_n dX3_byteAt_6 rfl rfl ?_
    refine zv_get zf_X3_9 (wo_1 S) rfl dX3_byteAt_7 ?_
    refine zv_alen (v := 180) (t := 0) (by decide) (by decide) (wo_2 S) dX3_byteAt_10 ?_
    refine zv_icmp_ge (tgt := 23) dX3_byteAt_11 (by decide) (fun c2 => ?_) (fun c2 => ?_)
    · replace hf := (if_pos c2).symm.trans hf
      refine zv_iconst (v := 0) dX3_byteAt_23 (by decide) ?_
      exact zv_iret (ty := .int) dX3_byteAt_24 rfl rfl (zret1 hf)
    · replace hf := (if_neg c2).symm.trans hf
      refine zv_aload_n dX3_byteAt_14 rfl rfl ?_
      refine zv_get zf_X3_9 (wo_1 S) rfl dX3_byteAt_15 ?_
      refine zv_iload_n dX3_byteAt_18 rfl rfl ?_
      obtain ⟨hb3, hf⟩ := zifb hf
      refine zv_iald hb3 (wo_2 S) dX3_byteAt_19 ?_
      refine zv_goto (tgt := 24) dX3_byteAt_20 (by decide) ?_
      exact zv_iret (ty := .int) dX3_byteAt_24 rfl rfl (zret1 hf)
-- KingPrices$Text.readLetters()V height 1 writes
def f_X3_readLetters_42 (S : zS) : Option zS :=
  (if (((zu S 1 4 (1 : Int32)).1 1 2) - ((zu S 1 4 (1 : Int32)).1 1 3)) = (1 : Int32) then ((f_X3_byteAt (zu S 1 4 (1 : Int32)) ((zu S 1 4 (1 : Int32)).1 1 3)).bind (fun x3 => some (zu (zu S 1 4 (1 : Int32)) 1 5 x3))) else some (zu (zu S 1 4 (1 : Int32)) 1 5 (0 : Int32)))
set_option maxRecDepth 100000 in
set_option maxHeartbeats 4000000 in
theorem v_X3_readLetters_42 (d : Nat) (hd : 0 ≤ d) (S : zS) (S' : zS) (hf : f_X3_readLetters_42 S = (some S')) : zV none (d + 1) yX3_readLetters cX3_readLetters 1 none 42 [(0, .ref 1)] [] (wd S) (zq none (wd S')) := by
  unfold f_X3_readLetters_42 at hf
  refine zv_aload_n dX3_readLetters_42 rfl rfl ?_
  refine zv_iconst (v := 1) dX3_readLetters_43 (by decide) ?_
  refine zv_put zp_X3_35 (wo_1 S) rfl (fun _ => ⟨rfl, rfl⟩) (Nat.le_of_ble_eq_true rfl) (wp_1_4 S (1 : Int32)) dX3_readLetters_44 ?_
  refine zv_aload_n dX3_readLetters_47 rfl rfl ?_
  refine zv_aload_n dX3_readLetters_48 rfl rfl ?_
  refine zv_get zf_X3_19 (wo_1 (zu S 1 4 (1 : Int32))) rfl dX3_readLetters_49 ?_
  refine zv_aload_n dX3_readLetters_52 rfl rfl ?_
  refine zv_get zf_X3_29 (wo_1 (zu S 1 4 (1 : Int32))) rfl dX3_readLetters_53 ?_
  refine zv_isub dX3_readLetters_56 ?_
  refine zv_iconst (v := 1) dX3_readLetters_57 (by decide) ?_
  refine zv_icmp_ne (tgt := 72) dX3_readLetters_58 (by decide) (fun c1 => ?_) (fun c1 => ?_)
  · replace hf := (if_neg c1).symm.trans hf
    refine zv_iconst (v := 0) dX3_readLetters_72 (by decide) ?_
    refine zv_put zp_X3_32 (wo_1 (zu S 1 4 (1 : Int32))) rfl (fun _ => ⟨rfl, rfl⟩) (Nat.le_of_ble_eq_true rfl) (wp_1_5 (zu S 1 4 (1 : Int32)) (0 : Int32)) dX3_readLetters_73 ?_
    exact zv_vret dX3_readLetters_76 rfl (zret0 wd hf)
  · replace hf := (if_pos c1).symm.trans hf
    refine zv_aload_n dX3_readLetters_61 rfl rfl ?_
    refine zv_aload_n dX3_readLetters_62 rfl rfl ?_
    refine zv_get zf_X3_29 (wo_1 (zu S 1 4 (1 : Int32))) rfl dX3_readLetters_63 ?_
    obtain ⟨x3, hc2, hf⟩ := zbind hf
    refine zv_callV dX3_readLetters_66 zk_X3_25 zm_X3_byteAt (c_X3_byteAt  d (zu S 1 4 (1 : Int32)) ((zu S 1 4 (1 : Int32)).1 1 3) x3 hc2) (wo_1 (zu S 1 4 (1 : Int32))) rfl rfl rfl (Nat.le_of_ble_eq_true rfl) ?_
    refine zv_goto (tgt := 73) dX3_readLetters_69 (by decide) ?_
    refine zv_put zp_X3_32 (wo_1 (zu S 1 4 (1 : Int32))) rfl (fun _ => ⟨rfl, rfl⟩) (Nat.le_of_ble_eq_true rfl) (wp_1_5 (zu S 1 4 (1 : Int32)) x3) dX3_readLetters_73 ?_
    exact zv_vret dX3_readLetters_76 rfl (zret0 wd hf)
def f_X3_readLetters_0  : Nat → zS → Option zS
  | 0, _ => none
  | n + 1, S => (if (S.1 1 1) ≤ (S.1 1 2) then f_X3_readLetters_42 S else ((f_X3_byteAt S (S.1 1 2)).bind (fun x3 => ((f_X5_isWithin x3 (97 : Int32) (122 : Int32)).bind (fun x5 => (if x5 = 0 then f_X3_readLetters_42 S else f_X3_readLetters_0  n (zu S 1 2 ((S.1 1 2) + (1 : Int32)))))))))
set_option maxRecDepth 100000 in
set_option maxHeartbeats 4000000 in
theorem v_X3_readLetters_0 (d : Nat) (hd : 0 ≤ d) : ∀ (n : Nat) (S : zS) (S' : zS), f_X3_readLetters_0  n S = (some S') → zV none (d + 1) yX3_readLetters cX3_readLetters 1 none 0 [(0, .ref 1)] [] (wd S) (zq none (wd S')) := by
  intro n
  induction n with
  | zero =>
    intro S S' hf
    cases hf
  | succ n ih =>
    intro S S' hf
    rw [f_X3_readLetters_0] at hf
    refine zv_aload_n dX3_readLetters_0 rfl rfl ?_
    refine zv_get zf_X3_19 (wo_1 S) rfl dX3_readLetters_1 ?_
    refine zv_aload_n dX3_readLetters_4 rfl rfl ?_
    refine zv_get zf_X3_15 (wo_1 S) rfl dX3_readLetters_5 ?_
    refine zv_icmp_ge (tgt := 42) dX3_readLetters_8 (by decide) (fun c1 => ?_) (fun c1 => ?_)
    · replace hf := (if_pos c1).symm.trans hf
      exact zV_sub ([(0, .ref 1)]) ⟨rfl, trivial⟩ (v_X3_readLetters_42 d (by omega) S _ hf)
    · replace hf := (if_neg c1).symm.trans hf
      refine zv_aload_n dX3_readLetters_11 rfl rfl ?_
      refine zv_aload_n dX3_readLetters_12 rfl rfl ?_
      refine zv_get zf_X3_19 (wo_1 S) rfl dX3_readLetters_13 ?_
      obtain ⟨x3, hc2, hf⟩ := zbind hf
      refine zv_callV dX3_readLetters_16 zk_X3_25 zm_X3_byteAt (c_X3_byteAt  d S (S.1 1 2) x3 hc2) (wo_1 S) rfl rfl rfl (Nat.le_of_ble_eq_true rfl) ?_
      refine zv_bipush (v := 97) dX3_readLetters_19 (by decide) ?_
      refine zv_bipush (v := 122) dX3_readLetters_21 (by decide) ?_
      obtain ⟨x5, hc4, hf⟩ := zbind hf
      refine zv_callSN dX3_readLetters_23 zk_X3_38 zm_X5_isWithin (c_X5_isWithin  d x3 (97 : Int32) (122 : Int32) x5 hc4) rfl rfl (Nat.le_of_ble_eq_true rfl) ?_
      refine zv_if_eq (tgt := 42) dX3_readLetters_26 (by decide) (fun c6 => ?_) (fun c6 => ?_)
      · replace hf := (if_pos c6).symm.trans hf
        exact zV_sub ([(0, .ref 1)]) ⟨rfl, trivial⟩ (v_X3_readLetters_42 d (by omega) S _ hf)
      · replace hf := (if_neg c6).symm.trans hf
        refine zv_aload_n dX3_readLetters_29 rfl rfl ?_
        refine zv_dup dX3_readLetters_30 rfl ?_
        refine zv_get zf_X3_19 (wo_1 S) rfl dX3_readLetters_31 ?_
        refine zv_iconst (v := 1) dX3_readLetters_34 (by decide) ?_
        refine zv_iadd dX3_readLetters_35 ?_
        refine zv_put zp_X3_19 (wo_1 S) rfl (fun _ => ⟨rfl, rfl⟩) (Nat.le_of_ble_eq_true rfl) (wp_1_2 S ((S.1 1 2) + (1 : Int32))) dX3_readLetters_36 ?_
        refine zv_goto (tgt := 0) dX3_readLetters_39 (by decide) ?_
        exact zV_sub ([(0, .ref 1)]) ⟨rfl, trivial⟩ (ih (zu S 1 2 ((S.1 1 2) + (1 : Int32))) _ hf)
def f_X3_readLetters (S : zS) : Option zS :=
  f_X3_readLetters_0 zN S
set_option maxRecDepth 100000 in
set_option maxHeartbeats 4000000 in
theorem c_X3_readLetters  (d : Nat) (hd : 1 ≤ d) (S : zS) (S' : zS) (hf : f_X3_readLetters S = (some S')) : zC d yX3_readLetters cX3_readLetters 1 none [.ref 1] (wd S) (zq none (wd S')) := by
  obtain ⟨d, rfl⟩ : ∃ e, d = e + 1 := ⟨d - 1, by omega⟩
  refine zC_intro (by decide) rfl (Nat.le_of_ble_eq_true rfl) ?_
  unfold f_X3_readLetters at hf
  exact zV_sub ([(0, .ref 1)]) ⟨rfl, trivial⟩ (v_X3_readLetters_0 d (by omega) zN S _ hf)
-- KingPrices$Text.readNumber()V height 1 writes
def f_X3_readNumber_102 (S : zS) (a1 : Int32) : Option zS :=
  (if (99 : Int32) < (S.1 1 5) then some (zu S 1 4 (4 : Int32)) else (if a1 = 0 then some (zu S 1 4 (2 : Int32)) else some (zu S 1 4 (4 : Int32))))
set_option maxRecDepth 100000 in
set_option maxHeartbeats 4000000 in
theorem v_X3_readNumber_102 (d : Nat) (hd : 0 ≤ d) (S : zS) (a1 : Int32) (S' : zS) (hf : f_X3_readNumber_102 S a1 = (some S')) : zV none (d + 1) yX3_readNumber cX3_readNumber 2 none 102 [(0, .ref 1), (1, .int a1)] [] (wd S) (zq none (wd S')) := by
  unfold f_X3_readNumber_102 at hf
  refine zv_aload_n dX3_readNumber_102 rfl rfl ?_
  refine zv_aload_n dX3_readNumber_103 rfl rfl ?_
  refine zv_get zf_X3_32 (wo_1 S) rfl dX3_readNumber_104 ?_
  refine zv_bipush (v := 99) dX3_readNumber_107 (by decide) ?_
  refine zv_icmp_gt (tgt := 116) dX3_readNumber_109 (by decide) (fun c1 => ?_) (fun c1 => ?_)
  · replace hf := (if_pos c1).symm.trans hf
    refine zv_iconst (v := 4) dX3_readNumber_116 (by decide) ?_
    refine zv_goto (tgt := 121) dX3_readNumber_117 (by decide) ?_
    refine zv_put zp_X3_35 (wo_1 S) rfl (fun _ => ⟨rfl, rfl⟩) (Nat.le_of_ble_eq_true rfl) (wp_1_4 S (4 : Int32)) dX3_readNumber_121 ?_
    exact zv_vret dX3_readNumber_124 rfl (zret0 wd hf)
  · replace hf := (if_neg c1).symm.trans hf
    refine zv_iload_n dX3_readNumber_112 rfl rfl ?_
    refine zv_if_eq (tgt := 120) dX3_readNumber_113 (by decide) (fun c2 => ?_) (fun c2 => ?_)
    · replace hf := (if_pos c2).symm.trans hf
      refine zv_iconst (v := 2) dX3_readNumber_120 (by decide) ?_
      refine zv_put zp_X3_35 (wo_1 S) rfl (fun _ => ⟨rfl, rfl⟩) (Nat.le_of_ble_eq_true rfl) (wp_1_4 S (2 : Int32)) dX3_readNumber_121 ?_
      exact zv_vret dX3_readNumber_124 rfl (zret0 wd hf)
    · replace hf := (if_neg c2).symm.trans hf
      refine zv_iconst (v := 4) dX3_readNumber_116 (by decide) ?_
      refine zv_goto (tgt := 121) dX3_readNumber_117 (by decide) ?_
      refine zv_put zp_X3_35 (wo_1 S) rfl (fun _ => ⟨rfl, rfl⟩) (Nat.le_of_ble_eq_true rfl) (wp_1_4 S (4 : Int32)) dX3_readNumber_121 ?_
      exact zv_vret dX3_readNumber_124 rfl (zret0 wd hf)
def f_X3_readNumber_100 (S : zS) : Option zS :=
  f_X3_readNumber_102 S (0 : Int32)
set_option maxRecDepth 100000 in
set_option maxHeartbeats 4000000 in
theorem v_X3_readNumber_100 (d : Nat) (hd : 0 ≤ d) (S : zS) (S' : zS) (hf : f_X3_readNumber_100 S = (some S')) : zV none (d + 1) yX3_readNumber cX3_readNumber 2 none 100 [(0, .ref 1)] [] (wd S) (zq none (wd S')) := by
  unfold f_X3_readNumber_100 at hf
  refine zv_iconst (v := 0) dX3_readNumber_100 (by decide) ?_
  refine zv_istore_n dX3_readNumber_101 rfl (by decide) ?_
  exact zV_sub ([(0, .ref 1), (1, .int (0 : Int32))]) ⟨rfl, rfl, trivial⟩ (v_X3_readNumber_102 d (by omega) S (0 : Int32) _ hf)
def f_X3_readNumber_70 (S : zS) : Option zS :=
  (if ((S.1 1 2) - (S.1 1 3)) ≤ (1 : Int32) then f_X3_readNumber_100 S else ((f_X3_byteAt S (S.1 1 3)).bind (fun x3 => (if x3 = (48 : Int32) then f_X3_readNumber_102 S (1 : Int32) else f_X3_readNumber_100 S))))
set_option maxRecDepth 100000 in
set_option maxHeartbeats 4000000 in
theorem v_X3_readNumber_70 (d : Nat) (hd : 0 ≤ d) (S : zS) (S' : zS) (hf : f_X3_readNumber_70 S = (some S')) : zV none (d + 1) yX3_readNumber cX3_readNumber 2 none 70 [(0, .ref 1)] [] (wd S) (zq none (wd S')) := by
  unfold f_X3_readNumber_70 at hf
  refine zv_aload_n dX3_readNumber_70 rfl rfl ?_
  refine zv_get zf_X3_19 (wo_1 S) rfl dX3_readNumber_71 ?_
  refine zv_aload_n dX3_readNumber_74 rfl rfl ?_
  refine zv_get zf_X3_29 (wo_1 S) rfl dX3_readNumber_75 ?_
  refine zv_isub dX3_readNumber_78 ?_
  refine zv_iconst (v := 1) dX3_readNumber_79 (by decide) ?_
  refine zv_icmp_le (tgt := 100) dX3_readNumber_80 (by decide) (fun c1 => ?_) (fun c1 => ?_)
  · replace hf := (if_pos c1).symm.trans hf
    exact zV_sub ([(0, .ref 1)]) ⟨rfl, trivial⟩ (v_X3_readNumber_100 d (by omega) S _ hf)
  · replace hf := (if_neg c1).symm.trans hf
    refine zv_aload_n dX3_readNumber_83 rfl rfl ?_
    refine zv_aload_n dX3_readNumber_84 rfl rfl ?_
    refine zv_get zf_X3_29 (wo_1 S) rfl dX3_readNumber_85 ?_
    obtain ⟨x3, hc2, hf⟩ := zbind hf
    refine zv_callV dX3_readNumber_88 zk_X3_25 zm_X3_byteAt (c_X3_byteAt  d S (S.1 1 3) x3 hc2) (wo_1 S) rfl rfl rfl (Nat.le_of_ble_eq_true rfl) ?_
    refine zv_bipush (v := 48) dX3_readNumber_91 (by decide) ?_
    refine zv_icmp_ne (tgt := 100) dX3_readNumber_93 (by decide) (fun c4 => ?_) (fun c4 => ?_)
    · replace hf := (if_neg c4).symm.trans hf
      exact zV_sub ([(0, .ref 1)]) ⟨rfl, trivial⟩ (v_X3_readNumber_100 d (by omega) S _ hf)
    · replace hf := (if_pos c4).symm.trans hf
      refine zv_iconst (v := 1) dX3_readNumber_96 (by decide) ?_
      refine zv_goto (tgt := 101) dX3_readNumber_97 (by decide) ?_
      refine zv_istore_n dX3_readNumber_101 rfl (by decide) ?_
      exact zV_sub ([(0, .ref 1), (1, .int (1 : Int32))]) ⟨rfl, rfl, trivial⟩ (v_X3_readNumber_102 d (by omega) S (1 : Int32) _ hf)
def f_X3_readNumber_0  : Nat → zS → Option zS
  | 0, _ => none
  | n + 1, S => (if (S.1 1 1) ≤ (S.1 1 2) then f_X3_readNumber_70 S else ((f_X3_byteAt S (S.1 1 2)).bind (fun x3 => ((f_X5_isWithin x3 (48 : Int32) (57 : Int32)).bind (fun x5 => (if x5 = 0 then f_X3_readNumber_70 S else ((f_X3_byteAt S (S.1 1 2)).bind (fun x8 => f_X3_readNumber_0  n (zu (zu S 1 5 (if ((((S.1 1 5) * (10 : Int32)) + x8) - (48 : Int32)) < (100 : Int32) then ((((S.1 1 5) * (10 : Int32)) + x8) - (48 : Int32)) else (100 : Int32))) 1 2 (((zu S 1 5 (if ((((S.1 1 5) * (10 : Int32)) + x8) - (48 : Int32)) < (100 : Int32) then ((((S.1 1 5) * (10 : Int32)) + x8) - (48 : Int32)) else (100 : Int32))).1 1 2) + (1 : Int32)))))))))))
set_option maxRecDepth 100000 in
set_option maxHeartbeats 4000000 in
theorem v_X3_readNumber_0 (d : Nat) (hd : 0 ≤ d) : ∀ (n : Nat) (S : zS) (S' : zS), f_X3_readNumber_0  n S = (some S') → zV none (d + 1) yX3_readNumber cX3_readNumber 2 none 0 [(0, .ref 1)] [] (wd S) (zq none (wd S')) := by
  intro n
  induction n with
  | zero =>
    intro S S' hf
    cases hf
  | succ n ih =>
    intro S S' hf
    rw [f_X3_readNumber_0] at hf
    refine zv_aload_n dX3_readNumber_0 rfl rfl ?_
    refine zv_get zf_X3_19 (wo_1 S) rfl dX3_readNumber_1 ?_
    refine zv_aload_n dX3_readNumber_4 rfl rfl ?_
    refine zv_get zf_X3_15 (wo_1 S) rfl dX3_readNumber_5 ?_
    refine zv_icmp_ge (tgt := 70) dX3_readNumber_8 (by decide) (fun c1 => ?_) (fun c1 => ?_)
    · replace hf := (if_pos c1).symm.trans hf
      exact zV_sub ([(0, .ref 1)]) ⟨rfl, trivial⟩ (v_X3_readNumber_70 d (by omega) S _ hf)
    · replace hf := (if_neg c1).symm.trans hf
      refine zv_aload_n dX3_readNumber_11 rfl rfl ?_
      refine zv_aload_n dX3_readNumber_12 rfl rfl ?_
      refine zv_get zf_X3_19 (wo_1 S) rfl dX3_readNumber_13 ?_
      obtain ⟨x3, hc2, hf⟩ := zbind hf
      refine zv_callV dX3_readNumber_16 zk_X3_25 zm_X3_byteAt (c_X3_byteAt  d S (S.1 1 2) x3 hc2) (wo_1 S) rfl rfl rfl (Nat.le_of_ble_eq_true rfl) ?_
      refine zv_bipush (v := 48) dX3_readNumber_19 (by decide) ?_
      refine zv_bipush (v := 57) dX3_readNumber_21 (by decide) ?_
      obtain ⟨x5, hc4, hf⟩ := zbind hf
      refine zv_callSN dX3_readNumber_23 zk_X3_38 zm_X5_isWithin (c_X5_isWithin  d x3 (48 : Int32) (57 : Int32) x5 hc4) rfl rfl (Nat.le_of_ble_eq_true rfl) ?_
      refine zv_if_eq (tgt := 70) dX3_readNumber_26 (by decide) (fun c6 => ?_) (fun c6 => ?_)
      · replace hf := (if_pos c6).symm.trans hf
        exact zV_sub ([(0, .ref 1)]) ⟨rfl, trivial⟩ (v_X3_readNumber_70 d (by omega) S _ hf)
      · replace hf := (if_neg c6).symm.trans hf
        refine zv_aload_n dX3_readNumber_29 rfl rfl ?_
        refine zv_bipush (v := 100) dX3_readNumber_30 (by decide) ?_
        refine zv_aload_n dX3_readNumber_32 rfl rfl ?_
        refine zv_get zf_X3_32 (wo_1 S) rfl dX3_readNumber_33 ?_
        refine zv_bipush (v := 10) dX3_readNumber_36 (by decide) ?_
        refine zv_imul dX3_readNumber_38 ?_
        refine zv_aload_n dX3_readNumber_39 rfl rfl ?_
        refine zv_aload_n dX3_readNumber_40 rfl rfl ?_
        refine zv_get zf_X3_19 (wo_1 S) rfl dX3_readNumber_41 ?_
        obtain ⟨x8, hc7, hf⟩ := zbind hf
        refine zv_callV dX3_readNumber_44 zk_X3_25 zm_X3_byteAt (c_X3_byteAt  d S (S.1 1 2) x8 hc7) (wo_1 S) rfl rfl rfl (Nat.le_of_ble_eq_true rfl) ?_
        refine zv_iadd dX3_readNumber_47 ?_
        refine zv_bipush (v := 48) dX3_readNumber_48 (by decide) ?_
        refine zv_isub dX3_readNumber_50 ?_
        refine zv_min zk_X3_48 (Nat.le_of_ble_eq_true rfl) dX3_readNumber_51 ?_
        refine zv_put zp_X3_32 (wo_1 S) rfl (fun _ => ⟨rfl, rfl⟩) (Nat.le_of_ble_eq_true rfl) (wp_1_5 S (if ((((S.1 1 5) * (10 : Int32)) + x8) - (48 : Int32)) < (100 : Int32) then ((((S.1 1 5) * (10 : Int32)) + x8) - (48 : Int32)) else (100 : Int32))) dX3_readNumber_54 ?_
        refine zv_aload_n dX3_readNumber_57 rfl rfl ?_
        refine zv_dup dX3_readNumber_58 rfl ?_
        refine zv_get zf_X3_19 (wo_1 (zu S 1 5 (if ((((S.1 1 5) * (10 : Int32)) + x8) - (48 : Int32)) < (100 : Int32) then ((((S.1 1 5) * (10 : Int32)) + x8) - (48 : Int32)) else (100 : Int32)))) rfl dX3_readNumber_59 ?_
        refine zv_iconst (v := 1) dX3_readNumber_62 (by decide) ?_
        refine zv_iadd dX3_readNumber_63 ?_
        refine zv_put zp_X3_19 (wo_1 (zu S 1 5 (if ((((S.1 1 5) * (10 : Int32)) + x8) - (48 : Int32)) < (100 : Int32) then ((((S.1 1 5) * (10 : Int32)) + x8) - (48 : Int32)) else (100 : Int32)))) rfl (fun _ => ⟨rfl, rfl⟩) (Nat.le_of_ble_eq_true rfl) (wp_1_2 (zu S 1 5 (if ((((S.1 1 5) * (10 : Int32)) + x8) - (48 : Int32)) < (100 : Int32) then ((((S.1 1 5) * (10 : Int32)) + x8) - (48 : Int32)) else (100 : Int32))) (((zu S 1 5 (if ((((S.1 1 5) * (10 : Int32)) + x8) - (48 : Int32)) < (100 : Int32) then ((((S.1 1 5) * (10 : Int32)) + x8) - (48 : Int32)) else (100 : Int32))).1 1 2) + (1 : Int32))) dX3_readNumber_64 ?_
        refine zv_goto (tgt := 0) dX3_readNumber_67 (by decide) ?_
        exact zV_sub ([(0, .ref 1)]) ⟨rfl, trivial⟩ (ih (zu (zu S 1 5 (if ((((S.1 1 5) * (10 : Int32)) + x8) - (48 : Int32)) < (100 : Int32) then ((((S.1 1 5) * (10 : Int32)) + x8) - (48 : Int32)) else (100 : Int32))) 1 2 (((zu S 1 5 (if ((((S.1 1 5) * (10 : Int32)) + x8) - (48 : Int32)) < (100 : Int32) then ((((S.1 1 5) * (10 : Int32)) + x8) - (48 : Int32)) else (100 : Int32))).1 1 2) + (1 : Int32))) _ hf)
def f_X3_readNumber (S : zS) : Option zS :=
  f_X3_readNumber_0 zN S
set_option maxRecDepth 100000 in
set_option maxHeartbeats 4000000 in
theorem c_X3_readNumber  (d : Nat) (hd : 1 ≤ d) (S : zS) (S' : zS) (hf : f_X3_readNumber S = (some S')) : zC d yX3_readNumber cX3_readNumber 2 none [.ref 1] (wd S) (zq none (wd S')) := by
  obtain ⟨d, rfl⟩ : ∃ e, d = e + 1 := ⟨d - 1, by omega⟩
  refine zC_intro (by decide) rfl (Nat.le_of_ble_eq_true rfl) ?_
  unfold f_X3_readNumber at hf
  exact zV_sub ([(0, .ref 1)]) ⟨rfl, trivial⟩ (v_X3_readNumber_0 d (by omega) zN S _ hf)
-- KingPrices$Text.toNextToken()V height 2 writes
def f_X3_toNextToken_129 (S : zS) : Option zS :=
  some (zu S 1 2 ((S.1 1 2) + (1 : Int32)))
set_option maxRecDepth 100000 in
set_option maxHeartbeats 4000000 in
theorem v_X3_toNextToken_129 (d : Nat) (hd : 1 ≤ d) (S : zS) (S' : zS) (hf : f_X3_toNextToken_129 S = (some S')) : zV none (d + 1) yX3_toNextToken cX3_toNextToken 2 none 129 [(0, .ref 1)] [] (wd S) (zq none (wd S')) := by
  unfold f_X3_toNextToken_129 at hf
  refine zv_aload_n dX3_toNextToken_129 rfl rfl ?_
  refine zv_dup dX3_toNextToken_130 rfl ?_
  refine zv_get zf_X3_19 (wo_1 S) rfl dX3_toNextToken_131 ?_
  refine zv_iconst (v := 1) dX3_toNextToken_134 (by decide) ?_
  refine zv_iadd dX3_toNextToken_135 ?_
  refine zv_put zp_X3_19 (wo_1 S) rfl (fun _ => ⟨rfl, rfl⟩) (Nat.le_of_ble_eq_true rfl) (wp_1_2 S ((S.1 1 2) + (1 : Int32))) dX3_toNextToken_136 ?_
  exact zv_vret dX3_toNextToken_139 rfl (zret0 wd hf)
def f_X3_toNextToken_37 (S : zS) : Option zS :=
  ((f_X3_byteAt (zu (zu S 1 3 (S.1 1 2)) 1 5 (0 : Int32)) ((zu (zu S 1 3 (S.1 1 2)) 1 5 (0 : Int32)).1 1 2)).bind (fun x2 => (if ((zu (zu S 1 3 (S.1 1 2)) 1 5 (0 : Int32)).1 1 2) < ((zu (zu S 1 3 (S.1 1 2)) 1 5 (0 : Int32)).1 1 1) then ((f_X5_isWithin x2 (97 : Int32) (122 : Int32)).bind (fun x5 => (if x5 = 0 then ((f_X5_isWithin x2 (48 : Int32) (57 : Int32)).bind (fun x8 => (if x8 = 0 then (if x2 = (59 : Int32) then f_X3_toNextToken_129 (zu (zu (zu S 1 3 (S.1 1 2)) 1 5 (0 : Int32)) 1 4 (3 : Int32)) else f_X3_toNextToken_129 (zu (zu (zu S 1 3 (S.1 1 2)) 1 5 (0 : Int32)) 1 4 (4 : Int32))) else ((f_X3_readNumber (zu (zu S 1 3 (S.1 1 2)) 1 5 (0 : Int32))).bind (fun S12 => some S12))))) else ((f_X3_readLetters (zu (zu S 1 3 (S.1 1 2)) 1 5 (0 : Int32))).bind (fun S14 => some S14))))) else some (zu (zu (zu S 1 3 (S.1 1 2)) 1 5 (0 : Int32)) 1 4 (0 : Int32)))))
set_option maxRecDepth 100000 in
set_option maxHeartbeats 4000000 in
theorem v_X3_toNextToken_37 (d : Nat) (hd : 1 ≤ d) (S : zS) (S' : zS) (hf : f_X3_toNextToken_37 S = (some S')) : zV none (d + 1) yX3_toNextToken cX3_toNextToken 2 none 37 [(0, .ref 1)] [] (wd S) (zq none (wd S')) := by
  unfold f_X3_toNextToken_37 at hf
  refine zv_aload_n dX3_toNextToken_37 rfl rfl ?_
  refine zv_aload_n dX3_toNextToken_38 rfl rfl ?_
  refine zv_get zf_X3_19 (wo_1 S) rfl dX3_toNextToken_39 ?_
  refine zv_put zp_X3_29 (wo_1 S) rfl (fun _ => ⟨rfl, rfl⟩) (Nat.le_of_ble_eq_true rfl) (wp_1_3 S (S.1 1 2)) dX3_toNextToken_42 ?_
  refine zv_aload_n dX3_toNextToken_45 rfl rfl ?_
  refine zv_iconst (v := 0) dX3_toNextToken_46 (by decide) ?_
  refine zv_put zp_X3_32 (wo_1 (zu S 1 3 (S.1 1 2))) rfl (fun _ => ⟨rfl, rfl⟩) (Nat.le_of_ble_eq_true rfl) (wp_1_5 (zu S 1 3 (S.1 1 2)) (0 : Int32)) dX3_toNextToken_47 ?_
  refine zv_aload_n dX3_toNextToken_50 rfl rfl ?_
  refine zv_aload_n dX3_toNextToken_51 rfl rfl ?_
  refine zv_get zf_X3_19 (wo_1 (zu (zu S 1 3 (S.1 1 2)) 1 5 (0 : Int32))) rfl dX3_toNextToken_52 ?_
  obtain ⟨x2, hc1, hf⟩ := zbind hf
  refine zv_callV dX3_toNextToken_55 zk_X3_25 zm_X3_byteAt (c_X3_byteAt  d (zu (zu S 1 3 (S.1 1 2)) 1 5 (0 : Int32)) ((zu (zu S 1 3 (S.1 1 2)) 1 5 (0 : Int32)).1 1 2) x2 hc1) (wo_1 (zu (zu S 1 3 (S.1 1 2)) 1 5 (0 : Int32))) rfl rfl rfl (Nat.le_of_ble_eq_true rfl) ?_
  refine zv_istore_n dX3_toNextToken_58 rfl (by decide) ?_
  refine zv_aload_n dX3_toNextToken_59 rfl rfl ?_
  refine zv_get zf_X3_19 (wo_1 (zu (zu S 1 3 (S.1 1 2)) 1 5 (0 : Int32))) rfl dX3_toNextToken_60 ?_
  refine zv_aload_n dX3_toNextToken_63 rfl rfl ?_
  refine zv_get zf_X3_15 (wo_1 (zu (zu S 1 3 (S.1 1 2)) 1 5 (0 : Int32))) rfl dX3_toNextToken_64 ?_
  refine zv_icmp_lt (tgt := 78) dX3_toNextToken_67 (by decide) (fun c3 => ?_) (fun c3 => ?_)
  · replace hf := (if_pos c3).symm.trans hf
    refine zv_iload_n dX3_toNextToken_78 rfl rfl ?_
    refine zv_bipush (v := 97) dX3_toNextToken_79 (by decide) ?_
    refine zv_bipush (v := 122) dX3_toNextToken_81 (by decide) ?_
    obtain ⟨x5, hc4, hf⟩ := zbind hf
    refine zv_callSN dX3_toNextToken_83 zk_X3_38 zm_X5_isWithin (c_X5_isWithin  d x2 (97 : Int32) (122 : Int32) x5 hc4) rfl rfl (Nat.le_of_ble_eq_true rfl) ?_
    refine zv_if_eq (tgt := 96) dX3_toNextToken_86 (by decide) (fun c6 => ?_) (fun c6 => ?_)
    · replace hf := (if_pos c6).symm.trans hf
      refine zv_iload_n dX3_toNextToken_96 rfl rfl ?_
      refine zv_bipush (v := 48) dX3_toNextToken_97 (by decide) ?_
      refine zv_bipush (v := 57) dX3_toNextToken_99 (by decide) ?_
      obtain ⟨x8, hc7, hf⟩ := zbind hf
      refine zv_callSN dX3_toNextToken_101 zk_X3_38 zm_X5_isWithin (c_X5_isWithin  d x2 (48 : Int32) (57 : Int32) x8 hc7) rfl rfl (Nat.le_of_ble_eq_true rfl) ?_
      refine zv_if_eq (tgt := 114) dX3_toNextToken_104 (by decide) (fun c9 => ?_) (fun c9 => ?_)
      · replace hf := (if_pos c9).symm.trans hf
        refine zv_aload_n dX3_toNextToken_114 rfl rfl ?_
        refine zv_iload_n dX3_toNextToken_115 rfl rfl ?_
        refine zv_bipush (v := 59) dX3_toNextToken_116 (by decide) ?_
        refine zv_icmp_ne (tgt := 125) dX3_toNextToken_118 (by decide) (fun c10 => ?_) (fun c10 => ?_)
        · replace hf := (if_neg c10).symm.trans hf
          refine zv_iconst (v := 4) dX3_toNextToken_125 (by decide) ?_
          refine zv_put zp_X3_35 (wo_1 (zu (zu S 1 3 (S.1 1 2)) 1 5 (0 : Int32))) rfl (fun _ => ⟨rfl, rfl⟩) (Nat.le_of_ble_eq_true rfl) (wp_1_4 (zu (zu S 1 3 (S.1 1 2)) 1 5 (0 : Int32)) (4 : Int32)) dX3_toNextToken_126 ?_
          exact zV_sub ([(0, .ref 1)]) ⟨rfl, trivial⟩ (v_X3_toNextToken_129 d (by omega) (zu (zu (zu S 1 3 (S.1 1 2)) 1 5 (0 : Int32)) 1 4 (4 : Int32)) _ hf)
        · replace hf := (if_pos c10).symm.trans hf
          refine zv_iconst (v := 3) dX3_toNextToken_121 (by decide) ?_
          refine zv_goto (tgt := 126) dX3_toNextToken_122 (by decide) ?_
          refine zv_put zp_X3_35 (wo_1 (zu (zu S 1 3 (S.1 1 2)) 1 5 (0 : Int32))) rfl (fun _ => ⟨rfl, rfl⟩) (Nat.le_of_ble_eq_true rfl) (wp_1_4 (zu (zu S 1 3 (S.1 1 2)) 1 5 (0 : Int32)) (3 : Int32)) dX3_toNextToken_126 ?_
          exact zV_sub ([(0, .ref 1)]) ⟨rfl, trivial⟩ (v_X3_toNextToken_129 d (by omega) (zu (zu (zu S 1 3 (S.1 1 2)) 1 5 (0 : Int32)) 1 4 (3 : Int32)) _ hf)
      · replace hf := (if_neg c9).symm.trans hf
        refine zv_aload_n dX3_toNextToken_107 rfl rfl ?_
        obtain ⟨S12, hc11, hf⟩ := zbind hf
        refine zv_callV dX3_toNextToken_108 zk_X3_45 zm_X3_readNumber (c_X3_readNumber  d (by omega) (zu (zu S 1 3 (S.1 1 2)) 1 5 (0 : Int32)) S12 hc11) (wo_1 (zu (zu S 1 3 (S.1 1 2)) 1 5 (0 : Int32))) rfl rfl rfl (Nat.le_of_ble_eq_true rfl) ?_
        refine zv_goto (tgt := 139) dX3_toNextToken_111 (by decide) ?_
        exact zv_vret dX3_toNextToken_139 rfl (zret0 wd hf)
    · replace hf := (if_neg c6).symm.trans hf
      refine zv_aload_n dX3_toNextToken_89 rfl rfl ?_
      obtain ⟨S14, hc13, hf⟩ := zbind hf
      refine zv_callV dX3_toNextToken_90 zk_X3_42 zm_X3_readLetters (c_X3_readLetters  d (by omega) (zu (zu S 1 3 (S.1 1 2)) 1 5 (0 : Int32)) S14 hc13) (wo_1 (zu (zu S 1 3 (S.1 1 2)) 1 5 (0 : Int32))) rfl rfl rfl (Nat.le_of_ble_eq_true rfl) ?_
      refine zv_goto (tgt := 139) dX3_toNextToken_93 (by decide) ?_
      exact zv_vret dX3_toNextToken_139 rfl (zret0 wd hf)
  · replace hf := (if_neg c3).symm.trans hf
    refine zv_aload_n dX3_toNextToken_70 rfl rfl ?_
    refine zv_iconst (v := 0) dX3_toNextToken_71 (by decide) ?_
    refine zv_put zp_X3_35 (wo_1 (zu (zu S 1 3 (S.1 1 2)) 1 5 (0 : Int32))) rfl (fun _ => ⟨rfl, rfl⟩) (Nat.le_of_ble_eq_true rfl) (wp_1_4 (zu (zu S 1 3 (S.1 1 2)) 1 5 (0 : Int32)) (0 : Int32)) dX3_toNextToken_72 ?_
    refine zv_goto (tgt := 139) dX3_toNextToken_75 (by decide) ?_
    exact zv_vret dX3_toNextToken_139 rfl (zret0 wd hf)
def f_X3_toNextToken_0  : Nat → zS → Option zS
  | 0, _ => none
  | n + 1, S => (if (S.1 1 1) ≤ (S.1 1 2) then f_X3_toNextToken_37 S else ((f_X3_byteAt S (S.1 1 2)).bind (fun x3 => (if x3 = (32 : Int32) then f_X3_toNextToken_0  n (zu S 1 2 ((S.1 1 2) + (1 : Int32))) else f_X3_toNextToken_37 S))))
set_option maxRecDepth 100000 in
set_option maxHeartbeats 4000000 in
theorem v_X3_toNextToken_0 (d : Nat) (hd : 1 ≤ d) : ∀ (n : Nat) (S : zS) (S' : zS), f_X3_toNextToken_0  n S = (some S') → zV none (d + 1) yX3_toNextToken cX3_toNextToken 2 none 0 [(0, .ref 1)] [] (wd S) (zq none (wd S')) := by
  intro n
  induction n with
  | zero =>
    intro S S' hf
    cases hf
  | succ n ih =>
    intro S S' hf
    rw [f_X3_toNextToken_0] at hf
    refine zv_aload_n dX3_toNextToken_0 rfl rfl ?_
    refine zv_get zf_X3_19 (wo_1 S) rfl dX3_toNextToken_1 ?_
    refine zv_aload_n dX3_toNextToken_4 rfl rfl ?_
    refine zv_get zf_X3_15 (wo_1 S) rfl dX3_toNextToken_5 ?_
    refine zv_icmp_ge (tgt := 37) dX3_toNextToken_8 (by decide) (fun c1 => ?_) (fun c1 => ?_)
    · replace hf := (if_pos c1).symm.trans hf
      exact zV_sub ([(0, .ref 1)]) ⟨rfl, trivial⟩ (v_X3_toNextToken_37 d (by omega) S _ hf)
    · replace hf := (if_neg c1).symm.trans hf
      refine zv_aload_n dX3_toNextToken_11 rfl rfl ?_
      refine zv_aload_n dX3_toNextToken_12 rfl rfl ?_
      refine zv_get zf_X3_19 (wo_1 S) rfl dX3_toNextToken_13 ?_
      obtain ⟨x3, hc2, hf⟩ := zbind hf
      refine zv_callV dX3_toNextToken_16 zk_X3_25 zm_X3_byteAt (c_X3_byteAt  d S (S.1 1 2) x3 hc2) (wo_1 S) rfl rfl rfl (Nat.le_of_ble_eq_true rfl) ?_
      refine zv_bipush (v := 32) dX3_toNextToken_19 (by decide) ?_
      refine zv_icmp_ne (tgt := 37) dX3_toNextToken_21 (by decide) (fun c4 => ?_) (fun c4 => ?_)
      · replace hf := (if_neg c4).symm.trans hf
        exact zV_sub ([(0, .ref 1)]) ⟨rfl, trivial⟩ (v_X3_toNextToken_37 d (by omega) S _ hf)
      · replace hf := (if_pos c4).symm.trans hf
        refine zv_aload_n dX3_toNextToken_24 rfl rfl ?_
        refine zv_dup dX3_toNextToken_25 rfl ?_
        refine zv_get zf_X3_19 (wo_1 S) rfl dX3_toNextToken_26 ?_
        refine zv_iconst (v := 1) dX3_toNextToken_29 (by decide) ?_
        refine zv_iadd dX3_toNextToken_30 ?_
        refine zv_put zp_X3_19 (wo_1 S) rfl (fun _ => ⟨rfl, rfl⟩) (Nat.le_of_ble_eq_true rfl) (wp_1_2 S ((S.1 1 2) + (1 : Int32))) dX3_toNextToken_31 ?_
        refine zv_goto (tgt := 0) dX3_toNextToken_34 (by decide) ?_
        exact zV_sub ([(0, .ref 1)]) ⟨rfl, trivial⟩ (ih (zu S 1 2 ((S.1 1 2) + (1 : Int32))) _ hf)
def f_X3_toNextToken (S : zS) : Option zS :=
  f_X3_toNextToken_0 zN S
set_option maxRecDepth 100000 in
set_option maxHeartbeats 4000000 in
theorem c_X3_toNextToken  (d : Nat) (hd : 2 ≤ d) (S : zS) (S' : zS) (hf : f_X3_toNextToken S = (some S')) : zC d yX3_toNextToken cX3_toNextToken 2 none [.ref 1] (wd S) (zq none (wd S')) := by
  obtain ⟨d, rfl⟩ : ∃ e, d = e + 1 := ⟨d - 1, by omega⟩
  refine zC_intro (by decide) rfl (Nat.le_of_ble_eq_true rfl) ?_
  unfold f_X3_toNextToken at hf
  exact zV_sub ([(0, .ref 1)]) ⟨rfl, trivial⟩ (v_X3_toNextToken_0 d (by omega) zN S _ hf)
-- KingPrices$Land.readItem(LKingPrices$Text;)Z height 4 writes
def f_X0_readItem_104 (r : Nat) (S : zS) (a2 : Int32) : Option (Int32 × zS) :=
  (if (S.1 1 4) = (3 : Int32) then ((f_X3_toNextToken S).bind (fun S3 => ((f_X0_takeItem S3 r a2).bind (fun S5 => some ((1 : Int32), S5))))) else some ((0 : Int32), S))
set_option maxRecDepth 100000 in
set_option maxHeartbeats 4000000 in
theorem v_X0_readItem_104 {r : Nat} (hL : zLand wd r) (d : Nat) (hd : 3 ≤ d) (S : zS) (a2 : Int32) (v : Int32) (S' : zS) (hf : f_X0_readItem_104 r S a2 = (some (v, S'))) : zV none (d + 1) yX0_readItem cX0_readItem 5 (some .boolean) 104 [(0, .ref r), (1, .ref 1), (2, .int a2)] [] (wd S) (zq (some (.int v)) (wd S')) := by
  unfold f_X0_readItem_104 at hf
  refine zv_aload_n dX0_readItem_104 rfl rfl ?_
  refine zv_get zf_X0_67 (wo_1 S) rfl dX0_readItem_105 ?_
  refine zv_iconst (v := 3) dX0_readItem_108 (by decide) ?_
  refine zv_icmp_eq (tgt := 114) dX0_readItem_109 (by decide) (fun c1 => ?_) (fun c1 => ?_)
  · replace hf := (if_pos c1).symm.trans hf
    refine zv_aload_n dX0_readItem_114 rfl rfl ?_
    obtain ⟨S3, hc2, hf⟩ := zbind hf
    refine zv_callV dX0_readItem_115 zk_X0_86 zm_X3_toNextToken (c_X3_toNextToken  d (by omega) S S3 hc2) (wo_1 S) rfl rfl rfl (Nat.le_of_ble_eq_true rfl) ?_
    refine zv_aload_n dX0_readItem_118 rfl rfl ?_
    refine zv_iload_n dX0_readItem_119 rfl rfl ?_
    obtain ⟨S5, hc4, hf⟩ := zbind hf
    refine zv_callV dX0_readItem_120 zk_X0_96 zm_X0_takeItem (c_X0_takeItem hL d (by omega) S3 a2 S5 hc4) (hL.1 S3) rfl rfl rfl (Nat.le_of_ble_eq_true rfl) ?_
    refine zv_iconst (v := 1) dX0_readItem_123 (by decide) ?_
    exact zv_iret (ty := .boolean) dX0_readItem_124 rfl rfl (zret2 wd hf)
  · replace hf := (if_neg c1).symm.trans hf
    refine zv_iconst (v := 0) dX0_readItem_112 (by decide) ?_
    exact zv_iret (ty := .boolean) dX0_readItem_113 rfl rfl (zret2 wd hf)
def f_X0_readItem_43 (r : Nat) : Nat → zS → Int32 → Int32 → Int32 → Option (Int32 × zS)
  | 0, _, _, _, _ => none
  | n + 1, S, a2, a3, a4 => (if a3 ≤ a4 then f_X0_readItem_104 r S a2 else (if (3 : Int32) ≤ a4 then f_X0_readItem_104 r S a2 else (if (S.1 1 4) = (2 : Int32) then ((f_X0_mayBeTold S r a2 a4 (S.1 1 5)).bind (fun x5 => (if x5 = 0 then some ((0 : Int32), S) else (if zin a4 3 then ((f_X3_toNextToken (zr S (r + 6) (upd (S.1 (r + 6)) (a4).toNatClampNeg (S.1 1 5)))).bind (fun S9 => f_X0_readItem_43 r n S9 a2 a3 (a4 + (1 : Int32)))) else none)))) else some ((0 : Int32), S))))
set_option maxRecDepth 100000 in
set_option maxHeartbeats 4000000 in
theorem v_X0_readItem_43 {r : Nat} (hL : zLand wd r) (d : Nat) (hd : 3 ≤ d) : ∀ (n : Nat) (S : zS) (a2 : Int32) (a3 : Int32) (a4 : Int32) (v : Int32) (S' : zS), f_X0_readItem_43 r n S a2 a3 a4 = (some (v, S')) → zV none (d + 1) yX0_readItem cX0_readItem 5 (some .boolean) 43 [(0, .ref r), (1, .ref 1), (2, .int a2), (3, .int a3), (4, .int a4)] [] (wd S) (zq (some (.int v)) (wd S')) := by
  intro n
  induction n with
  | zero =>
    intro S a2 a3 a4 v S' hf
    cases hf
  | succ n ih =>
    intro S a2 a3 a4 v S' hf
    rw [f_X0_readItem_43] at hf
    refine zv_iload dX0_readItem_43 rfl ?_
    refine zv_iload_n dX0_readItem_45 rfl rfl ?_
    refine zv_icmp_ge (tgt := 104) dX0_readItem_46 (by decide) (fun c1 => ?_) (fun c1 => ?_)
    · replace hf := (if_pos c1).symm.trans hf
      exact zV_sub ([(0, .ref r), (1, .ref 1), (2, .int a2)]) ⟨rfl, rfl, rfl, trivial⟩ (v_X0_readItem_104 hL d (by omega) S a2 _ _ hf)
    · replace hf := (if_neg c1).symm.trans hf
      refine zv_iload dX0_readItem_49 rfl ?_
      refine zv_aload_n dX0_readItem_51 rfl rfl ?_
      refine zv_get zf_X0_27 (hL.1 S) rfl dX0_readItem_52 ?_
      refine zv_alen (v := 3) (t := 0) (by decide) (by decide) (hL.a6 S) dX0_readItem_55 ?_
      refine zv_icmp_ge (tgt := 104) dX0_readItem_56 (by decide) (fun c2 => ?_) (fun c2 => ?_)
      · replace hf := (if_pos c2).symm.trans hf
        exact zV_sub ([(0, .ref r), (1, .ref 1), (2, .int a2)]) ⟨rfl, rfl, rfl, trivial⟩ (v_X0_readItem_104 hL d (by omega) S a2 _ _ hf)
      · replace hf := (if_neg c2).symm.trans hf
        refine zv_aload_n dX0_readItem_59 rfl rfl ?_
        refine zv_get zf_X0_67 (wo_1 S) rfl dX0_readItem_60 ?_
        refine zv_iconst (v := 2) dX0_readItem_63 (by decide) ?_
        refine zv_icmp_ne (tgt := 81) dX0_readItem_64 (by decide) (fun c3 => ?_) (fun c3 => ?_)
        · replace hf := (if_neg c3).symm.trans hf
          refine zv_iconst (v := 0) dX0_readItem_81 (by decide) ?_
          exact zv_iret (ty := .boolean) dX0_readItem_82 rfl rfl (zret2 wd hf)
        · replace hf := (if_pos c3).symm.trans hf
          refine zv_aload_n dX0_readItem_67 rfl rfl ?_
          refine zv_iload_n dX0_readItem_68 rfl rfl ?_
          refine zv_iload dX0_readItem_69 rfl ?_
          refine zv_aload_n dX0_readItem_71 rfl rfl ?_
          refine zv_get zf_X0_80 (wo_1 S) rfl dX0_readItem_72 ?_
          obtain ⟨x5, hc4, hf⟩ := zbind hf
          refine zv_callV dX0_readItem_75 zk_X0_92 zm_X0_mayBeTold (c_X0_mayBeTold hL d (by omega) S a2 a4 (S.1 1 5) x5 hc4) (hL.1 S) rfl rfl rfl (Nat.le_of_ble_eq_true rfl) ?_
          refine zv_if_ne (tgt := 83) dX0_readItem_78 (by decide) (fun c6 => ?_) (fun c6 => ?_)
          · replace hf := (if_neg c6).symm.trans hf
            refine zv_aload_n dX0_readItem_83 rfl rfl ?_
            refine zv_get zf_X0_27 (hL.1 S) rfl dX0_readItem_84 ?_
            refine zv_iload dX0_readItem_87 rfl ?_
            refine zv_aload_n dX0_readItem_89 rfl rfl ?_
            refine zv_get zf_X0_80 (wo_1 S) rfl dX0_readItem_90 ?_
            obtain ⟨hb7, hf⟩ := zifb hf
            refine zv_iast hb7 (hL.a6 S) (hL.s6 S (upd (S.1 (r + 6)) (a4).toNatClampNeg (S.1 1 5))) dX0_readItem_93 ?_
            refine zv_aload_n dX0_readItem_94 rfl rfl ?_
            obtain ⟨S9, hc8, hf⟩ := zbind hf
            refine zv_callV dX0_readItem_95 zk_X0_86 zm_X3_toNextToken (c_X3_toNextToken  d (by omega) (zr S (r + 6) (upd (S.1 (r + 6)) (a4).toNatClampNeg (S.1 1 5))) S9 hc8) (wo_1 (zr S (r + 6) (upd (S.1 (r + 6)) (a4).toNatClampNeg (S.1 1 5)))) rfl rfl rfl (Nat.le_of_ble_eq_true rfl) ?_
            refine zv_iinc (v := 1) dX0_readItem_98 rfl (by decide) (by decide) ?_
            refine zv_goto (tgt := 43) dX0_readItem_101 (by decide) ?_
            exact zV_sub ([(0, .ref r), (1, .ref 1), (2, .int a2), (3, .int a3), (4, .int (a4 + (1 : Int32)))]) ⟨rfl, rfl, rfl, rfl, rfl, trivial⟩ (ih S9 a2 a3 (a4 + (1 : Int32)) _ _ hf)
          · replace hf := (if_pos c6).symm.trans hf
            refine zv_iconst (v := 0) dX0_readItem_81 (by decide) ?_
            exact zv_iret (ty := .boolean) dX0_readItem_82 rfl rfl (zret2 wd hf)
def f_X0_readItem_40 (r : Nat) (S : zS) (a2 : Int32) (a3 : Int32) : Option (Int32 × zS) :=
  f_X0_readItem_43 r zN S a2 a3 (0 : Int32)
set_option maxRecDepth 100000 in
set_option maxHeartbeats 4000000 in
theorem v_X0_readItem_40 {r : Nat} (hL : zLand wd r) (d : Nat) (hd : 3 ≤ d) (S : zS) (a2 : Int32) (a3 : Int32) (v : Int32) (S' : zS) (hf : f_X0_readItem_40 r S a2 a3 = (some (v, S'))) : zV none (d + 1) yX0_readItem cX0_readItem 5 (some .boolean) 40 [(0, .ref r), (1, .ref 1), (2, .int a2), (3, .int a3)] [] (wd S) (zq (some (.int v)) (wd S')) := by
  unfold f_X0_readItem_40 at hf
  refine zv_iconst (v := 0) dX0_readItem_40 (by decide) ?_
  refine zv_istore dX0_readItem_41 (by decide) ?_
  exact zV_sub ([(0, .ref r), (1, .ref 1), (2, .int a2), (3, .int a3), (4, .int (0 : Int32))]) ⟨rfl, rfl, rfl, rfl, rfl, trivial⟩ (v_X0_readItem_43 hL d (by omega) zN S a2 a3 (0 : Int32) _ _ hf)
def f_X0_readItem (S : zS) (r : Nat) : Option (Int32 × zS) :=
  (if (S.1 1 4) = (1 : Int32) then ((f_X0_mayBegin S r (S.1 1 5)).bind (fun x3 => (if x3 = 0 then some ((0 : Int32), S) else ((f_X3_toNextToken S).bind (fun S6 => ((f_X0_isToldOnce (S.1 1 5)).bind (fun x8 => (if x8 = 0 then f_X0_readItem_40 r S6 (S.1 1 5) (3 : Int32) else f_X0_readItem_40 r S6 (S.1 1 5) (1 : Int32))))))))) else some ((0 : Int32), S))
set_option maxRecDepth 100000 in
set_option maxHeartbeats 4000000 in
theorem c_X0_readItem {r : Nat} (hL : zLand wd r) (d : Nat) (hd : 4 ≤ d) (S : zS) (v : Int32) (S' : zS) (hf : f_X0_readItem S r = (some (v, S'))) : zC d yX0_readItem cX0_readItem 5 (some .boolean) [.ref r, .ref 1] (wd S) (zq (some (.int v)) (wd S')) := by
  obtain ⟨d, rfl⟩ : ∃ e, d = e + 1 := ⟨d - 1, by omega⟩
  refine zC_intro (by decide) rfl (Nat.le_of_ble_eq_true rfl) ?_
  unfold f_X0_readItem at hf
  refine zv_aload_n dX0_readItem_0 rfl rfl ?_
  refine zv_get zf_X0_80 (wo_1 S) rfl dX0_readItem_1 ?_
  refine zv_istore_n dX0_readItem_4 rfl (by decide) ?_
  refine zv_aload_n dX0_readItem_5 rfl rfl ?_
  refine zv_get zf_X0_67 (wo_1 S) rfl dX0_readItem_6 ?_
  refine zv_iconst (v := 1) dX0_readItem_9 (by decide) ?_
  refine zv_icmp_ne (tgt := 21) dX0_readItem_10 (by decide) (fun c1 => ?_) (fun c1 => ?_)
  · replace hf := (if_neg c1).symm.trans hf
    refine zv_iconst (v := 0) dX0_readItem_21 (by decide) ?_
    exact zv_iret (ty := .boolean) dX0_readItem_22 rfl rfl (zret2 wd hf)
  · replace hf := (if_pos c1).symm.trans hf
    refine zv_aload_n dX0_readItem_13 rfl rfl ?_
    refine zv_iload_n dX0_readItem_14 rfl rfl ?_
    obtain ⟨x3, hc2, hf⟩ := zbind hf
    refine zv_callV dX0_readItem_15 zk_X0_83 zm_X0_mayBegin (c_X0_mayBegin hL d (by omega) S (S.1 1 5) x3 hc2) (hL.1 S) rfl rfl rfl (Nat.le_of_ble_eq_true rfl) ?_
    refine zv_if_ne (tgt := 23) dX0_readItem_18 (by decide) (fun c4 => ?_) (fun c4 => ?_)
    · replace hf := (if_neg c4).symm.trans hf
      refine zv_aload_n dX0_readItem_23 rfl rfl ?_
      obtain ⟨S6, hc5, hf⟩ := zbind hf
      refine zv_callV dX0_readItem_24 zk_X0_86 zm_X3_toNextToken (c_X3_toNextToken  d (by omega) S S6 hc5) (wo_1 S) rfl rfl rfl (Nat.le_of_ble_eq_true rfl) ?_
      refine zv_iload_n dX0_readItem_27 rfl rfl ?_
      obtain ⟨x8, hc7, hf⟩ := zbind hf
      refine zv_callS dX0_readItem_28 zk_X0_89 zm_X0_isToldOnce (c_X0_isToldOnce  d (S.1 1 5) x8 hc7) rfl rfl (Nat.le_of_ble_eq_true rfl) ?_
      refine zv_if_eq (tgt := 38) dX0_readItem_31 (by decide) (fun c9 => ?_) (fun c9 => ?_)
      · replace hf := (if_pos c9).symm.trans hf
        refine zv_iconst (v := 3) dX0_readItem_38 (by decide) ?_
        refine zv_istore_n dX0_readItem_39 rfl (by decide) ?_
        exact zV_sub ([(0, .ref r), (1, .ref 1), (2, .int (S.1 1 5)), (3, .int (3 : Int32))]) ⟨rfl, rfl, rfl, rfl, trivial⟩ (v_X0_readItem_40 hL d (by omega) S6 (S.1 1 5) (3 : Int32) _ _ hf)
      · replace hf := (if_neg c9).symm.trans hf
        refine zv_iconst (v := 1) dX0_readItem_34 (by decide) ?_
        refine zv_goto (tgt := 39) dX0_readItem_35 (by decide) ?_
        refine zv_istore_n dX0_readItem_39 rfl (by decide) ?_
        exact zV_sub ([(0, .ref r), (1, .ref 1), (2, .int (S.1 1 5)), (3, .int (1 : Int32))]) ⟨rfl, rfl, rfl, rfl, trivial⟩ (v_X0_readItem_40 hL d (by omega) S6 (S.1 1 5) (1 : Int32) _ _ hf)
    · replace hf := (if_pos c4).symm.trans hf
      refine zv_iconst (v := 0) dX0_readItem_21 (by decide) ?_
      exact zv_iret (ty := .boolean) dX0_readItem_22 rfl rfl (zret2 wd hf)
-- KingPrices$Text.toFirstToken()V height 3 writes
def f_X3_toFirstToken (S : zS) : Option zS :=
  ((f_X3_toNextToken (zu S 1 2 (0 : Int32))).bind (fun S2 => some S2))
set_option maxRecDepth 100000 in
set_option maxHeartbeats 4000000 in
theorem c_X3_toFirstToken  (d : Nat) (hd : 3 ≤ d) (S : zS) (S' : zS) (hf : f_X3_toFirstToken S = (some S')) : zC d yX3_toFirstToken cX3_toFirstToken 1 none [.ref 1] (wd S) (zq none (wd S')) := by
  obtain ⟨d, rfl⟩ : ∃ e, d = e + 1 := ⟨d - 1, by omega⟩
  refine zC_intro (by decide) rfl (Nat.le_of_ble_eq_true rfl) ?_
  unfold f_X3_toFirstToken at hf
  refine zv_aload_n dX3_toFirstToken_0 rfl rfl ?_
  refine zv_iconst (v := 0) dX3_toFirstToken_1 (by decide) ?_
  refine zv_put zp_X3_19 (wo_1 S) rfl (fun _ => ⟨rfl, rfl⟩) (Nat.le_of_ble_eq_true rfl) (wp_1_2 S (0 : Int32)) dX3_toFirstToken_2 ?_
  refine zv_aload_n dX3_toFirstToken_5 rfl rfl ?_
  obtain ⟨S2, hc1, hf⟩ := zbind hf
  refine zv_callV dX3_toFirstToken_6 zk_X3_22 zm_X3_toNextToken (c_X3_toNextToken  d (by omega) (zu S 1 2 (0 : Int32)) S2 hc1) (wo_1 (zu S 1 2 (0 : Int32))) rfl rfl rfl (Nat.le_of_ble_eq_true rfl) ?_
  exact zv_vret dX3_toFirstToken_9 rfl (zret0 wd hf)
-- KingPrices$Land.readAll(LKingPrices$Text;)I height 5 writes
def f_X0_readAll_46 (r : Nat) (S : zS) (a2 : Int32) : Option (Int32 × zS) :=
  ((f_X0_findShortestWays S r).bind (fun S2 => some (a2, S2)))
set_option maxRecDepth 100000 in
set_option maxHeartbeats 4000000 in
theorem v_X0_readAll_46 {r : Nat} (hL : zLand wd r) (d : Nat) (hd : 4 ≤ d) (S : zS) (a2 : Int32) (v : Int32) (S' : zS) (hf : f_X0_readAll_46 r S a2 = (some (v, S'))) : zV none (d + 1) yX0_readAll cX0_readAll 3 (some .int) 46 [(0, .ref r), (2, .int a2)] [] (wd S) (zq (some (.int v)) (wd S')) := by
  unfold f_X0_readAll_46 at hf
  refine zv_aload_n dX0_readAll_46 rfl rfl ?_
  obtain ⟨S2, hc1, hf⟩ := zbind hf
  refine zv_callV dX0_readAll_47 zk_X0_77 zm_X0_findShortestWays (c_X0_findShortestWays hL d (by omega) S S2 hc1) (hL.1 S) rfl rfl rfl (Nat.le_of_ble_eq_true rfl) ?_
  refine zv_iload_n dX0_readAll_50 rfl rfl ?_
  exact zv_iret (ty := .int) dX0_readAll_51 rfl rfl (zret2 wd hf)
def f_X0_readAll_10 (r : Nat) : Nat → zS → Int32 → Option (Int32 × zS)
  | 0, _, _ => none
  | n + 1, S, a2 => (if (180 : Int32) ≤ a2 then f_X0_readAll_46 r S a2 else (if (S.1 1 4) = 0 then f_X0_readAll_46 r S a2 else (zb2 (f_X0_readItem S r) (fun x4 S5 => (if x4 = 0 then some (((-10 : Int32) - (S5.1 1 3)), S5) else f_X0_readAll_10 r n S5 (a2 + (1 : Int32)))))))
set_option maxRecDepth 100000 in
set_option maxHeartbeats 4000000 in
theorem v_X0_readAll_10 {r : Nat} (hL : zLand wd r) (d : Nat) (hd : 4 ≤ d) : ∀ (n : Nat) (S : zS) (a2 : Int32) (v : Int32) (S' : zS), f_X0_readAll_10 r n S a2 = (some (v, S')) → zV none (d + 1) yX0_readAll cX0_readAll 3 (some .int) 10 [(0, .ref r), (1, .ref 1), (2, .int a2)] [] (wd S) (zq (some (.int v)) (wd S')) := by
  intro n
  induction n with
  | zero =>
    intro S a2 v S' hf
    cases hf
  | succ n ih =>
    intro S a2 v S' hf
    rw [f_X0_readAll_10] at hf
    refine zv_iload_n dX0_readAll_10 rfl rfl ?_
    refine zv_sipush (v := 180) dX0_readAll_11 (by decide) ?_
    refine zv_icmp_ge (tgt := 46) dX0_readAll_14 (by decide) (fun c1 => ?_) (fun c1 => ?_)
    · replace hf := (if_pos c1).symm.trans hf
      exact zV_sub ([(0, .ref r), (2, .int a2)]) ⟨rfl, rfl, trivial⟩ (v_X0_readAll_46 hL d (by omega) S a2 _ _ hf)
    · replace hf := (if_neg c1).symm.trans hf
      refine zv_aload_n dX0_readAll_17 rfl rfl ?_
      refine zv_get zf_X0_67 (wo_1 S) rfl dX0_readAll_18 ?_
      refine zv_if_eq (tgt := 46) dX0_readAll_21 (by decide) (fun c2 => ?_) (fun c2 => ?_)
      · replace hf := (if_pos c2).symm.trans hf
        exact zV_sub ([(0, .ref r), (2, .int a2)]) ⟨rfl, rfl, trivial⟩ (v_X0_readAll_46 hL d (by omega) S a2 _ _ hf)
      · replace hf := (if_neg c2).symm.trans hf
        refine zv_aload_n dX0_readAll_24 rfl rfl ?_
        refine zv_aload_n dX0_readAll_25 rfl rfl ?_
        obtain ⟨x4, S5, hc3, hf⟩ := zbind2 hf
        refine zv_callV dX0_readAll_26 zk_X0_70 zm_X0_readItem (c_X0_readItem hL d (by omega) S x4 S5 hc3) (hL.1 S) rfl rfl rfl (Nat.le_of_ble_eq_true rfl) ?_
        refine zv_if_ne (tgt := 40) dX0_readAll_29 (by decide) (fun c6 => ?_) (fun c6 => ?_)
        · replace hf := (if_neg c6).symm.trans hf
          refine zv_iinc (v := 1) dX0_readAll_40 rfl (by decide) (by decide) ?_
          refine zv_goto (tgt := 10) dX0_readAll_43 (by decide) ?_
          exact zV_sub ([(0, .ref r), (1, .ref 1), (2, .int (a2 + (1 : Int32)))]) ⟨rfl, rfl, rfl, trivial⟩ (ih S5 (a2 + (1 : Int32)) _ _ hf)
        · replace hf := (if_pos c6).symm.trans hf
          refine zv_bipush (v := -10) dX0_readAll_32 (by decide) ?_
          refine zv_aload_n dX0_readAll_34 rfl rfl ?_
          refine zv_get zf_X0_74 (wo_1 S5) rfl dX0_readAll_35 ?_
          refine zv_isub dX0_readAll_38 ?_
          exact zv_iret (ty := .int) dX0_readAll_39 rfl rfl (zret2 wd hf)
def f_X0_readAll (S : zS) (r : Nat) : Option (Int32 × zS) :=
  ((f_X0_empty S r).bind (fun S2 => ((f_X3_toFirstToken S2).bind (fun S4 => f_X0_readAll_10 r zN S4 (0 : Int32)))))
set_option maxRecDepth 100000 in
set_option maxHeartbeats 4000000 in
theorem c_X0_readAll {r : Nat} (hL : zLand wd r) (d : Nat) (hd : 5 ≤ d) (S : zS) (v : Int32) (S' : zS) (hf : f_X0_readAll S r = (some (v, S'))) : zC d yX0_readAll cX0_readAll 3 (some .int) [.ref r, .ref 1] (wd S) (zq (some (.int v)) (wd S')) := by
  obtain ⟨d, rfl⟩ : ∃ e, d = e + 1 := ⟨d - 1, by omega⟩
  refine zC_intro (by decide) rfl (Nat.le_of_ble_eq_true rfl) ?_
  unfold f_X0_readAll at hf
  refine zv_aload_n dX0_readAll_0 rfl rfl ?_
  obtain ⟨S2, hc1, hf⟩ := zbind hf
  refine zv_callV dX0_readAll_1 zk_X0_30 zm_X0_empty (c_X0_empty hL d (by omega) S S2 hc1) (hL.1 S) rfl rfl rfl (Nat.le_of_ble_eq_true rfl) ?_
  refine zv_aload_n dX0_readAll_4 rfl rfl ?_
  obtain ⟨S4, hc3, hf⟩ := zbind hf
  refine zv_callV dX0_readAll_5 zk_X0_62 zm_X3_toFirstToken (c_X3_toFirstToken  d (by omega) S2 S4 hc3) (wo_1 S2) rfl rfl rfl (Nat.le_of_ble_eq_true rfl) ?_
  refine zv_iconst (v := 0) dX0_readAll_8 (by decide) ?_
  refine zv_istore_n dX0_readAll_9 rfl (by decide) ?_
  exact zV_sub ([(0, .ref r), (1, .ref 1), (2, .int (0 : Int32))]) ⟨rfl, rfl, rfl, trivial⟩ (v_X0_readAll_10 hL d (by omega) zN S4 (0 : Int32) _ _ hf)
-- KingPrices$Land.writtenFor(I)I height 0 reads
def f_X0_writtenFor (S : zS) (r : Nat) (a1 : Int32) : Option Int32 :=
  some ((((S.1 r 9) * a1) / (10 : Int32)))
set_option maxRecDepth 100000 in
set_option maxHeartbeats 4000000 in
theorem c_X0_writtenFor {W : zS → List va_E} {r : Nat} (hL : zLand W r) (d : Nat) (S : zS) (a1 : Int32) (v : Int32) (hf : f_X0_writtenFor S r a1 = (some v)) : zC d yX0_writtenFor cX0_writtenFor 2 (some .int) [.ref r, .int a1] (W S) (zq (some (.int v)) (W S)) := by
  refine zC_intro (by decide) rfl (Nat.le_of_ble_eq_true rfl) ?_
  unfold f_X0_writtenFor at hf
  refine zv_aload_n dX0_writtenFor_0 rfl rfl ?_
  refine zv_get zf_X0_43 (hL.1 S) rfl dX0_writtenFor_1 ?_
  refine zv_iload_n dX0_writtenFor_4 rfl rfl ?_
  refine zv_imul dX0_writtenFor_5 ?_
  refine zv_bipush (v := 10) dX0_writtenFor_6 (by decide) ?_
  refine zv_idiv (by decide) dX0_writtenFor_8 ?_
  exact zv_iret (ty := .int) dX0_writtenFor_9 rfl rfl (zret1 hf)
-- KingPrices$Story.get(I)I height 0 reads
def f_X2_get (S : zS) (r : Nat) (a1 : Int32) : Option Int32 :=
  (if a1 < (0 : Int32) then some ((0 : Int32)) else (if (28 : Int32) ≤ a1 then some ((0 : Int32)) else (if zin a1 308 then some ((S.1 (r + 1) (a1).toNatClampNeg)) else none)))
set_option maxRecDepth 100000 in
set_option maxHeartbeats 4000000 in
theorem c_X2_get {W : zS → List va_E} {r : Nat} (hT : zStory W r) (d : Nat) (S : zS) (a1 : Int32) (v : Int32) (hf : f_X2_get S r a1 = (some v)) : zC d yX2_get cX2_get 2 (some .int) [.ref r, .int a1] (W S) (zq (some (.int v)) (W S)) := by
  refine zC_intro (by decide) rfl (Nat.le_of_ble_eq_true rfl) ?_
  unfold f_X2_get at hf
  refine zv_iconst (v := 0) dX2_get_0 (by decide) ?_
  refine zv_iload_n dX2_get_1 rfl rfl ?_
  refine zv_icmp_gt (tgt := 20) dX2_get_2 (by decide) (fun c1 => ?_) (fun c1 => ?_)
  · replace hf := (if_pos c1).symm.trans hf
    refine zv_iconst (v := 0) dX2_get_20 (by decide) ?_
    exact zv_iret (ty := .int) dX2_get_21 rfl rfl (zret1 hf)
  · replace hf := (if_neg c1).symm.trans hf
    refine zv_iload_n dX2_get_5 rfl rfl ?_
    refine zv_bipush (v := 28) dX2_get_6 (by decide) ?_
    refine zv_icmp_ge (tgt := 20) dX2_get_8 (by decide) (fun c2 => ?_) (fun c2 => ?_)
    · replace hf := (if_pos c2).symm.trans hf
      refine zv_iconst (v := 0) dX2_get_20 (by decide) ?_
      exact zv_iret (ty := .int) dX2_get_21 rfl rfl (zret1 hf)
    · replace hf := (if_neg c2).symm.trans hf
      refine zv_aload_n dX2_get_11 rfl rfl ?_
      refine zv_get zf_X2_9 (hT.1 S) rfl dX2_get_12 ?_
      refine zv_iload_n dX2_get_15 rfl rfl ?_
      obtain ⟨hb3, hf⟩ := zifb hf
      refine zv_iald hb3 (hT.2.2.1 S) dX2_get_16 ?_
      refine zv_goto (tgt := 21) dX2_get_17 (by decide) ?_
      exact zv_iret (ty := .int) dX2_get_21 rfl rfl (zret1 hf)
-- KingPrices$Story.put(II)V height 0 writes
def f_X2_put (S : zS) (r : Nat) (a1 : Int32) (a2 : Int32) : Option zS :=
  (if a1 < (0 : Int32) then some S else (if (28 : Int32) ≤ a1 then some S else (if zin a1 308 then some (zr S (r + 1) (upd (S.1 (r + 1)) (a1).toNatClampNeg a2)) else none)))
set_option maxRecDepth 100000 in
set_option maxHeartbeats 4000000 in
theorem c_X2_put {W : zS → List va_E} {r : Nat} (hT : zStory W r) (d : Nat) (S : zS) (a1 : Int32) (a2 : Int32) (S' : zS) (hf : f_X2_put S r a1 a2 = (some S')) : zC d yX2_put cX2_put 3 none [.ref r, .int a1, .int a2] (W S) (zq none (W S')) := by
  refine zC_intro (by decide) rfl (Nat.le_of_ble_eq_true rfl) ?_
  unfold f_X2_put at hf
  refine zv_iconst (v := 0) dX2_put_0 (by decide) ?_
  refine zv_iload_n dX2_put_1 rfl rfl ?_
  refine zv_icmp_gt (tgt := 18) dX2_put_2 (by decide) (fun c1 => ?_) (fun c1 => ?_)
  · replace hf := (if_pos c1).symm.trans hf
    exact zv_vret dX2_put_18 rfl (zret0 W hf)
  · replace hf := (if_neg c1).symm.trans hf
    refine zv_iload_n dX2_put_5 rfl rfl ?_
    refine zv_bipush (v := 28) dX2_put_6 (by decide) ?_
    refine zv_icmp_ge (tgt := 18) dX2_put_8 (by decide) (fun c2 => ?_) (fun c2 => ?_)
    · replace hf := (if_pos c2).symm.trans hf
      exact zv_vret dX2_put_18 rfl (zret0 W hf)
    · replace hf := (if_neg c2).symm.trans hf
      refine zv_aload_n dX2_put_11 rfl rfl ?_
      refine zv_get zf_X2_9 (hT.1 S) rfl dX2_put_12 ?_
      refine zv_iload_n dX2_put_15 rfl rfl ?_
      refine zv_iload_n dX2_put_16 rfl rfl ?_
      obtain ⟨hb3, hf⟩ := zifb hf
      refine zv_iast hb3 (hT.2.2.1 S) (hT.2.2.2 S (upd (S.1 (r + 1)) (a1).toNatClampNeg a2)) dX2_put_17 ?_
      exact zv_vret dX2_put_18 rfl (zret0 W hf)
-- KingPrices$Story.add(II)V height 1 writes
def f_X2_add (S : zS) (r : Nat) (a1 : Int32) (a2 : Int32) : Option zS :=
  ((f_X2_get S r a1).bind (fun x2 => ((f_X2_put S r a1 (x2 + a2)).bind (fun S4 => some S4))))
set_option maxRecDepth 100000 in
set_option maxHeartbeats 4000000 in
theorem c_X2_add {W : zS → List va_E} {r : Nat} (hT : zStory W r) (d : Nat) (hd : 1 ≤ d) (S : zS) (a1 : Int32) (a2 : Int32) (S' : zS) (hf : f_X2_add S r a1 a2 = (some S')) : zC d yX2_add cX2_add 3 none [.ref r, .int a1, .int a2] (W S) (zq none (W S')) := by
  obtain ⟨d, rfl⟩ : ∃ e, d = e + 1 := ⟨d - 1, by omega⟩
  refine zC_intro (by decide) rfl (Nat.le_of_ble_eq_true rfl) ?_
  unfold f_X2_add at hf
  refine zv_aload_n dX2_add_0 rfl rfl ?_
  refine zv_iload_n dX2_add_1 rfl rfl ?_
  refine zv_aload_n dX2_add_2 rfl rfl ?_
  refine zv_iload_n dX2_add_3 rfl rfl ?_
  obtain ⟨x2, hc1, hf⟩ := zbind hf
  refine zv_callV dX2_add_4 zk_X2_41 zm_X2_get (c_X2_get hT d S a1 x2 hc1) (hT.1 S) rfl rfl rfl (Nat.le_of_ble_eq_true rfl) ?_
  refine zv_iload_n dX2_add_7 rfl rfl ?_
  refine zv_iadd dX2_add_8 ?_
  obtain ⟨S4, hc3, hf⟩ := zbind hf
  refine zv_callV dX2_add_9 zk_X2_30 zm_X2_put (c_X2_put hT d S a1 (x2 + a2) S4 hc3) (hT.1 S) rfl rfl rfl (Nat.le_of_ble_eq_true rfl) ?_
  exact zv_vret dX2_add_12 rfl (zret0 W hf)
-- KingPrices$Story.begin(LKingPrices$Land;)V height 2 writes
def f_X2_begin_42 (r : Nat) (q : Nat) : Nat → zS → Int32 → Option zS
  | 0, _, _ => none
  | n + 1, S, a2 => (if (S.1 q 6) ≤ a2 then some S else ((f_X0_hensOf S q a2).bind (fun x3 => ((f_X2_put S r ((4 : Int32) + a2) x3).bind (fun S5 => f_X2_begin_42 r q n S5 (a2 + (1 : Int32)))))))
set_option maxRecDepth 100000 in
set_option maxHeartbeats 4000000 in
theorem v_X2_begin_42 {W : zS → List va_E} {r : Nat} {q : Nat} (hT : zStory W r) (hL : zLand W q) (d : Nat) (hd : 1 ≤ d) : ∀ (n : Nat) (S : zS) (a2 : Int32) (S' : zS), f_X2_begin_42 r q n S a2 = (some S') → zV none (d + 1) yX2_begin cX2_begin 3 none 42 [(0, .ref r), (1, .ref q), (2, .int a2)] [] (W S) (zq none (W S')) := by
  intro n
  induction n with
  | zero =>
    intro S a2 S' hf
    cases hf
  | succ n ih =>
    intro S a2 S' hf
    rw [f_X2_begin_42] at hf
    refine zv_iload_n dX2_begin_42 rfl rfl ?_
    refine zv_aload_n dX2_begin_43 rfl rfl ?_
    refine zv_get zf_X2_25 (hL.1 S) rfl dX2_begin_44 ?_
    refine zv_icmp_ge (tgt := 68) dX2_begin_47 (by decide) (fun c1 => ?_) (fun c1 => ?_)
    · replace hf := (if_pos c1).symm.trans hf
      exact zv_vret dX2_begin_68 rfl (zret0 W hf)
    · replace hf := (if_neg c1).symm.trans hf
      refine zv_aload_n dX2_begin_50 rfl rfl ?_
      refine zv_iconst (v := 4) dX2_begin_51 (by decide) ?_
      refine zv_iload_n dX2_begin_52 rfl rfl ?_
      refine zv_iadd dX2_begin_53 ?_
      refine zv_aload_n dX2_begin_54 rfl rfl ?_
      refine zv_iload_n dX2_begin_55 rfl rfl ?_
      obtain ⟨x3, hc2, hf⟩ := zbind hf
      refine zv_callV dX2_begin_56 zk_X2_37 zm_X0_hensOf (c_X0_hensOf hL d (by omega) S a2 x3 hc2) (hL.1 S) rfl rfl rfl (Nat.le_of_ble_eq_true rfl) ?_
      obtain ⟨S5, hc4, hf⟩ := zbind hf
      refine zv_callV dX2_begin_59 zk_X2_30 zm_X2_put (c_X2_put hT d S ((4 : Int32) + a2) x3 S5 hc4) (hT.1 S) rfl rfl rfl (Nat.le_of_ble_eq_true rfl) ?_
      refine zv_iinc (v := 1) dX2_begin_62 rfl (by decide) (by decide) ?_
      refine zv_goto (tgt := 42) dX2_begin_65 (by decide) ?_
      exact zV_sub ([(0, .ref r), (1, .ref q), (2, .int (a2 + (1 : Int32)))]) ⟨rfl, rfl, rfl, trivial⟩ (ih S5 (a2 + (1 : Int32)) _ hf)
def f_X2_begin_31 (r : Nat) (q : Nat) (S : zS) : Option zS :=
  ((f_X2_put S r (2 : Int32) (S.1 q 10)).bind (fun S2 => f_X2_begin_42 r q zN S2 (0 : Int32)))
set_option maxRecDepth 100000 in
set_option maxHeartbeats 4000000 in
theorem v_X2_begin_31 {W : zS → List va_E} {r : Nat} {q : Nat} (hT : zStory W r) (hL : zLand W q) (d : Nat) (hd : 1 ≤ d) (S : zS) (S' : zS) (hf : f_X2_begin_31 r q S = (some S')) : zV none (d + 1) yX2_begin cX2_begin 3 none 31 [(0, .ref r), (1, .ref q)] [] (W S) (zq none (W S')) := by
  unfold f_X2_begin_31 at hf
  refine zv_aload_n dX2_begin_31 rfl rfl ?_
  refine zv_iconst (v := 2) dX2_begin_32 (by decide) ?_
  refine zv_aload_n dX2_begin_33 rfl rfl ?_
  refine zv_get zf_X2_34 (hL.1 S) rfl dX2_begin_34 ?_
  obtain ⟨S2, hc1, hf⟩ := zbind hf
  refine zv_callV dX2_begin_37 zk_X2_30 zm_X2_put (c_X2_put hT d S (2 : Int32) (S.1 q 10) S2 hc1) (hT.1 S) rfl rfl rfl (Nat.le_of_ble_eq_true rfl) ?_
  refine zv_iconst (v := 0) dX2_begin_40 (by decide) ?_
  refine zv_istore_n dX2_begin_41 rfl (by decide) ?_
  exact zV_sub ([(0, .ref r), (1, .ref q), (2, .int (0 : Int32))]) ⟨rfl, rfl, rfl, trivial⟩ (v_X2_begin_42 hT hL d (by omega) zN S2 (0 : Int32) _ hf)
def f_X2_begin (S : zS) (r : Nat) (q : Nat) : Option zS :=
  ((f_J7_fill_53178 S (r + 1) 308 (0 : Int32)).bind (fun S2 => (if ((zu S2 r 1 (0 : Int32)).1 q 6) ≤ 0 then ((f_X2_put (zu S2 r 1 (0 : Int32)) r (0 : Int32) (-9 : Int32)).bind (fun S5 => f_X2_begin_31 r q S5)) else ((f_X2_put (zu S2 r 1 (0 : Int32)) r (0 : Int32) (0 : Int32)).bind (fun S7 => f_X2_begin_31 r q S7)))))
set_option maxRecDepth 100000 in
set_option maxHeartbeats 4000000 in
theorem c_X2_begin {W : zS → List va_E} {r : Nat} {q : Nat} (hT : zStory W r) (hL : zLand W q) (d : Nat) (hd : 2 ≤ d) (S : zS) (S' : zS) (hf : f_X2_begin S r q = (some S')) : zC d yX2_begin cX2_begin 3 none [.ref r, .ref q] (W S) (zq none (W S')) := by
  obtain ⟨d, rfl⟩ : ∃ e, d = e + 1 := ⟨d - 1, by omega⟩
  refine zC_intro (by decide) rfl (Nat.le_of_ble_eq_true rfl) ?_
  unfold f_X2_begin at hf
  refine zv_aload_n dX2_begin_0 rfl rfl ?_
  refine zv_get zf_X2_9 (hT.1 S) rfl dX2_begin_1 ?_
  refine zv_iconst (v := 0) dX2_begin_4 (by decide) ?_
  obtain ⟨S2, hc1, hf⟩ := zbind hf
  refine zv_callS dX2_begin_5 zk_X2_15 zm_J7_fill_53178 (c_J7_fill_53178 (by decide) hT.2.2.1 hT.2.2.2 d S (0 : Int32) S2 hc1) rfl rfl (Nat.le_of_ble_eq_true rfl) ?_
  refine zv_aload_n dX2_begin_8 rfl rfl ?_
  refine zv_iconst (v := 0) dX2_begin_9 (by decide) ?_
  refine zv_put zp_X2_21 (hT.1 S2) rfl (fun _ => ⟨rfl, rfl⟩) (Nat.le_of_ble_eq_true rfl) (hT.2.1 S2 (0 : Int32)) dX2_begin_10 ?_
  refine zv_aload_n dX2_begin_13 rfl rfl ?_
  refine zv_iconst (v := 0) dX2_begin_14 (by decide) ?_
  refine zv_aload_n dX2_begin_15 rfl rfl ?_
  refine zv_get zf_X2_25 (hL.1 (zu S2 r 1 (0 : Int32))) rfl dX2_begin_16 ?_
  refine zv_if_le (tgt := 26) dX2_begin_19 (by decide) (fun c3 => ?_) (fun c3 => ?_)
  · replace hf := (if_pos c3).symm.trans hf
    refine zv_bipush (v := -9) dX2_begin_26 (by decide) ?_
    obtain ⟨S5, hc4, hf⟩ := zbind hf
    refine zv_callV dX2_begin_28 zk_X2_30 zm_X2_put (c_X2_put hT d (zu S2 r 1 (0 : Int32)) (0 : Int32) (-9 : Int32) S5 hc4) (hT.1 (zu S2 r 1 (0 : Int32))) rfl rfl rfl (Nat.le_of_ble_eq_true rfl) ?_
    exact zV_sub ([(0, .ref r), (1, .ref q)]) ⟨rfl, rfl, trivial⟩ (v_X2_begin_31 hT hL d (by omega) S5 _ hf)
  · replace hf := (if_neg c3).symm.trans hf
    refine zv_iconst (v := 0) dX2_begin_22 (by decide) ?_
    refine zv_goto (tgt := 28) dX2_begin_23 (by decide) ?_
    obtain ⟨S7, hc6, hf⟩ := zbind hf
    refine zv_callV dX2_begin_28 zk_X2_30 zm_X2_put (c_X2_put hT d (zu S2 r 1 (0 : Int32)) (0 : Int32) (0 : Int32) S7 hc6) (hT.1 (zu S2 r 1 (0 : Int32))) rfl rfl rfl (Nat.le_of_ble_eq_true rfl) ?_
    exact zV_sub ([(0, .ref r), (1, .ref q)]) ⟨rfl, rfl, trivial⟩ (v_X2_begin_31 hT hL d (by omega) S7 _ hf)
-- KingPrices$Story.copyFrom(LKingPrices$Story;)V height 1 writes
def f_X2_copyFrom (S : zS) (r : Nat) (q : Nat) : Option zS :=
  some (zu (zr S (r + 1) (va_cpy (S.1 (q + 1)) (S.1 (r + 1)) 0 0 308)) r 1 ((zr S (r + 1) (va_cpy (S.1 (q + 1)) (S.1 (r + 1)) 0 0 308)).1 q 1))
set_option maxRecDepth 100000 in
set_option maxHeartbeats 4000000 in
theorem c_X2_copyFrom {W : zS → List va_E} {r : Nat} {q : Nat} (hT : zStory W r) (hU : zStory W q) (d : Nat) (hd : 1 ≤ d) (S : zS) (S' : zS) (hf : f_X2_copyFrom S r q = (some S')) : zC d yX2_copyFrom cX2_copyFrom 2 none [.ref r, .ref q] (W S) (zq none (W S')) := by
  obtain ⟨d, rfl⟩ : ∃ e, d = e + 1 := ⟨d - 1, by omega⟩
  refine zC_intro (by decide) rfl (Nat.le_of_ble_eq_true rfl) ?_
  unfold f_X2_copyFrom at hf
  refine zv_aload_n dX2_copyFrom_0 rfl rfl ?_
  refine zv_get zf_X2_9 (hU.1 S) rfl dX2_copyFrom_1 ?_
  refine zv_iconst (v := 0) dX2_copyFrom_4 (by decide) ?_
  refine zv_aload_n dX2_copyFrom_5 rfl rfl ?_
  refine zv_get zf_X2_9 (hT.1 S) rfl dX2_copyFrom_6 ?_
  refine zv_iconst (v := 0) dX2_copyFrom_9 (by decide) ?_
  refine zv_aload_n dX2_copyFrom_10 rfl rfl ?_
  refine zv_get zf_X2_9 (hT.1 S) rfl dX2_copyFrom_11 ?_
  refine zv_alen (v := 308) (t := 0) (by decide) (by decide) (hT.2.2.1 S) dX2_copyFrom_14 ?_
  refine zv_copyK (k0 := 0) (k1 := 0) (k2 := 308) (by decide) (by decide) (by decide) (by unfold zcpy; decide) zk_X2_53 (hU.2.2.1 S) (hT.2.2.1 S) (hT.2.2.2 S (va_cpy (S.1 (q + 1)) (S.1 (r + 1)) 0 0 308)) (Nat.le_of_ble_eq_true rfl) dX2_copyFrom_15 ?_
  refine zv_aload_n dX2_copyFrom_18 rfl rfl ?_
  refine zv_aload_n dX2_copyFrom_19 rfl rfl ?_
  refine zv_get zf_X2_21 (hU.1 (zr S (r + 1) (va_cpy (S.1 (q + 1)) (S.1 (r + 1)) 0 0 308))) rfl dX2_copyFrom_20 ?_
  refine zv_put zp_X2_21 (hT.1 (zr S (r + 1) (va_cpy (S.1 (q + 1)) (S.1 (r + 1)) 0 0 308))) rfl (fun _ => ⟨rfl, rfl⟩) (Nat.le_of_ble_eq_true rfl) (hT.2.1 (zr S (r + 1) (va_cpy (S.1 (q + 1)) (S.1 (r + 1)) 0 0 308)) ((zr S (r + 1) (va_cpy (S.1 (q + 1)) (S.1 (r + 1)) 0 0 308)).1 q 1)) dX2_copyFrom_23 ?_
  exact zv_vret dX2_copyFrom_26 rfl (zret0 W hf)
-- KingPrices$Story.goBack()Z height 1 writes
def f_X2_goBack (S : zS) (r : Nat) : Option (Int32 × zS) :=
  (if (1 : Int32) ≤ (S.1 r 1) then some ((1 : Int32), (zu (zr S (r + 1) (va_cpy (S.1 (r + 1)) (S.1 (r + 1)) 28 0 280)) r 1 (((zr S (r + 1) (va_cpy (S.1 (r + 1)) (S.1 (r + 1)) 28 0 280)).1 r 1) - (1 : Int32)))) else some ((0 : Int32), S))
set_option maxRecDepth 100000 in
set_option maxHeartbeats 4000000 in
theorem c_X2_goBack {W : zS → List va_E} {r : Nat} (hT : zStory W r) (d : Nat) (hd : 1 ≤ d) (S : zS) (v : Int32) (S' : zS) (hf : f_X2_goBack S r = (some (v, S'))) : zC d yX2_goBack cX2_goBack 1 (some .boolean) [.ref r] (W S) (zq (some (.int v)) (W S')) := by
  obtain ⟨d, rfl⟩ : ∃ e, d = e + 1 := ⟨d - 1, by omega⟩
  refine zC_intro (by decide) rfl (Nat.le_of_ble_eq_true rfl) ?_
  unfold f_X2_goBack at hf
  refine zv_aload_n dX2_goBack_0 rfl rfl ?_
  refine zv_get zf_X2_21 (hT.1 S) rfl dX2_goBack_1 ?_
  refine zv_iconst (v := 1) dX2_goBack_4 (by decide) ?_
  refine zv_icmp_ge (tgt := 10) dX2_goBack_5 (by decide) (fun c1 => ?_) (fun c1 => ?_)
  · replace hf := (if_pos c1).symm.trans hf
    refine zv_aload_n dX2_goBack_10 rfl rfl ?_
    refine zv_get zf_X2_9 (hT.1 S) rfl dX2_goBack_11 ?_
    refine zv_bipush (v := 28) dX2_goBack_14 (by decide) ?_
    refine zv_aload_n dX2_goBack_16 rfl rfl ?_
    refine zv_get zf_X2_9 (hT.1 S) rfl dX2_goBack_17 ?_
    refine zv_iconst (v := 0) dX2_goBack_20 (by decide) ?_
    refine zv_sipush (v := 280) dX2_goBack_21 (by decide) ?_
    refine zv_copyK (k0 := 28) (k1 := 0) (k2 := 280) (by decide) (by decide) (by decide) (by unfold zcpy; decide) zk_X2_53 (hT.2.2.1 S) (hT.2.2.1 S) (hT.2.2.2 S (va_cpy (S.1 (r + 1)) (S.1 (r + 1)) 28 0 280)) (Nat.le_of_ble_eq_true rfl) dX2_goBack_24 ?_
    refine zv_aload_n dX2_goBack_27 rfl rfl ?_
    refine zv_dup dX2_goBack_28 rfl ?_
    refine zv_get zf_X2_21 (hT.1 (zr S (r + 1) (va_cpy (S.1 (r + 1)) (S.1 (r + 1)) 28 0 280))) rfl dX2_goBack_29 ?_
    refine zv_iconst (v := 1) dX2_goBack_32 (by decide) ?_
    refine zv_isub dX2_goBack_33 ?_
    refine zv_put zp_X2_21 (hT.1 (zr S (r + 1) (va_cpy (S.1 (r + 1)) (S.1 (r + 1)) 28 0 280))) rfl (fun _ => ⟨rfl, rfl⟩) (Nat.le_of_ble_eq_true rfl) (hT.2.1 (zr S (r + 1) (va_cpy (S.1 (r + 1)) (S.1 (r + 1)) 28 0 280)) (((zr S (r + 1) (va_cpy (S.1 (r + 1)) (S.1 (r + 1)) 28 0 280)).1 r 1) - (1 : Int32))) dX2_goBack_34 ?_
    refine zv_iconst (v := 1) dX2_goBack_37 (by decide) ?_
    exact zv_iret (ty := .boolean) dX2_goBack_38 rfl rfl (zret2 W hf)
  · replace hf := (if_neg c1).symm.trans hf
    refine zv_iconst (v := 0) dX2_goBack_8 (by decide) ?_
    exact zv_iret (ty := .boolean) dX2_goBack_9 rfl rfl (zret2 W hf)
-- KingPrices$Story.letDaysPass(II)V height 2 writes
def f_X2_letDaysPass (S : zS) (r : Nat) (a1 : Int32) (a2 : Int32) : Option zS :=
  ((f_X2_get S r (2 : Int32)).bind (fun x2 => ((f_X2_add S r (1 : Int32) a1).bind (fun S4 => ((f_X2_add S4 r (2 : Int32) (-(if x2 < (a1 * a2) then x2 else (a1 * a2)))).bind (fun S6 => ((f_X2_get S6 r (3 : Int32)).bind (fun x8 => ((f_X2_put S6 r (3 : Int32) (if ((x8 + (a1 * a2)) - (if x2 < (a1 * a2) then x2 else (a1 * a2))) < (9999 : Int32) then ((x8 + (a1 * a2)) - (if x2 < (a1 * a2) then x2 else (a1 * a2))) else (9999 : Int32))).bind (fun S10 => some S10))))))))))
set_option maxRecDepth 100000 in
set_option maxHeartbeats 4000000 in
theorem c_X2_letDaysPass {W : zS → List va_E} {r : Nat} (hT : zStory W r) (d : Nat) (hd : 2 ≤ d) (S : zS) (a1 : Int32) (a2 : Int32) (S' : zS) (hf : f_X2_letDaysPass S r a1 a2 = (some S')) : zC d yX2_letDaysPass cX2_letDaysPass 5 none [.ref r, .int a1, .int a2] (W S) (zq none (W S')) := by
  obtain ⟨d, rfl⟩ : ∃ e, d = e + 1 := ⟨d - 1, by omega⟩
  refine zC_intro (by decide) rfl (Nat.le_of_ble_eq_true rfl) ?_
  unfold f_X2_letDaysPass at hf
  refine zv_iload_n dX2_letDaysPass_0 rfl rfl ?_
  refine zv_iload_n dX2_letDaysPass_1 rfl rfl ?_
  refine zv_imul dX2_letDaysPass_2 ?_
  refine zv_istore_n dX2_letDaysPass_3 rfl (by decide) ?_
  refine zv_iload_n dX2_letDaysPass_4 rfl rfl ?_
  refine zv_aload_n dX2_letDaysPass_5 rfl rfl ?_
  refine zv_iconst (v := 2) dX2_letDaysPass_6 (by decide) ?_
  obtain ⟨x2, hc1, hf⟩ := zbind hf
  refine zv_callV dX2_letDaysPass_7 zk_X2_41 zm_X2_get (c_X2_get hT d S (2 : Int32) x2 hc1) (hT.1 S) rfl rfl rfl (Nat.le_of_ble_eq_true rfl) ?_
  refine zv_min zk_X2_44 (Nat.le_of_ble_eq_true rfl) dX2_letDaysPass_10 ?_
  refine zv_istore dX2_letDaysPass_13 (by decide) ?_
  refine zv_aload_n dX2_letDaysPass_15 rfl rfl ?_
  refine zv_iconst (v := 1) dX2_letDaysPass_16 (by decide) ?_
  refine zv_iload_n dX2_letDaysPass_17 rfl rfl ?_
  obtain ⟨S4, hc3, hf⟩ := zbind hf
  refine zv_callV dX2_letDaysPass_18 zk_X2_50 zm_X2_add (c_X2_add hT d (by omega) S (1 : Int32) a1 S4 hc3) (hT.1 S) rfl rfl rfl (Nat.le_of_ble_eq_true rfl) ?_
  refine zv_aload_n dX2_letDaysPass_21 rfl rfl ?_
  refine zv_iconst (v := 2) dX2_letDaysPass_22 (by decide) ?_
  refine zv_iload dX2_letDaysPass_23 rfl ?_
  refine zv_ineg dX2_letDaysPass_25 ?_
  obtain ⟨S6, hc5, hf⟩ := zbind hf
  refine zv_callV dX2_letDaysPass_26 zk_X2_50 zm_X2_add (c_X2_add hT d (by omega) S4 (2 : Int32) (-(if x2 < (a1 * a2) then x2 else (a1 * a2))) S6 hc5) (hT.1 S4) rfl rfl rfl (Nat.le_of_ble_eq_true rfl) ?_
  refine zv_aload_n dX2_letDaysPass_29 rfl rfl ?_
  refine zv_iconst (v := 3) dX2_letDaysPass_30 (by decide) ?_
  refine zv_sipush (v := 9999) dX2_letDaysPass_31 (by decide) ?_
  refine zv_aload_n dX2_letDaysPass_34 rfl rfl ?_
  refine zv_iconst (v := 3) dX2_letDaysPass_35 (by decide) ?_
  obtain ⟨x8, hc7, hf⟩ := zbind hf
  refine zv_callV dX2_letDaysPass_36 zk_X2_41 zm_X2_get (c_X2_get hT d S6 (3 : Int32) x8 hc7) (hT.1 S6) rfl rfl rfl (Nat.le_of_ble_eq_true rfl) ?_
  refine zv_iload_n dX2_letDaysPass_39 rfl rfl ?_
  refine zv_iadd dX2_letDaysPass_40 ?_
  refine zv_iload dX2_letDaysPass_41 rfl ?_
  refine zv_isub dX2_letDaysPass_43 ?_
  refine zv_min zk_X2_44 (Nat.le_of_ble_eq_true rfl) dX2_letDaysPass_44 ?_
  obtain ⟨S10, hc9, hf⟩ := zbind hf
  refine zv_callV dX2_letDaysPass_47 zk_X2_30 zm_X2_put (c_X2_put hT d S6 (3 : Int32) (if ((x8 + (a1 * a2)) - (if x2 < (a1 * a2) then x2 else (a1 * a2))) < (9999 : Int32) then ((x8 + (a1 * a2)) - (if x2 < (a1 * a2) then x2 else (a1 * a2))) else (9999 : Int32)) S10 hc9) (hT.1 S6) rfl rfl rfl (Nat.le_of_ble_eq_true rfl) ?_
  exact zv_vret dX2_letDaysPass_50 rfl (zret0 W hf)
-- KingPrices$Story.remember()V height 1 writes
def f_X2_remember (S : zS) (r : Nat) : Option zS :=
  some (zu (zr S (r + 1) (va_cpy (S.1 (r + 1)) (S.1 (r + 1)) 0 28 280)) r 1 (if (((zr S (r + 1) (va_cpy (S.1 (r + 1)) (S.1 (r + 1)) 0 28 280)).1 r 1) + (1 : Int32)) < (10 : Int32) then (((zr S (r + 1) (va_cpy (S.1 (r + 1)) (S.1 (r + 1)) 0 28 280)).1 r 1) + (1 : Int32)) else (10 : Int32)))
set_option maxRecDepth 100000 in
set_option maxHeartbeats 4000000 in
theorem c_X2_remember {W : zS → List va_E} {r : Nat} (hT : zStory W r) (d : Nat) (hd : 1 ≤ d) (S : zS) (S' : zS) (hf : f_X2_remember S r = (some S')) : zC d yX2_remember cX2_remember 1 none [.ref r] (W S) (zq none (W S')) := by
  obtain ⟨d, rfl⟩ : ∃ e, d = e + 1 := ⟨d - 1, by omega⟩
  refine zC_intro (by decide) rfl (Nat.le_of_ble_eq_true rfl) ?_
  unfold f_X2_remember at hf
  refine zv_aload_n dX2_remember_0 rfl rfl ?_
  refine zv_get zf_X2_9 (hT.1 S) rfl dX2_remember_1 ?_
  refine zv_iconst (v := 0) dX2_remember_4 (by decide) ?_
  refine zv_aload_n dX2_remember_5 rfl rfl ?_
  refine zv_get zf_X2_9 (hT.1 S) rfl dX2_remember_6 ?_
  refine zv_bipush (v := 28) dX2_remember_9 (by decide) ?_
  refine zv_sipush (v := 280) dX2_remember_11 (by decide) ?_
  refine zv_copyK (k0 := 0) (k1 := 28) (k2 := 280) (by decide) (by decide) (by decide) (by unfold zcpy; decide) zk_X2_53 (hT.2.2.1 S) (hT.2.2.1 S) (hT.2.2.2 S (va_cpy (S.1 (r + 1)) (S.1 (r + 1)) 0 28 280)) (Nat.le_of_ble_eq_true rfl) dX2_remember_14 ?_
  refine zv_aload_n dX2_remember_17 rfl rfl ?_
  refine zv_bipush (v := 10) dX2_remember_18 (by decide) ?_
  refine zv_aload_n dX2_remember_20 rfl rfl ?_
  refine zv_get zf_X2_21 (hT.1 (zr S (r + 1) (va_cpy (S.1 (r + 1)) (S.1 (r + 1)) 0 28 280))) rfl dX2_remember_21 ?_
  refine zv_iconst (v := 1) dX2_remember_24 (by decide) ?_
  refine zv_iadd dX2_remember_25 ?_
  refine zv_min zk_X2_44 (Nat.le_of_ble_eq_true rfl) dX2_remember_26 ?_
  refine zv_put zp_X2_21 (hT.1 (zr S (r + 1) (va_cpy (S.1 (r + 1)) (S.1 (r + 1)) 0 28 280))) rfl (fun _ => ⟨rfl, rfl⟩) (Nat.le_of_ble_eq_true rfl) (hT.2.1 (zr S (r + 1) (va_cpy (S.1 (r + 1)) (S.1 (r + 1)) 0 28 280)) (if (((zr S (r + 1) (va_cpy (S.1 (r + 1)) (S.1 (r + 1)) 0 28 280)).1 r 1) + (1 : Int32)) < (10 : Int32) then (((zr S (r + 1) (va_cpy (S.1 (r + 1)) (S.1 (r + 1)) 0 28 280)).1 r 1) + (1 : Int32)) else (10 : Int32))) dX2_remember_29 ?_
  exact zv_vret dX2_remember_32 rfl (zret0 W hf)
-- KingPrices$Text.append(I)Z height 0 writes
def f_X3_append (S : zS) (a1 : Int32) : Option (Int32 × zS) :=
  (if (S.1 1 1) < 0 then some ((0 : Int32), S) else (if (S.1 1 1) < (180 : Int32) then (if zin (S.1 1 1) 180 then some ((1 : Int32), (zu (zr S 2 (upd (S.1 2) ((S.1 1 1)).toNatClampNeg a1)) 1 1 (((zr S 2 (upd (S.1 2) ((S.1 1 1)).toNatClampNeg a1)).1 1 1) + (1 : Int32)))) else none) else some ((0 : Int32), S)))
set_option maxRecDepth 100000 in
set_option maxHeartbeats 4000000 in
theorem c_X3_append  (d : Nat) (S : zS) (a1 : Int32) (v : Int32) (S' : zS) (hf : f_X3_append S a1 = (some (v, S'))) : zC d yX3_append cX3_append 2 (some .boolean) [.ref 1, .int a1] (wd S) (zq (some (.int v)) (wd S')) := by
  refine zC_intro (by decide) rfl (Nat.le_of_ble_eq_true rfl) ?_
  unfold f_X3_append at hf
  refine zv_aload_n dX3_append_0 rfl rfl ?_
  refine zv_get zf_X3_15 (wo_1 S) rfl dX3_append_1 ?_
  refine zv_if_lt (tgt := 19) dX3_append_4 (by decide) (fun c1 => ?_) (fun c1 => ?_)
  · replace hf := (if_pos c1).symm.trans hf
    refine zv_iconst (v := 0) dX3_append_19 (by decide) ?_
    exact zv_iret (ty := .boolean) dX3_append_20 rfl rfl (zret2 wd hf)
  · replace hf := (if_neg c1).symm.trans hf
    refine zv_aload_n dX3_append_7 rfl rfl ?_
    refine zv_get zf_X3_15 (wo_1 S) rfl dX3_append_8 ?_
    refine zv_aload_n dX3_append_11 rfl rfl ?_
    refine zv_get zf_X3_9 (wo_1 S) rfl dX3_append_12 ?_
    refine zv_alen (v := 180) (t := 0) (by decide) (by decide) (wo_2 S) dX3_append_15 ?_
    refine zv_icmp_lt (tgt := 21) dX3_append_16 (by decide) (fun c2 => ?_) (fun c2 => ?_)
    · replace hf := (if_pos c2).symm.trans hf
      refine zv_aload_n dX3_append_21 rfl rfl ?_
      refine zv_get zf_X3_9 (wo_1 S) rfl dX3_append_22 ?_
      refine zv_aload_n dX3_append_25 rfl rfl ?_
      refine zv_get zf_X3_15 (wo_1 S) rfl dX3_append_26 ?_
      refine zv_iload_n dX3_append_29 rfl rfl ?_
      obtain ⟨hb3, hf⟩ := zifb hf
      refine zv_iast hb3 (wo_2 S) (ws_2 S (upd (S.1 2) ((S.1 1 1)).toNatClampNeg a1)) dX3_append_30 ?_
      refine zv_aload_n dX3_append_31 rfl rfl ?_
      refine zv_dup dX3_append_32 rfl ?_
      refine zv_get zf_X3_15 (wo_1 (zr S 2 (upd (S.1 2) ((S.1 1 1)).toNatClampNeg a1))) rfl dX3_append_33 ?_
      refine zv_iconst (v := 1) dX3_append_36 (by decide) ?_
      refine zv_iadd dX3_append_37 ?_
      refine zv_put zp_X3_15 (wo_1 (zr S 2 (upd (S.1 2) ((S.1 1 1)).toNatClampNeg a1))) rfl (fun _ => ⟨rfl, rfl⟩) (Nat.le_of_ble_eq_true rfl) (wp_1_1 (zr S 2 (upd (S.1 2) ((S.1 1 1)).toNatClampNeg a1)) (((zr S 2 (upd (S.1 2) ((S.1 1 1)).toNatClampNeg a1)).1 1 1) + (1 : Int32))) dX3_append_38 ?_
      refine zv_iconst (v := 1) dX3_append_41 (by decide) ?_
      exact zv_iret (ty := .boolean) dX3_append_42 rfl rfl (zret2 wd hf)
    · replace hf := (if_neg c2).symm.trans hf
      refine zv_iconst (v := 0) dX3_append_19 (by decide) ?_
      exact zv_iret (ty := .boolean) dX3_append_20 rfl rfl (zret2 wd hf)
-- KingPrices.buyerHas(ZZII)I height 0 reads
def f_X5_buyerHas_15 (a1 : Int32) (a3 : Int32) (a4 : Int32) : Option Int32 :=
  (if a1 = 0 then some a4 else some ((a4 - a3)))
set_option maxRecDepth 100000 in
set_option maxHeartbeats 4000000 in
theorem v_X5_buyerHas_15 {h : List va_E} (d : Nat) (a1 : Int32) (a3 : Int32) (a4 : Int32) (v : Int32) (hf : f_X5_buyerHas_15 a1 a3 a4 = (some v)) : zV none d yX5_buyerHas cX5_buyerHas 5 (some .int) 15 [(1, .int a1), (3, .int a3), (4, .int a4)] [] h (zq (some (.int v)) h) := by
  unfold f_X5_buyerHas_15 at hf
  refine zv_iload_n dX5_buyerHas_15 rfl rfl ?_
  refine zv_if_eq (tgt := 26) dX5_buyerHas_16 (by decide) (fun c1 => ?_) (fun c1 => ?_)
  · replace hf := (if_pos c1).symm.trans hf
    refine zv_iload dX5_buyerHas_26 rfl ?_
    exact zv_iret (ty := .int) dX5_buyerHas_28 rfl rfl (zret1 hf)
  · replace hf := (if_neg c1).symm.trans hf
    refine zv_iload dX5_buyerHas_19 rfl ?_
    refine zv_iload_n dX5_buyerHas_21 rfl rfl ?_
    refine zv_isub dX5_buyerHas_22 ?_
    refine zv_goto (tgt := 28) dX5_buyerHas_23 (by decide) ?_
    exact zv_iret (ty := .int) dX5_buyerHas_28 rfl rfl (zret1 hf)
def f_X5_buyerHas_12 (a1 : Int32) (a2 : Int32) (a3 : Int32) : Option Int32 :=
  f_X5_buyerHas_15 a1 a3 a2
set_option maxRecDepth 100000 in
set_option maxHeartbeats 4000000 in
theorem v_X5_buyerHas_12 {h : List va_E} (d : Nat) (a1 : Int32) (a2 : Int32) (a3 : Int32) (v : Int32) (hf : f_X5_buyerHas_12 a1 a2 a3 = (some v)) : zV none d yX5_buyerHas cX5_buyerHas 5 (some .int) 12 [(1, .int a1), (2, .int a2), (3, .int a3)] [] h (zq (some (.int v)) h) := by
  unfold f_X5_buyerHas_12 at hf
  refine zv_iload_n dX5_buyerHas_12 rfl rfl ?_
  refine zv_istore dX5_buyerHas_13 (by decide) ?_
  exact zV_sub ([(1, .int a1), (3, .int a3), (4, .int a2)]) ⟨rfl, rfl, rfl, trivial⟩ (v_X5_buyerHas_15 d a1 a3 a2 _ hf)
def f_X5_buyerHas (a0 : Int32) (a1 : Int32) (a2 : Int32) (a3 : Int32) : Option Int32 :=
  (if a0 = 0 then f_X5_buyerHas_12 a1 a2 a3 else (if a1 = 0 then f_X5_buyerHas_15 a1 a3 (0 : Int32) else f_X5_buyerHas_12 a1 a2 a3))
set_option maxRecDepth 100000 in
set_option maxHeartbeats 4000000 in
theorem c_X5_buyerHas {h : List va_E} (d : Nat) (a0 : Int32) (a1 : Int32) (a2 : Int32) (a3 : Int32) (v : Int32) (hf : f_X5_buyerHas a0 a1 a2 a3 = (some v)) : zC d yX5_buyerHas cX5_buyerHas 5 (some .int) [.int a0, .int a1, .int a2, .int a3] h (zq (some (.int v)) h) := by
  refine zC_intro (by decide) rfl (Nat.le_of_ble_eq_true rfl) ?_
  unfold f_X5_buyerHas at hf
  refine zv_iload_n dX5_buyerHas_0 rfl rfl ?_
  refine zv_if_eq (tgt := 12) dX5_buyerHas_1 (by decide) (fun c1 => ?_) (fun c1 => ?_)
  · replace hf := (if_pos c1).symm.trans hf
    exact zV_sub ([(1, .int a1), (2, .int a2), (3, .int a3)]) ⟨rfl, rfl, rfl, trivial⟩ (v_X5_buyerHas_12 d a1 a2 a3 _ hf)
  · replace hf := (if_neg c1).symm.trans hf
    refine zv_iload_n dX5_buyerHas_4 rfl rfl ?_
    refine zv_if_ne (tgt := 12) dX5_buyerHas_5 (by decide) (fun c2 => ?_) (fun c2 => ?_)
    · replace hf := (if_neg c2).symm.trans hf
      exact zV_sub ([(1, .int a1), (2, .int a2), (3, .int a3)]) ⟨rfl, rfl, rfl, trivial⟩ (v_X5_buyerHas_12 d a1 a2 a3 _ hf)
    · replace hf := (if_pos c2).symm.trans hf
      refine zv_iconst (v := 0) dX5_buyerHas_8 (by decide) ?_
      refine zv_goto (tgt := 13) dX5_buyerHas_9 (by decide) ?_
      refine zv_istore dX5_buyerHas_13 (by decide) ?_
      exact zV_sub ([(1, .int a1), (3, .int a3), (4, .int (0 : Int32))]) ⟨rfl, rfl, rfl, trivial⟩ (v_X5_buyerHas_15 d a1 a3 (0 : Int32) _ hf)
-- KingPrices.greatestDivisor(II)I height 0 reads
def f_X5_greatestDivisor_7  : Nat → Int32 → Int32 → Int32 → Option Int32
  | 0, _, _, _ => none
  | n + 1, a2, a3, a4 => (if (64 : Int32) ≤ a4 then some a2 else (if a3 = 0 then some a2 else (if a3 = 0 then none else f_X5_greatestDivisor_7  n a3 (a2 - a2 / a3 * a3) (a4 + (1 : Int32)))))
set_option maxRecDepth 100000 in
set_option maxHeartbeats 4000000 in
theorem v_X5_greatestDivisor_7 {h : List va_E} (d : Nat) : ∀ (n : Nat) (a2 : Int32) (a3 : Int32) (a4 : Int32) (v : Int32), f_X5_greatestDivisor_7  n a2 a3 a4 = (some v) → zV none d yX5_greatestDivisor cX5_greatestDivisor 6 (some .int) 7 [(2, .int a2), (3, .int a3), (4, .int a4)] [] h (zq (some (.int v)) h) := by
  intro n
  induction n with
  | zero =>
    intro a2 a3 a4 v hf
    cases hf
  | succ n ih =>
    intro a2 a3 a4 v hf
    rw [f_X5_greatestDivisor_7] at hf
    refine zv_iload dX5_greatestDivisor_7 rfl ?_
    refine zv_bipush (v := 64) dX5_greatestDivisor_9 (by decide) ?_
    refine zv_icmp_ge (tgt := 34) dX5_greatestDivisor_11 (by decide) (fun c1 => ?_) (fun c1 => ?_)
    · replace hf := (if_pos c1).symm.trans hf
      refine zv_iload_n dX5_greatestDivisor_34 rfl rfl ?_
      exact zv_iret (ty := .int) dX5_greatestDivisor_35 rfl rfl (zret1 hf)
    · replace hf := (if_neg c1).symm.trans hf
      refine zv_iload_n dX5_greatestDivisor_14 rfl rfl ?_
      refine zv_if_eq (tgt := 34) dX5_greatestDivisor_15 (by decide) (fun c2 => ?_) (fun c2 => ?_)
      · replace hf := (if_pos c2).symm.trans hf
        refine zv_iload_n dX5_greatestDivisor_34 rfl rfl ?_
        exact zv_iret (ty := .int) dX5_greatestDivisor_35 rfl rfl (zret1 hf)
      · replace hf := (if_neg c2).symm.trans hf
        refine zv_iload_n dX5_greatestDivisor_18 rfl rfl ?_
        refine zv_iload_n dX5_greatestDivisor_19 rfl rfl ?_
        obtain ⟨hz3, hf⟩ := zifn hf
        refine zv_irem hz3 dX5_greatestDivisor_20 ?_
        refine zv_istore dX5_greatestDivisor_21 (by decide) ?_
        refine zv_iload_n dX5_greatestDivisor_23 rfl rfl ?_
        refine zv_istore_n dX5_greatestDivisor_24 rfl (by decide) ?_
        refine zv_iload dX5_greatestDivisor_25 rfl ?_
        refine zv_istore_n dX5_greatestDivisor_27 rfl (by decide) ?_
        refine zv_iinc (v := 1) dX5_greatestDivisor_28 rfl (by decide) (by decide) ?_
        refine zv_goto (tgt := 7) dX5_greatestDivisor_31 (by decide) ?_
        exact zV_sub ([(2, .int a3), (3, .int (a2 - a2 / a3 * a3)), (4, .int (a4 + (1 : Int32)))]) ⟨rfl, rfl, rfl, trivial⟩ (ih a3 (a2 - a2 / a3 * a3) (a4 + (1 : Int32)) _ hf)
def f_X5_greatestDivisor (a0 : Int32) (a1 : Int32) : Option Int32 :=
  f_X5_greatestDivisor_7 zN a0 a1 (0 : Int32)
set_option maxRecDepth 100000 in
set_option maxHeartbeats 4000000 in
theorem c_X5_greatestDivisor {h : List va_E} (d : Nat) (a0 : Int32) (a1 : Int32) (v : Int32) (hf : f_X5_greatestDivisor a0 a1 = (some v)) : zC d yX5_greatestDivisor cX5_greatestDivisor 6 (some .int) [.int a0, .int a1] h (zq (some (.int v)) h) := by
  refine zC_intro (by decide) rfl (Nat.le_of_ble_eq_true rfl) ?_
  unfold f_X5_greatestDivisor at hf
  refine zv_iload_n dX5_greatestDivisor_0 rfl rfl ?_
  refine zv_istore_n dX5_greatestDivisor_1 rfl (by decide) ?_
  refine zv_iload_n dX5_greatestDivisor_2 rfl rfl ?_
  refine zv_istore_n dX5_greatestDivisor_3 rfl (by decide) ?_
  refine zv_iconst (v := 0) dX5_greatestDivisor_4 (by decide) ?_
  refine zv_istore dX5_greatestDivisor_5 (by decide) ?_
  exact zV_sub ([(2, .int a0), (3, .int a1), (4, .int (0 : Int32))]) ⟨rfl, rfl, rfl, trivial⟩ (v_X5_greatestDivisor_7 d zN a0 a1 (0 : Int32) _ hf)
-- KingPrices.partOfFraction(III)I height 1 reads
def f_X5_partOfFraction (a0 : Int32) (a1 : Int32) (a2 : Int32) : Option Int32 :=
  ((f_X5_greatestDivisor a0 a1).bind (fun x2 => (if (1 : Int32) ≤ x2 then (if a2 = 0 then (if x2 = 0 then none else some ((a0 / x2))) else (if x2 = 0 then none else some ((a1 / x2)))) else some ((0 : Int32)))))
set_option maxRecDepth 100000 in
set_option maxHeartbeats 4000000 in
theorem c_X5_partOfFraction {h : List va_E} (d : Nat) (hd : 1 ≤ d) (a0 : Int32) (a1 : Int32) (a2 : Int32) (v : Int32) (hf : f_X5_partOfFraction a0 a1 a2 = (some v)) : zC d yX5_partOfFraction cX5_partOfFraction 4 (some .int) [.int a0, .int a1, .int a2] h (zq (some (.int v)) h) := by
  obtain ⟨d, rfl⟩ : ∃ e, d = e + 1 := ⟨d - 1, by omega⟩
  refine zC_intro (by decide) rfl (Nat.le_of_ble_eq_true rfl) ?_
  unfold f_X5_partOfFraction at hf
  refine zv_iload_n dX5_partOfFraction_0 rfl rfl ?_
  refine zv_iload_n dX5_partOfFraction_1 rfl rfl ?_
  obtain ⟨x2, hc1, hf⟩ := zbind hf
  refine zv_callS dX5_partOfFraction_2 zk_X5_217 zm_X5_greatestDivisor (c_X5_greatestDivisor  d a0 a1 x2 hc1) rfl rfl (Nat.le_of_ble_eq_true rfl) ?_
  refine zv_istore_n dX5_partOfFraction_5 rfl (by decide) ?_
  refine zv_iload_n dX5_partOfFraction_6 rfl rfl ?_
  refine zv_iconst (v := 1) dX5_partOfFraction_7 (by decide) ?_
  refine zv_icmp_ge (tgt := 13) dX5_partOfFraction_8 (by decide) (fun c3 => ?_) (fun c3 => ?_)
  · replace hf := (if_pos c3).symm.trans hf
    refine zv_iload_n dX5_partOfFraction_13 rfl rfl ?_
    refine zv_if_ne (tgt := 21) dX5_partOfFraction_14 (by decide) (fun c4 => ?_) (fun c4 => ?_)
    · replace hf := (if_neg c4).symm.trans hf
      refine zv_iload_n dX5_partOfFraction_21 rfl rfl ?_
      refine zv_iload_n dX5_partOfFraction_22 rfl rfl ?_
      obtain ⟨hz5, hf⟩ := zifn hf
      refine zv_idiv hz5 dX5_partOfFraction_23 ?_
      exact zv_iret (ty := .int) dX5_partOfFraction_24 rfl rfl (zret1 hf)
    · replace hf := (if_pos c4).symm.trans hf
      refine zv_iload_n dX5_partOfFraction_17 rfl rfl ?_
      refine zv_goto (tgt := 22) dX5_partOfFraction_18 (by decide) ?_
      refine zv_iload_n dX5_partOfFraction_22 rfl rfl ?_
      obtain ⟨hz6, hf⟩ := zifn hf
      refine zv_idiv hz6 dX5_partOfFraction_23 ?_
      exact zv_iret (ty := .int) dX5_partOfFraction_24 rfl rfl (zret1 hf)
  · replace hf := (if_neg c3).symm.trans hf
    refine zv_iconst (v := 0) dX5_partOfFraction_11 (by decide) ?_
    exact zv_iret (ty := .int) dX5_partOfFraction_12 rfl rfl (zret1 hf)
-- KingPrices.villageHas(ZZII)I height 0 reads
def f_X5_villageHas (a0 : Int32) (a1 : Int32) (a2 : Int32) (a3 : Int32) : Option Int32 :=
  (if a0 = 0 then some (-a2) else (if a1 = 0 then some ((0 : Int32)) else some ((-(a2 + a3)))))
set_option maxRecDepth 100000 in
set_option maxHeartbeats 4000000 in
theorem c_X5_villageHas {h : List va_E} (d : Nat) (a0 : Int32) (a1 : Int32) (a2 : Int32) (a3 : Int32) (v : Int32) (hf : f_X5_villageHas a0 a1 a2 a3 = (some v)) : zC d yX5_villageHas cX5_villageHas 4 (some .int) [.int a0, .int a1, .int a2, .int a3] h (zq (some (.int v)) h) := by
  refine zC_intro (by decide) rfl (Nat.le_of_ble_eq_true rfl) ?_
  unfold f_X5_villageHas at hf
  refine zv_iload_n dX5_villageHas_0 rfl rfl ?_
  refine zv_if_ne (tgt := 7) dX5_villageHas_1 (by decide) (fun c1 => ?_) (fun c1 => ?_)
  · replace hf := (if_neg c1).symm.trans hf
    refine zv_iload_n dX5_villageHas_7 rfl rfl ?_
    refine zv_if_eq (tgt := 18) dX5_villageHas_8 (by decide) (fun c2 => ?_) (fun c2 => ?_)
    · replace hf := (if_pos c2).symm.trans hf
      refine zv_iconst (v := 0) dX5_villageHas_18 (by decide) ?_
      exact zv_iret (ty := .int) dX5_villageHas_19 rfl rfl (zret1 hf)
    · replace hf := (if_neg c2).symm.trans hf
      refine zv_iload_n dX5_villageHas_11 rfl rfl ?_
      refine zv_iload_n dX5_villageHas_12 rfl rfl ?_
      refine zv_iadd dX5_villageHas_13 ?_
      refine zv_ineg dX5_villageHas_14 ?_
      refine zv_goto (tgt := 19) dX5_villageHas_15 (by decide) ?_
      exact zv_iret (ty := .int) dX5_villageHas_19 rfl rfl (zret1 hf)
  · replace hf := (if_pos c1).symm.trans hf
    refine zv_iload_n dX5_villageHas_4 rfl rfl ?_
    refine zv_ineg dX5_villageHas_5 ?_
    exact zv_iret (ty := .int) dX5_villageHas_6 rfl rfl (zret1 hf)
end

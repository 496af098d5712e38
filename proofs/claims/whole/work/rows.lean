section
-- ===== PART A: goes FIRST, ahead of the names: the tables' words, and 'selects' of the private methods out of them =====
/-- a private method of a class that the tables say can be made, by its rows of tables_1 -/
def lw_okq (q : MethodName × Nat) : Prop := (q.1.cls ≠ "java/lang/invoke/MethodHandle" ∧ q.1.cls ≠ "java/lang/invoke/VarHandle") ∧ Cond.instantiable q.1.cls q.2 ∈ tables_1 ∧ Cond.privateMethod q.1 ∈ tables_1 ∧ Cond.instanceMethod q.1 ∈ tables_1
theorem lw_p0 : lw_okq (⟨"NestedDolls", "come", "(I)I"⟩, 12) := ⟨⟨by decide +kernel, by decide +kernel⟩, List.mem_of_getElem? (i := 13) (by decide +kernel), List.mem_of_getElem? (i := 151) (by decide +kernel), List.mem_of_getElem? (i := 152) (by decide +kernel)⟩
theorem lw_p1 : lw_okq (⟨"NestedDolls", "take", "(LNestedDolls$Sheet;II)V"⟩, 12) := ⟨⟨by decide +kernel, by decide +kernel⟩, List.mem_of_getElem? (i := 13) (by decide +kernel), List.mem_of_getElem? (i := 168) (by decide +kernel), List.mem_of_getElem? (i := 169) (by decide +kernel)⟩
theorem lw_p2 : lw_okq (⟨"NestedDolls", "isDoll", "(I)Z"⟩, 12) := ⟨⟨by decide +kernel, by decide +kernel⟩, List.mem_of_getElem? (i := 13) (by decide +kernel), List.mem_of_getElem? (i := 185) (by decide +kernel), List.mem_of_getElem? (i := 186) (by decide +kernel)⟩
theorem lw_p3 : lw_okq (⟨"NestedDolls", "areTwo", "(II)Z"⟩, 12) := ⟨⟨by decide +kernel, by decide +kernel⟩, List.mem_of_getElem? (i := 13) (by decide +kernel), List.mem_of_getElem? (i := 235) (by decide +kernel), List.mem_of_getElem? (i := 236) (by decide +kernel)⟩
theorem lw_p4 : lw_okq (⟨"NestedDolls", "doableAt", "(I)I"⟩, 12) := ⟨⟨by decide +kernel, by decide +kernel⟩, List.mem_of_getElem? (i := 13) (by decide +kernel), List.mem_of_getElem? (i := 251) (by decide +kernel), List.mem_of_getElem? (i := 252) (by decide +kernel)⟩
theorem lw_p5 : lw_okq (⟨"NestedDolls", "fitting", "()I"⟩, 12) := ⟨⟨by decide +kernel, by decide +kernel⟩, List.mem_of_getElem? (i := 13) (by decide +kernel), List.mem_of_getElem? (i := 255) (by decide +kernel), List.mem_of_getElem? (i := 256) (by decide +kernel)⟩
theorem lw_p6 : lw_okq (⟨"NestedDolls", "manyOnTable", "(I)I"⟩, 12) := ⟨⟨by decide +kernel, by decide +kernel⟩, List.mem_of_getElem? (i := 13) (by decide +kernel), List.mem_of_getElem? (i := 275) (by decide +kernel), List.mem_of_getElem? (i := 276) (by decide +kernel)⟩
theorem lw_p7 : lw_okq (⟨"NestedDolls", "firstWrong", "(LNestedDolls$Sheet;II)I"⟩, 12) := ⟨⟨by decide +kernel, by decide +kernel⟩, List.mem_of_getElem? (i := 13) (by decide +kernel), List.mem_of_getElem? (i := 306) (by decide +kernel), List.mem_of_getElem? (i := 307) (by decide +kernel)⟩
theorem lw_p8 : lw_okq (⟨"NestedDolls", "standAfter", "(LNestedDolls$Sheet;II)I"⟩, 12) := ⟨⟨by decide +kernel, by decide +kernel⟩, List.mem_of_getElem? (i := 13) (by decide +kernel), List.mem_of_getElem? (i := 311) (by decide +kernel), List.mem_of_getElem? (i := 312) (by decide +kernel)⟩
theorem lw_p9 : lw_okq (⟨"NestedDolls", "ofStand", "(II)I"⟩, 12) := ⟨⟨by decide +kernel, by decide +kernel⟩, List.mem_of_getElem? (i := 13) (by decide +kernel), List.mem_of_getElem? (i := 315) (by decide +kernel), List.mem_of_getElem? (i := 316) (by decide +kernel)⟩
theorem lw_p10 : lw_okq (⟨"NestedDolls$Search", "reach", "(III)V"⟩, 7) := ⟨⟨by decide +kernel, by decide +kernel⟩, List.mem_of_getElem? (i := 25) (by decide +kernel), List.mem_of_getElem? (i := 338) (by decide +kernel), List.mem_of_getElem? (i := 339) (by decide +kernel)⟩
theorem lw_p11 : lw_okq (⟨"NestedDolls$Search", "goOn", "(I)V"⟩, 7) := ⟨⟨by decide +kernel, by decide +kernel⟩, List.mem_of_getElem? (i := 25) (by decide +kernel), List.mem_of_getElem? (i := 342) (by decide +kernel), List.mem_of_getElem? (i := 343) (by decide +kernel)⟩
theorem lw_p12 : lw_okq (⟨"NestedDolls", "nestTold", "(LNestedDolls$Sheet;I)I"⟩, 12) := ⟨⟨by decide +kernel, by decide +kernel⟩, List.mem_of_getElem? (i := 13) (by decide +kernel), List.mem_of_getElem? (i := 349) (by decide +kernel), List.mem_of_getElem? (i := 350) (by decide +kernel)⟩
theorem lw_p13 : lw_okq (⟨"NestedDolls$Search", "isOf", "(II)Z"⟩, 7) := ⟨⟨by decide +kernel, by decide +kernel⟩, List.mem_of_getElem? (i := 25) (by decide +kernel), List.mem_of_getElem? (i := 375) (by decide +kernel), List.mem_of_getElem? (i := 376) (by decide +kernel)⟩
theorem lw_p14 : lw_okq (⟨"NestedDolls", "tidyPlace", "(II)I"⟩, 12) := ⟨⟨by decide +kernel, by decide +kernel⟩, List.mem_of_getElem? (i := 13) (by decide +kernel), List.mem_of_getElem? (i := 397) (by decide +kernel), List.mem_of_getElem? (i := 398) (by decide +kernel)⟩
theorem lw_p15 : lw_okq (⟨"NestedDolls", "readingsAreSo", "()Z"⟩, 12) := ⟨⟨by decide +kernel, by decide +kernel⟩, List.mem_of_getElem? (i := 13) (by decide +kernel), List.mem_of_getElem? (i := 424) (by decide +kernel), List.mem_of_getElem? (i := 425) (by decide +kernel)⟩
def lw_privs_1 : List (MethodName × Nat) := [(⟨"NestedDolls", "come", "(I)I"⟩, 12), (⟨"NestedDolls", "take", "(LNestedDolls$Sheet;II)V"⟩, 12), (⟨"NestedDolls", "isDoll", "(I)Z"⟩, 12), (⟨"NestedDolls", "areTwo", "(II)Z"⟩, 12), (⟨"NestedDolls", "doableAt", "(I)I"⟩, 12), (⟨"NestedDolls", "fitting", "()I"⟩, 12), (⟨"NestedDolls", "manyOnTable", "(I)I"⟩, 12), (⟨"NestedDolls", "firstWrong", "(LNestedDolls$Sheet;II)I"⟩, 12), (⟨"NestedDolls", "standAfter", "(LNestedDolls$Sheet;II)I"⟩, 12), (⟨"NestedDolls", "ofStand", "(II)I"⟩, 12), (⟨"NestedDolls$Search", "reach", "(III)V"⟩, 7), (⟨"NestedDolls$Search", "goOn", "(I)V"⟩, 7), (⟨"NestedDolls", "nestTold", "(LNestedDolls$Sheet;I)I"⟩, 12), (⟨"NestedDolls$Search", "isOf", "(II)Z"⟩, 7), (⟨"NestedDolls", "tidyPlace", "(II)I"⟩, 12), (⟨"NestedDolls", "readingsAreSo", "()Z"⟩, 12)]
theorem lw_r1 : ∀ q ∈ lw_privs_1, lw_okq q := List.forall_mem_cons.mpr ⟨lw_p0, List.forall_mem_cons.mpr ⟨lw_p1, List.forall_mem_cons.mpr ⟨lw_p2, List.forall_mem_cons.mpr ⟨lw_p3, List.forall_mem_cons.mpr ⟨lw_p4, List.forall_mem_cons.mpr ⟨lw_p5, List.forall_mem_cons.mpr ⟨lw_p6, List.forall_mem_cons.mpr ⟨lw_p7, List.forall_mem_cons.mpr ⟨lw_p8, List.forall_mem_cons.mpr ⟨lw_p9, List.forall_mem_cons.mpr ⟨lw_p10, List.forall_mem_cons.mpr ⟨lw_p11, List.forall_mem_cons.mpr ⟨lw_p12, List.forall_mem_cons.mpr ⟨lw_p13, List.forall_mem_cons.mpr ⟨lw_p14, List.forall_mem_cons.mpr ⟨lw_p15, fun _ h => absurd h List.not_mem_nil⟩⟩⟩⟩⟩⟩⟩⟩⟩⟩⟩⟩⟩⟩⟩⟩
theorem lw_p16 : lw_okq (⟨"NestedDolls$Sheet", "cut", "(I)I"⟩, 3) := ⟨⟨by decide +kernel, by decide +kernel⟩, List.mem_of_getElem? (i := 76) (by decide +kernel), List.mem_of_getElem? (i := 475) (by decide +kernel), List.mem_of_getElem? (i := 476) (by decide +kernel)⟩
theorem lw_p17 : lw_okq (⟨"NestedDolls", "tellBrushed", "(LNestedDolls$Doll;)I"⟩, 12) := ⟨⟨by decide +kernel, by decide +kernel⟩, List.mem_of_getElem? (i := 13) (by decide +kernel), List.mem_of_getElem? (i := 502) (by decide +kernel), List.mem_of_getElem? (i := 503) (by decide +kernel)⟩
theorem lw_p18 : lw_okq (⟨"NestedDolls", "leave", "(I)V"⟩, 12) := ⟨⟨by decide +kernel, by decide +kernel⟩, List.mem_of_getElem? (i := 13) (by decide +kernel), List.mem_of_getElem? (i := 506) (by decide +kernel), List.mem_of_getElem? (i := 507) (by decide +kernel)⟩
theorem lw_p19 : lw_okq (⟨"NestedDolls", "tellPlain", "(LNestedDolls$Doll;)I"⟩, 12) := ⟨⟨by decide +kernel, by decide +kernel⟩, List.mem_of_getElem? (i := 13) (by decide +kernel), List.mem_of_getElem? (i := 510) (by decide +kernel), List.mem_of_getElem? (i := 511) (by decide +kernel)⟩
theorem lw_p20 : lw_okq (⟨"NestedDolls", "tellSwollen", "(LNestedDolls$Doll;)I"⟩, 12) := ⟨⟨by decide +kernel, by decide +kernel⟩, List.mem_of_getElem? (i := 13) (by decide +kernel), List.mem_of_getElem? (i := 514) (by decide +kernel), List.mem_of_getElem? (i := 515) (by decide +kernel)⟩
theorem lw_p21 : lw_okq (⟨"NestedDollsModel", "against", "(IIII)I"⟩, 27) := ⟨⟨by decide +kernel, by decide +kernel⟩, List.mem_of_getElem? (i := 538) (by decide +kernel), List.mem_of_getElem? (i := 640) (by decide +kernel), List.mem_of_getElem? (i := 641) (by decide +kernel)⟩
theorem lw_p22 : lw_okq (⟨"NestedDollsModel", "fails", "(I)I"⟩, 27) := ⟨⟨by decide +kernel, by decide +kernel⟩, List.mem_of_getElem? (i := 538) (by decide +kernel), List.mem_of_getElem? (i := 644) (by decide +kernel), List.mem_of_getElem? (i := 645) (by decide +kernel)⟩
theorem lw_p23 : lw_okq (⟨"NestedDollsModel", "readAll", "(I)Z"⟩, 27) := ⟨⟨by decide +kernel, by decide +kernel⟩, List.mem_of_getElem? (i := 538) (by decide +kernel), List.mem_of_getElem? (i := 648) (by decide +kernel), List.mem_of_getElem? (i := 649) (by decide +kernel)⟩
theorem lw_p24 : lw_okq (⟨"NestedDollsModel", "isSign", "(II)Z"⟩, 27) := ⟨⟨by decide +kernel, by decide +kernel⟩, List.mem_of_getElem? (i := 538) (by decide +kernel), List.mem_of_getElem? (i := 652) (by decide +kernel), List.mem_of_getElem? (i := 653) (by decide +kernel)⟩
theorem lw_p25 : lw_okq (⟨"NestedDollsModel", "readDoll", "(I)Z"⟩, 27) := ⟨⟨by decide +kernel, by decide +kernel⟩, List.mem_of_getElem? (i := 538) (by decide +kernel), List.mem_of_getElem? (i := 656) (by decide +kernel), List.mem_of_getElem? (i := 657) (by decide +kernel)⟩
theorem lw_p26 : lw_okq (⟨"NestedDollsModel", "digit", "(III)I"⟩, 27) := ⟨⟨by decide +kernel, by decide +kernel⟩, List.mem_of_getElem? (i := 538) (by decide +kernel), List.mem_of_getElem? (i := 660) (by decide +kernel), List.mem_of_getElem? (i := 661) (by decide +kernel)⟩
theorem lw_p27 : lw_okq (⟨"NestedDollsModel", "isDoll", "(I)Z"⟩, 27) := ⟨⟨by decide +kernel, by decide +kernel⟩, List.mem_of_getElem? (i := 538) (by decide +kernel), List.mem_of_getElem? (i := 668) (by decide +kernel), List.mem_of_getElem? (i := 669) (by decide +kernel)⟩
theorem lw_p28 : lw_okq (⟨"NestedDollsModel", "wideOf", "(I)I"⟩, 27) := ⟨⟨by decide +kernel, by decide +kernel⟩, List.mem_of_getElem? (i := 538) (by decide +kernel), List.mem_of_getElem? (i := 672) (by decide +kernel), List.mem_of_getElem? (i := 673) (by decide +kernel)⟩
theorem lw_p29 : lw_okq (⟨"NestedDollsModel", "isAtHand", "(I)Z"⟩, 27) := ⟨⟨by decide +kernel, by decide +kernel⟩, List.mem_of_getElem? (i := 538) (by decide +kernel), List.mem_of_getElem? (i := 676) (by decide +kernel), List.mem_of_getElem? (i := 677) (by decide +kernel)⟩
theorem lw_p30 : lw_okq (⟨"NestedDollsModel", "inOf", "(I)I"⟩, 27) := ⟨⟨by decide +kernel, by decide +kernel⟩, List.mem_of_getElem? (i := 538) (by decide +kernel), List.mem_of_getElem? (i := 683) (by decide +kernel), List.mem_of_getElem? (i := 684) (by decide +kernel)⟩
theorem lw_p31 : lw_okq (⟨"NestedDollsModel", "manyWithin", "(I)I"⟩, 27) := ⟨⟨by decide +kernel, by decide +kernel⟩, List.mem_of_getElem? (i := 538) (by decide +kernel), List.mem_of_getElem? (i := 687) (by decide +kernel), List.mem_of_getElem? (i := 688) (by decide +kernel)⟩
def lw_privs_2 : List (MethodName × Nat) := [(⟨"NestedDolls$Sheet", "cut", "(I)I"⟩, 3), (⟨"NestedDolls", "tellBrushed", "(LNestedDolls$Doll;)I"⟩, 12), (⟨"NestedDolls", "leave", "(I)V"⟩, 12), (⟨"NestedDolls", "tellPlain", "(LNestedDolls$Doll;)I"⟩, 12), (⟨"NestedDolls", "tellSwollen", "(LNestedDolls$Doll;)I"⟩, 12), (⟨"NestedDollsModel", "against", "(IIII)I"⟩, 27), (⟨"NestedDollsModel", "fails", "(I)I"⟩, 27), (⟨"NestedDollsModel", "readAll", "(I)Z"⟩, 27), (⟨"NestedDollsModel", "isSign", "(II)Z"⟩, 27), (⟨"NestedDollsModel", "readDoll", "(I)Z"⟩, 27), (⟨"NestedDollsModel", "digit", "(III)I"⟩, 27), (⟨"NestedDollsModel", "isDoll", "(I)Z"⟩, 27), (⟨"NestedDollsModel", "wideOf", "(I)I"⟩, 27), (⟨"NestedDollsModel", "isAtHand", "(I)Z"⟩, 27), (⟨"NestedDollsModel", "inOf", "(I)I"⟩, 27), (⟨"NestedDollsModel", "manyWithin", "(I)I"⟩, 27)]
theorem lw_r2 : ∀ q ∈ lw_privs_2, lw_okq q := List.forall_mem_cons.mpr ⟨lw_p16, List.forall_mem_cons.mpr ⟨lw_p17, List.forall_mem_cons.mpr ⟨lw_p18, List.forall_mem_cons.mpr ⟨lw_p19, List.forall_mem_cons.mpr ⟨lw_p20, List.forall_mem_cons.mpr ⟨lw_p21, List.forall_mem_cons.mpr ⟨lw_p22, List.forall_mem_cons.mpr ⟨lw_p23, List.forall_mem_cons.mpr ⟨lw_p24, List.forall_mem_cons.mpr ⟨lw_p25, List.forall_mem_cons.mpr ⟨lw_p26, List.forall_mem_cons.mpr ⟨lw_p27, List.forall_mem_cons.mpr ⟨lw_p28, List.forall_mem_cons.mpr ⟨lw_p29, List.forall_mem_cons.mpr ⟨lw_p30, List.forall_mem_cons.mpr ⟨lw_p31, fun _ h => absurd h List.not_mem_nil⟩⟩⟩⟩⟩⟩⟩⟩⟩⟩⟩⟩⟩⟩⟩⟩
theorem lw_p32 : lw_okq (⟨"NestedDollsModel", "areTwo", "(II)Z"⟩, 27) := ⟨⟨by decide +kernel, by decide +kernel⟩, List.mem_of_getElem? (i := 538) (by decide +kernel), List.mem_of_getElem? (i := 703) (by decide +kernel), List.mem_of_getElem? (i := 704) (by decide +kernel)⟩
theorem lw_p33 : lw_okq (⟨"NestedDollsModel", "fitsInto", "(II)Z"⟩, 27) := ⟨⟨by decide +kernel, by decide +kernel⟩, List.mem_of_getElem? (i := 538) (by decide +kernel), List.mem_of_getElem? (i := 707) (by decide +kernel), List.mem_of_getElem? (i := 708) (by decide +kernel)⟩
theorem lw_p34 : lw_okq (⟨"NestedDollsModel", "canDo", "(I)Z"⟩, 27) := ⟨⟨by decide +kernel, by decide +kernel⟩, List.mem_of_getElem? (i := 538) (by decide +kernel), List.mem_of_getElem? (i := 715) (by decide +kernel), List.mem_of_getElem? (i := 716) (by decide +kernel)⟩
theorem lw_p35 : lw_okq (⟨"NestedDollsModel", "does", "(I)V"⟩, 27) := ⟨⟨by decide +kernel, by decide +kernel⟩, List.mem_of_getElem? (i := 538) (by decide +kernel), List.mem_of_getElem? (i := 719) (by decide +kernel), List.mem_of_getElem? (i := 720) (by decide +kernel)⟩
theorem lw_p36 : lw_okq (⟨"NestedDollsModel", "onTable", "()I"⟩, 27) := ⟨⟨by decide +kernel, by decide +kernel⟩, List.mem_of_getElem? (i := 538) (by decide +kernel), List.mem_of_getElem? (i := 723) (by decide +kernel), List.mem_of_getElem? (i := 724) (by decide +kernel)⟩
theorem lw_p37 : lw_okq (⟨"NestedDollsModel", "nestNow", "()I"⟩, 27) := ⟨⟨by decide +kernel, by decide +kernel⟩, List.mem_of_getElem? (i := 538) (by decide +kernel), List.mem_of_getElem? (i := 739) (by decide +kernel), List.mem_of_getElem? (i := 740) (by decide +kernel)⟩
theorem lw_p38 : lw_okq (⟨"NestedDollsModel", "goDay", "(II)I"⟩, 27) := ⟨⟨by decide +kernel, by decide +kernel⟩, List.mem_of_getElem? (i := 538) (by decide +kernel), List.mem_of_getElem? (i := 743) (by decide +kernel), List.mem_of_getElem? (i := 744) (by decide +kernel)⟩
theorem lw_p39 : lw_okq (⟨"NestedDollsModel", "tellDay", "(I)I"⟩, 27) := ⟨⟨by decide +kernel, by decide +kernel⟩, List.mem_of_getElem? (i := 538) (by decide +kernel), List.mem_of_getElem? (i := 747) (by decide +kernel), List.mem_of_getElem? (i := 748) (by decide +kernel)⟩
theorem lw_p40 : lw_okq (⟨"NestedDollsModel", "handSet", "()I"⟩, 27) := ⟨⟨by decide +kernel, by decide +kernel⟩, List.mem_of_getElem? (i := 538) (by decide +kernel), List.mem_of_getElem? (i := 751) (by decide +kernel), List.mem_of_getElem? (i := 752) (by decide +kernel)⟩
theorem lw_p41 : lw_okq (⟨"NestedDollsModel", "becomeNest", "(I)V"⟩, 27) := ⟨⟨by decide +kernel, by decide +kernel⟩, List.mem_of_getElem? (i := 538) (by decide +kernel), List.mem_of_getElem? (i := 755) (by decide +kernel), List.mem_of_getElem? (i := 756) (by decide +kernel)⟩
theorem lw_p42 : lw_okq (⟨"NestedDollsModel", "findNests", "()V"⟩, 27) := ⟨⟨by decide +kernel, by decide +kernel⟩, List.mem_of_getElem? (i := 538) (by decide +kernel), List.mem_of_getElem? (i := 763) (by decide +kernel), List.mem_of_getElem? (i := 764) (by decide +kernel)⟩
theorem lw_p43 : lw_okq (⟨"NestedDollsModel", "findFar", "(I)V"⟩, 27) := ⟨⟨by decide +kernel, by decide +kernel⟩, List.mem_of_getElem? (i := 538) (by decide +kernel), List.mem_of_getElem? (i := 767) (by decide +kernel), List.mem_of_getElem? (i := 768) (by decide +kernel)⟩
theorem lw_p44 : lw_okq (⟨"NestedDollsModel", "isTold", "(I)Z"⟩, 27) := ⟨⟨by decide +kernel, by decide +kernel⟩, List.mem_of_getElem? (i := 538) (by decide +kernel), List.mem_of_getElem? (i := 771) (by decide +kernel), List.mem_of_getElem? (i := 772) (by decide +kernel)⟩
theorem lw_p45 : lw_okq (⟨"NestedDollsModel", "canTidy", "(I)Z"⟩, 27) := ⟨⟨by decide +kernel, by decide +kernel⟩, List.mem_of_getElem? (i := 538) (by decide +kernel), List.mem_of_getElem? (i := 783) (by decide +kernel), List.mem_of_getElem? (i := 784) (by decide +kernel)⟩
theorem lw_p46 : lw_okq (⟨"NestedDollsModel", "areSo", "()Z"⟩, 27) := ⟨⟨by decide +kernel, by decide +kernel⟩, List.mem_of_getElem? (i := 538) (by decide +kernel), List.mem_of_getElem? (i := 803) (by decide +kernel), List.mem_of_getElem? (i := 804) (by decide +kernel)⟩
theorem lw_p47 : lw_okq (⟨"NestedDollsModel", "lost", "(I)J"⟩, 27) := ⟨⟨by decide +kernel, by decide +kernel⟩, List.mem_of_getElem? (i := 538) (by decide +kernel), List.mem_of_getElem? (i := 839) (by decide +kernel), List.mem_of_getElem? (i := 840) (by decide +kernel)⟩
def lw_privs_3 : List (MethodName × Nat) := [(⟨"NestedDollsModel", "areTwo", "(II)Z"⟩, 27), (⟨"NestedDollsModel", "fitsInto", "(II)Z"⟩, 27), (⟨"NestedDollsModel", "canDo", "(I)Z"⟩, 27), (⟨"NestedDollsModel", "does", "(I)V"⟩, 27), (⟨"NestedDollsModel", "onTable", "()I"⟩, 27), (⟨"NestedDollsModel", "nestNow", "()I"⟩, 27), (⟨"NestedDollsModel", "goDay", "(II)I"⟩, 27), (⟨"NestedDollsModel", "tellDay", "(I)I"⟩, 27), (⟨"NestedDollsModel", "handSet", "()I"⟩, 27), (⟨"NestedDollsModel", "becomeNest", "(I)V"⟩, 27), (⟨"NestedDollsModel", "findNests", "()V"⟩, 27), (⟨"NestedDollsModel", "findFar", "(I)V"⟩, 27), (⟨"NestedDollsModel", "isTold", "(I)Z"⟩, 27), (⟨"NestedDollsModel", "canTidy", "(I)Z"⟩, 27), (⟨"NestedDollsModel", "areSo", "()Z"⟩, 27), (⟨"NestedDollsModel", "lost", "(I)J"⟩, 27)]
theorem lw_r3 : ∀ q ∈ lw_privs_3, lw_okq q := List.forall_mem_cons.mpr ⟨lw_p32, List.forall_mem_cons.mpr ⟨lw_p33, List.forall_mem_cons.mpr ⟨lw_p34, List.forall_mem_cons.mpr ⟨lw_p35, List.forall_mem_cons.mpr ⟨lw_p36, List.forall_mem_cons.mpr ⟨lw_p37, List.forall_mem_cons.mpr ⟨lw_p38, List.forall_mem_cons.mpr ⟨lw_p39, List.forall_mem_cons.mpr ⟨lw_p40, List.forall_mem_cons.mpr ⟨lw_p41, List.forall_mem_cons.mpr ⟨lw_p42, List.forall_mem_cons.mpr ⟨lw_p43, List.forall_mem_cons.mpr ⟨lw_p44, List.forall_mem_cons.mpr ⟨lw_p45, List.forall_mem_cons.mpr ⟨lw_p46, List.forall_mem_cons.mpr ⟨lw_p47, fun _ h => absurd h List.not_mem_nil⟩⟩⟩⟩⟩⟩⟩⟩⟩⟩⟩⟩⟩⟩⟩⟩
theorem lw_p48 : lw_okq (⟨"NestedDollsModel", "begins", "(I)V"⟩, 27) := ⟨⟨by decide +kernel, by decide +kernel⟩, List.mem_of_getElem? (i := 538) (by decide +kernel), List.mem_of_getElem? (i := 851) (by decide +kernel), List.mem_of_getElem? (i := 852) (by decide +kernel)⟩
def lw_privs_4 : List (MethodName × Nat) := [(⟨"NestedDollsModel", "begins", "(I)V"⟩, 27)]
theorem lw_r4 : ∀ q ∈ lw_privs_4, lw_okq q := List.forall_mem_cons.mpr ⟨lw_p48, fun _ h => absurd h List.not_mem_nil⟩
def lw_privs : List (MethodName × Nat) := lw_privs_1 ++ (lw_privs_2 ++ (lw_privs_3 ++ (lw_privs_4)))
def lw_tbl : List Cond := k2_sels lw_privs ++ tables_1
theorem lw_privs_ok : ∀ q ∈ lw_privs, lw_okq q := by
  show ∀ q ∈ lw_privs_1 ++ (lw_privs_2 ++ (lw_privs_3 ++ (lw_privs_4))), lw_okq q
  exact List.forall_mem_append.mpr ⟨lw_r1, List.forall_mem_append.mpr ⟨lw_r2, List.forall_mem_append.mpr ⟨lw_r3, lw_r4⟩⟩⟩
end
section
/-! ===== BEGIN printed: names, fields, word lists, decode rows ===== -/
def RX0 : String := "NestedDolls$Doll"
def TX0 : u_T := fun k => match k with
  | 0 => ("NestedDolls$Doll", "kind", "I", false)
  | 1 => ("NestedDolls$Doll", "girth", "I", false)
  | _ => ("NestedDolls$Doll", "room", "I", false)
def tyX0 : Nat → FieldType := fun k => match k with
  | 0 => .int
  | 1 => .int
  | _ => .int
abbrev wsX00 : List Cond := u_ws RX0 TX0 3
theorem nmX0 : ∀ a, a < 3 → ∀ b, b < 3 → a ≠ b → (TX0 a).2.1 ≠ (TX0 b).2.1 := by decide +kernel
theorem tyX0_ok : ∀ k, k < 3 → parseFieldDescriptor (TX0 k).2.2.1 = some (tyX0 k) := by decide +kernel
abbrev cX0_init : ByteArray := prog_2_method_1_code
def yX0_init : MethodName := ⟨RX0, "<init>", "()V"⟩
abbrev cX0_wide : ByteArray := prog_2_method_2_code
def yX0_wide : MethodName := ⟨RX0, "wide", "()I"⟩
abbrev cX0_goesInto : ByteArray := prog_2_method_3_code
def yX0_goesInto : MethodName := ⟨RX0, "goesInto", "(LNestedDolls$Doll;)Z"⟩
def RX1 : String := "NestedDolls$Search"
def TX1 : u_T := fun k => match k with
  | 0 => ("NestedDolls$Search", "reached", "[I", true)
  | 1 => ("NestedDolls$Search", "from", "[I", true)
  | 2 => ("NestedDolls$Search", "by", "[I", true)
  | 3 => ("NestedDolls$Search", "seen", "[J", true)
  | 4 => ("NestedDolls$Search", "many", "I", false)
  | 5 => ("NestedDolls$Search", "count", "I", false)
  | _ => ("NestedDolls$Search", "fitting", "I", false)
def tyX1 : Nat → FieldType := fun k => match k with
  | 0 => .array .int
  | 1 => .array .int
  | 2 => .array .int
  | 3 => .array .long
  | 4 => .int
  | 5 => .int
  | _ => .int
abbrev wsX10 : List Cond := u_ws RX1 TX1 7
theorem nmX1 : ∀ a, a < 7 → ∀ b, b < 7 → a ≠ b → (TX1 a).2.1 ≠ (TX1 b).2.1 := by decide +kernel
theorem tyX1_ok : ∀ k, k < 7 → parseFieldDescriptor (TX1 k).2.2.1 = some (tyX1 k) := by decide +kernel
abbrev cX1_init : ByteArray := prog_3_method_1_code
def yX1_init : MethodName := ⟨RX1, "<init>", "()V"⟩
abbrev cX1_go : ByteArray := prog_3_method_2_code
def yX1_go : MethodName := ⟨RX1, "go", "(III)V"⟩
abbrev cX1_goOn : ByteArray := prog_3_method_3_code
def yX1_goOn : MethodName := ⟨RX1, "goOn", "(I)V"⟩
abbrev cX1_reach : ByteArray := prog_3_method_4_code
def yX1_reach : MethodName := ⟨RX1, "reach", "(III)V"⟩
abbrev cX1_howMany : ByteArray := prog_3_method_5_code
def yX1_howMany : MethodName := ⟨RX1, "howMany", "(I)I"⟩
abbrev cX1_isOf : ByteArray := prog_3_method_6_code
def yX1_isOf : MethodName := ⟨RX1, "isOf", "(II)Z"⟩
abbrev cX1_find : ByteArray := prog_3_method_7_code
def yX1_find : MethodName := ⟨RX1, "find", "(I)I"⟩
abbrev cX1_lengthTo : ByteArray := prog_3_method_8_code
def yX1_lengthTo : MethodName := ⟨RX1, "lengthTo", "(I)I"⟩
abbrev cX1_actTo : ByteArray := prog_3_method_9_code
def yX1_actTo : MethodName := ⟨RX1, "actTo", "(II)I"⟩
def RX2 : String := "NestedDolls$Sheet"
def TX2 : u_T := fun k => match k with
  | 0 => ("NestedDolls$Sheet", "cells", "[I", true)
  | 1 => ("NestedDolls$Sheet", "laneOfRow", "I", false)
  | _ => ("NestedDolls$Sheet", "size", "I", false)
def tyX2 : Nat → FieldType := fun k => match k with
  | 0 => .array .int
  | 1 => .int
  | _ => .int
abbrev wsX20 : List Cond := u_ws RX2 TX2 3
theorem nmX2 : ∀ a, a < 3 → ∀ b, b < 3 → a ≠ b → (TX2 a).2.1 ≠ (TX2 b).2.1 := by decide +kernel
theorem tyX2_ok : ∀ k, k < 3 → parseFieldDescriptor (TX2 k).2.2.1 = some (tyX2 k) := by decide +kernel
abbrev cX2_init : ByteArray := prog_4_method_1_code
def yX2_init : MethodName := ⟨RX2, "<init>", "()V"⟩
abbrev cX2_hasNothing : ByteArray := prog_4_method_2_code
def yX2_hasNothing : MethodName := ⟨RX2, "hasNothing", "()Z"⟩
abbrev cX2_isLike : ByteArray := prog_4_method_3_code
def yX2_isLike : MethodName := ⟨RX2, "isLike", "(LNestedDolls$Sheet;)Z"⟩
abbrev cX2_renew : ByteArray := prog_4_method_4_code
def yX2_renew : MethodName := ⟨RX2, "renew", "(II)V"⟩
abbrev cX2_clear : ByteArray := prog_4_method_5_code
def yX2_clear : MethodName := ⟨RX2, "clear", "()V"⟩
abbrev cX2_at : ByteArray := prog_4_method_6_code
def yX2_at : MethodName := ⟨RX2, "at", "(I)I"⟩
abbrev cX2_write : ByteArray := prog_4_method_7_code
def yX2_write : MethodName := ⟨RX2, "write", "(II)V"⟩
abbrev cX2_cut : ByteArray := prog_4_method_8_code
def yX2_cut : MethodName := ⟨RX2, "cut", "(I)I"⟩
abbrev cX2_hasCells : ByteArray := prog_4_method_9_code
def yX2_hasCells : MethodName := ⟨RX2, "hasCells", "(II)Z"⟩
abbrev cX2_faultOf : ByteArray := prog_4_method_10_code
def yX2_faultOf : MethodName := ⟨RX2, "faultOf", "(III)I"⟩
abbrev cX2_isWithin : ByteArray := prog_4_method_11_code
def yX2_isWithin : MethodName := ⟨RX2, "isWithin", "(IIII)Z"⟩
abbrev cX2_send : ByteArray := prog_4_method_12_code
def yX2_send : MethodName := ⟨RX2, "send", "(ILNestedDolls$Sheet;II)V"⟩
def RX3 : String := "NestedDolls$Stand"
def TX3 : u_T := fun k => match k with
  | _ => ("", "", "", false)
def tyX3 : Nat → FieldType := fun k => match k with
  | _ => .int
abbrev wsX30 : List Cond := u_ws RX3 TX3 0
theorem nmX3 : ∀ a, a < 0 → ∀ b, b < 0 → a ≠ b → (TX3 a).2.1 ≠ (TX3 b).2.1 := by decide +kernel
theorem tyX3_ok : ∀ k, k < 0 → parseFieldDescriptor (TX3 k).2.2.1 = some (tyX3 k) := by decide +kernel
abbrev cX3_placeOf : ByteArray := prog_5_method_2_code
def yX3_placeOf : MethodName := ⟨RX3, "placeOf", "(II)I"⟩
abbrev cX3_moved : ByteArray := prog_5_method_3_code
def yX3_moved : MethodName := ⟨RX3, "moved", "(III)I"⟩
abbrev cX3_openSet : ByteArray := prog_5_method_4_code
def yX3_openSet : MethodName := ⟨RX3, "openSet", "(I)I"⟩
abbrev cX3_isOpen : ByteArray := prog_5_method_5_code
def yX3_isOpen : MethodName := ⟨RX3, "isOpen", "(II)Z"⟩
abbrev cX3_tableSet : ByteArray := prog_5_method_6_code
def yX3_tableSet : MethodName := ⟨RX3, "tableSet", "(II)I"⟩
abbrev cX3_handSet : ByteArray := prog_5_method_7_code
def yX3_handSet : MethodName := ⟨RX3, "handSet", "(II)I"⟩
abbrev cX3_canBeGotAt : ByteArray := prog_5_method_8_code
def yX3_canBeGotAt : MethodName := ⟨RX3, "canBeGotAt", "(II)Z"⟩
abbrev cX3_outersOf : ByteArray := prog_5_method_9_code
def yX3_outersOf : MethodName := ⟨RX3, "outersOf", "(II)I"⟩
abbrev cX3_innerOf : ByteArray := prog_5_method_10_code
def yX3_innerOf : MethodName := ⟨RX3, "innerOf", "(III)I"⟩
abbrev cX3_manyWithin : ByteArray := prog_5_method_11_code
def yX3_manyWithin : MethodName := ⟨RX3, "manyWithin", "(III)I"⟩
abbrev cX3_mostWithin : ByteArray := prog_5_method_12_code
def yX3_mostWithin : MethodName := ⟨RX3, "mostWithin", "(II)I"⟩
abbrev cX3_doable : ByteArray := prog_5_method_13_code
def yX3_doable : MethodName := ⟨RX3, "doable", "(III)I"⟩
abbrev cX3_after : ByteArray := prog_5_method_14_code
def yX3_after : MethodName := ⟨RX3, "after", "(II)I"⟩
def RX4 : String := "NestedDolls$Text"
def TX4 : u_T := fun k => match k with
  | _ => ("", "", "", false)
def tyX4 : Nat → FieldType := fun k => match k with
  | _ => .int
abbrev wsX40 : List Cond := u_ws RX4 TX4 0
theorem nmX4 : ∀ a, a < 0 → ∀ b, b < 0 → a ≠ b → (TX4 a).2.1 ≠ (TX4 b).2.1 := by decide +kernel
theorem tyX4_ok : ∀ k, k < 0 → parseFieldDescriptor (TX4 k).2.2.1 = some (tyX4 k) := by decide +kernel
abbrev cX4_firstFault : ByteArray := prog_6_method_2_code
def yX4_firstFault : MethodName := ⟨RX4, "firstFault", "(LNestedDolls$Sheet;II)I"⟩
abbrev cX4_goesOn : ByteArray := prog_6_method_3_code
def yX4_goesOn : MethodName := ⟨RX4, "goesOn", "(III)Z"⟩
abbrev cX4_dollsIn : ByteArray := prog_6_method_4_code
def yX4_dollsIn : MethodName := ⟨RX4, "dollsIn", "(I)I"⟩
abbrev cX4_tellDoll : ByteArray := prog_6_method_5_code
def yX4_tellDoll : MethodName := ⟨RX4, "tellDoll", "(LNestedDolls$Sheet;IILNestedDolls$Doll;)V"⟩
abbrev cX4_kindOf : ByteArray := prog_6_method_6_code
def yX4_kindOf : MethodName := ⟨RX4, "kindOf", "(I)I"⟩
def RX5 : String := "NestedDolls"
def TX5 : u_T := fun k => match k with
  | 0 => ("NestedDolls", "row", "[LNestedDolls$Doll;", true)
  | 1 => ("NestedDolls", "sheets", "[LNestedDolls$Sheet;", true)
  | 2 => ("NestedDolls", "readFirst", "[I", true)
  | 3 => ("NestedDolls", "readSecond", "[I", true)
  | 4 => ("NestedDolls", "readFits", "[Z", true)
  | 5 => ("NestedDolls", "search", "LNestedDolls$Search;", true)
  | 6 => ("NestedDolls", "count", "I", false)
  | 7 => ("NestedDolls", "stand", "I", false)
  | 8 => ("NestedDolls", "acts", "I", false)
  | 9 => ("NestedDolls", "readings", "I", false)
  | 10 => ("NestedDolls", "traced", "I", false)
  | _ => ("NestedDolls", "latestFault", "I", false)
def tyX5 : Nat → FieldType := fun k => match k with
  | 0 => .array (.object "NestedDolls$Doll")
  | 1 => .array (.object "NestedDolls$Sheet")
  | 2 => .array .int
  | 3 => .array .int
  | 4 => .array .boolean
  | 5 => .object "NestedDolls$Search"
  | 6 => .int
  | 7 => .int
  | 8 => .int
  | 9 => .int
  | 10 => .int
  | _ => .int
abbrev wsX50 : List Cond := u_ws RX5 TX5 12
theorem nmX5 : ∀ a, a < 12 → ∀ b, b < 12 → a ≠ b → (TX5 a).2.1 ≠ (TX5 b).2.1 := by decide +kernel
theorem tyX5_ok : ∀ k, k < 12 → parseFieldDescriptor (TX5 k).2.2.1 = some (tyX5 k) := by decide +kernel
abbrev cX5_init : ByteArray := prog_1_method_1_code
def yX5_init : MethodName := ⟨RX5, "<init>", "()V"⟩
abbrev cX5_dolls : ByteArray := prog_1_method_2_code
def yX5_dolls : MethodName := ⟨RX5, "dolls", "(IIII)I"⟩
abbrev cX5_take : ByteArray := prog_1_method_3_code
def yX5_take : MethodName := ⟨RX5, "take", "(LNestedDolls$Sheet;II)V"⟩
abbrev cX5_ofDoll : ByteArray := prog_1_method_4_code
def yX5_ofDoll : MethodName := ⟨RX5, "ofDoll", "(II)I"⟩
abbrev cX5_girth : ByteArray := prog_1_method_5_code
def yX5_girth : MethodName := ⟨RX5, "girth", "(II)I"⟩
abbrev cX5_room : ByteArray := prog_1_method_6_code
def yX5_room : MethodName := ⟨RX5, "room", "(II)I"⟩
abbrev cX5_fits : ByteArray := prog_1_method_7_code
def yX5_fits : MethodName := ⟨RX5, "fits", "(II)I"⟩
abbrev cX5_act : ByteArray := prog_1_method_8_code
def yX5_act : MethodName := ⟨RX5, "act", "(I)I"⟩
abbrev cX5_anew : ByteArray := prog_1_method_9_code
def yX5_anew : MethodName := ⟨RX5, "anew", "()I"⟩
abbrev cX5_can : ByteArray := prog_1_method_10_code
def yX5_can : MethodName := ⟨RX5, "can", "()I"⟩
abbrev cX5_day : ByteArray := prog_1_method_11_code
def yX5_day : MethodName := ⟨RX5, "day", "(IIIII)I"⟩
abbrev cX5_isAskedOfDay : ByteArray := prog_1_method_12_code
def yX5_isAskedOfDay : MethodName := ⟨RX5, "isAskedOfDay", "(I)Z"⟩
abbrev cX5_firstWrong : ByteArray := prog_1_method_13_code
def yX5_firstWrong : MethodName := ⟨RX5, "firstWrong", "(LNestedDolls$Sheet;II)I"⟩
abbrev cX5_standAfter : ByteArray := prog_1_method_14_code
def yX5_standAfter : MethodName := ⟨RX5, "standAfter", "(LNestedDolls$Sheet;II)I"⟩
abbrev cX5_ofStand : ByteArray := prog_1_method_15_code
def yX5_ofStand : MethodName := ⟨RX5, "ofStand", "(II)I"⟩
abbrev cX5_doableAt : ByteArray := prog_1_method_16_code
def yX5_doableAt : MethodName := ⟨RX5, "doableAt", "(I)I"⟩
abbrev cX5_manyOnTable : ByteArray := prog_1_method_17_code
def yX5_manyOnTable : MethodName := ⟨RX5, "manyOnTable", "(I)I"⟩
abbrev cX5_fewest : ByteArray := prog_1_method_18_code
def yX5_fewest : MethodName := ⟨RX5, "fewest", "(IIII)I"⟩
abbrev cX5_nestTold : ByteArray := prog_1_method_19_code
def yX5_nestTold : MethodName := ⟨RX5, "nestTold", "(LNestedDolls$Sheet;I)I"⟩
abbrev cX5_stands : ByteArray := prog_1_method_20_code
def yX5_stands : MethodName := ⟨RX5, "stands", "(I)I"⟩
abbrev cX5_tidy : ByteArray := prog_1_method_21_code
def yX5_tidy : MethodName := ⟨RX5, "tidy", "(I)I"⟩
abbrev cX5_tidyPlace : ByteArray := prog_1_method_22_code
def yX5_tidyPlace : MethodName := ⟨RX5, "tidyPlace", "(II)I"⟩
abbrev cX5_firstPlace : ByteArray := prog_1_method_23_code
def yX5_firstPlace : MethodName := ⟨RX5, "firstPlace", "(IIII)I"⟩
abbrev cX5_leastOnTable : ByteArray := prog_1_method_24_code
def yX5_leastOnTable : MethodName := ⟨RX5, "leastOnTable", "(IIII)I"⟩
abbrev cX5_leastWith : ByteArray := prog_1_method_25_code
def yX5_leastWith : MethodName := ⟨RX5, "leastWith", "(IIIII)I"⟩
abbrev cX5_isFree : ByteArray := prog_1_method_26_code
def yX5_isFree : MethodName := ⟨RX5, "isFree", "(IIII)Z"⟩
abbrev cX5_chain : ByteArray := prog_1_method_27_code
def yX5_chain : MethodName := ⟨RX5, "chain", "()I"⟩
abbrev cX5_longestFrom : ByteArray := prog_1_method_28_code
def yX5_longestFrom : MethodName := ⟨RX5, "longestFrom", "(IIII)I"⟩
abbrev cX5_fitting : ByteArray := prog_1_method_29_code
def yX5_fitting : MethodName := ⟨RX5, "fitting", "()I"⟩
abbrev cX5_reading : ByteArray := prog_1_method_30_code
def yX5_reading : MethodName := ⟨RX5, "reading", "(III)I"⟩
abbrev cX5_back : ByteArray := prog_1_method_31_code
def yX5_back : MethodName := ⟨RX5, "back", "(I)I"⟩
abbrev cX5_girths : ByteArray := prog_1_method_32_code
def yX5_girths : MethodName := ⟨RX5, "girths", "(I)I"⟩
abbrev cX5_rooms : ByteArray := prog_1_method_33_code
def yX5_rooms : MethodName := ⟨RX5, "rooms", "(I)I"⟩
abbrev cX5_kinds : ByteArray := prog_1_method_34_code
def yX5_kinds : MethodName := ⟨RX5, "kinds", "(I)I"⟩
abbrev cX5_readingsAreSo : ByteArray := prog_1_method_35_code
def yX5_readingsAreSo : MethodName := ⟨RX5, "readingsAreSo", "()Z"⟩
abbrev cX5_odds : ByteArray := prog_1_method_36_code
def yX5_odds : MethodName := ⟨RX5, "odds", "(I)J"⟩
abbrev cX5_commonDivisor : ByteArray := prog_1_method_37_code
def yX5_commonDivisor : MethodName := ⟨RX5, "commonDivisor", "(II)I"⟩
abbrev cX5_sheet : ByteArray := prog_1_method_38_code
def yX5_sheet : MethodName := ⟨RX5, "sheet", "(III)I"⟩
abbrev cX5_lose : ByteArray := prog_1_method_39_code
def yX5_lose : MethodName := ⟨RX5, "lose", "(I)I"⟩
abbrev cX5_put : ByteArray := prog_1_method_40_code
def yX5_put : MethodName := ⟨RX5, "put", "(III)I"⟩
abbrev cX5_cell : ByteArray := prog_1_method_41_code
def yX5_cell : MethodName := ⟨RX5, "cell", "(III)J"⟩
abbrev cX5_copy : ByteArray := prog_1_method_42_code
def yX5_copy : MethodName := ⟨RX5, "copy", "(IIIII)I"⟩
abbrev cX5_tell : ByteArray := prog_1_method_43_code
def yX5_tell : MethodName := ⟨RX5, "tell", "(I)I"⟩
abbrev cX5_tellPlain : ByteArray := prog_1_method_44_code
def yX5_tellPlain : MethodName := ⟨RX5, "tellPlain", "(LNestedDolls$Doll;)I"⟩
abbrev cX5_tellBrushed : ByteArray := prog_1_method_45_code
def yX5_tellBrushed : MethodName := ⟨RX5, "tellBrushed", "(LNestedDolls$Doll;)I"⟩
abbrev cX5_tellSwollen : ByteArray := prog_1_method_46_code
def yX5_tellSwollen : MethodName := ⟨RX5, "tellSwollen", "(LNestedDolls$Doll;)I"⟩
abbrev cX5_shake : ByteArray := prog_1_method_47_code
def yX5_shake : MethodName := ⟨RX5, "shake", "(I)I"⟩
abbrev cX5_leave : ByteArray := prog_1_method_48_code
def yX5_leave : MethodName := ⟨RX5, "leave", "(I)V"⟩
abbrev cX5_as : ByteArray := prog_1_method_49_code
def yX5_as : MethodName := ⟨RX5, "as", "(II)I"⟩
abbrev cX5_trace : ByteArray := prog_1_method_50_code
def yX5_trace : MethodName := ⟨RX5, "trace", "()I"⟩
abbrev cX5_fault : ByteArray := prog_1_method_51_code
def yX5_fault : MethodName := ⟨RX5, "fault", "()I"⟩
abbrev cX5_many : ByteArray := prog_1_method_52_code
def yX5_many : MethodName := ⟨RX5, "many", "(I)I"⟩
abbrev cX5_come : ByteArray := prog_1_method_53_code
def yX5_come : MethodName := ⟨RX5, "come", "(I)I"⟩
abbrev cX5_isDoll : ByteArray := prog_1_method_54_code
def yX5_isDoll : MethodName := ⟨RX5, "isDoll", "(I)Z"⟩
abbrev cX5_areTwo : ByteArray := prog_1_method_55_code
def yX5_areTwo : MethodName := ⟨RX5, "areTwo", "(II)Z"⟩
abbrev cX5_isSheet : ByteArray := prog_1_method_56_code
def yX5_isSheet : MethodName := ⟨RX5, "isSheet", "(I)Z"⟩
abbrev cX5_isLane : ByteArray := prog_1_method_57_code
def yX5_isLane : MethodName := ⟨RX5, "isLane", "(I)Z"⟩
abbrev cX5_isAct : ByteArray := prog_1_method_58_code
def yX5_isAct : MethodName := ⟨RX5, "isAct", "(I)Z"⟩
abbrev cX5_has : ByteArray := prog_1_method_59_code
def yX5_has : MethodName := ⟨RX5, "has", "(II)Z"⟩
abbrev cX5_oneIf : ByteArray := prog_1_method_60_code
def yX5_oneIf : MethodName := ⟨RX5, "oneIf", "(Z)I"⟩
def RX6 : String := "NestedDollsModel"
def TX6 : u_T := fun k => match k with
  | 0 => ("NestedDollsModel", "fault", "I", false)
  | 1 => ("NestedDollsModel", "trace", "I", false)
  | 2 => ("NestedDollsModel", "sorts", "[I", true)
  | 3 => ("NestedDollsModel", "sheetLong", "[I", true)
  | 4 => ("NestedDollsModel", "cells", "[I", true)
  | 5 => ("NestedDollsModel", "dolls", "I", false)
  | 6 => ("NestedDollsModel", "done", "I", false)
  | 7 => ("NestedDollsModel", "kind", "[I", true)
  | 8 => ("NestedDollsModel", "girth", "[I", true)
  | 9 => ("NestedDollsModel", "room", "[I", true)
  | 10 => ("NestedDollsModel", "where", "[I", true)
  | 11 => ("NestedDollsModel", "open", "I", false)
  | 12 => ("NestedDollsModel", "at", "I", false)
  | 13 => ("NestedDollsModel", "readDolls", "I", false)
  | 14 => ("NestedDollsModel", "read", "[I", true)
  | 15 => ("NestedDollsModel", "placeOf", "[I", true)
  | 16 => ("NestedDollsModel", "nests", "[I", true)
  | 17 => ("NestedDollsModel", "leads", "[I", true)
  | 18 => ("NestedDollsModel", "far", "[I", true)
  | 19 => ("NestedDollsModel", "come", "I", false)
  | 20 => ("NestedDollsModel", "tidied", "[I", true)
  | 21 => ("NestedDollsModel", "bestTidied", "[I", true)
  | 22 => ("NestedDollsModel", "chains", "[I", true)
  | 23 => ("NestedDollsModel", "readings", "I", false)
  | 24 => ("NestedDollsModel", "readOne", "[I", true)
  | 25 => ("NestedDollsModel", "readOther", "[I", true)
  | _ => ("NestedDollsModel", "readFits", "[I", true)
def tyX6 : Nat → FieldType := fun k => match k with
  | 0 => .int
  | 1 => .int
  | 2 => .array .int
  | 3 => .array .int
  | 4 => .array .int
  | 5 => .int
  | 6 => .int
  | 7 => .array .int
  | 8 => .array .int
  | 9 => .array .int
  | 10 => .array .int
  | 11 => .int
  | 12 => .int
  | 13 => .int
  | 14 => .array .int
  | 15 => .array .int
  | 16 => .array .int
  | 17 => .array .int
  | 18 => .array .int
  | 19 => .int
  | 20 => .array .int
  | 21 => .array .int
  | 22 => .array .int
  | 23 => .int
  | 24 => .array .int
  | 25 => .array .int
  | _ => .array .int
abbrev wsX60 : List Cond := u_ws RX6 TX6 27
theorem nmX6 : ∀ a, a < 27 → ∀ b, b < 27 → a ≠ b → (TX6 a).2.1 ≠ (TX6 b).2.1 := by decide +kernel
theorem tyX6_ok : ∀ k, k < 27 → parseFieldDescriptor (TX6 k).2.2.1 = some (tyX6 k) := by decide +kernel
abbrev cX6_init : ByteArray := prog_8_method_1_code
def yX6_init : MethodName := ⟨RX6, "<init>", "()V"⟩
abbrev cX6_fails : ByteArray := prog_8_method_3_code
def yX6_fails : MethodName := ⟨RX6, "fails", "(I)I"⟩
abbrev cX6_lost : ByteArray := prog_8_method_4_code
def yX6_lost : MethodName := ⟨RX6, "lost", "(I)J"⟩
abbrev cX6_within : ByteArray := prog_8_method_5_code
def yX6_within : MethodName := ⟨RX6, "within", "(III)Z"⟩
abbrev cX6_isSheet : ByteArray := prog_8_method_6_code
def yX6_isSheet : MethodName := ⟨RX6, "isSheet", "(I)Z"⟩
abbrev cX6_isSort : ByteArray := prog_8_method_7_code
def yX6_isSort : MethodName := ⟨RX6, "isSort", "(I)Z"⟩
abbrev cX6_against : ByteArray := prog_8_method_8_code
def yX6_against : MethodName := ⟨RX6, "against", "(IIII)I"⟩
abbrev cX6_isDoll : ByteArray := prog_8_method_9_code
def yX6_isDoll : MethodName := ⟨RX6, "isDoll", "(I)Z"⟩
abbrev cX6_areTwo : ByteArray := prog_8_method_10_code
def yX6_areTwo : MethodName := ⟨RX6, "areTwo", "(II)Z"⟩
abbrev cX6_isOf : ByteArray := prog_8_method_11_code
def yX6_isOf : MethodName := ⟨RX6, "isOf", "(II)Z"⟩
abbrev cX6_digit : ByteArray := prog_8_method_12_code
def yX6_digit : MethodName := ⟨RX6, "digit", "(III)I"⟩
abbrev cX6_isSign : ByteArray := prog_8_method_13_code
def yX6_isSign : MethodName := ⟨RX6, "isSign", "(II)Z"⟩
abbrev cX6_dolls : ByteArray := prog_8_method_14_code
def yX6_dolls : MethodName := ⟨RX6, "dolls", "(IIII)I"⟩
abbrev cX6_readAll : ByteArray := prog_8_method_15_code
def yX6_readAll : MethodName := ⟨RX6, "readAll", "(I)Z"⟩
abbrev cX6_readDoll : ByteArray := prog_8_method_16_code
def yX6_readDoll : MethodName := ⟨RX6, "readDoll", "(I)Z"⟩
abbrev cX6_wideOf : ByteArray := prog_8_method_17_code
def yX6_wideOf : MethodName := ⟨RX6, "wideOf", "(I)I"⟩
abbrev cX6_fitsInto : ByteArray := prog_8_method_18_code
def yX6_fitsInto : MethodName := ⟨RX6, "fitsInto", "(II)Z"⟩
abbrev cX6_isAtHand : ByteArray := prog_8_method_19_code
def yX6_isAtHand : MethodName := ⟨RX6, "isAtHand", "(I)Z"⟩
abbrev cX6_inOf : ByteArray := prog_8_method_20_code
def yX6_inOf : MethodName := ⟨RX6, "inOf", "(I)I"⟩
abbrev cX6_manyWithin : ByteArray := prog_8_method_21_code
def yX6_manyWithin : MethodName := ⟨RX6, "manyWithin", "(I)I"⟩
abbrev cX6_onTable : ByteArray := prog_8_method_22_code
def yX6_onTable : MethodName := ⟨RX6, "onTable", "()I"⟩
abbrev cX6_ofDoll : ByteArray := prog_8_method_23_code
def yX6_ofDoll : MethodName := ⟨RX6, "ofDoll", "(II)I"⟩
abbrev cX6_girth : ByteArray := prog_8_method_24_code
def yX6_girth : MethodName := ⟨RX6, "girth", "(II)I"⟩
abbrev cX6_room : ByteArray := prog_8_method_25_code
def yX6_room : MethodName := ⟨RX6, "room", "(II)I"⟩
abbrev cX6_fits : ByteArray := prog_8_method_26_code
def yX6_fits : MethodName := ⟨RX6, "fits", "(II)I"⟩
abbrev cX6_canDo : ByteArray := prog_8_method_27_code
def yX6_canDo : MethodName := ⟨RX6, "canDo", "(I)Z"⟩
abbrev cX6_does : ByteArray := prog_8_method_28_code
def yX6_does : MethodName := ⟨RX6, "does", "(I)V"⟩
abbrev cX6_act : ByteArray := prog_8_method_29_code
def yX6_act : MethodName := ⟨RX6, "act", "(I)I"⟩
abbrev cX6_anew : ByteArray := prog_8_method_30_code
def yX6_anew : MethodName := ⟨RX6, "anew", "()I"⟩
abbrev cX6_can : ByteArray := prog_8_method_31_code
def yX6_can : MethodName := ⟨RX6, "can", "()I"⟩
abbrev cX6_nestNow : ByteArray := prog_8_method_32_code
def yX6_nestNow : MethodName := ⟨RX6, "nestNow", "()I"⟩
abbrev cX6_becomeNest : ByteArray := prog_8_method_33_code
def yX6_becomeNest : MethodName := ⟨RX6, "becomeNest", "(I)V"⟩
abbrev cX6_goDay : ByteArray := prog_8_method_34_code
def yX6_goDay : MethodName := ⟨RX6, "goDay", "(II)I"⟩
abbrev cX6_day : ByteArray := prog_8_method_35_code
def yX6_day : MethodName := ⟨RX6, "day", "(IIIII)I"⟩
abbrev cX6_handSet : ByteArray := prog_8_method_36_code
def yX6_handSet : MethodName := ⟨RX6, "handSet", "()I"⟩
abbrev cX6_tellDay : ByteArray := prog_8_method_37_code
def yX6_tellDay : MethodName := ⟨RX6, "tellDay", "(I)I"⟩
abbrev cX6_findNests : ByteArray := prog_8_method_38_code
def yX6_findNests : MethodName := ⟨RX6, "findNests", "()V"⟩
abbrev cX6_isTold : ByteArray := prog_8_method_39_code
def yX6_isTold : MethodName := ⟨RX6, "isTold", "(I)Z"⟩
abbrev cX6_findFar : ByteArray := prog_8_method_40_code
def yX6_findFar : MethodName := ⟨RX6, "findFar", "(I)V"⟩
abbrev cX6_fewest : ByteArray := prog_8_method_41_code
def yX6_fewest : MethodName := ⟨RX6, "fewest", "(IIII)I"⟩
abbrev cX6_stands : ByteArray := prog_8_method_42_code
def yX6_stands : MethodName := ⟨RX6, "stands", "(I)I"⟩
abbrev cX6_canTidy : ByteArray := prog_8_method_43_code
def yX6_canTidy : MethodName := ⟨RX6, "canTidy", "(I)Z"⟩
abbrev cX6_tidy : ByteArray := prog_8_method_44_code
def yX6_tidy : MethodName := ⟨RX6, "tidy", "(I)I"⟩
abbrev cX6_chain : ByteArray := prog_8_method_45_code
def yX6_chain : MethodName := ⟨RX6, "chain", "()I"⟩
abbrev cX6_reading : ByteArray := prog_8_method_46_code
def yX6_reading : MethodName := ⟨RX6, "reading", "(III)I"⟩
abbrev cX6_back : ByteArray := prog_8_method_47_code
def yX6_back : MethodName := ⟨RX6, "back", "(I)I"⟩
abbrev cX6_areSo : ByteArray := prog_8_method_48_code
def yX6_areSo : MethodName := ⟨RX6, "areSo", "()Z"⟩
abbrev cX6_girths : ByteArray := prog_8_method_49_code
def yX6_girths : MethodName := ⟨RX6, "girths", "(I)I"⟩
abbrev cX6_rooms : ByteArray := prog_8_method_50_code
def yX6_rooms : MethodName := ⟨RX6, "rooms", "(I)I"⟩
abbrev cX6_kinds : ByteArray := prog_8_method_51_code
def yX6_kinds : MethodName := ⟨RX6, "kinds", "(I)I"⟩
abbrev cX6_inLeastTerms : ByteArray := prog_8_method_52_code
def yX6_inLeastTerms : MethodName := ⟨RX6, "inLeastTerms", "(JJI)J"⟩
abbrev cX6_odds : ByteArray := prog_8_method_53_code
def yX6_odds : MethodName := ⟨RX6, "odds", "(I)J"⟩
abbrev cX6_sheet : ByteArray := prog_8_method_54_code
def yX6_sheet : MethodName := ⟨RX6, "sheet", "(III)I"⟩
abbrev cX6_lose : ByteArray := prog_8_method_55_code
def yX6_lose : MethodName := ⟨RX6, "lose", "(I)I"⟩
abbrev cX6_put : ByteArray := prog_8_method_56_code
def yX6_put : MethodName := ⟨RX6, "put", "(III)I"⟩
abbrev cX6_cell : ByteArray := prog_8_method_57_code
def yX6_cell : MethodName := ⟨RX6, "cell", "(III)J"⟩
abbrev cX6_copy : ByteArray := prog_8_method_58_code
def yX6_copy : MethodName := ⟨RX6, "copy", "(IIIII)I"⟩
abbrev cX6_begins : ByteArray := prog_8_method_59_code
def yX6_begins : MethodName := ⟨RX6, "begins", "(I)V"⟩
abbrev cX6_tell : ByteArray := prog_8_method_60_code
def yX6_tell : MethodName := ⟨RX6, "tell", "(I)I"⟩
abbrev cX6_shake : ByteArray := prog_8_method_61_code
def yX6_shake : MethodName := ⟨RX6, "shake", "(I)I"⟩
abbrev cX6_as : ByteArray := prog_8_method_62_code
def yX6_as : MethodName := ⟨RX6, "as", "(II)I"⟩
abbrev cX6_trace : ByteArray := prog_8_method_63_code
def yX6_trace : MethodName := ⟨RX6, "trace", "()I"⟩
abbrev cX6_fault : ByteArray := prog_8_method_64_code
def yX6_fault : MethodName := ⟨RX6, "fault", "()I"⟩
abbrev cX6_many : ByteArray := prog_8_method_65_code
def yX6_many : MethodName := ⟨RX6, "many", "(I)I"⟩
def RJ6 : String := "java/lang/Integer"
def TJ6 : u_T := fun k => match k with
  | _ => ("", "", "", false)
def tyJ6 : Nat → FieldType := fun k => match k with
  | _ => .int
abbrev wsJ60 : List Cond := u_ws RJ6 TJ6 0
theorem nmJ6 : ∀ a, a < 0 → ∀ b, b < 0 → a ≠ b → (TJ6 a).2.1 ≠ (TJ6 b).2.1 := by decide +kernel
theorem tyJ6_ok : ∀ k, k < 0 → parseFieldDescriptor (TJ6 k).2.2.1 = some (tyJ6 k) := by decide +kernel
abbrev cJ6_bitCount_0f7a4 : ByteArray := prog_9_method_49_code
def yJ6_bitCount_0f7a4 : MethodName := ⟨RJ6, "bitCount", "(I)I"⟩
def RJ9 : String := "java/lang/Math"
def TJ9 : u_T := fun k => match k with
  | _ => ("", "", "", false)
def tyJ9 : Nat → FieldType := fun k => match k with
  | _ => .int
abbrev wsJ90 : List Cond := u_ws RJ9 TJ9 0
theorem nmJ9 : ∀ a, a < 0 → ∀ b, b < 0 → a ≠ b → (TJ9 a).2.1 ≠ (TJ9 b).2.1 := by decide +kernel
theorem tyJ9_ok : ∀ k, k < 0 → parseFieldDescriptor (TJ9 k).2.2.1 = some (tyJ9 k) := by decide +kernel
abbrev cJ9_max_7cf53 : ByteArray := prog_10_method_65_code
def yJ9_max_7cf53 : MethodName := ⟨RJ9, "max", "(II)I"⟩
abbrev cJ9_min_7cf53 : ByteArray := prog_10_method_69_code
def yJ9_min_7cf53 : MethodName := ⟨RJ9, "min", "(II)I"⟩
def RJ10 : String := "java/lang/System"
def TJ10 : u_T := fun k => match k with
  | _ => ("", "", "", false)
def tyJ10 : Nat → FieldType := fun k => match k with
  | _ => .int
abbrev wsJ100 : List Cond := u_ws RJ10 TJ10 0
theorem nmJ10 : ∀ a, a < 0 → ∀ b, b < 0 → a ≠ b → (TJ10 a).2.1 ≠ (TJ10 b).2.1 := by decide +kernel
theorem tyJ10_ok : ∀ k, k < 0 → parseFieldDescriptor (TJ10 k).2.2.1 = some (tyJ10 k) := by decide +kernel
def RJ7 : String := "java/util/Arrays"
def TJ7 : u_T := fun k => match k with
  | _ => ("", "", "", false)
def tyJ7 : Nat → FieldType := fun k => match k with
  | _ => .int
abbrev wsJ70 : List Cond := u_ws RJ7 TJ7 0
theorem nmJ7 : ∀ a, a < 0 → ∀ b, b < 0 → a ≠ b → (TJ7 a).2.1 ≠ (TJ7 b).2.1 := by decide +kernel
theorem tyJ7_ok : ∀ k, k < 0 → parseFieldDescriptor (TJ7 k).2.2.1 = some (tyJ7 k) := by decide +kernel
abbrev cJ7_fill_d0a16 : ByteArray := prog_12_method_101_code
def yJ7_fill_d0a16 : MethodName := ⟨RJ7, "fill", "([JJ)V"⟩
abbrev cJ7_fill_53178 : ByteArray := prog_12_method_103_code
def yJ7_fill_53178 : MethodName := ⟨RJ7, "fill", "([II)V"⟩
def RL : String := "NestedDollsLaw"
abbrev cL_law : ByteArray := code
def yL_law : MethodName := ⟨RL, "law", "([I)Z"⟩
abbrev vwCl : List vw_C := [(RX0, TX0, 3), (RX1, TX1, 7), (RX2, TX2, 3), (RX5, TX5, 12), (RX6, TX6, 27)]
end
section
def gW : List Cond := lw_tbl.filter goodWord
theorem gW_in {w : Cond} (h : w ∈ lw_tbl) (g : goodWord w = true) : w ∈ gW := List.mem_filter.mpr ⟨h, g⟩
theorem gW_tbl : ∀ w ∈ gW, w ∈ lw_tbl := fun _ h => (List.mem_filter.mp h).1
theorem gW_good : ∀ w ∈ gW, goodWord w = true := fun _ h => (List.mem_filter.mp h).2
set_option maxRecDepth 20000 in
theorem q0 : Cond.classLink RL 7 RX5 ∈ gW := gW_in (List.mem_append_right _ (List.mem_append_left _ (List.mem_of_getElem? (i := 12) rfl))) rfl
set_option maxRecDepth 20000 in
theorem q1 : Cond.instantiable RX5 12 ∈ gW := gW_in (List.mem_append_right _ (List.mem_append_left _ (List.mem_of_getElem? (i := 13) rfl))) rfl
set_option maxRecDepth 20000 in
theorem q2 : Cond.initialized RX5 ∈ gW := gW_in (List.mem_append_right _ (List.mem_append_left _ (List.mem_of_getElem? (i := 1) rfl))) rfl
set_option maxRecDepth 20000 in
theorem q3 : Cond.classLink RL 10 RX6 ∈ gW := gW_in (List.mem_append_right _ (List.mem_append_right _ (List.mem_append_right _ (List.mem_append_left _ (List.mem_of_getElem? (i := 57) rfl))))) rfl
set_option maxRecDepth 20000 in
theorem q4 : Cond.instantiable RX6 27 ∈ gW := gW_in (List.mem_append_right _ (List.mem_append_right _ (List.mem_append_right _ (List.mem_append_left _ (List.mem_of_getElem? (i := 58) rfl))))) rfl
set_option maxRecDepth 20000 in
theorem q5 : Cond.initialized RX6 ∈ gW := gW_in (List.mem_append_right _ (List.mem_append_left _ (List.mem_of_getElem? (i := 5) rfl))) rfl
set_option maxRecDepth 20000 in
theorem q6 : Cond.methodLink RL 9 yX5_init ∈ gW := gW_in (List.mem_append_right _ (List.mem_append_left _ (List.mem_of_getElem? (i := 14) rfl))) rfl
set_option maxRecDepth 20000 in
theorem q7 : Cond.instanceMethod yX5_init ∈ gW := gW_in (List.mem_append_right _ (List.mem_append_left _ (List.mem_of_getElem? (i := 15) rfl))) rfl
set_option maxRecDepth 20000 in
theorem q8 : Cond.code yX5_init cX5_init 2 none ∈ gW := gW_in (List.mem_append_right _ (List.mem_append_left _ (List.mem_of_getElem? (i := 16) rfl))) rfl
set_option maxRecDepth 20000 in
theorem q9 : Cond.methodLink RX5 3 objectInit ∈ gW := gW_in (List.mem_append_right _ (List.mem_append_left _ (List.mem_of_getElem? (i := 17) rfl))) rfl
set_option maxRecDepth 20000 in
theorem q10 : Cond.instanceMethod objectInit ∈ gW := gW_in (List.mem_append_right _ (List.mem_append_left _ (List.mem_of_getElem? (i := 18) rfl))) rfl
set_option maxRecDepth 20000 in
theorem q11 : Cond.code objectInit ⟨#[0xb1]⟩ 1 none ∈ gW := gW_in (List.mem_append_right _ (List.mem_append_left _ (List.mem_of_getElem? (i := 19) rfl))) rfl
set_option maxRecDepth 20000 in
theorem q12 : Cond.classLink RX5 11 RX0 ∈ gW := gW_in (List.mem_append_right _ (List.mem_append_left _ (List.mem_of_getElem? (i := 20) rfl))) rfl
set_option maxRecDepth 20000 in
theorem q13 : Cond.fieldLink RX5 13 "NestedDolls" "row" "[LNestedDolls$Doll;" ∈ gW := gW_in (List.mem_append_right _ (List.mem_append_left _ (List.mem_of_getElem? (i := 91) rfl))) rfl
set_option maxRecDepth 20000 in
theorem q14 : Cond.classLink RX5 17 RX2 ∈ gW := gW_in (List.mem_append_right _ (List.mem_append_left _ (List.mem_of_getElem? (i := 22) rfl))) rfl
set_option maxRecDepth 20000 in
theorem q15 : Cond.fieldLink RX5 19 "NestedDolls" "sheets" "[LNestedDolls$Sheet;" ∈ gW := gW_in (List.mem_append_right _ (List.mem_append_left _ (List.mem_of_getElem? (i := 92) rfl))) rfl
set_option maxRecDepth 20000 in
theorem q16 : Cond.arrayClass .int ∈ gW := gW_in (List.mem_append_right _ (List.mem_append_left _ (List.mem_of_getElem? (i := 52) rfl))) rfl
set_option maxRecDepth 20000 in
theorem q17 : Cond.fieldLink RX5 23 "NestedDolls" "readFirst" "[I" ∈ gW := gW_in (List.mem_append_right _ (List.mem_append_left _ (List.mem_of_getElem? (i := 93) rfl))) rfl
set_option maxRecDepth 20000 in
theorem q18 : Cond.fieldLink RX5 27 "NestedDolls" "readSecond" "[I" ∈ gW := gW_in (List.mem_append_right _ (List.mem_append_left _ (List.mem_of_getElem? (i := 94) rfl))) rfl
set_option maxRecDepth 20000 in
theorem q19 : Cond.arrayClass .boolean ∈ gW := gW_in (List.mem_append_right _ (List.mem_append_left _ (List.mem_of_getElem? (i := 53) rfl))) rfl
set_option maxRecDepth 20000 in
theorem q20 : Cond.fieldLink RX5 30 "NestedDolls" "readFits" "[Z" ∈ gW := gW_in (List.mem_append_right _ (List.mem_append_left _ (List.mem_of_getElem? (i := 95) rfl))) rfl
set_option maxRecDepth 20000 in
theorem q21 : Cond.classLink RX5 34 RX1 ∈ gW := gW_in (List.mem_append_right _ (List.mem_append_left _ (List.mem_of_getElem? (i := 24) rfl))) rfl
set_option maxRecDepth 20000 in
theorem q22 : Cond.instantiable RX1 7 ∈ gW := gW_in (List.mem_append_right _ (List.mem_append_left _ (List.mem_of_getElem? (i := 25) rfl))) rfl
set_option maxRecDepth 20000 in
theorem q23 : Cond.initialized RX1 ∈ gW := gW_in (List.mem_append_right _ (List.mem_append_left _ (List.mem_of_getElem? (i := 2) rfl))) rfl
set_option maxRecDepth 20000 in
theorem q24 : Cond.fieldLink RX5 37 "NestedDolls" "search" "LNestedDolls$Search;" ∈ gW := gW_in (List.mem_append_right _ (List.mem_append_left _ (List.mem_of_getElem? (i := 96) rfl))) rfl
set_option maxRecDepth 20000 in
theorem q25 : Cond.instantiable RX0 3 ∈ gW := gW_in (List.mem_append_right _ (List.mem_append_left _ (List.mem_of_getElem? (i := 55) rfl))) rfl
set_option maxRecDepth 20000 in
theorem q26 : Cond.initialized RX0 ∈ gW := gW_in (List.mem_append_right _ (List.mem_append_left _ (List.mem_of_getElem? (i := 3) rfl))) rfl
set_option maxRecDepth 20000 in
theorem q27 : Cond.instantiable RX2 3 ∈ gW := gW_in (List.mem_append_right _ (List.mem_append_left _ (List.mem_of_getElem? (i := 76) rfl))) rfl
set_option maxRecDepth 20000 in
theorem q28 : Cond.initialized RX2 ∈ gW := gW_in (List.mem_append_right _ (List.mem_append_left _ (List.mem_of_getElem? (i := 4) rfl))) rfl
set_option maxRecDepth 20000 in
theorem q29 : Cond.instanceMethod yX1_init ∈ gW := gW_in (List.mem_append_right _ (List.mem_append_left _ (List.mem_of_getElem? (i := 27) rfl))) rfl
set_option maxRecDepth 20000 in
theorem q30 : Cond.code yX1_init cX1_init 1 none ∈ gW := gW_in (List.mem_append_right _ (List.mem_append_left _ (List.mem_of_getElem? (i := 28) rfl))) rfl
set_option maxRecDepth 20000 in
theorem q31 : Cond.methodLink RX1 3 objectInit ∈ gW := gW_in (List.mem_append_right _ (List.mem_append_left _ (List.mem_of_getElem? (i := 29) rfl))) rfl
set_option maxRecDepth 20000 in
theorem q32 : Cond.fieldLink RX1 11 "NestedDolls$Search" "reached" "[I" ∈ gW := gW_in (List.mem_append_right _ (List.mem_append_left _ (List.mem_of_getElem? (i := 30) rfl))) rfl
set_option maxRecDepth 20000 in
theorem q33 : Cond.fieldLink RX1 15 "NestedDolls$Search" "from" "[I" ∈ gW := gW_in (List.mem_append_right _ (List.mem_append_left _ (List.mem_of_getElem? (i := 31) rfl))) rfl
set_option maxRecDepth 20000 in
theorem q34 : Cond.fieldLink RX1 18 "NestedDolls$Search" "by" "[I" ∈ gW := gW_in (List.mem_append_right _ (List.mem_append_left _ (List.mem_of_getElem? (i := 32) rfl))) rfl
set_option maxRecDepth 20000 in
theorem q35 : Cond.arrayClass .long ∈ gW := gW_in (List.mem_append_right _ (List.mem_append_left _ (List.mem_of_getElem? (i := 54) rfl))) rfl
set_option maxRecDepth 20000 in
theorem q36 : Cond.fieldLink RX1 23 "NestedDolls$Search" "seen" "[J" ∈ gW := gW_in (List.mem_append_right _ (List.mem_append_left _ (List.mem_of_getElem? (i := 33) rfl))) rfl
set_option maxRecDepth 20000 in
theorem q37 : Cond.instanceMethod yX0_init ∈ gW := gW_in (List.mem_append_right _ (List.mem_append_left _ (List.mem_of_getElem? (i := 57) rfl))) rfl
set_option maxRecDepth 20000 in
theorem q38 : Cond.code yX0_init cX0_init 1 none ∈ gW := gW_in (List.mem_append_right _ (List.mem_append_left _ (List.mem_of_getElem? (i := 58) rfl))) rfl
set_option maxRecDepth 20000 in
theorem q39 : Cond.methodLink RX0 3 objectInit ∈ gW := gW_in (List.mem_append_right _ (List.mem_append_left _ (List.mem_of_getElem? (i := 59) rfl))) rfl
set_option maxRecDepth 20000 in
theorem q40 : Cond.fieldLink RX0 9 "NestedDolls$Doll" "girth" "I" ∈ gW := gW_in (List.mem_append_right _ (List.mem_append_left _ (List.mem_of_getElem? (i := 63) rfl))) rfl
set_option maxRecDepth 20000 in
theorem q41 : Cond.instanceMethod yX2_init ∈ gW := gW_in (List.mem_append_right _ (List.mem_append_left _ (List.mem_of_getElem? (i := 78) rfl))) rfl
set_option maxRecDepth 20000 in
theorem q42 : Cond.code yX2_init cX2_init 1 none ∈ gW := gW_in (List.mem_append_right _ (List.mem_append_left _ (List.mem_of_getElem? (i := 79) rfl))) rfl
set_option maxRecDepth 20000 in
theorem q43 : Cond.methodLink RX2 3 objectInit ∈ gW := gW_in (List.mem_append_right _ (List.mem_append_left _ (List.mem_of_getElem? (i := 80) rfl))) rfl
set_option maxRecDepth 20000 in
theorem q44 : Cond.fieldLink RX2 9 "NestedDolls$Sheet" "cells" "[I" ∈ gW := gW_in (List.mem_append_right _ (List.mem_append_left _ (List.mem_of_getElem? (i := 81) rfl))) rfl
set_option maxRecDepth 20000 in
theorem q45 : Cond.fieldLink RX2 15 "NestedDolls$Sheet" "laneOfRow" "I" ∈ gW := gW_in (List.mem_append_right _ (List.mem_append_left _ (List.mem_of_getElem? (i := 82) rfl))) rfl
set_option maxRecDepth 20000 in
theorem q46 : Cond.methodLink RL 12 yX6_init ∈ gW := gW_in (List.mem_append_right _ (List.mem_append_right _ (List.mem_append_right _ (List.mem_append_left _ (List.mem_of_getElem? (i := 59) rfl))))) rfl
set_option maxRecDepth 20000 in
theorem q47 : Cond.instanceMethod yX6_init ∈ gW := gW_in (List.mem_append_right _ (List.mem_append_right _ (List.mem_append_right _ (List.mem_append_left _ (List.mem_of_getElem? (i := 60) rfl))))) rfl
set_option maxRecDepth 20000 in
theorem q48 : Cond.code yX6_init cX6_init 1 none ∈ gW := gW_in (List.mem_append_right _ (List.mem_append_right _ (List.mem_append_right _ (List.mem_append_left _ (List.mem_of_getElem? (i := 61) rfl))))) rfl
set_option maxRecDepth 20000 in
theorem q49 : Cond.methodLink RX6 1 objectInit ∈ gW := gW_in (List.mem_append_right _ (List.mem_append_right _ (List.mem_append_right _ (List.mem_append_left _ (List.mem_of_getElem? (i := 62) rfl))))) rfl
set_option maxRecDepth 20000 in
theorem q50 : Cond.fieldLink RX6 9 "NestedDollsModel" "sorts" "[I" ∈ gW := gW_in (List.mem_append_right _ (List.mem_append_right _ (List.mem_append_right _ (List.mem_append_left _ (List.mem_of_getElem? (i := 66) rfl))))) rfl
set_option maxRecDepth 20000 in
theorem q51 : Cond.fieldLink RX6 13 "NestedDollsModel" "sheetLong" "[I" ∈ gW := gW_in (List.mem_append_right _ (List.mem_append_right _ (List.mem_append_right _ (List.mem_append_left _ (List.mem_of_getElem? (i := 67) rfl))))) rfl
set_option maxRecDepth 20000 in
theorem q52 : Cond.fieldLink RX6 16 "NestedDollsModel" "cells" "[I" ∈ gW := gW_in (List.mem_append_right _ (List.mem_append_right _ (List.mem_append_right _ (List.mem_append_left _ (List.mem_of_getElem? (i := 68) rfl))))) rfl
set_option maxRecDepth 20000 in
theorem q53 : Cond.fieldLink RX6 19 "NestedDollsModel" "kind" "[I" ∈ gW := gW_in (List.mem_append_right _ (List.mem_append_right _ (List.mem_append_right _ (List.mem_append_left _ (List.mem_of_getElem? (i := 71) rfl))))) rfl
set_option maxRecDepth 20000 in
theorem q54 : Cond.fieldLink RX6 22 "NestedDollsModel" "girth" "[I" ∈ gW := gW_in (List.mem_append_right _ (List.mem_append_right _ (List.mem_append_right _ (List.mem_append_left _ (List.mem_of_getElem? (i := 72) rfl))))) rfl
set_option maxRecDepth 20000 in
theorem q55 : Cond.fieldLink RX6 25 "NestedDollsModel" "room" "[I" ∈ gW := gW_in (List.mem_append_right _ (List.mem_append_right _ (List.mem_append_right _ (List.mem_append_left _ (List.mem_of_getElem? (i := 73) rfl))))) rfl
set_option maxRecDepth 20000 in
theorem q56 : Cond.fieldLink RX6 28 "NestedDollsModel" "where" "[I" ∈ gW := gW_in (List.mem_append_right _ (List.mem_append_right _ (List.mem_append_right _ (List.mem_append_left _ (List.mem_of_getElem? (i := 74) rfl))))) rfl
set_option maxRecDepth 20000 in
theorem q57 : Cond.fieldLink RX6 31 "NestedDollsModel" "read" "[I" ∈ gW := gW_in (List.mem_append_right _ (List.mem_append_right _ (List.mem_append_right _ (List.mem_append_left _ (List.mem_of_getElem? (i := 78) rfl))))) rfl
set_option maxRecDepth 20000 in
theorem q58 : Cond.fieldLink RX6 34 "NestedDollsModel" "placeOf" "[I" ∈ gW := gW_in (List.mem_append_right _ (List.mem_append_right _ (List.mem_append_right _ (List.mem_append_left _ (List.mem_of_getElem? (i := 79) rfl))))) rfl
set_option maxRecDepth 20000 in
theorem q59 : Cond.fieldLink RX6 37 "NestedDollsModel" "nests" "[I" ∈ gW := gW_in (List.mem_append_right _ (List.mem_append_right _ (List.mem_append_right _ (List.mem_append_left _ (List.mem_of_getElem? (i := 80) rfl))))) rfl
set_option maxRecDepth 20000 in
theorem q60 : Cond.constant RX6 40 (33600) ∈ gW := gW_in (List.mem_append_right _ (List.mem_append_right _ (List.mem_append_right _ (List.mem_append_left _ (List.mem_of_getElem? (i := 63) rfl))))) rfl
set_option maxRecDepth 20000 in
theorem q61 : Cond.fieldLink RX6 41 "NestedDollsModel" "leads" "[I" ∈ gW := gW_in (List.mem_append_right _ (List.mem_append_right _ (List.mem_append_right _ (List.mem_append_left _ (List.mem_of_getElem? (i := 81) rfl))))) rfl
set_option maxRecDepth 20000 in
theorem q62 : Cond.fieldLink RX6 44 "NestedDollsModel" "far" "[I" ∈ gW := gW_in (List.mem_append_right _ (List.mem_append_right _ (List.mem_append_right _ (List.mem_append_left _ (List.mem_of_getElem? (i := 82) rfl))))) rfl
set_option maxRecDepth 20000 in
theorem q63 : Cond.fieldLink RX6 47 "NestedDollsModel" "tidied" "[I" ∈ gW := gW_in (List.mem_append_right _ (List.mem_append_right _ (List.mem_append_right _ (List.mem_append_left _ (List.mem_of_getElem? (i := 84) rfl))))) rfl
set_option maxRecDepth 20000 in
theorem q64 : Cond.fieldLink RX6 50 "NestedDollsModel" "bestTidied" "[I" ∈ gW := gW_in (List.mem_append_right _ (List.mem_append_right _ (List.mem_append_right _ (List.mem_append_left _ (List.mem_of_getElem? (i := 85) rfl))))) rfl
set_option maxRecDepth 20000 in
theorem q65 : Cond.fieldLink RX6 53 "NestedDollsModel" "chains" "[I" ∈ gW := gW_in (List.mem_append_right _ (List.mem_append_right _ (List.mem_append_right _ (List.mem_append_left _ (List.mem_of_getElem? (i := 86) rfl))))) rfl
set_option maxRecDepth 20000 in
theorem q66 : Cond.fieldLink RX6 56 "NestedDollsModel" "readOne" "[I" ∈ gW := gW_in (List.mem_append_right _ (List.mem_append_right _ (List.mem_append_right _ (List.mem_append_left _ (List.mem_of_getElem? (i := 88) rfl))))) rfl
set_option maxRecDepth 20000 in
theorem q67 : Cond.fieldLink RX6 59 "NestedDollsModel" "readOther" "[I" ∈ gW := gW_in (List.mem_append_right _ (List.mem_append_right _ (List.mem_append_right _ (List.mem_append_left _ (List.mem_of_getElem? (i := 89) rfl))))) rfl
set_option maxRecDepth 20000 in
theorem q68 : Cond.fieldLink RX6 62 "NestedDollsModel" "readFits" "[I" ∈ gW := gW_in (List.mem_append_right _ (List.mem_append_right _ (List.mem_append_right _ (List.mem_append_left _ (List.mem_of_getElem? (i := 90) rfl))))) rfl
set_option maxRecDepth 20000 in
theorem q69 : Cond.methodLink RL 13 yX5_dolls ∈ gW := gW_in (List.mem_append_right _ (List.mem_append_left _ (List.mem_of_getElem? (i := 128) rfl))) rfl
set_option maxRecDepth 20000 in
theorem q70 : Cond.instanceMethod yX5_dolls ∈ gW := gW_in (List.mem_append_right _ (List.mem_append_left _ (List.mem_of_getElem? (i := 129) rfl))) rfl
set_option maxRecDepth 20000 in
theorem q71 : Cond.selects RX5 yX5_dolls yX5_dolls ∈ gW := gW_in (List.mem_append_right _ (List.mem_append_left _ (List.mem_of_getElem? (i := 130) rfl))) rfl
set_option maxRecDepth 20000 in
theorem q72 : Cond.code yX5_dolls cX5_dolls 7 (some .int) ∈ gW := gW_in (List.mem_append_right _ (List.mem_append_left _ (List.mem_of_getElem? (i := 131) rfl))) rfl
set_option maxRecDepth 20000 in
theorem q73 : Cond.fieldLink RX5 43 "NestedDolls" "latestFault" "I" ∈ gW := gW_in (List.mem_append_right _ (List.mem_append_left _ (List.mem_of_getElem? (i := 102) rfl))) rfl
set_option maxRecDepth 20000 in
theorem q74 : Cond.fieldLink RX5 72 "NestedDolls" "count" "I" ∈ gW := gW_in (List.mem_append_right _ (List.mem_append_left _ (List.mem_of_getElem? (i := 97) rfl))) rfl
set_option maxRecDepth 20000 in
theorem q75 : Cond.methodLink RX5 47 yX5_isSheet ∈ gW := gW_in (List.mem_append_right _ (List.mem_append_left _ (List.mem_of_getElem? (i := 132) rfl))) rfl
set_option maxRecDepth 20000 in
theorem q76 : Cond.static yX5_isSheet ∈ gW := gW_in (List.mem_append_right _ (List.mem_append_left _ (List.mem_of_getElem? (i := 133) rfl))) rfl
set_option maxRecDepth 20000 in
theorem q77 : Cond.code yX5_isSheet cX5_isSheet 1 (some .boolean) ∈ gW := gW_in (List.mem_append_right _ (List.mem_append_left _ (List.mem_of_getElem? (i := 134) rfl))) rfl
set_option maxRecDepth 20000 in
theorem q78 : Cond.methodLink RX5 51 yX5_isLane ∈ gW := gW_in (List.mem_append_right _ (List.mem_append_left _ (List.mem_of_getElem? (i := 135) rfl))) rfl
set_option maxRecDepth 20000 in
theorem q79 : Cond.static yX5_isLane ∈ gW := gW_in (List.mem_append_right _ (List.mem_append_left _ (List.mem_of_getElem? (i := 136) rfl))) rfl
set_option maxRecDepth 20000 in
theorem q80 : Cond.code yX5_isLane cX5_isLane 1 (some .boolean) ∈ gW := gW_in (List.mem_append_right _ (List.mem_append_left _ (List.mem_of_getElem? (i := 137) rfl))) rfl
set_option maxRecDepth 20000 in
theorem q81 : Cond.methodLink RX5 54 yX2_faultOf ∈ gW := gW_in (List.mem_append_right _ (List.mem_append_left _ (List.mem_of_getElem? (i := 138) rfl))) rfl
set_option maxRecDepth 20000 in
theorem q82 : Cond.instanceMethod yX2_faultOf ∈ gW := gW_in (List.mem_append_right _ (List.mem_append_left _ (List.mem_of_getElem? (i := 139) rfl))) rfl
set_option maxRecDepth 20000 in
theorem q83 : Cond.selects RX2 yX2_faultOf yX2_faultOf ∈ gW := gW_in (List.mem_append_right _ (List.mem_append_left _ (List.mem_of_getElem? (i := 140) rfl))) rfl
set_option maxRecDepth 20000 in
theorem q84 : Cond.code yX2_faultOf cX2_faultOf 4 (some .int) ∈ gW := gW_in (List.mem_append_right _ (List.mem_append_left _ (List.mem_of_getElem? (i := 141) rfl))) rfl
set_option maxRecDepth 20000 in
theorem q85 : Cond.methodLink RX2 41 yX2_hasNothing ∈ gW := gW_in (List.mem_append_right _ (List.mem_append_left _ (List.mem_of_getElem? (i := 142) rfl))) rfl
set_option maxRecDepth 20000 in
theorem q86 : Cond.instanceMethod yX2_hasNothing ∈ gW := gW_in (List.mem_append_right _ (List.mem_append_left _ (List.mem_of_getElem? (i := 143) rfl))) rfl
set_option maxRecDepth 20000 in
theorem q87 : Cond.selects RX2 yX2_hasNothing yX2_hasNothing ∈ gW := gW_in (List.mem_append_right _ (List.mem_append_left _ (List.mem_of_getElem? (i := 144) rfl))) rfl
set_option maxRecDepth 20000 in
theorem q88 : Cond.code yX2_hasNothing cX2_hasNothing 1 (some .boolean) ∈ gW := gW_in (List.mem_append_right _ (List.mem_append_left _ (List.mem_of_getElem? (i := 145) rfl))) rfl
set_option maxRecDepth 20000 in
theorem q89 : Cond.methodLink RX2 45 yX2_hasCells ∈ gW := gW_in (List.mem_append_right _ (List.mem_append_left _ (List.mem_of_getElem? (i := 146) rfl))) rfl
set_option maxRecDepth 20000 in
theorem q90 : Cond.instanceMethod yX2_hasCells ∈ gW := gW_in (List.mem_append_right _ (List.mem_append_left _ (List.mem_of_getElem? (i := 147) rfl))) rfl
set_option maxRecDepth 20000 in
theorem q91 : Cond.selects RX2 yX2_hasCells yX2_hasCells ∈ gW := gW_in (List.mem_append_right _ (List.mem_append_left _ (List.mem_of_getElem? (i := 148) rfl))) rfl
set_option maxRecDepth 20000 in
theorem q92 : Cond.code yX2_hasCells cX2_hasCells 3 (some .boolean) ∈ gW := gW_in (List.mem_append_right _ (List.mem_append_left _ (List.mem_of_getElem? (i := 149) rfl))) rfl
set_option maxRecDepth 20000 in
theorem q93 : Cond.fieldLink RX2 28 "NestedDolls$Sheet" "size" "I" ∈ gW := gW_in (List.mem_append_right _ (List.mem_append_left _ (List.mem_of_getElem? (i := 83) rfl))) rfl
set_option maxRecDepth 20000 in
theorem q94 : Cond.methodLink RX5 58 yX5_come ∈ gW := gW_in (List.mem_append_right _ (List.mem_append_left _ (List.mem_of_getElem? (i := 150) rfl))) rfl
set_option maxRecDepth 20000 in
theorem q95 : Cond.instanceMethod yX5_come ∈ gW := gW_in (List.mem_append_right _ (List.mem_append_left _ (List.mem_of_getElem? (i := 152) rfl))) rfl
set_option maxRecDepth 20000 in
theorem q96 : Cond.selects RX5 yX5_come yX5_come ∈ gW := gW_in (List.mem_append_left _ (List.mem_of_getElem? (i := 0) rfl)) rfl
set_option maxRecDepth 20000 in
theorem q97 : Cond.code yX5_come cX5_come 2 (some .int) ∈ gW := gW_in (List.mem_append_right _ (List.mem_append_left _ (List.mem_of_getElem? (i := 153) rfl))) rfl
set_option maxRecDepth 20000 in
theorem q98 : Cond.methodLink RX5 62 yX4_firstFault ∈ gW := gW_in (List.mem_append_right _ (List.mem_append_left _ (List.mem_of_getElem? (i := 154) rfl))) rfl
set_option maxRecDepth 20000 in
theorem q99 : Cond.static yX4_firstFault ∈ gW := gW_in (List.mem_append_right _ (List.mem_append_left _ (List.mem_of_getElem? (i := 155) rfl))) rfl
set_option maxRecDepth 20000 in
theorem q100 : Cond.initialized RX4 ∈ gW := gW_in (List.mem_append_right _ (List.mem_append_left _ (List.mem_of_getElem? (i := 6) rfl))) rfl
set_option maxRecDepth 20000 in
theorem q101 : Cond.code yX4_firstFault cX4_firstFault 4 (some .int) ∈ gW := gW_in (List.mem_append_right _ (List.mem_append_left _ (List.mem_of_getElem? (i := 156) rfl))) rfl
set_option maxRecDepth 20000 in
theorem q102 : Cond.methodLink RX4 11 yX2_at ∈ gW := gW_in (List.mem_append_right _ (List.mem_append_left _ (List.mem_of_getElem? (i := 157) rfl))) rfl
set_option maxRecDepth 20000 in
theorem q103 : Cond.instanceMethod yX2_at ∈ gW := gW_in (List.mem_append_right _ (List.mem_append_left _ (List.mem_of_getElem? (i := 158) rfl))) rfl
set_option maxRecDepth 20000 in
theorem q104 : Cond.selects RX2 yX2_at yX2_at ∈ gW := gW_in (List.mem_append_right _ (List.mem_append_left _ (List.mem_of_getElem? (i := 159) rfl))) rfl
set_option maxRecDepth 20000 in
theorem q105 : Cond.code yX2_at cX2_at 2 (some .int) ∈ gW := gW_in (List.mem_append_right _ (List.mem_append_left _ (List.mem_of_getElem? (i := 160) rfl))) rfl
set_option maxRecDepth 20000 in
theorem q106 : Cond.methodLink RX4 17 yX4_goesOn ∈ gW := gW_in (List.mem_append_right _ (List.mem_append_left _ (List.mem_of_getElem? (i := 161) rfl))) rfl
set_option maxRecDepth 20000 in
theorem q107 : Cond.static yX4_goesOn ∈ gW := gW_in (List.mem_append_right _ (List.mem_append_left _ (List.mem_of_getElem? (i := 162) rfl))) rfl
set_option maxRecDepth 20000 in
theorem q108 : Cond.code yX4_goesOn cX4_goesOn 3 (some .boolean) ∈ gW := gW_in (List.mem_append_right _ (List.mem_append_left _ (List.mem_of_getElem? (i := 163) rfl))) rfl
set_option maxRecDepth 20000 in
theorem q109 : Cond.methodLink RX4 21 yX4_kindOf ∈ gW := gW_in (List.mem_append_right _ (List.mem_append_left _ (List.mem_of_getElem? (i := 164) rfl))) rfl
set_option maxRecDepth 20000 in
theorem q110 : Cond.static yX4_kindOf ∈ gW := gW_in (List.mem_append_right _ (List.mem_append_left _ (List.mem_of_getElem? (i := 165) rfl))) rfl
set_option maxRecDepth 20000 in
theorem q111 : Cond.code yX4_kindOf cX4_kindOf 1 (some .int) ∈ gW := gW_in (List.mem_append_right _ (List.mem_append_left _ (List.mem_of_getElem? (i := 166) rfl))) rfl
set_option maxRecDepth 20000 in
theorem q112 : Cond.methodLink RX5 68 yX5_take ∈ gW := gW_in (List.mem_append_right _ (List.mem_append_left _ (List.mem_of_getElem? (i := 167) rfl))) rfl
set_option maxRecDepth 20000 in
theorem q113 : Cond.instanceMethod yX5_take ∈ gW := gW_in (List.mem_append_right _ (List.mem_append_left _ (List.mem_of_getElem? (i := 169) rfl))) rfl
set_option maxRecDepth 20000 in
theorem q114 : Cond.selects RX5 yX5_take yX5_take ∈ gW := gW_in (List.mem_append_left _ (List.mem_of_getElem? (i := 1) rfl)) rfl
set_option maxRecDepth 20000 in
theorem q115 : Cond.code yX5_take cX5_take 5 none ∈ gW := gW_in (List.mem_append_right _ (List.mem_append_left _ (List.mem_of_getElem? (i := 170) rfl))) rfl
set_option maxRecDepth 20000 in
theorem q116 : Cond.fieldLink RX5 84 "NestedDolls" "stand" "I" ∈ gW := gW_in (List.mem_append_right _ (List.mem_append_left _ (List.mem_of_getElem? (i := 98) rfl))) rfl
set_option maxRecDepth 20000 in
theorem q117 : Cond.fieldLink RX5 87 "NestedDolls" "acts" "I" ∈ gW := gW_in (List.mem_append_right _ (List.mem_append_left _ (List.mem_of_getElem? (i := 99) rfl))) rfl
set_option maxRecDepth 20000 in
theorem q118 : Cond.fieldLink RX5 90 "NestedDolls" "readings" "I" ∈ gW := gW_in (List.mem_append_right _ (List.mem_append_left _ (List.mem_of_getElem? (i := 100) rfl))) rfl
set_option maxRecDepth 20000 in
theorem q119 : Cond.methodLink RX5 75 yX4_dollsIn ∈ gW := gW_in (List.mem_append_right _ (List.mem_append_left _ (List.mem_of_getElem? (i := 171) rfl))) rfl
set_option maxRecDepth 20000 in
theorem q120 : Cond.static yX4_dollsIn ∈ gW := gW_in (List.mem_append_right _ (List.mem_append_left _ (List.mem_of_getElem? (i := 172) rfl))) rfl
set_option maxRecDepth 20000 in
theorem q121 : Cond.code yX4_dollsIn cX4_dollsIn 1 (some .int) ∈ gW := gW_in (List.mem_append_right _ (List.mem_append_left _ (List.mem_of_getElem? (i := 173) rfl))) rfl
set_option maxRecDepth 20000 in
theorem q122 : Cond.methodLink RX4 24 Lib.Math.min.name ∈ gW := gW_in (List.mem_append_right _ (List.mem_append_left _ (List.mem_of_getElem? (i := 174) rfl))) rfl
set_option maxRecDepth 20000 in
theorem q123 : Cond.static Lib.Math.min.name ∈ gW := gW_in (List.mem_append_right _ (List.mem_append_left _ (List.mem_of_getElem? (i := 175) rfl))) rfl
set_option maxRecDepth 20000 in
theorem q124 : Cond.initialized "java/lang/Math" ∈ gW := gW_in (List.mem_append_right _ (List.mem_append_left _ (List.mem_of_getElem? (i := 7) rfl))) rfl
set_option maxRecDepth 20000 in
theorem q125 : Cond.code Lib.Math.min.name Lib.Math.min.code 2 (some .int) ∈ gW := gW_in (List.mem_append_right _ (List.mem_append_left _ (List.mem_of_getElem? (i := 176) rfl))) rfl
set_option maxRecDepth 20000 in
theorem q126 : Cond.methodLink RX5 78 yX4_tellDoll ∈ gW := gW_in (List.mem_append_right _ (List.mem_append_left _ (List.mem_of_getElem? (i := 177) rfl))) rfl
set_option maxRecDepth 20000 in
theorem q127 : Cond.static yX4_tellDoll ∈ gW := gW_in (List.mem_append_right _ (List.mem_append_left _ (List.mem_of_getElem? (i := 178) rfl))) rfl
set_option maxRecDepth 20000 in
theorem q128 : Cond.code yX4_tellDoll cX4_tellDoll 5 none ∈ gW := gW_in (List.mem_append_right _ (List.mem_append_left _ (List.mem_of_getElem? (i := 179) rfl))) rfl
set_option maxRecDepth 20000 in
theorem q129 : Cond.fieldLink RX4 30 "NestedDolls$Doll" "kind" "I" ∈ gW := gW_in (List.mem_append_right _ (List.mem_append_left _ (List.mem_of_getElem? (i := 62) rfl))) rfl
set_option maxRecDepth 20000 in
theorem q130 : Cond.fieldLink RX4 36 "NestedDolls$Doll" "girth" "I" ∈ gW := gW_in (List.mem_append_right _ (List.mem_append_left _ (List.mem_of_getElem? (i := 65) rfl))) rfl
set_option maxRecDepth 20000 in
theorem q131 : Cond.fieldLink RX4 39 "NestedDolls$Doll" "room" "I" ∈ gW := gW_in (List.mem_append_right _ (List.mem_append_left _ (List.mem_of_getElem? (i := 68) rfl))) rfl
set_option maxRecDepth 20000 in
theorem q132 : Cond.methodLink RL 17 yX6_dolls ∈ gW := gW_in (List.mem_append_right _ (List.mem_append_right _ (List.mem_append_right _ (List.mem_append_left _ (List.mem_of_getElem? (i := 146) rfl))))) rfl
set_option maxRecDepth 20000 in
theorem q133 : Cond.instanceMethod yX6_dolls ∈ gW := gW_in (List.mem_append_right _ (List.mem_append_right _ (List.mem_append_right _ (List.mem_append_left _ (List.mem_of_getElem? (i := 147) rfl))))) rfl
set_option maxRecDepth 20000 in
theorem q134 : Cond.selects RX6 yX6_dolls yX6_dolls ∈ gW := gW_in (List.mem_append_right _ (List.mem_append_right _ (List.mem_append_right _ (List.mem_append_left _ (List.mem_of_getElem? (i := 148) rfl))))) rfl
set_option maxRecDepth 20000 in
theorem q135 : Cond.code yX6_dolls cX6_dolls 8 (some .int) ∈ gW := gW_in (List.mem_append_right _ (List.mem_append_right _ (List.mem_append_right _ (List.mem_append_left _ (List.mem_of_getElem? (i := 149) rfl))))) rfl
set_option maxRecDepth 20000 in
theorem q136 : Cond.fieldLink RX6 65 "NestedDollsModel" "fault" "I" ∈ gW := gW_in (List.mem_append_right _ (List.mem_append_right _ (List.mem_append_right _ (List.mem_append_left _ (List.mem_of_getElem? (i := 64) rfl))))) rfl
set_option maxRecDepth 20000 in
theorem q137 : Cond.fieldLink RX6 82 "NestedDollsModel" "at" "I" ∈ gW := gW_in (List.mem_append_right _ (List.mem_append_right _ (List.mem_append_right _ (List.mem_append_left _ (List.mem_of_getElem? (i := 76) rfl))))) rfl
set_option maxRecDepth 20000 in
theorem q138 : Cond.fieldLink RX6 102 "NestedDollsModel" "readDolls" "I" ∈ gW := gW_in (List.mem_append_right _ (List.mem_append_right _ (List.mem_append_right _ (List.mem_append_left _ (List.mem_of_getElem? (i := 77) rfl))))) rfl
set_option maxRecDepth 20000 in
theorem q139 : Cond.fieldLink RX6 75 "NestedDollsModel" "dolls" "I" ∈ gW := gW_in (List.mem_append_right _ (List.mem_append_right _ (List.mem_append_right _ (List.mem_append_left _ (List.mem_of_getElem? (i := 69) rfl))))) rfl
set_option maxRecDepth 20000 in
theorem q140 : Cond.fieldLink RX6 105 "NestedDollsModel" "open" "I" ∈ gW := gW_in (List.mem_append_right _ (List.mem_append_right _ (List.mem_append_right _ (List.mem_append_left _ (List.mem_of_getElem? (i := 75) rfl))))) rfl
set_option maxRecDepth 20000 in
theorem q141 : Cond.fieldLink RX6 108 "NestedDollsModel" "done" "I" ∈ gW := gW_in (List.mem_append_right _ (List.mem_append_right _ (List.mem_append_right _ (List.mem_append_left _ (List.mem_of_getElem? (i := 70) rfl))))) rfl
set_option maxRecDepth 20000 in
theorem q142 : Cond.fieldLink RX6 111 "NestedDollsModel" "readings" "I" ∈ gW := gW_in (List.mem_append_right _ (List.mem_append_right _ (List.mem_append_right _ (List.mem_append_left _ (List.mem_of_getElem? (i := 87) rfl))))) rfl
set_option maxRecDepth 20000 in
theorem q143 : Cond.methodLink RX6 85 yX6_isSheet ∈ gW := gW_in (List.mem_append_right _ (List.mem_append_right _ (List.mem_append_right _ (List.mem_append_left _ (List.mem_of_getElem? (i := 150) rfl))))) rfl
set_option maxRecDepth 20000 in
theorem q144 : Cond.static yX6_isSheet ∈ gW := gW_in (List.mem_append_right _ (List.mem_append_right _ (List.mem_append_right _ (List.mem_append_left _ (List.mem_of_getElem? (i := 151) rfl))))) rfl
set_option maxRecDepth 20000 in
theorem q145 : Cond.code yX6_isSheet cX6_isSheet 1 (some .boolean) ∈ gW := gW_in (List.mem_append_right _ (List.mem_append_right _ (List.mem_append_right _ (List.mem_append_left _ (List.mem_of_getElem? (i := 152) rfl))))) rfl
set_option maxRecDepth 20000 in
theorem q146 : Cond.methodLink RX6 71 yX6_within ∈ gW := gW_in (List.mem_append_right _ (List.mem_append_right _ (List.mem_append_right _ (List.mem_append_left _ (List.mem_of_getElem? (i := 153) rfl))))) rfl
set_option maxRecDepth 20000 in
theorem q147 : Cond.static yX6_within ∈ gW := gW_in (List.mem_append_right _ (List.mem_append_right _ (List.mem_append_right _ (List.mem_append_left _ (List.mem_of_getElem? (i := 154) rfl))))) rfl
set_option maxRecDepth 20000 in
theorem q148 : Cond.code yX6_within cX6_within 3 (some .boolean) ∈ gW := gW_in (List.mem_append_right _ (List.mem_append_right _ (List.mem_append_right _ (List.mem_append_left _ (List.mem_of_getElem? (i := 155) rfl))))) rfl
set_option maxRecDepth 20000 in
theorem q149 : Cond.methodLink RX6 88 yX6_isSort ∈ gW := gW_in (List.mem_append_right _ (List.mem_append_right _ (List.mem_append_right _ (List.mem_append_left _ (List.mem_of_getElem? (i := 156) rfl))))) rfl
set_option maxRecDepth 20000 in
theorem q150 : Cond.static yX6_isSort ∈ gW := gW_in (List.mem_append_right _ (List.mem_append_right _ (List.mem_append_right _ (List.mem_append_left _ (List.mem_of_getElem? (i := 157) rfl))))) rfl
set_option maxRecDepth 20000 in
theorem q151 : Cond.code yX6_isSort cX6_isSort 1 (some .boolean) ∈ gW := gW_in (List.mem_append_right _ (List.mem_append_right _ (List.mem_append_right _ (List.mem_append_left _ (List.mem_of_getElem? (i := 158) rfl))))) rfl
set_option maxRecDepth 20000 in
theorem q152 : Cond.methodLink RX6 91 yX6_against ∈ gW := gW_in (List.mem_append_right _ (List.mem_append_right _ (List.mem_append_right _ (List.mem_append_left _ (List.mem_of_getElem? (i := 159) rfl))))) rfl
set_option maxRecDepth 20000 in
theorem q153 : Cond.instanceMethod yX6_against ∈ gW := gW_in (List.mem_append_right _ (List.mem_append_right _ (List.mem_append_right _ (List.mem_append_left _ (List.mem_of_getElem? (i := 161) rfl))))) rfl
set_option maxRecDepth 20000 in
theorem q154 : Cond.selects RX6 yX6_against yX6_against ∈ gW := gW_in (List.mem_append_left _ (List.mem_of_getElem? (i := 21) rfl)) rfl
set_option maxRecDepth 20000 in
theorem q155 : Cond.code yX6_against cX6_against 5 (some .int) ∈ gW := gW_in (List.mem_append_right _ (List.mem_append_right _ (List.mem_append_right _ (List.mem_append_left _ (List.mem_of_getElem? (i := 162) rfl))))) rfl
set_option maxRecDepth 20000 in
theorem q156 : Cond.methodLink RX6 95 yX6_fails ∈ gW := gW_in (List.mem_append_right _ (List.mem_append_right _ (List.mem_append_right _ (List.mem_append_left _ (List.mem_of_getElem? (i := 163) rfl))))) rfl
set_option maxRecDepth 20000 in
theorem q157 : Cond.instanceMethod yX6_fails ∈ gW := gW_in (List.mem_append_right _ (List.mem_append_right _ (List.mem_append_right _ (List.mem_append_left _ (List.mem_of_getElem? (i := 165) rfl))))) rfl
set_option maxRecDepth 20000 in
theorem q158 : Cond.selects RX6 yX6_fails yX6_fails ∈ gW := gW_in (List.mem_append_left _ (List.mem_of_getElem? (i := 22) rfl)) rfl
set_option maxRecDepth 20000 in
theorem q159 : Cond.code yX6_fails cX6_fails 2 (some .int) ∈ gW := gW_in (List.mem_append_right _ (List.mem_append_right _ (List.mem_append_right _ (List.mem_append_left _ (List.mem_of_getElem? (i := 166) rfl))))) rfl
set_option maxRecDepth 20000 in
theorem q160 : Cond.methodLink RX6 99 yX6_readAll ∈ gW := gW_in (List.mem_append_right _ (List.mem_append_right _ (List.mem_append_right _ (List.mem_append_left _ (List.mem_of_getElem? (i := 167) rfl))))) rfl
set_option maxRecDepth 20000 in
theorem q161 : Cond.instanceMethod yX6_readAll ∈ gW := gW_in (List.mem_append_right _ (List.mem_append_right _ (List.mem_append_right _ (List.mem_append_left _ (List.mem_of_getElem? (i := 169) rfl))))) rfl
set_option maxRecDepth 20000 in
theorem q162 : Cond.selects RX6 yX6_readAll yX6_readAll ∈ gW := gW_in (List.mem_append_left _ (List.mem_of_getElem? (i := 23) rfl)) rfl
set_option maxRecDepth 20000 in
theorem q163 : Cond.code yX6_readAll cX6_readAll 2 (some .boolean) ∈ gW := gW_in (List.mem_append_right _ (List.mem_append_right _ (List.mem_append_right _ (List.mem_append_left _ (List.mem_of_getElem? (i := 170) rfl))))) rfl
set_option maxRecDepth 20000 in
theorem q164 : Cond.methodLink RX6 114 yX6_isSign ∈ gW := gW_in (List.mem_append_right _ (List.mem_append_right _ (List.mem_append_right _ (List.mem_append_left _ (List.mem_of_getElem? (i := 171) rfl))))) rfl
set_option maxRecDepth 20000 in
theorem q165 : Cond.instanceMethod yX6_isSign ∈ gW := gW_in (List.mem_append_right _ (List.mem_append_right _ (List.mem_append_right _ (List.mem_append_left _ (List.mem_of_getElem? (i := 173) rfl))))) rfl
set_option maxRecDepth 20000 in
theorem q166 : Cond.selects RX6 yX6_isSign yX6_isSign ∈ gW := gW_in (List.mem_append_left _ (List.mem_of_getElem? (i := 24) rfl)) rfl
set_option maxRecDepth 20000 in
theorem q167 : Cond.code yX6_isSign cX6_isSign 3 (some .boolean) ∈ gW := gW_in (List.mem_append_right _ (List.mem_append_right _ (List.mem_append_right _ (List.mem_append_left _ (List.mem_of_getElem? (i := 174) rfl))))) rfl
set_option maxRecDepth 20000 in
theorem q168 : Cond.methodLink RX6 118 yX6_readDoll ∈ gW := gW_in (List.mem_append_right _ (List.mem_append_right _ (List.mem_append_right _ (List.mem_append_left _ (List.mem_of_getElem? (i := 175) rfl))))) rfl
set_option maxRecDepth 20000 in
theorem q169 : Cond.instanceMethod yX6_readDoll ∈ gW := gW_in (List.mem_append_right _ (List.mem_append_right _ (List.mem_append_right _ (List.mem_append_left _ (List.mem_of_getElem? (i := 177) rfl))))) rfl
set_option maxRecDepth 20000 in
theorem q170 : Cond.selects RX6 yX6_readDoll yX6_readDoll ∈ gW := gW_in (List.mem_append_left _ (List.mem_of_getElem? (i := 25) rfl)) rfl
set_option maxRecDepth 20000 in
theorem q171 : Cond.code yX6_readDoll cX6_readDoll 4 (some .boolean) ∈ gW := gW_in (List.mem_append_right _ (List.mem_append_right _ (List.mem_append_right _ (List.mem_append_left _ (List.mem_of_getElem? (i := 178) rfl))))) rfl
set_option maxRecDepth 20000 in
theorem q172 : Cond.methodLink RX6 121 yX6_digit ∈ gW := gW_in (List.mem_append_right _ (List.mem_append_right _ (List.mem_append_right _ (List.mem_append_left _ (List.mem_of_getElem? (i := 179) rfl))))) rfl
set_option maxRecDepth 20000 in
theorem q173 : Cond.instanceMethod yX6_digit ∈ gW := gW_in (List.mem_append_right _ (List.mem_append_right _ (List.mem_append_right _ (List.mem_append_left _ (List.mem_of_getElem? (i := 181) rfl))))) rfl
set_option maxRecDepth 20000 in
theorem q174 : Cond.selects RX6 yX6_digit yX6_digit ∈ gW := gW_in (List.mem_append_left _ (List.mem_of_getElem? (i := 26) rfl)) rfl
set_option maxRecDepth 20000 in
theorem q175 : Cond.code yX6_digit cX6_digit 4 (some .int) ∈ gW := gW_in (List.mem_append_right _ (List.mem_append_right _ (List.mem_append_right _ (List.mem_append_left _ (List.mem_of_getElem? (i := 182) rfl))))) rfl
set_option maxRecDepth 20000 in
theorem q176 : Cond.methodLink RL 18 yX5_ofDoll ∈ gW := gW_in (List.mem_append_right _ (List.mem_append_left _ (List.mem_of_getElem? (i := 180) rfl))) rfl
set_option maxRecDepth 20000 in
theorem q177 : Cond.instanceMethod yX5_ofDoll ∈ gW := gW_in (List.mem_append_right _ (List.mem_append_left _ (List.mem_of_getElem? (i := 181) rfl))) rfl
set_option maxRecDepth 20000 in
theorem q178 : Cond.selects RX5 yX5_ofDoll yX5_ofDoll ∈ gW := gW_in (List.mem_append_right _ (List.mem_append_left _ (List.mem_of_getElem? (i := 182) rfl))) rfl
set_option maxRecDepth 20000 in
theorem q179 : Cond.code yX5_ofDoll cX5_ofDoll 3 (some .int) ∈ gW := gW_in (List.mem_append_right _ (List.mem_append_left _ (List.mem_of_getElem? (i := 183) rfl))) rfl
set_option maxRecDepth 20000 in
theorem q180 : Cond.fieldLink RX5 96 "NestedDolls$Doll" "kind" "I" ∈ gW := gW_in (List.mem_append_right _ (List.mem_append_left _ (List.mem_of_getElem? (i := 61) rfl))) rfl
set_option maxRecDepth 20000 in
theorem q181 : Cond.fieldLink RX5 99 "NestedDolls$Doll" "girth" "I" ∈ gW := gW_in (List.mem_append_right _ (List.mem_append_left _ (List.mem_of_getElem? (i := 64) rfl))) rfl
set_option maxRecDepth 20000 in
theorem q182 : Cond.fieldLink RX5 102 "NestedDolls$Doll" "room" "I" ∈ gW := gW_in (List.mem_append_right _ (List.mem_append_left _ (List.mem_of_getElem? (i := 67) rfl))) rfl
set_option maxRecDepth 20000 in
theorem q183 : Cond.methodLink RX5 93 yX5_isDoll ∈ gW := gW_in (List.mem_append_right _ (List.mem_append_left _ (List.mem_of_getElem? (i := 184) rfl))) rfl
set_option maxRecDepth 20000 in
theorem q184 : Cond.instanceMethod yX5_isDoll ∈ gW := gW_in (List.mem_append_right _ (List.mem_append_left _ (List.mem_of_getElem? (i := 186) rfl))) rfl
set_option maxRecDepth 20000 in
theorem q185 : Cond.selects RX5 yX5_isDoll yX5_isDoll ∈ gW := gW_in (List.mem_append_left _ (List.mem_of_getElem? (i := 2) rfl)) rfl
set_option maxRecDepth 20000 in
theorem q186 : Cond.code yX5_isDoll cX5_isDoll 2 (some .boolean) ∈ gW := gW_in (List.mem_append_right _ (List.mem_append_left _ (List.mem_of_getElem? (i := 187) rfl))) rfl
set_option maxRecDepth 20000 in
theorem q187 : Cond.methodLink RX5 105 yX0_wide ∈ gW := gW_in (List.mem_append_right _ (List.mem_append_left _ (List.mem_of_getElem? (i := 188) rfl))) rfl
set_option maxRecDepth 20000 in
theorem q188 : Cond.instanceMethod yX0_wide ∈ gW := gW_in (List.mem_append_right _ (List.mem_append_left _ (List.mem_of_getElem? (i := 189) rfl))) rfl
set_option maxRecDepth 20000 in
theorem q189 : Cond.selects RX0 yX0_wide yX0_wide ∈ gW := gW_in (List.mem_append_right _ (List.mem_append_left _ (List.mem_of_getElem? (i := 190) rfl))) rfl
set_option maxRecDepth 20000 in
theorem q190 : Cond.code yX0_wide cX0_wide 1 (some .int) ∈ gW := gW_in (List.mem_append_right _ (List.mem_append_left _ (List.mem_of_getElem? (i := 191) rfl))) rfl
set_option maxRecDepth 20000 in
theorem q191 : Cond.fieldLink RX0 15 "NestedDolls$Doll" "kind" "I" ∈ gW := gW_in (List.mem_append_right _ (List.mem_append_left _ (List.mem_of_getElem? (i := 60) rfl))) rfl
set_option maxRecDepth 20000 in
theorem q192 : Cond.methodLink RX5 109 yX3_placeOf ∈ gW := gW_in (List.mem_append_right _ (List.mem_append_left _ (List.mem_of_getElem? (i := 192) rfl))) rfl
set_option maxRecDepth 20000 in
theorem q193 : Cond.static yX3_placeOf ∈ gW := gW_in (List.mem_append_right _ (List.mem_append_left _ (List.mem_of_getElem? (i := 193) rfl))) rfl
set_option maxRecDepth 20000 in
theorem q194 : Cond.initialized RX3 ∈ gW := gW_in (List.mem_append_right _ (List.mem_append_left _ (List.mem_of_getElem? (i := 8) rfl))) rfl
set_option maxRecDepth 20000 in
theorem q195 : Cond.code yX3_placeOf cX3_placeOf 2 (some .int) ∈ gW := gW_in (List.mem_append_right _ (List.mem_append_left _ (List.mem_of_getElem? (i := 194) rfl))) rfl
set_option maxRecDepth 20000 in
theorem q196 : Cond.methodLink RX5 113 yX3_isOpen ∈ gW := gW_in (List.mem_append_right _ (List.mem_append_left _ (List.mem_of_getElem? (i := 195) rfl))) rfl
set_option maxRecDepth 20000 in
theorem q197 : Cond.static yX3_isOpen ∈ gW := gW_in (List.mem_append_right _ (List.mem_append_left _ (List.mem_of_getElem? (i := 196) rfl))) rfl
set_option maxRecDepth 20000 in
theorem q198 : Cond.code yX3_isOpen cX3_isOpen 2 (some .boolean) ∈ gW := gW_in (List.mem_append_right _ (List.mem_append_left _ (List.mem_of_getElem? (i := 197) rfl))) rfl
set_option maxRecDepth 20000 in
theorem q199 : Cond.methodLink RX3 11 yX3_openSet ∈ gW := gW_in (List.mem_append_right _ (List.mem_append_left _ (List.mem_of_getElem? (i := 198) rfl))) rfl
set_option maxRecDepth 20000 in
theorem q200 : Cond.static yX3_openSet ∈ gW := gW_in (List.mem_append_right _ (List.mem_append_left _ (List.mem_of_getElem? (i := 199) rfl))) rfl
set_option maxRecDepth 20000 in
theorem q201 : Cond.code yX3_openSet cX3_openSet 1 (some .int) ∈ gW := gW_in (List.mem_append_right _ (List.mem_append_left _ (List.mem_of_getElem? (i := 200) rfl))) rfl
set_option maxRecDepth 20000 in
theorem q202 : Cond.static yX5_has ∈ gW := gW_in (List.mem_append_right _ (List.mem_append_left _ (List.mem_of_getElem? (i := 202) rfl))) rfl
set_option maxRecDepth 20000 in
theorem q203 : Cond.code yX5_has cX5_has 2 (some .boolean) ∈ gW := gW_in (List.mem_append_right _ (List.mem_append_left _ (List.mem_of_getElem? (i := 203) rfl))) rfl
set_option maxRecDepth 20000 in
theorem q204 : Cond.methodLink RX5 117 yX5_oneIf ∈ gW := gW_in (List.mem_append_right _ (List.mem_append_left _ (List.mem_of_getElem? (i := 204) rfl))) rfl
set_option maxRecDepth 20000 in
theorem q205 : Cond.static yX5_oneIf ∈ gW := gW_in (List.mem_append_right _ (List.mem_append_left _ (List.mem_of_getElem? (i := 205) rfl))) rfl
set_option maxRecDepth 20000 in
theorem q206 : Cond.code yX5_oneIf cX5_oneIf 1 (some .int) ∈ gW := gW_in (List.mem_append_right _ (List.mem_append_left _ (List.mem_of_getElem? (i := 206) rfl))) rfl
set_option maxRecDepth 20000 in
theorem q207 : Cond.methodLink RX5 121 yX3_handSet ∈ gW := gW_in (List.mem_append_right _ (List.mem_append_left _ (List.mem_of_getElem? (i := 207) rfl))) rfl
set_option maxRecDepth 20000 in
theorem q208 : Cond.static yX3_handSet ∈ gW := gW_in (List.mem_append_right _ (List.mem_append_left _ (List.mem_of_getElem? (i := 208) rfl))) rfl
set_option maxRecDepth 20000 in
theorem q209 : Cond.code yX3_handSet cX3_handSet 4 (some .int) ∈ gW := gW_in (List.mem_append_right _ (List.mem_append_left _ (List.mem_of_getElem? (i := 209) rfl))) rfl
set_option maxRecDepth 20000 in
theorem q210 : Cond.methodLink RX3 23 yX3_canBeGotAt ∈ gW := gW_in (List.mem_append_right _ (List.mem_append_left _ (List.mem_of_getElem? (i := 210) rfl))) rfl
set_option maxRecDepth 20000 in
theorem q211 : Cond.static yX3_canBeGotAt ∈ gW := gW_in (List.mem_append_right _ (List.mem_append_left _ (List.mem_of_getElem? (i := 211) rfl))) rfl
set_option maxRecDepth 20000 in
theorem q212 : Cond.code yX3_canBeGotAt cX3_canBeGotAt 5 (some .boolean) ∈ gW := gW_in (List.mem_append_right _ (List.mem_append_left _ (List.mem_of_getElem? (i := 212) rfl))) rfl
set_option maxRecDepth 20000 in
theorem q213 : Cond.methodLink RX3 19 yX3_placeOf ∈ gW := gW_in (List.mem_append_right _ (List.mem_append_left _ (List.mem_of_getElem? (i := 213) rfl))) rfl
set_option maxRecDepth 20000 in
theorem q214 : Cond.methodLink RX5 124 yX5_has ∈ gW := gW_in (List.mem_append_right _ (List.mem_append_left _ (List.mem_of_getElem? (i := 214) rfl))) rfl
set_option maxRecDepth 20000 in
theorem q215 : Cond.methodLink RX5 127 yX3_innerOf ∈ gW := gW_in (List.mem_append_right _ (List.mem_append_left _ (List.mem_of_getElem? (i := 215) rfl))) rfl
set_option maxRecDepth 20000 in
theorem q216 : Cond.static yX3_innerOf ∈ gW := gW_in (List.mem_append_right _ (List.mem_append_left _ (List.mem_of_getElem? (i := 216) rfl))) rfl
set_option maxRecDepth 20000 in
theorem q217 : Cond.code yX3_innerOf cX3_innerOf 4 (some .int) ∈ gW := gW_in (List.mem_append_right _ (List.mem_append_left _ (List.mem_of_getElem? (i := 217) rfl))) rfl
set_option maxRecDepth 20000 in
theorem q218 : Cond.methodLink RX5 130 yX3_manyWithin ∈ gW := gW_in (List.mem_append_right _ (List.mem_append_left _ (List.mem_of_getElem? (i := 218) rfl))) rfl
set_option maxRecDepth 20000 in
theorem q219 : Cond.static yX3_manyWithin ∈ gW := gW_in (List.mem_append_right _ (List.mem_append_left _ (List.mem_of_getElem? (i := 219) rfl))) rfl
set_option maxRecDepth 20000 in
theorem q220 : Cond.code yX3_manyWithin cX3_manyWithin 6 (some .int) ∈ gW := gW_in (List.mem_append_right _ (List.mem_append_left _ (List.mem_of_getElem? (i := 220) rfl))) rfl
set_option maxRecDepth 20000 in
theorem q221 : Cond.methodLink RX3 26 yX3_innerOf ∈ gW := gW_in (List.mem_append_right _ (List.mem_append_left _ (List.mem_of_getElem? (i := 221) rfl))) rfl
set_option maxRecDepth 20000 in
theorem q222 : Cond.methodLink RL 22 yX6_ofDoll ∈ gW := gW_in (List.mem_append_right _ (List.mem_append_right _ (List.mem_append_right _ (List.mem_append_left _ (List.mem_of_getElem? (i := 183) rfl))))) rfl
set_option maxRecDepth 20000 in
theorem q223 : Cond.instanceMethod yX6_ofDoll ∈ gW := gW_in (List.mem_append_right _ (List.mem_append_right _ (List.mem_append_right _ (List.mem_append_left _ (List.mem_of_getElem? (i := 184) rfl))))) rfl
set_option maxRecDepth 20000 in
theorem q224 : Cond.selects RX6 yX6_ofDoll yX6_ofDoll ∈ gW := gW_in (List.mem_append_right _ (List.mem_append_right _ (List.mem_append_right _ (List.mem_append_left _ (List.mem_of_getElem? (i := 185) rfl))))) rfl
set_option maxRecDepth 20000 in
theorem q225 : Cond.code yX6_ofDoll cX6_ofDoll 3 (some .int) ∈ gW := gW_in (List.mem_append_right _ (List.mem_append_right _ (List.mem_append_right _ (List.mem_append_left _ (List.mem_of_getElem? (i := 186) rfl))))) rfl
set_option maxRecDepth 20000 in
theorem q226 : Cond.methodLink RX6 78 yX6_isDoll ∈ gW := gW_in (List.mem_append_right _ (List.mem_append_right _ (List.mem_append_right _ (List.mem_append_left _ (List.mem_of_getElem? (i := 187) rfl))))) rfl
set_option maxRecDepth 20000 in
theorem q227 : Cond.instanceMethod yX6_isDoll ∈ gW := gW_in (List.mem_append_right _ (List.mem_append_right _ (List.mem_append_right _ (List.mem_append_left _ (List.mem_of_getElem? (i := 189) rfl))))) rfl
set_option maxRecDepth 20000 in
theorem q228 : Cond.selects RX6 yX6_isDoll yX6_isDoll ∈ gW := gW_in (List.mem_append_left _ (List.mem_of_getElem? (i := 27) rfl)) rfl
set_option maxRecDepth 20000 in
theorem q229 : Cond.code yX6_isDoll cX6_isDoll 2 (some .boolean) ∈ gW := gW_in (List.mem_append_right _ (List.mem_append_right _ (List.mem_append_right _ (List.mem_append_left _ (List.mem_of_getElem? (i := 190) rfl))))) rfl
set_option maxRecDepth 20000 in
theorem q230 : Cond.methodLink RX6 125 yX6_wideOf ∈ gW := gW_in (List.mem_append_right _ (List.mem_append_right _ (List.mem_append_right _ (List.mem_append_left _ (List.mem_of_getElem? (i := 191) rfl))))) rfl
set_option maxRecDepth 20000 in
theorem q231 : Cond.instanceMethod yX6_wideOf ∈ gW := gW_in (List.mem_append_right _ (List.mem_append_right _ (List.mem_append_right _ (List.mem_append_left _ (List.mem_of_getElem? (i := 193) rfl))))) rfl
set_option maxRecDepth 20000 in
theorem q232 : Cond.selects RX6 yX6_wideOf yX6_wideOf ∈ gW := gW_in (List.mem_append_left _ (List.mem_of_getElem? (i := 28) rfl)) rfl
set_option maxRecDepth 20000 in
theorem q233 : Cond.code yX6_wideOf cX6_wideOf 2 (some .int) ∈ gW := gW_in (List.mem_append_right _ (List.mem_append_right _ (List.mem_append_right _ (List.mem_append_left _ (List.mem_of_getElem? (i := 194) rfl))))) rfl
set_option maxRecDepth 20000 in
theorem q234 : Cond.methodLink RX6 134 yX6_isAtHand ∈ gW := gW_in (List.mem_append_right _ (List.mem_append_right _ (List.mem_append_right _ (List.mem_append_left _ (List.mem_of_getElem? (i := 195) rfl))))) rfl
set_option maxRecDepth 20000 in
theorem q235 : Cond.instanceMethod yX6_isAtHand ∈ gW := gW_in (List.mem_append_right _ (List.mem_append_right _ (List.mem_append_right _ (List.mem_append_left _ (List.mem_of_getElem? (i := 197) rfl))))) rfl
set_option maxRecDepth 20000 in
theorem q236 : Cond.selects RX6 yX6_isAtHand yX6_isAtHand ∈ gW := gW_in (List.mem_append_left _ (List.mem_of_getElem? (i := 29) rfl)) rfl
set_option maxRecDepth 20000 in
theorem q237 : Cond.code yX6_isAtHand cX6_isAtHand 4 (some .boolean) ∈ gW := gW_in (List.mem_append_right _ (List.mem_append_right _ (List.mem_append_right _ (List.mem_append_left _ (List.mem_of_getElem? (i := 198) rfl))))) rfl
set_option maxRecDepth 20000 in
theorem q238 : Cond.methodLink RX6 128 yX6_isOf ∈ gW := gW_in (List.mem_append_right _ (List.mem_append_right _ (List.mem_append_right _ (List.mem_append_left _ (List.mem_of_getElem? (i := 199) rfl))))) rfl
set_option maxRecDepth 20000 in
theorem q239 : Cond.static yX6_isOf ∈ gW := gW_in (List.mem_append_right _ (List.mem_append_right _ (List.mem_append_right _ (List.mem_append_left _ (List.mem_of_getElem? (i := 200) rfl))))) rfl
set_option maxRecDepth 20000 in
theorem q240 : Cond.code yX6_isOf cX6_isOf 2 (some .boolean) ∈ gW := gW_in (List.mem_append_right _ (List.mem_append_right _ (List.mem_append_right _ (List.mem_append_left _ (List.mem_of_getElem? (i := 201) rfl))))) rfl
set_option maxRecDepth 20000 in
theorem q241 : Cond.methodLink RX6 131 yX6_inOf ∈ gW := gW_in (List.mem_append_right _ (List.mem_append_right _ (List.mem_append_right _ (List.mem_append_left _ (List.mem_of_getElem? (i := 202) rfl))))) rfl
set_option maxRecDepth 20000 in
theorem q242 : Cond.instanceMethod yX6_inOf ∈ gW := gW_in (List.mem_append_right _ (List.mem_append_right _ (List.mem_append_right _ (List.mem_append_left _ (List.mem_of_getElem? (i := 204) rfl))))) rfl
set_option maxRecDepth 20000 in
theorem q243 : Cond.selects RX6 yX6_inOf yX6_inOf ∈ gW := gW_in (List.mem_append_left _ (List.mem_of_getElem? (i := 30) rfl)) rfl
set_option maxRecDepth 20000 in
theorem q244 : Cond.code yX6_inOf cX6_inOf 3 (some .int) ∈ gW := gW_in (List.mem_append_right _ (List.mem_append_right _ (List.mem_append_right _ (List.mem_append_left _ (List.mem_of_getElem? (i := 205) rfl))))) rfl
set_option maxRecDepth 20000 in
theorem q245 : Cond.methodLink RX6 137 yX6_manyWithin ∈ gW := gW_in (List.mem_append_right _ (List.mem_append_right _ (List.mem_append_right _ (List.mem_append_left _ (List.mem_of_getElem? (i := 206) rfl))))) rfl
set_option maxRecDepth 20000 in
theorem q246 : Cond.instanceMethod yX6_manyWithin ∈ gW := gW_in (List.mem_append_right _ (List.mem_append_right _ (List.mem_append_right _ (List.mem_append_left _ (List.mem_of_getElem? (i := 208) rfl))))) rfl
set_option maxRecDepth 20000 in
theorem q247 : Cond.selects RX6 yX6_manyWithin yX6_manyWithin ∈ gW := gW_in (List.mem_append_left _ (List.mem_of_getElem? (i := 31) rfl)) rfl
set_option maxRecDepth 20000 in
theorem q248 : Cond.code yX6_manyWithin cX6_manyWithin 4 (some .int) ∈ gW := gW_in (List.mem_append_right _ (List.mem_append_right _ (List.mem_append_right _ (List.mem_append_left _ (List.mem_of_getElem? (i := 209) rfl))))) rfl
set_option maxRecDepth 20000 in
theorem q249 : Cond.methodLink RL 23 yX5_girth ∈ gW := gW_in (List.mem_append_right _ (List.mem_append_left _ (List.mem_of_getElem? (i := 222) rfl))) rfl
set_option maxRecDepth 20000 in
theorem q250 : Cond.instanceMethod yX5_girth ∈ gW := gW_in (List.mem_append_right _ (List.mem_append_left _ (List.mem_of_getElem? (i := 223) rfl))) rfl
set_option maxRecDepth 20000 in
theorem q251 : Cond.selects RX5 yX5_girth yX5_girth ∈ gW := gW_in (List.mem_append_right _ (List.mem_append_left _ (List.mem_of_getElem? (i := 224) rfl))) rfl
set_option maxRecDepth 20000 in
theorem q252 : Cond.code yX5_girth cX5_girth 4 (some .int) ∈ gW := gW_in (List.mem_append_right _ (List.mem_append_left _ (List.mem_of_getElem? (i := 225) rfl))) rfl
set_option maxRecDepth 20000 in
theorem q253 : Cond.methodLink RL 26 yX6_girth ∈ gW := gW_in (List.mem_append_right _ (List.mem_append_right _ (List.mem_append_right _ (List.mem_append_left _ (List.mem_of_getElem? (i := 210) rfl))))) rfl
set_option maxRecDepth 20000 in
theorem q254 : Cond.instanceMethod yX6_girth ∈ gW := gW_in (List.mem_append_right _ (List.mem_append_right _ (List.mem_append_right _ (List.mem_append_left _ (List.mem_of_getElem? (i := 211) rfl))))) rfl
set_option maxRecDepth 20000 in
theorem q255 : Cond.selects RX6 yX6_girth yX6_girth ∈ gW := gW_in (List.mem_append_right _ (List.mem_append_right _ (List.mem_append_right _ (List.mem_append_left _ (List.mem_of_getElem? (i := 212) rfl))))) rfl
set_option maxRecDepth 20000 in
theorem q256 : Cond.code yX6_girth cX6_girth 4 (some .int) ∈ gW := gW_in (List.mem_append_right _ (List.mem_append_right _ (List.mem_append_right _ (List.mem_append_left _ (List.mem_of_getElem? (i := 213) rfl))))) rfl
set_option maxRecDepth 20000 in
theorem q257 : Cond.methodLink RL 27 yX5_room ∈ gW := gW_in (List.mem_append_right _ (List.mem_append_left _ (List.mem_of_getElem? (i := 226) rfl))) rfl
set_option maxRecDepth 20000 in
theorem q258 : Cond.instanceMethod yX5_room ∈ gW := gW_in (List.mem_append_right _ (List.mem_append_left _ (List.mem_of_getElem? (i := 227) rfl))) rfl
set_option maxRecDepth 20000 in
theorem q259 : Cond.selects RX5 yX5_room yX5_room ∈ gW := gW_in (List.mem_append_right _ (List.mem_append_left _ (List.mem_of_getElem? (i := 228) rfl))) rfl
set_option maxRecDepth 20000 in
theorem q260 : Cond.code yX5_room cX5_room 4 (some .int) ∈ gW := gW_in (List.mem_append_right _ (List.mem_append_left _ (List.mem_of_getElem? (i := 229) rfl))) rfl
set_option maxRecDepth 20000 in
theorem q261 : Cond.methodLink RL 30 yX6_room ∈ gW := gW_in (List.mem_append_right _ (List.mem_append_right _ (List.mem_append_right _ (List.mem_append_left _ (List.mem_of_getElem? (i := 214) rfl))))) rfl
set_option maxRecDepth 20000 in
theorem q262 : Cond.instanceMethod yX6_room ∈ gW := gW_in (List.mem_append_right _ (List.mem_append_right _ (List.mem_append_right _ (List.mem_append_left _ (List.mem_of_getElem? (i := 215) rfl))))) rfl
set_option maxRecDepth 20000 in
theorem q263 : Cond.selects RX6 yX6_room yX6_room ∈ gW := gW_in (List.mem_append_right _ (List.mem_append_right _ (List.mem_append_right _ (List.mem_append_left _ (List.mem_of_getElem? (i := 216) rfl))))) rfl
set_option maxRecDepth 20000 in
theorem q264 : Cond.code yX6_room cX6_room 4 (some .int) ∈ gW := gW_in (List.mem_append_right _ (List.mem_append_right _ (List.mem_append_right _ (List.mem_append_left _ (List.mem_of_getElem? (i := 217) rfl))))) rfl
set_option maxRecDepth 20000 in
theorem q265 : Cond.methodLink RL 31 yX5_fits ∈ gW := gW_in (List.mem_append_right _ (List.mem_append_left _ (List.mem_of_getElem? (i := 230) rfl))) rfl
set_option maxRecDepth 20000 in
theorem q266 : Cond.instanceMethod yX5_fits ∈ gW := gW_in (List.mem_append_right _ (List.mem_append_left _ (List.mem_of_getElem? (i := 231) rfl))) rfl
set_option maxRecDepth 20000 in
theorem q267 : Cond.selects RX5 yX5_fits yX5_fits ∈ gW := gW_in (List.mem_append_right _ (List.mem_append_left _ (List.mem_of_getElem? (i := 232) rfl))) rfl
set_option maxRecDepth 20000 in
theorem q268 : Cond.code yX5_fits cX5_fits 3 (some .int) ∈ gW := gW_in (List.mem_append_right _ (List.mem_append_left _ (List.mem_of_getElem? (i := 233) rfl))) rfl
set_option maxRecDepth 20000 in
theorem q269 : Cond.methodLink RX5 133 yX5_areTwo ∈ gW := gW_in (List.mem_append_right _ (List.mem_append_left _ (List.mem_of_getElem? (i := 234) rfl))) rfl
set_option maxRecDepth 20000 in
theorem q270 : Cond.instanceMethod yX5_areTwo ∈ gW := gW_in (List.mem_append_right _ (List.mem_append_left _ (List.mem_of_getElem? (i := 236) rfl))) rfl
set_option maxRecDepth 20000 in
theorem q271 : Cond.selects RX5 yX5_areTwo yX5_areTwo ∈ gW := gW_in (List.mem_append_left _ (List.mem_of_getElem? (i := 3) rfl)) rfl
set_option maxRecDepth 20000 in
theorem q272 : Cond.code yX5_areTwo cX5_areTwo 3 (some .boolean) ∈ gW := gW_in (List.mem_append_right _ (List.mem_append_left _ (List.mem_of_getElem? (i := 237) rfl))) rfl
set_option maxRecDepth 20000 in
theorem q273 : Cond.methodLink RX5 136 yX0_goesInto ∈ gW := gW_in (List.mem_append_right _ (List.mem_append_left _ (List.mem_of_getElem? (i := 238) rfl))) rfl
set_option maxRecDepth 20000 in
theorem q274 : Cond.instanceMethod yX0_goesInto ∈ gW := gW_in (List.mem_append_right _ (List.mem_append_left _ (List.mem_of_getElem? (i := 239) rfl))) rfl
set_option maxRecDepth 20000 in
theorem q275 : Cond.selects RX0 yX0_goesInto yX0_goesInto ∈ gW := gW_in (List.mem_append_right _ (List.mem_append_right _ (List.mem_append_left _ (List.mem_of_getElem? (i := 0) rfl)))) rfl
set_option maxRecDepth 20000 in
theorem q276 : Cond.code yX0_goesInto cX0_goesInto 2 (some .boolean) ∈ gW := gW_in (List.mem_append_right _ (List.mem_append_right _ (List.mem_append_left _ (List.mem_of_getElem? (i := 1) rfl)))) rfl
set_option maxRecDepth 20000 in
theorem q277 : Cond.fieldLink RX0 22 "NestedDolls$Doll" "room" "I" ∈ gW := gW_in (List.mem_append_right _ (List.mem_append_left _ (List.mem_of_getElem? (i := 66) rfl))) rfl
set_option maxRecDepth 20000 in
theorem q278 : Cond.methodLink RX0 18 yX0_wide ∈ gW := gW_in (List.mem_append_right _ (List.mem_append_right _ (List.mem_append_left _ (List.mem_of_getElem? (i := 2) rfl)))) rfl
set_option maxRecDepth 20000 in
theorem q279 : Cond.methodLink RL 34 yX6_fits ∈ gW := gW_in (List.mem_append_right _ (List.mem_append_right _ (List.mem_append_right _ (List.mem_append_left _ (List.mem_of_getElem? (i := 218) rfl))))) rfl
set_option maxRecDepth 20000 in
theorem q280 : Cond.instanceMethod yX6_fits ∈ gW := gW_in (List.mem_append_right _ (List.mem_append_right _ (List.mem_append_right _ (List.mem_append_left _ (List.mem_of_getElem? (i := 219) rfl))))) rfl
set_option maxRecDepth 20000 in
theorem q281 : Cond.selects RX6 yX6_fits yX6_fits ∈ gW := gW_in (List.mem_append_right _ (List.mem_append_right _ (List.mem_append_right _ (List.mem_append_left _ (List.mem_of_getElem? (i := 220) rfl))))) rfl
set_option maxRecDepth 20000 in
theorem q282 : Cond.code yX6_fits cX6_fits 3 (some .int) ∈ gW := gW_in (List.mem_append_right _ (List.mem_append_right _ (List.mem_append_right _ (List.mem_append_left _ (List.mem_of_getElem? (i := 221) rfl))))) rfl
set_option maxRecDepth 20000 in
theorem q283 : Cond.methodLink RX6 140 yX6_areTwo ∈ gW := gW_in (List.mem_append_right _ (List.mem_append_right _ (List.mem_append_right _ (List.mem_append_left _ (List.mem_of_getElem? (i := 222) rfl))))) rfl
set_option maxRecDepth 20000 in
theorem q284 : Cond.instanceMethod yX6_areTwo ∈ gW := gW_in (List.mem_append_right _ (List.mem_append_right _ (List.mem_append_right _ (List.mem_append_left _ (List.mem_of_getElem? (i := 224) rfl))))) rfl
set_option maxRecDepth 20000 in
theorem q285 : Cond.selects RX6 yX6_areTwo yX6_areTwo ∈ gW := gW_in (List.mem_append_left _ (List.mem_of_getElem? (i := 32) rfl)) rfl
set_option maxRecDepth 20000 in
theorem q286 : Cond.code yX6_areTwo cX6_areTwo 3 (some .boolean) ∈ gW := gW_in (List.mem_append_right _ (List.mem_append_right _ (List.mem_append_right _ (List.mem_append_left _ (List.mem_of_getElem? (i := 225) rfl))))) rfl
set_option maxRecDepth 20000 in
theorem q287 : Cond.methodLink RX6 143 yX6_fitsInto ∈ gW := gW_in (List.mem_append_right _ (List.mem_append_right _ (List.mem_append_right _ (List.mem_append_left _ (List.mem_of_getElem? (i := 226) rfl))))) rfl
set_option maxRecDepth 20000 in
theorem q288 : Cond.instanceMethod yX6_fitsInto ∈ gW := gW_in (List.mem_append_right _ (List.mem_append_right _ (List.mem_append_right _ (List.mem_append_left _ (List.mem_of_getElem? (i := 228) rfl))))) rfl
set_option maxRecDepth 20000 in
theorem q289 : Cond.selects RX6 yX6_fitsInto yX6_fitsInto ∈ gW := gW_in (List.mem_append_left _ (List.mem_of_getElem? (i := 33) rfl)) rfl
set_option maxRecDepth 20000 in
theorem q290 : Cond.code yX6_fitsInto cX6_fitsInto 3 (some .boolean) ∈ gW := gW_in (List.mem_append_right _ (List.mem_append_right _ (List.mem_append_right _ (List.mem_append_left _ (List.mem_of_getElem? (i := 229) rfl))))) rfl
set_option maxRecDepth 20000 in
theorem q291 : Cond.methodLink RL 35 yX5_act ∈ gW := gW_in (List.mem_append_right _ (List.mem_append_right _ (List.mem_append_left _ (List.mem_of_getElem? (i := 3) rfl)))) rfl
set_option maxRecDepth 20000 in
theorem q292 : Cond.instanceMethod yX5_act ∈ gW := gW_in (List.mem_append_right _ (List.mem_append_right _ (List.mem_append_left _ (List.mem_of_getElem? (i := 4) rfl)))) rfl
set_option maxRecDepth 20000 in
theorem q293 : Cond.selects RX5 yX5_act yX5_act ∈ gW := gW_in (List.mem_append_right _ (List.mem_append_right _ (List.mem_append_left _ (List.mem_of_getElem? (i := 5) rfl)))) rfl
set_option maxRecDepth 20000 in
theorem q294 : Cond.code yX5_act cX5_act 2 (some .int) ∈ gW := gW_in (List.mem_append_right _ (List.mem_append_right _ (List.mem_append_left _ (List.mem_of_getElem? (i := 6) rfl)))) rfl
set_option maxRecDepth 20000 in
theorem q295 : Cond.methodLink RX5 140 yX5_isAct ∈ gW := gW_in (List.mem_append_right _ (List.mem_append_right _ (List.mem_append_left _ (List.mem_of_getElem? (i := 7) rfl)))) rfl
set_option maxRecDepth 20000 in
theorem q296 : Cond.static yX5_isAct ∈ gW := gW_in (List.mem_append_right _ (List.mem_append_right _ (List.mem_append_left _ (List.mem_of_getElem? (i := 8) rfl)))) rfl
set_option maxRecDepth 20000 in
theorem q297 : Cond.code yX5_isAct cX5_isAct 1 (some .boolean) ∈ gW := gW_in (List.mem_append_right _ (List.mem_append_right _ (List.mem_append_left _ (List.mem_of_getElem? (i := 9) rfl)))) rfl
set_option maxRecDepth 20000 in
theorem q298 : Cond.methodLink RX5 143 yX5_doableAt ∈ gW := gW_in (List.mem_append_right _ (List.mem_append_right _ (List.mem_append_left _ (List.mem_of_getElem? (i := 10) rfl)))) rfl
set_option maxRecDepth 20000 in
theorem q299 : Cond.instanceMethod yX5_doableAt ∈ gW := gW_in (List.mem_append_right _ (List.mem_append_right _ (List.mem_append_left _ (List.mem_of_getElem? (i := 12) rfl)))) rfl
set_option maxRecDepth 20000 in
theorem q300 : Cond.selects RX5 yX5_doableAt yX5_doableAt ∈ gW := gW_in (List.mem_append_left _ (List.mem_of_getElem? (i := 4) rfl)) rfl
set_option maxRecDepth 20000 in
theorem q301 : Cond.code yX5_doableAt cX5_doableAt 2 (some .int) ∈ gW := gW_in (List.mem_append_right _ (List.mem_append_right _ (List.mem_append_left _ (List.mem_of_getElem? (i := 13) rfl)))) rfl
set_option maxRecDepth 20000 in
theorem q302 : Cond.methodLink RX5 177 yX5_fitting ∈ gW := gW_in (List.mem_append_right _ (List.mem_append_right _ (List.mem_append_left _ (List.mem_of_getElem? (i := 14) rfl)))) rfl
set_option maxRecDepth 20000 in
theorem q303 : Cond.instanceMethod yX5_fitting ∈ gW := gW_in (List.mem_append_right _ (List.mem_append_right _ (List.mem_append_left _ (List.mem_of_getElem? (i := 16) rfl)))) rfl
set_option maxRecDepth 20000 in
theorem q304 : Cond.selects RX5 yX5_fitting yX5_fitting ∈ gW := gW_in (List.mem_append_left _ (List.mem_of_getElem? (i := 5) rfl)) rfl
set_option maxRecDepth 20000 in
theorem q305 : Cond.code yX5_fitting cX5_fitting 4 (some .int) ∈ gW := gW_in (List.mem_append_right _ (List.mem_append_right _ (List.mem_append_left _ (List.mem_of_getElem? (i := 17) rfl)))) rfl
set_option maxRecDepth 20000 in
theorem q306 : Cond.methodLink RX5 180 yX3_doable ∈ gW := gW_in (List.mem_append_right _ (List.mem_append_right _ (List.mem_append_left _ (List.mem_of_getElem? (i := 18) rfl)))) rfl
set_option maxRecDepth 20000 in
theorem q307 : Cond.static yX3_doable ∈ gW := gW_in (List.mem_append_right _ (List.mem_append_right _ (List.mem_append_left _ (List.mem_of_getElem? (i := 19) rfl)))) rfl
set_option maxRecDepth 20000 in
theorem q308 : Cond.code yX3_doable cX3_doable 9 (some .int) ∈ gW := gW_in (List.mem_append_right _ (List.mem_append_right _ (List.mem_append_left _ (List.mem_of_getElem? (i := 20) rfl)))) rfl
set_option maxRecDepth 20000 in
theorem q309 : Cond.methodLink RX3 38 yX3_handSet ∈ gW := gW_in (List.mem_append_right _ (List.mem_append_right _ (List.mem_append_left _ (List.mem_of_getElem? (i := 21) rfl)))) rfl
set_option maxRecDepth 20000 in
theorem q310 : Cond.methodLink RX3 41 yX3_tableSet ∈ gW := gW_in (List.mem_append_right _ (List.mem_append_right _ (List.mem_append_left _ (List.mem_of_getElem? (i := 22) rfl)))) rfl
set_option maxRecDepth 20000 in
theorem q311 : Cond.static yX3_tableSet ∈ gW := gW_in (List.mem_append_right _ (List.mem_append_right _ (List.mem_append_left _ (List.mem_of_getElem? (i := 23) rfl)))) rfl
set_option maxRecDepth 20000 in
theorem q312 : Cond.code yX3_tableSet cX3_tableSet 4 (some .int) ∈ gW := gW_in (List.mem_append_right _ (List.mem_append_right _ (List.mem_append_left _ (List.mem_of_getElem? (i := 24) rfl)))) rfl
set_option maxRecDepth 20000 in
theorem q313 : Cond.methodLink RX3 44 yX3_outersOf ∈ gW := gW_in (List.mem_append_right _ (List.mem_append_right _ (List.mem_append_left _ (List.mem_of_getElem? (i := 25) rfl)))) rfl
set_option maxRecDepth 20000 in
theorem q314 : Cond.static yX3_outersOf ∈ gW := gW_in (List.mem_append_right _ (List.mem_append_right _ (List.mem_append_left _ (List.mem_of_getElem? (i := 26) rfl)))) rfl
set_option maxRecDepth 20000 in
theorem q315 : Cond.code yX3_outersOf cX3_outersOf 5 (some .int) ∈ gW := gW_in (List.mem_append_right _ (List.mem_append_right _ (List.mem_append_left _ (List.mem_of_getElem? (i := 27) rfl)))) rfl
set_option maxRecDepth 20000 in
theorem q316 : Cond.methodLink RX5 146 yX3_after ∈ gW := gW_in (List.mem_append_right _ (List.mem_append_right _ (List.mem_append_left _ (List.mem_of_getElem? (i := 28) rfl)))) rfl
set_option maxRecDepth 20000 in
theorem q317 : Cond.static yX3_after ∈ gW := gW_in (List.mem_append_right _ (List.mem_append_right _ (List.mem_append_left _ (List.mem_of_getElem? (i := 29) rfl)))) rfl
set_option maxRecDepth 20000 in
theorem q318 : Cond.code yX3_after cX3_after 2 (some .int) ∈ gW := gW_in (List.mem_append_right _ (List.mem_append_right _ (List.mem_append_left _ (List.mem_of_getElem? (i := 30) rfl)))) rfl
set_option maxRecDepth 20000 in
theorem q319 : Cond.methodLink RX3 47 yX3_moved ∈ gW := gW_in (List.mem_append_right _ (List.mem_append_right _ (List.mem_append_left _ (List.mem_of_getElem? (i := 31) rfl)))) rfl
set_option maxRecDepth 20000 in
theorem q320 : Cond.static yX3_moved ∈ gW := gW_in (List.mem_append_right _ (List.mem_append_right _ (List.mem_append_left _ (List.mem_of_getElem? (i := 32) rfl)))) rfl
set_option maxRecDepth 20000 in
theorem q321 : Cond.code yX3_moved cX3_moved 4 (some .int) ∈ gW := gW_in (List.mem_append_right _ (List.mem_append_right _ (List.mem_append_left _ (List.mem_of_getElem? (i := 33) rfl)))) rfl
set_option maxRecDepth 20000 in
theorem q322 : Cond.methodLink RX5 149 yX5_manyOnTable ∈ gW := gW_in (List.mem_append_right _ (List.mem_append_right _ (List.mem_append_left _ (List.mem_of_getElem? (i := 34) rfl)))) rfl
set_option maxRecDepth 20000 in
theorem q323 : Cond.instanceMethod yX5_manyOnTable ∈ gW := gW_in (List.mem_append_right _ (List.mem_append_right _ (List.mem_append_left _ (List.mem_of_getElem? (i := 36) rfl)))) rfl
set_option maxRecDepth 20000 in
theorem q324 : Cond.selects RX5 yX5_manyOnTable yX5_manyOnTable ∈ gW := gW_in (List.mem_append_left _ (List.mem_of_getElem? (i := 6) rfl)) rfl
set_option maxRecDepth 20000 in
theorem q325 : Cond.code yX5_manyOnTable cX5_manyOnTable 2 (some .int) ∈ gW := gW_in (List.mem_append_right _ (List.mem_append_right _ (List.mem_append_left _ (List.mem_of_getElem? (i := 37) rfl)))) rfl
set_option maxRecDepth 20000 in
theorem q326 : Cond.methodLink RX5 183 yX3_tableSet ∈ gW := gW_in (List.mem_append_right _ (List.mem_append_right _ (List.mem_append_left _ (List.mem_of_getElem? (i := 38) rfl)))) rfl
set_option maxRecDepth 20000 in
theorem q327 : Cond.methodLink RX5 186 yJ6_bitCount_0f7a4 ∈ gW := gW_in (List.mem_append_right _ (List.mem_append_right _ (List.mem_append_left _ (List.mem_of_getElem? (i := 39) rfl)))) rfl
set_option maxRecDepth 20000 in
theorem q328 : Cond.static yJ6_bitCount_0f7a4 ∈ gW := gW_in (List.mem_append_right _ (List.mem_append_right _ (List.mem_append_left _ (List.mem_of_getElem? (i := 40) rfl)))) rfl
set_option maxRecDepth 20000 in
theorem q329 : Cond.initialized RJ6 ∈ gW := gW_in (List.mem_append_right _ (List.mem_append_left _ (List.mem_of_getElem? (i := 9) rfl))) rfl
set_option maxRecDepth 20000 in
theorem q330 : Cond.code yJ6_bitCount_0f7a4 cJ6_bitCount_0f7a4 1 (some .int) ∈ gW := gW_in (List.mem_append_right _ (List.mem_append_right _ (List.mem_append_left _ (List.mem_of_getElem? (i := 41) rfl)))) rfl
set_option maxRecDepth 20000 in
theorem q331 : Cond.constant RJ6 265 (1431655765) ∈ gW := gW_in (List.mem_append_right _ (List.mem_append_right _ (List.mem_append_left _ (List.mem_of_getElem? (i := 42) rfl)))) rfl
set_option maxRecDepth 20000 in
theorem q332 : Cond.constant RJ6 266 (858993459) ∈ gW := gW_in (List.mem_append_right _ (List.mem_append_right _ (List.mem_append_left _ (List.mem_of_getElem? (i := 43) rfl)))) rfl
set_option maxRecDepth 20000 in
theorem q333 : Cond.constant RJ6 267 (252645135) ∈ gW := gW_in (List.mem_append_right _ (List.mem_append_right _ (List.mem_append_left _ (List.mem_of_getElem? (i := 44) rfl)))) rfl
set_option maxRecDepth 20000 in
theorem q334 : Cond.methodLink RL 39 yX6_act ∈ gW := gW_in (List.mem_append_right _ (List.mem_append_right _ (List.mem_append_right _ (List.mem_append_left _ (List.mem_of_getElem? (i := 230) rfl))))) rfl
set_option maxRecDepth 20000 in
theorem q335 : Cond.instanceMethod yX6_act ∈ gW := gW_in (List.mem_append_right _ (List.mem_append_right _ (List.mem_append_right _ (List.mem_append_left _ (List.mem_of_getElem? (i := 231) rfl))))) rfl
set_option maxRecDepth 20000 in
theorem q336 : Cond.selects RX6 yX6_act yX6_act ∈ gW := gW_in (List.mem_append_right _ (List.mem_append_right _ (List.mem_append_right _ (List.mem_append_left _ (List.mem_of_getElem? (i := 232) rfl))))) rfl
set_option maxRecDepth 20000 in
theorem q337 : Cond.code yX6_act cX6_act 2 (some .int) ∈ gW := gW_in (List.mem_append_right _ (List.mem_append_right _ (List.mem_append_right _ (List.mem_append_left _ (List.mem_of_getElem? (i := 233) rfl))))) rfl
set_option maxRecDepth 20000 in
theorem q338 : Cond.methodLink RX6 146 yX6_canDo ∈ gW := gW_in (List.mem_append_right _ (List.mem_append_right _ (List.mem_append_right _ (List.mem_append_left _ (List.mem_of_getElem? (i := 234) rfl))))) rfl
set_option maxRecDepth 20000 in
theorem q339 : Cond.instanceMethod yX6_canDo ∈ gW := gW_in (List.mem_append_right _ (List.mem_append_right _ (List.mem_append_right _ (List.mem_append_left _ (List.mem_of_getElem? (i := 236) rfl))))) rfl
set_option maxRecDepth 20000 in
theorem q340 : Cond.selects RX6 yX6_canDo yX6_canDo ∈ gW := gW_in (List.mem_append_left _ (List.mem_of_getElem? (i := 34) rfl)) rfl
set_option maxRecDepth 20000 in
theorem q341 : Cond.code yX6_canDo cX6_canDo 4 (some .boolean) ∈ gW := gW_in (List.mem_append_right _ (List.mem_append_right _ (List.mem_append_right _ (List.mem_append_left _ (List.mem_of_getElem? (i := 237) rfl))))) rfl
set_option maxRecDepth 20000 in
theorem q342 : Cond.methodLink RX6 149 yX6_does ∈ gW := gW_in (List.mem_append_right _ (List.mem_append_right _ (List.mem_append_right _ (List.mem_append_left _ (List.mem_of_getElem? (i := 238) rfl))))) rfl
set_option maxRecDepth 20000 in
theorem q343 : Cond.instanceMethod yX6_does ∈ gW := gW_in (List.mem_append_right _ (List.mem_append_right _ (List.mem_append_right _ (List.mem_append_right _ (List.mem_of_getElem? (i := 0) rfl))))) rfl
set_option maxRecDepth 20000 in
theorem q344 : Cond.selects RX6 yX6_does yX6_does ∈ gW := gW_in (List.mem_append_left _ (List.mem_of_getElem? (i := 35) rfl)) rfl
set_option maxRecDepth 20000 in
theorem q345 : Cond.code yX6_does cX6_does 3 none ∈ gW := gW_in (List.mem_append_right _ (List.mem_append_right _ (List.mem_append_right _ (List.mem_append_right _ (List.mem_of_getElem? (i := 1) rfl))))) rfl
set_option maxRecDepth 20000 in
theorem q346 : Cond.methodLink RX6 153 yX6_onTable ∈ gW := gW_in (List.mem_append_right _ (List.mem_append_right _ (List.mem_append_right _ (List.mem_append_right _ (List.mem_of_getElem? (i := 2) rfl))))) rfl
set_option maxRecDepth 20000 in
theorem q347 : Cond.instanceMethod yX6_onTable ∈ gW := gW_in (List.mem_append_right _ (List.mem_append_right _ (List.mem_append_right _ (List.mem_append_right _ (List.mem_of_getElem? (i := 4) rfl))))) rfl
set_option maxRecDepth 20000 in
theorem q348 : Cond.selects RX6 yX6_onTable yX6_onTable ∈ gW := gW_in (List.mem_append_left _ (List.mem_of_getElem? (i := 36) rfl)) rfl
set_option maxRecDepth 20000 in
theorem q349 : Cond.code yX6_onTable cX6_onTable 3 (some .int) ∈ gW := gW_in (List.mem_append_right _ (List.mem_append_right _ (List.mem_append_right _ (List.mem_append_right _ (List.mem_of_getElem? (i := 5) rfl))))) rfl
set_option maxRecDepth 20000 in
theorem q350 : Cond.methodLink RL 40 yX5_anew ∈ gW := gW_in (List.mem_append_right _ (List.mem_append_right _ (List.mem_append_left _ (List.mem_of_getElem? (i := 45) rfl)))) rfl
set_option maxRecDepth 20000 in
theorem q351 : Cond.instanceMethod yX5_anew ∈ gW := gW_in (List.mem_append_right _ (List.mem_append_right _ (List.mem_append_left _ (List.mem_of_getElem? (i := 46) rfl)))) rfl
set_option maxRecDepth 20000 in
theorem q352 : Cond.selects RX5 yX5_anew yX5_anew ∈ gW := gW_in (List.mem_append_right _ (List.mem_append_right _ (List.mem_append_left _ (List.mem_of_getElem? (i := 47) rfl)))) rfl
set_option maxRecDepth 20000 in
theorem q353 : Cond.code yX5_anew cX5_anew 2 (some .int) ∈ gW := gW_in (List.mem_append_right _ (List.mem_append_right _ (List.mem_append_left _ (List.mem_of_getElem? (i := 48) rfl)))) rfl
set_option maxRecDepth 20000 in
theorem q354 : Cond.methodLink RL 44 yX6_anew ∈ gW := gW_in (List.mem_append_right _ (List.mem_append_right _ (List.mem_append_right _ (List.mem_append_right _ (List.mem_of_getElem? (i := 6) rfl))))) rfl
set_option maxRecDepth 20000 in
theorem q355 : Cond.instanceMethod yX6_anew ∈ gW := gW_in (List.mem_append_right _ (List.mem_append_right _ (List.mem_append_right _ (List.mem_append_right _ (List.mem_of_getElem? (i := 7) rfl))))) rfl
set_option maxRecDepth 20000 in
theorem q356 : Cond.selects RX6 yX6_anew yX6_anew ∈ gW := gW_in (List.mem_append_right _ (List.mem_append_right _ (List.mem_append_right _ (List.mem_append_right _ (List.mem_of_getElem? (i := 8) rfl))))) rfl
set_option maxRecDepth 20000 in
theorem q357 : Cond.code yX6_anew cX6_anew 3 (some .int) ∈ gW := gW_in (List.mem_append_right _ (List.mem_append_right _ (List.mem_append_right _ (List.mem_append_right _ (List.mem_of_getElem? (i := 9) rfl))))) rfl
set_option maxRecDepth 20000 in
theorem q358 : Cond.methodLink RL 45 yX5_can ∈ gW := gW_in (List.mem_append_right _ (List.mem_append_right _ (List.mem_append_left _ (List.mem_of_getElem? (i := 49) rfl)))) rfl
set_option maxRecDepth 20000 in
theorem q359 : Cond.instanceMethod yX5_can ∈ gW := gW_in (List.mem_append_right _ (List.mem_append_right _ (List.mem_append_left _ (List.mem_of_getElem? (i := 50) rfl)))) rfl
set_option maxRecDepth 20000 in
theorem q360 : Cond.selects RX5 yX5_can yX5_can ∈ gW := gW_in (List.mem_append_right _ (List.mem_append_right _ (List.mem_append_left _ (List.mem_of_getElem? (i := 51) rfl)))) rfl
set_option maxRecDepth 20000 in
theorem q361 : Cond.code yX5_can cX5_can 1 (some .int) ∈ gW := gW_in (List.mem_append_right _ (List.mem_append_right _ (List.mem_append_left _ (List.mem_of_getElem? (i := 52) rfl)))) rfl
set_option maxRecDepth 20000 in
theorem q362 : Cond.methodLink RL 48 yX6_can ∈ gW := gW_in (List.mem_append_right _ (List.mem_append_right _ (List.mem_append_right _ (List.mem_append_right _ (List.mem_of_getElem? (i := 10) rfl))))) rfl
set_option maxRecDepth 20000 in
theorem q363 : Cond.instanceMethod yX6_can ∈ gW := gW_in (List.mem_append_right _ (List.mem_append_right _ (List.mem_append_right _ (List.mem_append_right _ (List.mem_of_getElem? (i := 11) rfl))))) rfl
set_option maxRecDepth 20000 in
theorem q364 : Cond.selects RX6 yX6_can yX6_can ∈ gW := gW_in (List.mem_append_right _ (List.mem_append_right _ (List.mem_append_right _ (List.mem_append_right _ (List.mem_of_getElem? (i := 12) rfl))))) rfl
set_option maxRecDepth 20000 in
theorem q365 : Cond.code yX6_can cX6_can 3 (some .int) ∈ gW := gW_in (List.mem_append_right _ (List.mem_append_right _ (List.mem_append_right _ (List.mem_append_right _ (List.mem_of_getElem? (i := 13) rfl))))) rfl
set_option maxRecDepth 20000 in
theorem q366 : Cond.methodLink RL 49 yX5_day ∈ gW := gW_in (List.mem_append_right _ (List.mem_append_right _ (List.mem_append_left _ (List.mem_of_getElem? (i := 53) rfl)))) rfl
set_option maxRecDepth 20000 in
theorem q367 : Cond.instanceMethod yX5_day ∈ gW := gW_in (List.mem_append_right _ (List.mem_append_right _ (List.mem_append_left _ (List.mem_of_getElem? (i := 54) rfl)))) rfl
set_option maxRecDepth 20000 in
theorem q368 : Cond.selects RX5 yX5_day yX5_day ∈ gW := gW_in (List.mem_append_right _ (List.mem_append_right _ (List.mem_append_left _ (List.mem_of_getElem? (i := 55) rfl)))) rfl
set_option maxRecDepth 20000 in
theorem q369 : Cond.code yX5_day cX5_day 8 (some .int) ∈ gW := gW_in (List.mem_append_right _ (List.mem_append_right _ (List.mem_append_left _ (List.mem_of_getElem? (i := 56) rfl)))) rfl
set_option maxRecDepth 20000 in
theorem q370 : Cond.methodLink RX5 152 yX5_isAskedOfDay ∈ gW := gW_in (List.mem_append_right _ (List.mem_append_right _ (List.mem_append_left _ (List.mem_of_getElem? (i := 57) rfl)))) rfl
set_option maxRecDepth 20000 in
theorem q371 : Cond.static yX5_isAskedOfDay ∈ gW := gW_in (List.mem_append_right _ (List.mem_append_right _ (List.mem_append_left _ (List.mem_of_getElem? (i := 58) rfl)))) rfl
set_option maxRecDepth 20000 in
theorem q372 : Cond.code yX5_isAskedOfDay cX5_isAskedOfDay 1 (some .boolean) ∈ gW := gW_in (List.mem_append_right _ (List.mem_append_right _ (List.mem_append_left _ (List.mem_of_getElem? (i := 59) rfl)))) rfl
set_option maxRecDepth 20000 in
theorem q373 : Cond.methodLink RX5 155 yX2_isWithin ∈ gW := gW_in (List.mem_append_right _ (List.mem_append_right _ (List.mem_append_left _ (List.mem_of_getElem? (i := 60) rfl)))) rfl
set_option maxRecDepth 20000 in
theorem q374 : Cond.instanceMethod yX2_isWithin ∈ gW := gW_in (List.mem_append_right _ (List.mem_append_right _ (List.mem_append_left _ (List.mem_of_getElem? (i := 61) rfl)))) rfl
set_option maxRecDepth 20000 in
theorem q375 : Cond.selects RX2 yX2_isWithin yX2_isWithin ∈ gW := gW_in (List.mem_append_right _ (List.mem_append_right _ (List.mem_append_left _ (List.mem_of_getElem? (i := 62) rfl)))) rfl
set_option maxRecDepth 20000 in
theorem q376 : Cond.code yX2_isWithin cX2_isWithin 7 (some .boolean) ∈ gW := gW_in (List.mem_append_right _ (List.mem_append_right _ (List.mem_append_left _ (List.mem_of_getElem? (i := 63) rfl)))) rfl
set_option maxRecDepth 20000 in
theorem q377 : Cond.methodLink RX2 49 yX2_at ∈ gW := gW_in (List.mem_append_right _ (List.mem_append_right _ (List.mem_append_left _ (List.mem_of_getElem? (i := 64) rfl)))) rfl
set_option maxRecDepth 20000 in
theorem q378 : Cond.methodLink RX5 159 yX5_firstWrong ∈ gW := gW_in (List.mem_append_right _ (List.mem_append_right _ (List.mem_append_left _ (List.mem_of_getElem? (i := 65) rfl)))) rfl
set_option maxRecDepth 20000 in
theorem q379 : Cond.instanceMethod yX5_firstWrong ∈ gW := gW_in (List.mem_append_right _ (List.mem_append_right _ (List.mem_append_left _ (List.mem_of_getElem? (i := 67) rfl)))) rfl
set_option maxRecDepth 20000 in
theorem q380 : Cond.selects RX5 yX5_firstWrong yX5_firstWrong ∈ gW := gW_in (List.mem_append_left _ (List.mem_of_getElem? (i := 7) rfl)) rfl
set_option maxRecDepth 20000 in
theorem q381 : Cond.code yX5_firstWrong cX5_firstWrong 7 (some .int) ∈ gW := gW_in (List.mem_append_right _ (List.mem_append_right _ (List.mem_append_left _ (List.mem_of_getElem? (i := 68) rfl)))) rfl
set_option maxRecDepth 20000 in
theorem q382 : Cond.methodLink RX5 168 yX2_at ∈ gW := gW_in (List.mem_append_right _ (List.mem_append_right _ (List.mem_append_left _ (List.mem_of_getElem? (i := 69) rfl)))) rfl
set_option maxRecDepth 20000 in
theorem q383 : Cond.methodLink RX5 162 yX5_standAfter ∈ gW := gW_in (List.mem_append_right _ (List.mem_append_right _ (List.mem_append_left _ (List.mem_of_getElem? (i := 70) rfl)))) rfl
set_option maxRecDepth 20000 in
theorem q384 : Cond.instanceMethod yX5_standAfter ∈ gW := gW_in (List.mem_append_right _ (List.mem_append_right _ (List.mem_append_left _ (List.mem_of_getElem? (i := 72) rfl)))) rfl
set_option maxRecDepth 20000 in
theorem q385 : Cond.selects RX5 yX5_standAfter yX5_standAfter ∈ gW := gW_in (List.mem_append_left _ (List.mem_of_getElem? (i := 8) rfl)) rfl
set_option maxRecDepth 20000 in
theorem q386 : Cond.code yX5_standAfter cX5_standAfter 6 (some .int) ∈ gW := gW_in (List.mem_append_right _ (List.mem_append_right _ (List.mem_append_left _ (List.mem_of_getElem? (i := 73) rfl)))) rfl
set_option maxRecDepth 20000 in
theorem q387 : Cond.methodLink RX5 165 yX5_ofStand ∈ gW := gW_in (List.mem_append_right _ (List.mem_append_right _ (List.mem_append_left _ (List.mem_of_getElem? (i := 74) rfl)))) rfl
set_option maxRecDepth 20000 in
theorem q388 : Cond.instanceMethod yX5_ofStand ∈ gW := gW_in (List.mem_append_right _ (List.mem_append_right _ (List.mem_append_left _ (List.mem_of_getElem? (i := 76) rfl)))) rfl
set_option maxRecDepth 20000 in
theorem q389 : Cond.selects RX5 yX5_ofStand yX5_ofStand ∈ gW := gW_in (List.mem_append_left _ (List.mem_of_getElem? (i := 9) rfl)) rfl
set_option maxRecDepth 20000 in
theorem q390 : Cond.code yX5_ofStand cX5_ofStand 3 (some .int) ∈ gW := gW_in (List.mem_append_right _ (List.mem_append_right _ (List.mem_append_left _ (List.mem_of_getElem? (i := 77) rfl)))) rfl
set_option maxRecDepth 20000 in
theorem q391 : Cond.methodLink RX5 171 yX3_openSet ∈ gW := gW_in (List.mem_append_right _ (List.mem_append_right _ (List.mem_append_left _ (List.mem_of_getElem? (i := 78) rfl)))) rfl
set_option maxRecDepth 20000 in
theorem q392 : Cond.methodLink RX5 174 yX3_mostWithin ∈ gW := gW_in (List.mem_append_right _ (List.mem_append_right _ (List.mem_append_left _ (List.mem_of_getElem? (i := 79) rfl)))) rfl
set_option maxRecDepth 20000 in
theorem q393 : Cond.static yX3_mostWithin ∈ gW := gW_in (List.mem_append_right _ (List.mem_append_right _ (List.mem_append_left _ (List.mem_of_getElem? (i := 80) rfl)))) rfl
set_option maxRecDepth 20000 in
theorem q394 : Cond.code yX3_mostWithin cX3_mostWithin 4 (some .int) ∈ gW := gW_in (List.mem_append_right _ (List.mem_append_right _ (List.mem_append_left _ (List.mem_of_getElem? (i := 81) rfl)))) rfl
set_option maxRecDepth 20000 in
theorem q395 : Cond.methodLink RX3 33 Lib.Math.max.name ∈ gW := gW_in (List.mem_append_right _ (List.mem_append_right _ (List.mem_append_left _ (List.mem_of_getElem? (i := 83) rfl)))) rfl
set_option maxRecDepth 20000 in
theorem q396 : Cond.static Lib.Math.max.name ∈ gW := gW_in (List.mem_append_right _ (List.mem_append_right _ (List.mem_append_left _ (List.mem_of_getElem? (i := 84) rfl)))) rfl
set_option maxRecDepth 20000 in
theorem q397 : Cond.code Lib.Math.max.name Lib.Math.max.code 2 (some .int) ∈ gW := gW_in (List.mem_append_right _ (List.mem_append_right _ (List.mem_append_left _ (List.mem_of_getElem? (i := 85) rfl)))) rfl
set_option maxRecDepth 20000 in
theorem q398 : Cond.methodLink RX3 30 yX3_manyWithin ∈ gW := gW_in (List.mem_append_right _ (List.mem_append_right _ (List.mem_append_left _ (List.mem_of_getElem? (i := 82) rfl)))) rfl
set_option maxRecDepth 20000 in
theorem q399 : Cond.methodLink RL 53 yX6_day ∈ gW := gW_in (List.mem_append_right _ (List.mem_append_right _ (List.mem_append_right _ (List.mem_append_right _ (List.mem_of_getElem? (i := 14) rfl))))) rfl
set_option maxRecDepth 20000 in
theorem q400 : Cond.instanceMethod yX6_day ∈ gW := gW_in (List.mem_append_right _ (List.mem_append_right _ (List.mem_append_right _ (List.mem_append_right _ (List.mem_of_getElem? (i := 15) rfl))))) rfl
set_option maxRecDepth 20000 in
theorem q401 : Cond.selects RX6 yX6_day yX6_day ∈ gW := gW_in (List.mem_append_right _ (List.mem_append_right _ (List.mem_append_right _ (List.mem_append_right _ (List.mem_of_getElem? (i := 16) rfl))))) rfl
set_option maxRecDepth 20000 in
theorem q402 : Cond.code yX6_day cX6_day 11 (some .int) ∈ gW := gW_in (List.mem_append_right _ (List.mem_append_right _ (List.mem_append_right _ (List.mem_append_right _ (List.mem_of_getElem? (i := 17) rfl))))) rfl
set_option maxRecDepth 20000 in
theorem q403 : Cond.methodLink RX6 157 yX6_nestNow ∈ gW := gW_in (List.mem_append_right _ (List.mem_append_right _ (List.mem_append_right _ (List.mem_append_right _ (List.mem_of_getElem? (i := 18) rfl))))) rfl
set_option maxRecDepth 20000 in
theorem q404 : Cond.instanceMethod yX6_nestNow ∈ gW := gW_in (List.mem_append_right _ (List.mem_append_right _ (List.mem_append_right _ (List.mem_append_right _ (List.mem_of_getElem? (i := 20) rfl))))) rfl
set_option maxRecDepth 20000 in
theorem q405 : Cond.selects RX6 yX6_nestNow yX6_nestNow ∈ gW := gW_in (List.mem_append_left _ (List.mem_of_getElem? (i := 37) rfl)) rfl
set_option maxRecDepth 20000 in
theorem q406 : Cond.code yX6_nestNow cX6_nestNow 3 (some .int) ∈ gW := gW_in (List.mem_append_right _ (List.mem_append_right _ (List.mem_append_right _ (List.mem_append_right _ (List.mem_of_getElem? (i := 21) rfl))))) rfl
set_option maxRecDepth 20000 in
theorem q407 : Cond.methodLink RX6 160 yX6_goDay ∈ gW := gW_in (List.mem_append_right _ (List.mem_append_right _ (List.mem_append_right _ (List.mem_append_right _ (List.mem_of_getElem? (i := 22) rfl))))) rfl
set_option maxRecDepth 20000 in
theorem q408 : Cond.instanceMethod yX6_goDay ∈ gW := gW_in (List.mem_append_right _ (List.mem_append_right _ (List.mem_append_right _ (List.mem_append_right _ (List.mem_of_getElem? (i := 24) rfl))))) rfl
set_option maxRecDepth 20000 in
theorem q409 : Cond.selects RX6 yX6_goDay yX6_goDay ∈ gW := gW_in (List.mem_append_left _ (List.mem_of_getElem? (i := 38) rfl)) rfl
set_option maxRecDepth 20000 in
theorem q410 : Cond.code yX6_goDay cX6_goDay 4 (some .int) ∈ gW := gW_in (List.mem_append_right _ (List.mem_append_right _ (List.mem_append_right _ (List.mem_append_right _ (List.mem_of_getElem? (i := 25) rfl))))) rfl
set_option maxRecDepth 20000 in
theorem q411 : Cond.methodLink RX6 164 yX6_tellDay ∈ gW := gW_in (List.mem_append_right _ (List.mem_append_right _ (List.mem_append_right _ (List.mem_append_right _ (List.mem_of_getElem? (i := 26) rfl))))) rfl
set_option maxRecDepth 20000 in
theorem q412 : Cond.instanceMethod yX6_tellDay ∈ gW := gW_in (List.mem_append_right _ (List.mem_append_right _ (List.mem_append_right _ (List.mem_append_right _ (List.mem_of_getElem? (i := 28) rfl))))) rfl
set_option maxRecDepth 20000 in
theorem q413 : Cond.selects RX6 yX6_tellDay yX6_tellDay ∈ gW := gW_in (List.mem_append_left _ (List.mem_of_getElem? (i := 39) rfl)) rfl
set_option maxRecDepth 20000 in
theorem q414 : Cond.code yX6_tellDay cX6_tellDay 4 (some .int) ∈ gW := gW_in (List.mem_append_right _ (List.mem_append_right _ (List.mem_append_right _ (List.mem_append_right _ (List.mem_of_getElem? (i := 29) rfl))))) rfl
set_option maxRecDepth 20000 in
theorem q415 : Cond.methodLink RX6 170 yX6_handSet ∈ gW := gW_in (List.mem_append_right _ (List.mem_append_right _ (List.mem_append_right _ (List.mem_append_right _ (List.mem_of_getElem? (i := 30) rfl))))) rfl
set_option maxRecDepth 20000 in
theorem q416 : Cond.instanceMethod yX6_handSet ∈ gW := gW_in (List.mem_append_right _ (List.mem_append_right _ (List.mem_append_right _ (List.mem_append_right _ (List.mem_of_getElem? (i := 32) rfl))))) rfl
set_option maxRecDepth 20000 in
theorem q417 : Cond.selects RX6 yX6_handSet yX6_handSet ∈ gW := gW_in (List.mem_append_left _ (List.mem_of_getElem? (i := 40) rfl)) rfl
set_option maxRecDepth 20000 in
theorem q418 : Cond.code yX6_handSet cX6_handSet 3 (some .int) ∈ gW := gW_in (List.mem_append_right _ (List.mem_append_right _ (List.mem_append_right _ (List.mem_append_right _ (List.mem_of_getElem? (i := 33) rfl))))) rfl
set_option maxRecDepth 20000 in
theorem q419 : Cond.methodLink RX6 167 yX6_becomeNest ∈ gW := gW_in (List.mem_append_right _ (List.mem_append_right _ (List.mem_append_right _ (List.mem_append_right _ (List.mem_of_getElem? (i := 34) rfl))))) rfl
set_option maxRecDepth 20000 in
theorem q420 : Cond.instanceMethod yX6_becomeNest ∈ gW := gW_in (List.mem_append_right _ (List.mem_append_right _ (List.mem_append_right _ (List.mem_append_right _ (List.mem_of_getElem? (i := 36) rfl))))) rfl
set_option maxRecDepth 20000 in
theorem q421 : Cond.selects RX6 yX6_becomeNest yX6_becomeNest ∈ gW := gW_in (List.mem_append_left _ (List.mem_of_getElem? (i := 41) rfl)) rfl
set_option maxRecDepth 20000 in
theorem q422 : Cond.code yX6_becomeNest cX6_becomeNest 4 none ∈ gW := gW_in (List.mem_append_right _ (List.mem_append_right _ (List.mem_append_right _ (List.mem_append_right _ (List.mem_of_getElem? (i := 37) rfl))))) rfl
set_option maxRecDepth 20000 in
theorem q423 : Cond.methodLink RL 54 yX5_fewest ∈ gW := gW_in (List.mem_append_right _ (List.mem_append_right _ (List.mem_append_left _ (List.mem_of_getElem? (i := 86) rfl)))) rfl
set_option maxRecDepth 20000 in
theorem q424 : Cond.instanceMethod yX5_fewest ∈ gW := gW_in (List.mem_append_right _ (List.mem_append_right _ (List.mem_append_left _ (List.mem_of_getElem? (i := 87) rfl)))) rfl
set_option maxRecDepth 20000 in
theorem q425 : Cond.selects RX5 yX5_fewest yX5_fewest ∈ gW := gW_in (List.mem_append_right _ (List.mem_append_right _ (List.mem_append_left _ (List.mem_of_getElem? (i := 88) rfl)))) rfl
set_option maxRecDepth 20000 in
theorem q426 : Cond.code yX5_fewest cX5_fewest 7 (some .int) ∈ gW := gW_in (List.mem_append_right _ (List.mem_append_right _ (List.mem_append_left _ (List.mem_of_getElem? (i := 89) rfl)))) rfl
set_option maxRecDepth 20000 in
theorem q427 : Cond.methodLink RX5 191 yX1_go ∈ gW := gW_in (List.mem_append_right _ (List.mem_append_right _ (List.mem_append_left _ (List.mem_of_getElem? (i := 90) rfl)))) rfl
set_option maxRecDepth 20000 in
theorem q428 : Cond.instanceMethod yX1_go ∈ gW := gW_in (List.mem_append_right _ (List.mem_append_right _ (List.mem_append_left _ (List.mem_of_getElem? (i := 91) rfl)))) rfl
set_option maxRecDepth 20000 in
theorem q429 : Cond.selects RX1 yX1_go yX1_go ∈ gW := gW_in (List.mem_append_right _ (List.mem_append_right _ (List.mem_append_left _ (List.mem_of_getElem? (i := 92) rfl)))) rfl
set_option maxRecDepth 20000 in
theorem q430 : Cond.code yX1_go cX1_go 5 none ∈ gW := gW_in (List.mem_append_right _ (List.mem_append_right _ (List.mem_append_left _ (List.mem_of_getElem? (i := 93) rfl)))) rfl
set_option maxRecDepth 20000 in
theorem q431 : Cond.fieldLink RX1 27 "NestedDolls$Search" "many" "I" ∈ gW := gW_in (List.mem_append_right _ (List.mem_append_left _ (List.mem_of_getElem? (i := 34) rfl))) rfl
set_option maxRecDepth 20000 in
theorem q432 : Cond.fieldLink RX1 31 "NestedDolls$Search" "count" "I" ∈ gW := gW_in (List.mem_append_right _ (List.mem_append_left _ (List.mem_of_getElem? (i := 35) rfl))) rfl
set_option maxRecDepth 20000 in
theorem q433 : Cond.fieldLink RX1 34 "NestedDolls$Search" "fitting" "I" ∈ gW := gW_in (List.mem_append_right _ (List.mem_append_left _ (List.mem_of_getElem? (i := 36) rfl))) rfl
set_option maxRecDepth 20000 in
theorem q434 : Cond.methodLink RX1 37 yJ7_fill_d0a16 ∈ gW := gW_in (List.mem_append_right _ (List.mem_append_right _ (List.mem_append_left _ (List.mem_of_getElem? (i := 94) rfl)))) rfl
set_option maxRecDepth 20000 in
theorem q435 : Cond.static yJ7_fill_d0a16 ∈ gW := gW_in (List.mem_append_right _ (List.mem_append_right _ (List.mem_append_left _ (List.mem_of_getElem? (i := 95) rfl)))) rfl
set_option maxRecDepth 20000 in
theorem q436 : Cond.initialized RJ7 ∈ gW := gW_in (List.mem_append_right _ (List.mem_append_left _ (List.mem_of_getElem? (i := 10) rfl))) rfl
set_option maxRecDepth 20000 in
theorem q437 : Cond.code yJ7_fill_d0a16 cJ7_fill_d0a16 5 none ∈ gW := gW_in (List.mem_append_right _ (List.mem_append_right _ (List.mem_append_left _ (List.mem_of_getElem? (i := 96) rfl)))) rfl
set_option maxRecDepth 20000 in
theorem q438 : Cond.methodLink RX1 43 yX1_reach ∈ gW := gW_in (List.mem_append_right _ (List.mem_append_right _ (List.mem_append_left _ (List.mem_of_getElem? (i := 97) rfl)))) rfl
set_option maxRecDepth 20000 in
theorem q439 : Cond.instanceMethod yX1_reach ∈ gW := gW_in (List.mem_append_right _ (List.mem_append_right _ (List.mem_append_left _ (List.mem_of_getElem? (i := 99) rfl)))) rfl
set_option maxRecDepth 20000 in
theorem q440 : Cond.selects RX1 yX1_reach yX1_reach ∈ gW := gW_in (List.mem_append_left _ (List.mem_of_getElem? (i := 10) rfl)) rfl
set_option maxRecDepth 20000 in
theorem q441 : Cond.code yX1_reach cX1_reach 7 none ∈ gW := gW_in (List.mem_append_right _ (List.mem_append_right _ (List.mem_append_left _ (List.mem_of_getElem? (i := 100) rfl)))) rfl
set_option maxRecDepth 20000 in
theorem q442 : Cond.methodLink RX1 47 yX1_goOn ∈ gW := gW_in (List.mem_append_right _ (List.mem_append_right _ (List.mem_append_left _ (List.mem_of_getElem? (i := 101) rfl)))) rfl
set_option maxRecDepth 20000 in
theorem q443 : Cond.instanceMethod yX1_goOn ∈ gW := gW_in (List.mem_append_right _ (List.mem_append_right _ (List.mem_append_left _ (List.mem_of_getElem? (i := 103) rfl)))) rfl
set_option maxRecDepth 20000 in
theorem q444 : Cond.selects RX1 yX1_goOn yX1_goOn ∈ gW := gW_in (List.mem_append_left _ (List.mem_of_getElem? (i := 11) rfl)) rfl
set_option maxRecDepth 20000 in
theorem q445 : Cond.code yX1_goOn cX1_goOn 4 none ∈ gW := gW_in (List.mem_append_right _ (List.mem_append_right _ (List.mem_append_left _ (List.mem_of_getElem? (i := 104) rfl)))) rfl
set_option maxRecDepth 20000 in
theorem q446 : Cond.methodLink RX1 51 yX3_doable ∈ gW := gW_in (List.mem_append_right _ (List.mem_append_right _ (List.mem_append_left _ (List.mem_of_getElem? (i := 105) rfl)))) rfl
set_option maxRecDepth 20000 in
theorem q447 : Cond.methodLink RX1 59 yX3_after ∈ gW := gW_in (List.mem_append_right _ (List.mem_append_right _ (List.mem_append_left _ (List.mem_of_getElem? (i := 107) rfl)))) rfl
set_option maxRecDepth 20000 in
theorem q448 : Cond.methodLink RX5 195 yX5_nestTold ∈ gW := gW_in (List.mem_append_right _ (List.mem_append_right _ (List.mem_append_left _ (List.mem_of_getElem? (i := 108) rfl)))) rfl
set_option maxRecDepth 20000 in
theorem q449 : Cond.instanceMethod yX5_nestTold ∈ gW := gW_in (List.mem_append_right _ (List.mem_append_right _ (List.mem_append_left _ (List.mem_of_getElem? (i := 110) rfl)))) rfl
set_option maxRecDepth 20000 in
theorem q450 : Cond.selects RX5 yX5_nestTold yX5_nestTold ∈ gW := gW_in (List.mem_append_left _ (List.mem_of_getElem? (i := 12) rfl)) rfl
set_option maxRecDepth 20000 in
theorem q451 : Cond.code yX5_nestTold cX5_nestTold 5 (some .int) ∈ gW := gW_in (List.mem_append_right _ (List.mem_append_right _ (List.mem_append_left _ (List.mem_of_getElem? (i := 111) rfl)))) rfl
set_option maxRecDepth 20000 in
theorem q452 : Cond.methodLink RX5 208 yX3_moved ∈ gW := gW_in (List.mem_append_right _ (List.mem_append_right _ (List.mem_append_left _ (List.mem_of_getElem? (i := 112) rfl)))) rfl
set_option maxRecDepth 20000 in
theorem q453 : Cond.methodLink RX5 199 yX1_find ∈ gW := gW_in (List.mem_append_right _ (List.mem_append_right _ (List.mem_append_left _ (List.mem_of_getElem? (i := 113) rfl)))) rfl
set_option maxRecDepth 20000 in
theorem q454 : Cond.instanceMethod yX1_find ∈ gW := gW_in (List.mem_append_right _ (List.mem_append_right _ (List.mem_append_left _ (List.mem_of_getElem? (i := 114) rfl)))) rfl
set_option maxRecDepth 20000 in
theorem q455 : Cond.selects RX1 yX1_find yX1_find ∈ gW := gW_in (List.mem_append_right _ (List.mem_append_right _ (List.mem_append_left _ (List.mem_of_getElem? (i := 115) rfl)))) rfl
set_option maxRecDepth 20000 in
theorem q456 : Cond.code yX1_find cX1_find 3 (some .int) ∈ gW := gW_in (List.mem_append_right _ (List.mem_append_right _ (List.mem_append_left _ (List.mem_of_getElem? (i := 116) rfl)))) rfl
set_option maxRecDepth 20000 in
theorem q457 : Cond.methodLink RX5 202 yX1_lengthTo ∈ gW := gW_in (List.mem_append_right _ (List.mem_append_right _ (List.mem_append_left _ (List.mem_of_getElem? (i := 117) rfl)))) rfl
set_option maxRecDepth 20000 in
theorem q458 : Cond.instanceMethod yX1_lengthTo ∈ gW := gW_in (List.mem_append_right _ (List.mem_append_right _ (List.mem_append_left _ (List.mem_of_getElem? (i := 118) rfl)))) rfl
set_option maxRecDepth 20000 in
theorem q459 : Cond.selects RX1 yX1_lengthTo yX1_lengthTo ∈ gW := gW_in (List.mem_append_right _ (List.mem_append_right _ (List.mem_append_left _ (List.mem_of_getElem? (i := 119) rfl)))) rfl
set_option maxRecDepth 20000 in
theorem q460 : Cond.code yX1_lengthTo cX1_lengthTo 4 (some .int) ∈ gW := gW_in (List.mem_append_right _ (List.mem_append_right _ (List.mem_append_left _ (List.mem_of_getElem? (i := 120) rfl)))) rfl
set_option maxRecDepth 20000 in
theorem q461 : Cond.methodLink RX5 205 yX1_actTo ∈ gW := gW_in (List.mem_append_right _ (List.mem_append_right _ (List.mem_append_left _ (List.mem_of_getElem? (i := 121) rfl)))) rfl
set_option maxRecDepth 20000 in
theorem q462 : Cond.instanceMethod yX1_actTo ∈ gW := gW_in (List.mem_append_right _ (List.mem_append_right _ (List.mem_append_left _ (List.mem_of_getElem? (i := 122) rfl)))) rfl
set_option maxRecDepth 20000 in
theorem q463 : Cond.selects RX1 yX1_actTo yX1_actTo ∈ gW := gW_in (List.mem_append_right _ (List.mem_append_right _ (List.mem_append_left _ (List.mem_of_getElem? (i := 123) rfl)))) rfl
set_option maxRecDepth 20000 in
theorem q464 : Cond.code yX1_actTo cX1_actTo 5 (some .int) ∈ gW := gW_in (List.mem_append_right _ (List.mem_append_right _ (List.mem_append_left _ (List.mem_of_getElem? (i := 124) rfl)))) rfl
set_option maxRecDepth 20000 in
theorem q465 : Cond.methodLink RX1 81 yX1_lengthTo ∈ gW := gW_in (List.mem_append_right _ (List.mem_append_right _ (List.mem_append_left _ (List.mem_of_getElem? (i := 125) rfl)))) rfl
set_option maxRecDepth 20000 in
theorem q466 : Cond.methodLink RL 57 yX6_fewest ∈ gW := gW_in (List.mem_append_right _ (List.mem_append_right _ (List.mem_append_right _ (List.mem_append_right _ (List.mem_of_getElem? (i := 38) rfl))))) rfl
set_option maxRecDepth 20000 in
theorem q467 : Cond.instanceMethod yX6_fewest ∈ gW := gW_in (List.mem_append_right _ (List.mem_append_right _ (List.mem_append_right _ (List.mem_append_right _ (List.mem_of_getElem? (i := 39) rfl))))) rfl
set_option maxRecDepth 20000 in
theorem q468 : Cond.selects RX6 yX6_fewest yX6_fewest ∈ gW := gW_in (List.mem_append_right _ (List.mem_append_right _ (List.mem_append_right _ (List.mem_append_right _ (List.mem_of_getElem? (i := 40) rfl))))) rfl
set_option maxRecDepth 20000 in
theorem q469 : Cond.code yX6_fewest cX6_fewest 10 (some .int) ∈ gW := gW_in (List.mem_append_right _ (List.mem_append_right _ (List.mem_append_right _ (List.mem_append_right _ (List.mem_of_getElem? (i := 41) rfl))))) rfl
set_option maxRecDepth 20000 in
theorem q470 : Cond.methodLink RX6 179 yX6_findNests ∈ gW := gW_in (List.mem_append_right _ (List.mem_append_right _ (List.mem_append_right _ (List.mem_append_right _ (List.mem_of_getElem? (i := 42) rfl))))) rfl
set_option maxRecDepth 20000 in
theorem q471 : Cond.instanceMethod yX6_findNests ∈ gW := gW_in (List.mem_append_right _ (List.mem_append_right _ (List.mem_append_right _ (List.mem_append_right _ (List.mem_of_getElem? (i := 44) rfl))))) rfl
set_option maxRecDepth 20000 in
theorem q472 : Cond.selects RX6 yX6_findNests yX6_findNests ∈ gW := gW_in (List.mem_append_left _ (List.mem_of_getElem? (i := 42) rfl)) rfl
set_option maxRecDepth 20000 in
theorem q473 : Cond.code yX6_findNests cX6_findNests 5 none ∈ gW := gW_in (List.mem_append_right _ (List.mem_append_right _ (List.mem_append_right _ (List.mem_append_right _ (List.mem_of_getElem? (i := 45) rfl))))) rfl
set_option maxRecDepth 20000 in
theorem q474 : Cond.fieldLink RX6 173 "NestedDollsModel" "come" "I" ∈ gW := gW_in (List.mem_append_right _ (List.mem_append_right _ (List.mem_append_right _ (List.mem_append_left _ (List.mem_of_getElem? (i := 83) rfl))))) rfl
set_option maxRecDepth 20000 in
theorem q475 : Cond.methodLink RX6 182 yX6_findFar ∈ gW := gW_in (List.mem_append_right _ (List.mem_append_right _ (List.mem_append_right _ (List.mem_append_right _ (List.mem_of_getElem? (i := 46) rfl))))) rfl
set_option maxRecDepth 20000 in
theorem q476 : Cond.instanceMethod yX6_findFar ∈ gW := gW_in (List.mem_append_right _ (List.mem_append_right _ (List.mem_append_right _ (List.mem_append_right _ (List.mem_of_getElem? (i := 48) rfl))))) rfl
set_option maxRecDepth 20000 in
theorem q477 : Cond.selects RX6 yX6_findFar yX6_findFar ∈ gW := gW_in (List.mem_append_left _ (List.mem_of_getElem? (i := 43) rfl)) rfl
set_option maxRecDepth 20000 in
theorem q478 : Cond.code yX6_findFar cX6_findFar 6 none ∈ gW := gW_in (List.mem_append_right _ (List.mem_append_right _ (List.mem_append_right _ (List.mem_append_right _ (List.mem_of_getElem? (i := 49) rfl))))) rfl
set_option maxRecDepth 20000 in
theorem q479 : Cond.methodLink RX6 176 yX6_isTold ∈ gW := gW_in (List.mem_append_right _ (List.mem_append_right _ (List.mem_append_right _ (List.mem_append_right _ (List.mem_of_getElem? (i := 50) rfl))))) rfl
set_option maxRecDepth 20000 in
theorem q480 : Cond.instanceMethod yX6_isTold ∈ gW := gW_in (List.mem_append_right _ (List.mem_append_right _ (List.mem_append_right _ (List.mem_append_right _ (List.mem_of_getElem? (i := 52) rfl))))) rfl
set_option maxRecDepth 20000 in
theorem q481 : Cond.selects RX6 yX6_isTold yX6_isTold ∈ gW := gW_in (List.mem_append_left _ (List.mem_of_getElem? (i := 44) rfl)) rfl
set_option maxRecDepth 20000 in
theorem q482 : Cond.code yX6_isTold cX6_isTold 4 (some .boolean) ∈ gW := gW_in (List.mem_append_right _ (List.mem_append_right _ (List.mem_append_right _ (List.mem_append_right _ (List.mem_of_getElem? (i := 53) rfl))))) rfl
set_option maxRecDepth 20000 in
theorem q483 : Cond.methodLink RL 58 yX5_stands ∈ gW := gW_in (List.mem_append_right _ (List.mem_append_right _ (List.mem_append_left _ (List.mem_of_getElem? (i := 126) rfl)))) rfl
set_option maxRecDepth 20000 in
theorem q484 : Cond.instanceMethod yX5_stands ∈ gW := gW_in (List.mem_append_right _ (List.mem_append_right _ (List.mem_append_left _ (List.mem_of_getElem? (i := 127) rfl)))) rfl
set_option maxRecDepth 20000 in
theorem q485 : Cond.selects RX5 yX5_stands yX5_stands ∈ gW := gW_in (List.mem_append_right _ (List.mem_append_right _ (List.mem_append_left _ (List.mem_of_getElem? (i := 128) rfl)))) rfl
set_option maxRecDepth 20000 in
theorem q486 : Cond.code yX5_stands cX5_stands 2 (some .int) ∈ gW := gW_in (List.mem_append_right _ (List.mem_append_right _ (List.mem_append_left _ (List.mem_of_getElem? (i := 129) rfl)))) rfl
set_option maxRecDepth 20000 in
theorem q487 : Cond.methodLink RX5 211 yX1_howMany ∈ gW := gW_in (List.mem_append_right _ (List.mem_append_right _ (List.mem_append_left _ (List.mem_of_getElem? (i := 130) rfl)))) rfl
set_option maxRecDepth 20000 in
theorem q488 : Cond.instanceMethod yX1_howMany ∈ gW := gW_in (List.mem_append_right _ (List.mem_append_right _ (List.mem_append_left _ (List.mem_of_getElem? (i := 131) rfl)))) rfl
set_option maxRecDepth 20000 in
theorem q489 : Cond.selects RX1 yX1_howMany yX1_howMany ∈ gW := gW_in (List.mem_append_right _ (List.mem_append_right _ (List.mem_append_left _ (List.mem_of_getElem? (i := 132) rfl)))) rfl
set_option maxRecDepth 20000 in
theorem q490 : Cond.code yX1_howMany cX1_howMany 4 (some .int) ∈ gW := gW_in (List.mem_append_right _ (List.mem_append_right _ (List.mem_append_left _ (List.mem_of_getElem? (i := 133) rfl)))) rfl
set_option maxRecDepth 20000 in
theorem q491 : Cond.methodLink RX1 63 yX1_isOf ∈ gW := gW_in (List.mem_append_right _ (List.mem_append_right _ (List.mem_append_left _ (List.mem_of_getElem? (i := 134) rfl)))) rfl
set_option maxRecDepth 20000 in
theorem q492 : Cond.instanceMethod yX1_isOf ∈ gW := gW_in (List.mem_append_right _ (List.mem_append_right _ (List.mem_append_left _ (List.mem_of_getElem? (i := 136) rfl)))) rfl
set_option maxRecDepth 20000 in
theorem q493 : Cond.selects RX1 yX1_isOf yX1_isOf ∈ gW := gW_in (List.mem_append_left _ (List.mem_of_getElem? (i := 13) rfl)) rfl
set_option maxRecDepth 20000 in
theorem q494 : Cond.code yX1_isOf cX1_isOf 3 (some .boolean) ∈ gW := gW_in (List.mem_append_right _ (List.mem_append_right _ (List.mem_append_left _ (List.mem_of_getElem? (i := 137) rfl)))) rfl
set_option maxRecDepth 20000 in
theorem q495 : Cond.methodLink RX1 66 yX3_openSet ∈ gW := gW_in (List.mem_append_right _ (List.mem_append_right _ (List.mem_append_left _ (List.mem_of_getElem? (i := 138) rfl)))) rfl
set_option maxRecDepth 20000 in
theorem q496 : Cond.methodLink RX1 70 yX3_tableSet ∈ gW := gW_in (List.mem_append_right _ (List.mem_append_right _ (List.mem_append_left _ (List.mem_of_getElem? (i := 139) rfl)))) rfl
set_option maxRecDepth 20000 in
theorem q497 : Cond.methodLink RX1 73 yJ6_bitCount_0f7a4 ∈ gW := gW_in (List.mem_append_right _ (List.mem_append_right _ (List.mem_append_left _ (List.mem_of_getElem? (i := 140) rfl)))) rfl
set_option maxRecDepth 20000 in
theorem q498 : Cond.methodLink RX1 78 yX3_handSet ∈ gW := gW_in (List.mem_append_right _ (List.mem_append_right _ (List.mem_append_left _ (List.mem_of_getElem? (i := 141) rfl)))) rfl
set_option maxRecDepth 20000 in
theorem q499 : Cond.methodLink RL 61 yX6_stands ∈ gW := gW_in (List.mem_append_right _ (List.mem_append_right _ (List.mem_append_right _ (List.mem_append_right _ (List.mem_of_getElem? (i := 54) rfl))))) rfl
set_option maxRecDepth 20000 in
theorem q500 : Cond.instanceMethod yX6_stands ∈ gW := gW_in (List.mem_append_right _ (List.mem_append_right _ (List.mem_append_right _ (List.mem_append_right _ (List.mem_of_getElem? (i := 55) rfl))))) rfl
set_option maxRecDepth 20000 in
theorem q501 : Cond.selects RX6 yX6_stands yX6_stands ∈ gW := gW_in (List.mem_append_right _ (List.mem_append_right _ (List.mem_append_right _ (List.mem_append_right _ (List.mem_of_getElem? (i := 56) rfl))))) rfl
set_option maxRecDepth 20000 in
theorem q502 : Cond.code yX6_stands cX6_stands 6 (some .int) ∈ gW := gW_in (List.mem_append_right _ (List.mem_append_right _ (List.mem_append_right _ (List.mem_append_right _ (List.mem_of_getElem? (i := 57) rfl))))) rfl
set_option maxRecDepth 20000 in
theorem q503 : Cond.methodLink RL 62 yX5_tidy ∈ gW := gW_in (List.mem_append_right _ (List.mem_append_right _ (List.mem_append_left _ (List.mem_of_getElem? (i := 142) rfl)))) rfl
set_option maxRecDepth 20000 in
theorem q504 : Cond.instanceMethod yX5_tidy ∈ gW := gW_in (List.mem_append_right _ (List.mem_append_right _ (List.mem_append_left _ (List.mem_of_getElem? (i := 143) rfl)))) rfl
set_option maxRecDepth 20000 in
theorem q505 : Cond.selects RX5 yX5_tidy yX5_tidy ∈ gW := gW_in (List.mem_append_right _ (List.mem_append_right _ (List.mem_append_left _ (List.mem_of_getElem? (i := 144) rfl)))) rfl
set_option maxRecDepth 20000 in
theorem q506 : Cond.code yX5_tidy cX5_tidy 3 (some .int) ∈ gW := gW_in (List.mem_append_right _ (List.mem_append_right _ (List.mem_append_left _ (List.mem_of_getElem? (i := 145) rfl)))) rfl
set_option maxRecDepth 20000 in
theorem q507 : Cond.methodLink RX5 214 yX5_leastOnTable ∈ gW := gW_in (List.mem_append_right _ (List.mem_append_right _ (List.mem_append_left _ (List.mem_of_getElem? (i := 146) rfl)))) rfl
set_option maxRecDepth 20000 in
theorem q508 : Cond.static yX5_leastOnTable ∈ gW := gW_in (List.mem_append_right _ (List.mem_append_right _ (List.mem_append_left _ (List.mem_of_getElem? (i := 147) rfl)))) rfl
set_option maxRecDepth 20000 in
theorem q509 : Cond.code yX5_leastOnTable cX5_leastOnTable 6 (some .int) ∈ gW := gW_in (List.mem_append_right _ (List.mem_append_right _ (List.mem_append_left _ (List.mem_of_getElem? (i := 148) rfl)))) rfl
set_option maxRecDepth 20000 in
theorem q510 : Cond.methodLink RX5 231 Lib.Math.min.name ∈ gW := gW_in (List.mem_append_right _ (List.mem_append_right _ (List.mem_append_left _ (List.mem_of_getElem? (i := 155) rfl)))) rfl
set_option maxRecDepth 20000 in
theorem q511 : Cond.methodLink RX5 224 yX5_isFree ∈ gW := gW_in (List.mem_append_right _ (List.mem_append_right _ (List.mem_append_left _ (List.mem_of_getElem? (i := 149) rfl)))) rfl
set_option maxRecDepth 20000 in
theorem q512 : Cond.static yX5_isFree ∈ gW := gW_in (List.mem_append_right _ (List.mem_append_right _ (List.mem_append_left _ (List.mem_of_getElem? (i := 150) rfl)))) rfl
set_option maxRecDepth 20000 in
theorem q513 : Cond.code yX5_isFree cX5_isFree 4 (some .boolean) ∈ gW := gW_in (List.mem_append_right _ (List.mem_append_right _ (List.mem_append_left _ (List.mem_of_getElem? (i := 151) rfl)))) rfl
set_option maxRecDepth 20000 in
theorem q514 : Cond.methodLink RX5 227 yX5_leastWith ∈ gW := gW_in (List.mem_append_right _ (List.mem_append_right _ (List.mem_append_left _ (List.mem_of_getElem? (i := 152) rfl)))) rfl
set_option maxRecDepth 20000 in
theorem q515 : Cond.static yX5_leastWith ∈ gW := gW_in (List.mem_append_right _ (List.mem_append_right _ (List.mem_append_left _ (List.mem_of_getElem? (i := 153) rfl)))) rfl
set_option maxRecDepth 20000 in
theorem q516 : Cond.code yX5_leastWith cX5_leastWith 5 (some .int) ∈ gW := gW_in (List.mem_append_right _ (List.mem_append_right _ (List.mem_append_left _ (List.mem_of_getElem? (i := 154) rfl)))) rfl
set_option maxRecDepth 20000 in
theorem q517 : Cond.methodLink RX5 218 yX5_tidyPlace ∈ gW := gW_in (List.mem_append_right _ (List.mem_append_right _ (List.mem_append_left _ (List.mem_of_getElem? (i := 156) rfl)))) rfl
set_option maxRecDepth 20000 in
theorem q518 : Cond.instanceMethod yX5_tidyPlace ∈ gW := gW_in (List.mem_append_right _ (List.mem_append_right _ (List.mem_append_left _ (List.mem_of_getElem? (i := 158) rfl)))) rfl
set_option maxRecDepth 20000 in
theorem q519 : Cond.selects RX5 yX5_tidyPlace yX5_tidyPlace ∈ gW := gW_in (List.mem_append_left _ (List.mem_of_getElem? (i := 14) rfl)) rfl
set_option maxRecDepth 20000 in
theorem q520 : Cond.code yX5_tidyPlace cX5_tidyPlace 6 (some .int) ∈ gW := gW_in (List.mem_append_right _ (List.mem_append_right _ (List.mem_append_left _ (List.mem_of_getElem? (i := 159) rfl)))) rfl
set_option maxRecDepth 20000 in
theorem q521 : Cond.methodLink RX5 221 yX5_firstPlace ∈ gW := gW_in (List.mem_append_right _ (List.mem_append_right _ (List.mem_append_left _ (List.mem_of_getElem? (i := 160) rfl)))) rfl
set_option maxRecDepth 20000 in
theorem q522 : Cond.static yX5_firstPlace ∈ gW := gW_in (List.mem_append_right _ (List.mem_append_right _ (List.mem_append_left _ (List.mem_of_getElem? (i := 161) rfl)))) rfl
set_option maxRecDepth 20000 in
theorem q523 : Cond.code yX5_firstPlace cX5_firstPlace 6 (some .int) ∈ gW := gW_in (List.mem_append_right _ (List.mem_append_right _ (List.mem_append_left _ (List.mem_of_getElem? (i := 162) rfl)))) rfl
set_option maxRecDepth 20000 in
theorem q524 : Cond.methodLink RL 65 yX6_tidy ∈ gW := gW_in (List.mem_append_right _ (List.mem_append_right _ (List.mem_append_right _ (List.mem_append_right _ (List.mem_of_getElem? (i := 58) rfl))))) rfl
set_option maxRecDepth 20000 in
theorem q525 : Cond.instanceMethod yX6_tidy ∈ gW := gW_in (List.mem_append_right _ (List.mem_append_right _ (List.mem_append_right _ (List.mem_append_right _ (List.mem_of_getElem? (i := 59) rfl))))) rfl
set_option maxRecDepth 20000 in
theorem q526 : Cond.selects RX6 yX6_tidy yX6_tidy ∈ gW := gW_in (List.mem_append_right _ (List.mem_append_right _ (List.mem_append_right _ (List.mem_append_right _ (List.mem_of_getElem? (i := 60) rfl))))) rfl
set_option maxRecDepth 20000 in
theorem q527 : Cond.code yX6_tidy cX6_tidy 7 (some .int) ∈ gW := gW_in (List.mem_append_right _ (List.mem_append_right _ (List.mem_append_right _ (List.mem_append_right _ (List.mem_of_getElem? (i := 61) rfl))))) rfl
set_option maxRecDepth 20000 in
theorem q528 : Cond.methodLink RX6 185 yX6_canTidy ∈ gW := gW_in (List.mem_append_right _ (List.mem_append_right _ (List.mem_append_right _ (List.mem_append_right _ (List.mem_of_getElem? (i := 62) rfl))))) rfl
set_option maxRecDepth 20000 in
theorem q529 : Cond.instanceMethod yX6_canTidy ∈ gW := gW_in (List.mem_append_right _ (List.mem_append_right _ (List.mem_append_right _ (List.mem_append_right _ (List.mem_of_getElem? (i := 64) rfl))))) rfl
set_option maxRecDepth 20000 in
theorem q530 : Cond.selects RX6 yX6_canTidy yX6_canTidy ∈ gW := gW_in (List.mem_append_left _ (List.mem_of_getElem? (i := 45) rfl)) rfl
set_option maxRecDepth 20000 in
theorem q531 : Cond.code yX6_canTidy cX6_canTidy 6 (some .boolean) ∈ gW := gW_in (List.mem_append_right _ (List.mem_append_right _ (List.mem_append_right _ (List.mem_append_right _ (List.mem_of_getElem? (i := 65) rfl))))) rfl
set_option maxRecDepth 20000 in
theorem q532 : Cond.methodLink RL 66 yX5_chain ∈ gW := gW_in (List.mem_append_right _ (List.mem_append_right _ (List.mem_append_left _ (List.mem_of_getElem? (i := 163) rfl)))) rfl
set_option maxRecDepth 20000 in
theorem q533 : Cond.instanceMethod yX5_chain ∈ gW := gW_in (List.mem_append_right _ (List.mem_append_right _ (List.mem_append_left _ (List.mem_of_getElem? (i := 164) rfl)))) rfl
set_option maxRecDepth 20000 in
theorem q534 : Cond.selects RX5 yX5_chain yX5_chain ∈ gW := gW_in (List.mem_append_right _ (List.mem_append_right _ (List.mem_append_left _ (List.mem_of_getElem? (i := 165) rfl)))) rfl
set_option maxRecDepth 20000 in
theorem q535 : Cond.code yX5_chain cX5_chain 4 (some .int) ∈ gW := gW_in (List.mem_append_right _ (List.mem_append_right _ (List.mem_append_left _ (List.mem_of_getElem? (i := 166) rfl)))) rfl
set_option maxRecDepth 20000 in
theorem q536 : Cond.methodLink RX5 239 Lib.Math.max.name ∈ gW := gW_in (List.mem_append_right _ (List.mem_append_right _ (List.mem_append_left _ (List.mem_of_getElem? (i := 170) rfl)))) rfl
set_option maxRecDepth 20000 in
theorem q537 : Cond.methodLink RX5 236 yX5_longestFrom ∈ gW := gW_in (List.mem_append_right _ (List.mem_append_right _ (List.mem_append_left _ (List.mem_of_getElem? (i := 167) rfl)))) rfl
set_option maxRecDepth 20000 in
theorem q538 : Cond.static yX5_longestFrom ∈ gW := gW_in (List.mem_append_right _ (List.mem_append_right _ (List.mem_append_left _ (List.mem_of_getElem? (i := 168) rfl)))) rfl
set_option maxRecDepth 20000 in
theorem q539 : Cond.code yX5_longestFrom cX5_longestFrom 6 (some .int) ∈ gW := gW_in (List.mem_append_right _ (List.mem_append_right _ (List.mem_append_left _ (List.mem_of_getElem? (i := 169) rfl)))) rfl
set_option maxRecDepth 20000 in
theorem q540 : Cond.methodLink RL 69 yX6_chain ∈ gW := gW_in (List.mem_append_right _ (List.mem_append_right _ (List.mem_append_right _ (List.mem_append_right _ (List.mem_of_getElem? (i := 66) rfl))))) rfl
set_option maxRecDepth 20000 in
theorem q541 : Cond.instanceMethod yX6_chain ∈ gW := gW_in (List.mem_append_right _ (List.mem_append_right _ (List.mem_append_right _ (List.mem_append_right _ (List.mem_of_getElem? (i := 67) rfl))))) rfl
set_option maxRecDepth 20000 in
theorem q542 : Cond.selects RX6 yX6_chain yX6_chain ∈ gW := gW_in (List.mem_append_right _ (List.mem_append_right _ (List.mem_append_right _ (List.mem_append_right _ (List.mem_of_getElem? (i := 68) rfl))))) rfl
set_option maxRecDepth 20000 in
theorem q543 : Cond.code yX6_chain cX6_chain 6 (some .int) ∈ gW := gW_in (List.mem_append_right _ (List.mem_append_right _ (List.mem_append_right _ (List.mem_append_right _ (List.mem_of_getElem? (i := 69) rfl))))) rfl
set_option maxRecDepth 20000 in
theorem q544 : Cond.methodLink RL 70 yX5_reading ∈ gW := gW_in (List.mem_append_right _ (List.mem_append_right _ (List.mem_append_left _ (List.mem_of_getElem? (i := 171) rfl)))) rfl
set_option maxRecDepth 20000 in
theorem q545 : Cond.instanceMethod yX5_reading ∈ gW := gW_in (List.mem_append_right _ (List.mem_append_right _ (List.mem_append_left _ (List.mem_of_getElem? (i := 172) rfl)))) rfl
set_option maxRecDepth 20000 in
theorem q546 : Cond.selects RX5 yX5_reading yX5_reading ∈ gW := gW_in (List.mem_append_right _ (List.mem_append_right _ (List.mem_append_left _ (List.mem_of_getElem? (i := 173) rfl)))) rfl
set_option maxRecDepth 20000 in
theorem q547 : Cond.code yX5_reading cX5_reading 4 (some .int) ∈ gW := gW_in (List.mem_append_right _ (List.mem_append_right _ (List.mem_append_left _ (List.mem_of_getElem? (i := 174) rfl)))) rfl
set_option maxRecDepth 20000 in
theorem q548 : Cond.methodLink RL 74 yX6_reading ∈ gW := gW_in (List.mem_append_right _ (List.mem_append_right _ (List.mem_append_right _ (List.mem_append_right _ (List.mem_of_getElem? (i := 70) rfl))))) rfl
set_option maxRecDepth 20000 in
theorem q549 : Cond.instanceMethod yX6_reading ∈ gW := gW_in (List.mem_append_right _ (List.mem_append_right _ (List.mem_append_right _ (List.mem_append_right _ (List.mem_of_getElem? (i := 71) rfl))))) rfl
set_option maxRecDepth 20000 in
theorem q550 : Cond.selects RX6 yX6_reading yX6_reading ∈ gW := gW_in (List.mem_append_right _ (List.mem_append_right _ (List.mem_append_right _ (List.mem_append_right _ (List.mem_of_getElem? (i := 72) rfl))))) rfl
set_option maxRecDepth 20000 in
theorem q551 : Cond.code yX6_reading cX6_reading 4 (some .int) ∈ gW := gW_in (List.mem_append_right _ (List.mem_append_right _ (List.mem_append_right _ (List.mem_append_right _ (List.mem_of_getElem? (i := 73) rfl))))) rfl
set_option maxRecDepth 20000 in
theorem q552 : Cond.methodLink RL 75 yX5_back ∈ gW := gW_in (List.mem_append_right _ (List.mem_append_right _ (List.mem_append_left _ (List.mem_of_getElem? (i := 175) rfl)))) rfl
set_option maxRecDepth 20000 in
theorem q553 : Cond.instanceMethod yX5_back ∈ gW := gW_in (List.mem_append_right _ (List.mem_append_right _ (List.mem_append_left _ (List.mem_of_getElem? (i := 176) rfl)))) rfl
set_option maxRecDepth 20000 in
theorem q554 : Cond.selects RX5 yX5_back yX5_back ∈ gW := gW_in (List.mem_append_right _ (List.mem_append_right _ (List.mem_append_left _ (List.mem_of_getElem? (i := 177) rfl)))) rfl
set_option maxRecDepth 20000 in
theorem q555 : Cond.code yX5_back cX5_back 2 (some .int) ∈ gW := gW_in (List.mem_append_right _ (List.mem_append_right _ (List.mem_append_left _ (List.mem_of_getElem? (i := 178) rfl)))) rfl
set_option maxRecDepth 20000 in
theorem q556 : Cond.methodLink RL 78 yX6_back ∈ gW := gW_in (List.mem_append_right _ (List.mem_append_right _ (List.mem_append_right _ (List.mem_append_right _ (List.mem_of_getElem? (i := 74) rfl))))) rfl
set_option maxRecDepth 20000 in
theorem q557 : Cond.instanceMethod yX6_back ∈ gW := gW_in (List.mem_append_right _ (List.mem_append_right _ (List.mem_append_right _ (List.mem_append_right _ (List.mem_of_getElem? (i := 75) rfl))))) rfl
set_option maxRecDepth 20000 in
theorem q558 : Cond.selects RX6 yX6_back yX6_back ∈ gW := gW_in (List.mem_append_right _ (List.mem_append_right _ (List.mem_append_right _ (List.mem_append_right _ (List.mem_of_getElem? (i := 76) rfl))))) rfl
set_option maxRecDepth 20000 in
theorem q559 : Cond.code yX6_back cX6_back 2 (some .int) ∈ gW := gW_in (List.mem_append_right _ (List.mem_append_right _ (List.mem_append_right _ (List.mem_append_right _ (List.mem_of_getElem? (i := 77) rfl))))) rfl
set_option maxRecDepth 20000 in
theorem q560 : Cond.methodLink RL 79 yX5_girths ∈ gW := gW_in (List.mem_append_right _ (List.mem_append_right _ (List.mem_append_left _ (List.mem_of_getElem? (i := 179) rfl)))) rfl
set_option maxRecDepth 20000 in
theorem q561 : Cond.instanceMethod yX5_girths ∈ gW := gW_in (List.mem_append_right _ (List.mem_append_right _ (List.mem_append_left _ (List.mem_of_getElem? (i := 180) rfl)))) rfl
set_option maxRecDepth 20000 in
theorem q562 : Cond.selects RX5 yX5_girths yX5_girths ∈ gW := gW_in (List.mem_append_right _ (List.mem_append_right _ (List.mem_append_left _ (List.mem_of_getElem? (i := 181) rfl)))) rfl
set_option maxRecDepth 20000 in
theorem q563 : Cond.code yX5_girths cX5_girths 5 (some .int) ∈ gW := gW_in (List.mem_append_right _ (List.mem_append_right _ (List.mem_append_left _ (List.mem_of_getElem? (i := 182) rfl)))) rfl
set_option maxRecDepth 20000 in
theorem q564 : Cond.methodLink RX5 242 yX5_readingsAreSo ∈ gW := gW_in (List.mem_append_right _ (List.mem_append_right _ (List.mem_append_left _ (List.mem_of_getElem? (i := 183) rfl)))) rfl
set_option maxRecDepth 20000 in
theorem q565 : Cond.instanceMethod yX5_readingsAreSo ∈ gW := gW_in (List.mem_append_right _ (List.mem_append_right _ (List.mem_append_left _ (List.mem_of_getElem? (i := 185) rfl)))) rfl
set_option maxRecDepth 20000 in
theorem q566 : Cond.selects RX5 yX5_readingsAreSo yX5_readingsAreSo ∈ gW := gW_in (List.mem_append_left _ (List.mem_of_getElem? (i := 15) rfl)) rfl
set_option maxRecDepth 20000 in
theorem q567 : Cond.code yX5_readingsAreSo cX5_readingsAreSo 4 (some .boolean) ∈ gW := gW_in (List.mem_append_right _ (List.mem_append_right _ (List.mem_append_left _ (List.mem_of_getElem? (i := 186) rfl)))) rfl
set_option maxRecDepth 20000 in
theorem q568 : Cond.methodLink RL 82 yX6_girths ∈ gW := gW_in (List.mem_append_right _ (List.mem_append_right _ (List.mem_append_right _ (List.mem_append_right _ (List.mem_of_getElem? (i := 78) rfl))))) rfl
set_option maxRecDepth 20000 in
theorem q569 : Cond.instanceMethod yX6_girths ∈ gW := gW_in (List.mem_append_right _ (List.mem_append_right _ (List.mem_append_right _ (List.mem_append_right _ (List.mem_of_getElem? (i := 79) rfl))))) rfl
set_option maxRecDepth 20000 in
theorem q570 : Cond.selects RX6 yX6_girths yX6_girths ∈ gW := gW_in (List.mem_append_right _ (List.mem_append_right _ (List.mem_append_right _ (List.mem_append_right _ (List.mem_of_getElem? (i := 80) rfl))))) rfl
set_option maxRecDepth 20000 in
theorem q571 : Cond.code yX6_girths cX6_girths 5 (some .int) ∈ gW := gW_in (List.mem_append_right _ (List.mem_append_right _ (List.mem_append_right _ (List.mem_append_right _ (List.mem_of_getElem? (i := 81) rfl))))) rfl
set_option maxRecDepth 20000 in
theorem q572 : Cond.methodLink RX6 188 yX6_areSo ∈ gW := gW_in (List.mem_append_right _ (List.mem_append_right _ (List.mem_append_right _ (List.mem_append_right _ (List.mem_of_getElem? (i := 82) rfl))))) rfl
set_option maxRecDepth 20000 in
theorem q573 : Cond.instanceMethod yX6_areSo ∈ gW := gW_in (List.mem_append_right _ (List.mem_append_right _ (List.mem_append_right _ (List.mem_append_right _ (List.mem_of_getElem? (i := 84) rfl))))) rfl
set_option maxRecDepth 20000 in
theorem q574 : Cond.selects RX6 yX6_areSo yX6_areSo ∈ gW := gW_in (List.mem_append_left _ (List.mem_of_getElem? (i := 46) rfl)) rfl
set_option maxRecDepth 20000 in
theorem q575 : Cond.code yX6_areSo cX6_areSo 2 (some .boolean) ∈ gW := gW_in (List.mem_append_right _ (List.mem_append_right _ (List.mem_append_right _ (List.mem_append_right _ (List.mem_of_getElem? (i := 85) rfl))))) rfl
set_option maxRecDepth 20000 in
theorem q576 : Cond.methodLink RL 83 yX5_rooms ∈ gW := gW_in (List.mem_append_right _ (List.mem_append_right _ (List.mem_append_left _ (List.mem_of_getElem? (i := 187) rfl)))) rfl
set_option maxRecDepth 20000 in
theorem q577 : Cond.instanceMethod yX5_rooms ∈ gW := gW_in (List.mem_append_right _ (List.mem_append_right _ (List.mem_append_left _ (List.mem_of_getElem? (i := 188) rfl)))) rfl
set_option maxRecDepth 20000 in
theorem q578 : Cond.selects RX5 yX5_rooms yX5_rooms ∈ gW := gW_in (List.mem_append_right _ (List.mem_append_right _ (List.mem_append_left _ (List.mem_of_getElem? (i := 189) rfl)))) rfl
set_option maxRecDepth 20000 in
theorem q579 : Cond.code yX5_rooms cX5_rooms 5 (some .int) ∈ gW := gW_in (List.mem_append_right _ (List.mem_append_right _ (List.mem_append_left _ (List.mem_of_getElem? (i := 190) rfl)))) rfl
set_option maxRecDepth 20000 in
theorem q580 : Cond.methodLink RL 86 yX6_rooms ∈ gW := gW_in (List.mem_append_right _ (List.mem_append_right _ (List.mem_append_right _ (List.mem_append_right _ (List.mem_of_getElem? (i := 86) rfl))))) rfl
set_option maxRecDepth 20000 in
theorem q581 : Cond.instanceMethod yX6_rooms ∈ gW := gW_in (List.mem_append_right _ (List.mem_append_right _ (List.mem_append_right _ (List.mem_append_right _ (List.mem_of_getElem? (i := 87) rfl))))) rfl
set_option maxRecDepth 20000 in
theorem q582 : Cond.selects RX6 yX6_rooms yX6_rooms ∈ gW := gW_in (List.mem_append_right _ (List.mem_append_right _ (List.mem_append_right _ (List.mem_append_right _ (List.mem_of_getElem? (i := 88) rfl))))) rfl
set_option maxRecDepth 20000 in
theorem q583 : Cond.code yX6_rooms cX6_rooms 5 (some .int) ∈ gW := gW_in (List.mem_append_right _ (List.mem_append_right _ (List.mem_append_right _ (List.mem_append_right _ (List.mem_of_getElem? (i := 89) rfl))))) rfl
set_option maxRecDepth 20000 in
theorem q584 : Cond.methodLink RL 87 yX5_kinds ∈ gW := gW_in (List.mem_append_right _ (List.mem_append_right _ (List.mem_append_left _ (List.mem_of_getElem? (i := 191) rfl)))) rfl
set_option maxRecDepth 20000 in
theorem q585 : Cond.instanceMethod yX5_kinds ∈ gW := gW_in (List.mem_append_right _ (List.mem_append_right _ (List.mem_append_left _ (List.mem_of_getElem? (i := 192) rfl)))) rfl
set_option maxRecDepth 20000 in
theorem q586 : Cond.selects RX5 yX5_kinds yX5_kinds ∈ gW := gW_in (List.mem_append_right _ (List.mem_append_right _ (List.mem_append_left _ (List.mem_of_getElem? (i := 193) rfl)))) rfl
set_option maxRecDepth 20000 in
theorem q587 : Cond.code yX5_kinds cX5_kinds 5 (some .int) ∈ gW := gW_in (List.mem_append_right _ (List.mem_append_right _ (List.mem_append_left _ (List.mem_of_getElem? (i := 194) rfl)))) rfl
set_option maxRecDepth 20000 in
theorem q588 : Cond.methodLink RL 90 yX6_kinds ∈ gW := gW_in (List.mem_append_right _ (List.mem_append_right _ (List.mem_append_right _ (List.mem_append_right _ (List.mem_of_getElem? (i := 90) rfl))))) rfl
set_option maxRecDepth 20000 in
theorem q589 : Cond.instanceMethod yX6_kinds ∈ gW := gW_in (List.mem_append_right _ (List.mem_append_right _ (List.mem_append_right _ (List.mem_append_right _ (List.mem_of_getElem? (i := 91) rfl))))) rfl
set_option maxRecDepth 20000 in
theorem q590 : Cond.selects RX6 yX6_kinds yX6_kinds ∈ gW := gW_in (List.mem_append_right _ (List.mem_append_right _ (List.mem_append_right _ (List.mem_append_right _ (List.mem_of_getElem? (i := 92) rfl))))) rfl
set_option maxRecDepth 20000 in
theorem q591 : Cond.code yX6_kinds cX6_kinds 5 (some .int) ∈ gW := gW_in (List.mem_append_right _ (List.mem_append_right _ (List.mem_append_right _ (List.mem_append_right _ (List.mem_of_getElem? (i := 93) rfl))))) rfl
set_option maxRecDepth 20000 in
theorem q592 : Cond.methodLink RL 91 yX5_odds ∈ gW := gW_in (List.mem_append_right _ (List.mem_append_right _ (List.mem_append_left _ (List.mem_of_getElem? (i := 195) rfl)))) rfl
set_option maxRecDepth 20000 in
theorem q593 : Cond.instanceMethod yX5_odds ∈ gW := gW_in (List.mem_append_right _ (List.mem_append_right _ (List.mem_append_left _ (List.mem_of_getElem? (i := 196) rfl)))) rfl
set_option maxRecDepth 20000 in
theorem q594 : Cond.selects RX5 yX5_odds yX5_odds ∈ gW := gW_in (List.mem_append_right _ (List.mem_append_right _ (List.mem_append_left _ (List.mem_of_getElem? (i := 197) rfl)))) rfl
set_option maxRecDepth 20000 in
theorem q595 : Cond.code yX5_odds cX5_odds 5 (some .long) ∈ gW := gW_in (List.mem_append_right _ (List.mem_append_right _ (List.mem_append_left _ (List.mem_of_getElem? (i := 198) rfl)))) rfl
set_option maxRecDepth 20000 in
theorem q596 : Cond.constantLong RX5 246 (-9223372036854775808) ∈ gW := gW_in (List.mem_append_right _ (List.mem_append_right _ (List.mem_append_left _ (List.mem_of_getElem? (i := 199) rfl)))) rfl
set_option maxRecDepth 20000 in
theorem q597 : Cond.methodLink RX5 248 yX5_commonDivisor ∈ gW := gW_in (List.mem_append_right _ (List.mem_append_right _ (List.mem_append_left _ (List.mem_of_getElem? (i := 200) rfl)))) rfl
set_option maxRecDepth 20000 in
theorem q598 : Cond.static yX5_commonDivisor ∈ gW := gW_in (List.mem_append_right _ (List.mem_append_right _ (List.mem_append_left _ (List.mem_of_getElem? (i := 201) rfl)))) rfl
set_option maxRecDepth 20000 in
theorem q599 : Cond.code yX5_commonDivisor cX5_commonDivisor 3 (some .int) ∈ gW := gW_in (List.mem_append_right _ (List.mem_append_right _ (List.mem_append_left _ (List.mem_of_getElem? (i := 202) rfl)))) rfl
set_option maxRecDepth 20000 in
theorem q600 : Cond.methodLink RL 95 yX6_odds ∈ gW := gW_in (List.mem_append_right _ (List.mem_append_right _ (List.mem_append_right _ (List.mem_append_right _ (List.mem_of_getElem? (i := 94) rfl))))) rfl
set_option maxRecDepth 20000 in
theorem q601 : Cond.instanceMethod yX6_odds ∈ gW := gW_in (List.mem_append_right _ (List.mem_append_right _ (List.mem_append_right _ (List.mem_append_right _ (List.mem_of_getElem? (i := 95) rfl))))) rfl
set_option maxRecDepth 20000 in
theorem q602 : Cond.selects RX6 yX6_odds yX6_odds ∈ gW := gW_in (List.mem_append_right _ (List.mem_append_right _ (List.mem_append_right _ (List.mem_append_right _ (List.mem_of_getElem? (i := 96) rfl))))) rfl
set_option maxRecDepth 20000 in
theorem q603 : Cond.code yX6_odds cX6_odds 5 (some .long) ∈ gW := gW_in (List.mem_append_right _ (List.mem_append_right _ (List.mem_append_right _ (List.mem_append_right _ (List.mem_of_getElem? (i := 97) rfl))))) rfl
set_option maxRecDepth 20000 in
theorem q604 : Cond.constantLong RX6 69 (-9223372036854775808) ∈ gW := gW_in (List.mem_append_right _ (List.mem_append_right _ (List.mem_append_right _ (List.mem_append_right _ (List.mem_of_getElem? (i := 98) rfl))))) rfl
set_option maxRecDepth 20000 in
theorem q605 : Cond.methodLink RX6 192 yX6_inLeastTerms ∈ gW := gW_in (List.mem_append_right _ (List.mem_append_right _ (List.mem_append_right _ (List.mem_append_right _ (List.mem_of_getElem? (i := 99) rfl))))) rfl
set_option maxRecDepth 20000 in
theorem q606 : Cond.static yX6_inLeastTerms ∈ gW := gW_in (List.mem_append_right _ (List.mem_append_right _ (List.mem_append_right _ (List.mem_append_right _ (List.mem_of_getElem? (i := 100) rfl))))) rfl
set_option maxRecDepth 20000 in
theorem q607 : Cond.code yX6_inLeastTerms cX6_inLeastTerms 11 (some .long) ∈ gW := gW_in (List.mem_append_right _ (List.mem_append_right _ (List.mem_append_right _ (List.mem_append_right _ (List.mem_of_getElem? (i := 101) rfl))))) rfl
set_option maxRecDepth 20000 in
theorem q608 : Cond.methodLink RL 96 yX5_sheet ∈ gW := gW_in (List.mem_append_right _ (List.mem_append_right _ (List.mem_append_left _ (List.mem_of_getElem? (i := 203) rfl)))) rfl
set_option maxRecDepth 20000 in
theorem q609 : Cond.instanceMethod yX5_sheet ∈ gW := gW_in (List.mem_append_right _ (List.mem_append_right _ (List.mem_append_left _ (List.mem_of_getElem? (i := 204) rfl)))) rfl
set_option maxRecDepth 20000 in
theorem q610 : Cond.selects RX5 yX5_sheet yX5_sheet ∈ gW := gW_in (List.mem_append_right _ (List.mem_append_right _ (List.mem_append_left _ (List.mem_of_getElem? (i := 205) rfl)))) rfl
set_option maxRecDepth 20000 in
theorem q611 : Cond.code yX5_sheet cX5_sheet 4 (some .int) ∈ gW := gW_in (List.mem_append_right _ (List.mem_append_right _ (List.mem_append_left _ (List.mem_of_getElem? (i := 206) rfl)))) rfl
set_option maxRecDepth 20000 in
theorem q612 : Cond.methodLink RX5 251 yX2_renew ∈ gW := gW_in (List.mem_append_right _ (List.mem_append_right _ (List.mem_append_left _ (List.mem_of_getElem? (i := 207) rfl)))) rfl
set_option maxRecDepth 20000 in
theorem q613 : Cond.instanceMethod yX2_renew ∈ gW := gW_in (List.mem_append_right _ (List.mem_append_right _ (List.mem_append_left _ (List.mem_of_getElem? (i := 208) rfl)))) rfl
set_option maxRecDepth 20000 in
theorem q614 : Cond.selects RX2 yX2_renew yX2_renew ∈ gW := gW_in (List.mem_append_right _ (List.mem_append_right _ (List.mem_append_left _ (List.mem_of_getElem? (i := 209) rfl)))) rfl
set_option maxRecDepth 20000 in
theorem q615 : Cond.code yX2_renew cX2_renew 3 none ∈ gW := gW_in (List.mem_append_right _ (List.mem_append_right _ (List.mem_append_left _ (List.mem_of_getElem? (i := 210) rfl)))) rfl
set_option maxRecDepth 20000 in
theorem q616 : Cond.methodLink RX2 19 Lib.Math.min.name ∈ gW := gW_in (List.mem_append_right _ (List.mem_append_right _ (List.mem_append_left _ (List.mem_of_getElem? (i := 211) rfl)))) rfl
set_option maxRecDepth 20000 in
theorem q617 : Cond.methodLink RX2 25 Lib.Math.max.name ∈ gW := gW_in (List.mem_append_right _ (List.mem_append_right _ (List.mem_append_left _ (List.mem_of_getElem? (i := 212) rfl)))) rfl
set_option maxRecDepth 20000 in
theorem q618 : Cond.methodLink RX2 31 yJ7_fill_53178 ∈ gW := gW_in (List.mem_append_right _ (List.mem_append_right _ (List.mem_append_left _ (List.mem_of_getElem? (i := 213) rfl)))) rfl
set_option maxRecDepth 20000 in
theorem q619 : Cond.static yJ7_fill_53178 ∈ gW := gW_in (List.mem_append_right _ (List.mem_append_right _ (List.mem_append_left _ (List.mem_of_getElem? (i := 214) rfl)))) rfl
set_option maxRecDepth 20000 in
theorem q620 : Cond.code yJ7_fill_53178 cJ7_fill_53178 4 none ∈ gW := gW_in (List.mem_append_right _ (List.mem_append_right _ (List.mem_append_left _ (List.mem_of_getElem? (i := 215) rfl)))) rfl
set_option maxRecDepth 20000 in
theorem q621 : Cond.methodLink RL 99 yX6_sheet ∈ gW := gW_in (List.mem_append_right _ (List.mem_append_right _ (List.mem_append_right _ (List.mem_append_right _ (List.mem_of_getElem? (i := 102) rfl))))) rfl
set_option maxRecDepth 20000 in
theorem q622 : Cond.instanceMethod yX6_sheet ∈ gW := gW_in (List.mem_append_right _ (List.mem_append_right _ (List.mem_append_right _ (List.mem_append_right _ (List.mem_of_getElem? (i := 103) rfl))))) rfl
set_option maxRecDepth 20000 in
theorem q623 : Cond.selects RX6 yX6_sheet yX6_sheet ∈ gW := gW_in (List.mem_append_right _ (List.mem_append_right _ (List.mem_append_right _ (List.mem_append_right _ (List.mem_of_getElem? (i := 104) rfl))))) rfl
set_option maxRecDepth 20000 in
theorem q624 : Cond.code yX6_sheet cX6_sheet 5 (some .int) ∈ gW := gW_in (List.mem_append_right _ (List.mem_append_right _ (List.mem_append_right _ (List.mem_append_right _ (List.mem_of_getElem? (i := 105) rfl))))) rfl
set_option maxRecDepth 20000 in
theorem q625 : Cond.methodLink RL 100 yX5_lose ∈ gW := gW_in (List.mem_append_right _ (List.mem_append_right _ (List.mem_append_left _ (List.mem_of_getElem? (i := 216) rfl)))) rfl
set_option maxRecDepth 20000 in
theorem q626 : Cond.instanceMethod yX5_lose ∈ gW := gW_in (List.mem_append_right _ (List.mem_append_right _ (List.mem_append_left _ (List.mem_of_getElem? (i := 217) rfl)))) rfl
set_option maxRecDepth 20000 in
theorem q627 : Cond.selects RX5 yX5_lose yX5_lose ∈ gW := gW_in (List.mem_append_right _ (List.mem_append_right _ (List.mem_append_left _ (List.mem_of_getElem? (i := 218) rfl)))) rfl
set_option maxRecDepth 20000 in
theorem q628 : Cond.code yX5_lose cX5_lose 2 (some .int) ∈ gW := gW_in (List.mem_append_right _ (List.mem_append_right _ (List.mem_append_left _ (List.mem_of_getElem? (i := 219) rfl)))) rfl
set_option maxRecDepth 20000 in
theorem q629 : Cond.methodLink RX5 255 yX2_hasNothing ∈ gW := gW_in (List.mem_append_right _ (List.mem_append_right _ (List.mem_append_left _ (List.mem_of_getElem? (i := 220) rfl)))) rfl
set_option maxRecDepth 20000 in
theorem q630 : Cond.methodLink RX5 258 yX2_clear ∈ gW := gW_in (List.mem_append_right _ (List.mem_append_right _ (List.mem_append_left _ (List.mem_of_getElem? (i := 221) rfl)))) rfl
set_option maxRecDepth 20000 in
theorem q631 : Cond.instanceMethod yX2_clear ∈ gW := gW_in (List.mem_append_right _ (List.mem_append_right _ (List.mem_append_left _ (List.mem_of_getElem? (i := 222) rfl)))) rfl
set_option maxRecDepth 20000 in
theorem q632 : Cond.selects RX2 yX2_clear yX2_clear ∈ gW := gW_in (List.mem_append_right _ (List.mem_append_right _ (List.mem_append_left _ (List.mem_of_getElem? (i := 223) rfl)))) rfl
set_option maxRecDepth 20000 in
theorem q633 : Cond.code yX2_clear cX2_clear 1 none ∈ gW := gW_in (List.mem_append_right _ (List.mem_append_right _ (List.mem_append_left _ (List.mem_of_getElem? (i := 224) rfl)))) rfl
set_option maxRecDepth 20000 in
theorem q634 : Cond.methodLink RL 103 yX6_lose ∈ gW := gW_in (List.mem_append_right _ (List.mem_append_right _ (List.mem_append_right _ (List.mem_append_right _ (List.mem_of_getElem? (i := 106) rfl))))) rfl
set_option maxRecDepth 20000 in
theorem q635 : Cond.instanceMethod yX6_lose ∈ gW := gW_in (List.mem_append_right _ (List.mem_append_right _ (List.mem_append_right _ (List.mem_append_right _ (List.mem_of_getElem? (i := 107) rfl))))) rfl
set_option maxRecDepth 20000 in
theorem q636 : Cond.selects RX6 yX6_lose yX6_lose ∈ gW := gW_in (List.mem_append_right _ (List.mem_append_right _ (List.mem_append_right _ (List.mem_append_right _ (List.mem_of_getElem? (i := 108) rfl))))) rfl
set_option maxRecDepth 20000 in
theorem q637 : Cond.code yX6_lose cX6_lose 3 (some .int) ∈ gW := gW_in (List.mem_append_right _ (List.mem_append_right _ (List.mem_append_right _ (List.mem_append_right _ (List.mem_of_getElem? (i := 109) rfl))))) rfl
set_option maxRecDepth 20000 in
theorem q638 : Cond.methodLink RL 104 yX5_put ∈ gW := gW_in (List.mem_append_right _ (List.mem_append_right _ (List.mem_append_left _ (List.mem_of_getElem? (i := 225) rfl)))) rfl
set_option maxRecDepth 20000 in
theorem q639 : Cond.instanceMethod yX5_put ∈ gW := gW_in (List.mem_append_right _ (List.mem_append_right _ (List.mem_append_left _ (List.mem_of_getElem? (i := 226) rfl)))) rfl
set_option maxRecDepth 20000 in
theorem q640 : Cond.selects RX5 yX5_put yX5_put ∈ gW := gW_in (List.mem_append_right _ (List.mem_append_right _ (List.mem_append_left _ (List.mem_of_getElem? (i := 227) rfl)))) rfl
set_option maxRecDepth 20000 in
theorem q641 : Cond.code yX5_put cX5_put 4 (some .int) ∈ gW := gW_in (List.mem_append_right _ (List.mem_append_right _ (List.mem_append_left _ (List.mem_of_getElem? (i := 228) rfl)))) rfl
set_option maxRecDepth 20000 in
theorem q642 : Cond.methodLink RX5 261 yX2_hasCells ∈ gW := gW_in (List.mem_append_right _ (List.mem_append_right _ (List.mem_append_left _ (List.mem_of_getElem? (i := 229) rfl)))) rfl
set_option maxRecDepth 20000 in
theorem q643 : Cond.methodLink RX5 264 yX2_write ∈ gW := gW_in (List.mem_append_right _ (List.mem_append_right _ (List.mem_append_left _ (List.mem_of_getElem? (i := 230) rfl)))) rfl
set_option maxRecDepth 20000 in
theorem q644 : Cond.instanceMethod yX2_write ∈ gW := gW_in (List.mem_append_right _ (List.mem_append_right _ (List.mem_append_left _ (List.mem_of_getElem? (i := 231) rfl)))) rfl
set_option maxRecDepth 20000 in
theorem q645 : Cond.selects RX2 yX2_write yX2_write ∈ gW := gW_in (List.mem_append_right _ (List.mem_append_right _ (List.mem_append_left _ (List.mem_of_getElem? (i := 232) rfl)))) rfl
set_option maxRecDepth 20000 in
theorem q646 : Cond.code yX2_write cX2_write 3 none ∈ gW := gW_in (List.mem_append_right _ (List.mem_append_right _ (List.mem_append_left _ (List.mem_of_getElem? (i := 233) rfl)))) rfl
set_option maxRecDepth 20000 in
theorem q647 : Cond.methodLink RX2 37 yX2_cut ∈ gW := gW_in (List.mem_append_right _ (List.mem_append_right _ (List.mem_append_left _ (List.mem_of_getElem? (i := 234) rfl)))) rfl
set_option maxRecDepth 20000 in
theorem q648 : Cond.instanceMethod yX2_cut ∈ gW := gW_in (List.mem_append_right _ (List.mem_append_right _ (List.mem_append_left _ (List.mem_of_getElem? (i := 236) rfl)))) rfl
set_option maxRecDepth 20000 in
theorem q649 : Cond.selects RX2 yX2_cut yX2_cut ∈ gW := gW_in (List.mem_append_left _ (List.mem_of_getElem? (i := 16) rfl)) rfl
set_option maxRecDepth 20000 in
theorem q650 : Cond.code yX2_cut cX2_cut 2 (some .int) ∈ gW := gW_in (List.mem_append_right _ (List.mem_append_right _ (List.mem_append_left _ (List.mem_of_getElem? (i := 237) rfl)))) rfl
set_option maxRecDepth 20000 in
theorem q651 : Cond.methodLink RL 107 yX6_put ∈ gW := gW_in (List.mem_append_right _ (List.mem_append_right _ (List.mem_append_right _ (List.mem_append_right _ (List.mem_of_getElem? (i := 110) rfl))))) rfl
set_option maxRecDepth 20000 in
theorem q652 : Cond.instanceMethod yX6_put ∈ gW := gW_in (List.mem_append_right _ (List.mem_append_right _ (List.mem_append_right _ (List.mem_append_right _ (List.mem_of_getElem? (i := 111) rfl))))) rfl
set_option maxRecDepth 20000 in
theorem q653 : Cond.selects RX6 yX6_put yX6_put ∈ gW := gW_in (List.mem_append_right _ (List.mem_append_right _ (List.mem_append_right _ (List.mem_append_right _ (List.mem_of_getElem? (i := 112) rfl))))) rfl
set_option maxRecDepth 20000 in
theorem q654 : Cond.code yX6_put cX6_put 4 (some .int) ∈ gW := gW_in (List.mem_append_right _ (List.mem_append_right _ (List.mem_append_right _ (List.mem_append_right _ (List.mem_of_getElem? (i := 113) rfl))))) rfl
set_option maxRecDepth 20000 in
theorem q655 : Cond.methodLink RL 108 yX5_cell ∈ gW := gW_in (List.mem_append_right _ (List.mem_append_right _ (List.mem_append_left _ (List.mem_of_getElem? (i := 238) rfl)))) rfl
set_option maxRecDepth 20000 in
theorem q656 : Cond.instanceMethod yX5_cell ∈ gW := gW_in (List.mem_append_right _ (List.mem_append_right _ (List.mem_append_left _ (List.mem_of_getElem? (i := 239) rfl)))) rfl
set_option maxRecDepth 20000 in
theorem q657 : Cond.selects RX5 yX5_cell yX5_cell ∈ gW := gW_in (List.mem_append_right _ (List.mem_append_right _ (List.mem_append_right _ (List.mem_append_left _ (List.mem_of_getElem? (i := 0) rfl))))) rfl
set_option maxRecDepth 20000 in
theorem q658 : Cond.code yX5_cell cX5_cell 4 (some .long) ∈ gW := gW_in (List.mem_append_right _ (List.mem_append_right _ (List.mem_append_right _ (List.mem_append_left _ (List.mem_of_getElem? (i := 1) rfl))))) rfl
set_option maxRecDepth 20000 in
theorem q659 : Cond.methodLink RL 112 yX6_cell ∈ gW := gW_in (List.mem_append_right _ (List.mem_append_right _ (List.mem_append_right _ (List.mem_append_right _ (List.mem_of_getElem? (i := 114) rfl))))) rfl
set_option maxRecDepth 20000 in
theorem q660 : Cond.instanceMethod yX6_cell ∈ gW := gW_in (List.mem_append_right _ (List.mem_append_right _ (List.mem_append_right _ (List.mem_append_right _ (List.mem_of_getElem? (i := 115) rfl))))) rfl
set_option maxRecDepth 20000 in
theorem q661 : Cond.selects RX6 yX6_cell yX6_cell ∈ gW := gW_in (List.mem_append_right _ (List.mem_append_right _ (List.mem_append_right _ (List.mem_append_right _ (List.mem_of_getElem? (i := 116) rfl))))) rfl
set_option maxRecDepth 20000 in
theorem q662 : Cond.code yX6_cell cX6_cell 4 (some .long) ∈ gW := gW_in (List.mem_append_right _ (List.mem_append_right _ (List.mem_append_right _ (List.mem_append_right _ (List.mem_of_getElem? (i := 117) rfl))))) rfl
set_option maxRecDepth 20000 in
theorem q663 : Cond.methodLink RX6 196 yX6_lost ∈ gW := gW_in (List.mem_append_right _ (List.mem_append_right _ (List.mem_append_right _ (List.mem_append_right _ (List.mem_of_getElem? (i := 118) rfl))))) rfl
set_option maxRecDepth 20000 in
theorem q664 : Cond.instanceMethod yX6_lost ∈ gW := gW_in (List.mem_append_right _ (List.mem_append_right _ (List.mem_append_right _ (List.mem_append_right _ (List.mem_of_getElem? (i := 120) rfl))))) rfl
set_option maxRecDepth 20000 in
theorem q665 : Cond.selects RX6 yX6_lost yX6_lost ∈ gW := gW_in (List.mem_append_left _ (List.mem_of_getElem? (i := 47) rfl)) rfl
set_option maxRecDepth 20000 in
theorem q666 : Cond.code yX6_lost cX6_lost 2 (some .long) ∈ gW := gW_in (List.mem_append_right _ (List.mem_append_right _ (List.mem_append_right _ (List.mem_append_right _ (List.mem_of_getElem? (i := 121) rfl))))) rfl
set_option maxRecDepth 20000 in
theorem q667 : Cond.methodLink RL 113 yX5_copy ∈ gW := gW_in (List.mem_append_right _ (List.mem_append_right _ (List.mem_append_right _ (List.mem_append_left _ (List.mem_of_getElem? (i := 2) rfl))))) rfl
set_option maxRecDepth 20000 in
theorem q668 : Cond.instanceMethod yX5_copy ∈ gW := gW_in (List.mem_append_right _ (List.mem_append_right _ (List.mem_append_right _ (List.mem_append_left _ (List.mem_of_getElem? (i := 3) rfl))))) rfl
set_option maxRecDepth 20000 in
theorem q669 : Cond.selects RX5 yX5_copy yX5_copy ∈ gW := gW_in (List.mem_append_right _ (List.mem_append_right _ (List.mem_append_right _ (List.mem_append_left _ (List.mem_of_getElem? (i := 4) rfl))))) rfl
set_option maxRecDepth 20000 in
theorem q670 : Cond.code yX5_copy cX5_copy 6 (some .int) ∈ gW := gW_in (List.mem_append_right _ (List.mem_append_right _ (List.mem_append_right _ (List.mem_append_left _ (List.mem_of_getElem? (i := 5) rfl))))) rfl
set_option maxRecDepth 20000 in
theorem q671 : Cond.methodLink RX5 267 yX2_isLike ∈ gW := gW_in (List.mem_append_right _ (List.mem_append_right _ (List.mem_append_right _ (List.mem_append_left _ (List.mem_of_getElem? (i := 6) rfl))))) rfl
set_option maxRecDepth 20000 in
theorem q672 : Cond.instanceMethod yX2_isLike ∈ gW := gW_in (List.mem_append_right _ (List.mem_append_right _ (List.mem_append_right _ (List.mem_append_left _ (List.mem_of_getElem? (i := 7) rfl))))) rfl
set_option maxRecDepth 20000 in
theorem q673 : Cond.selects RX2 yX2_isLike yX2_isLike ∈ gW := gW_in (List.mem_append_right _ (List.mem_append_right _ (List.mem_append_right _ (List.mem_append_left _ (List.mem_of_getElem? (i := 8) rfl))))) rfl
set_option maxRecDepth 20000 in
theorem q674 : Cond.code yX2_isLike cX2_isLike 2 (some .boolean) ∈ gW := gW_in (List.mem_append_right _ (List.mem_append_right _ (List.mem_append_right _ (List.mem_append_left _ (List.mem_of_getElem? (i := 9) rfl))))) rfl
set_option maxRecDepth 20000 in
theorem q675 : Cond.methodLink RX5 271 yX2_send ∈ gW := gW_in (List.mem_append_right _ (List.mem_append_right _ (List.mem_append_right _ (List.mem_append_left _ (List.mem_of_getElem? (i := 10) rfl))))) rfl
set_option maxRecDepth 20000 in
theorem q676 : Cond.instanceMethod yX2_send ∈ gW := gW_in (List.mem_append_right _ (List.mem_append_right _ (List.mem_append_right _ (List.mem_append_left _ (List.mem_of_getElem? (i := 11) rfl))))) rfl
set_option maxRecDepth 20000 in
theorem q677 : Cond.selects RX2 yX2_send yX2_send ∈ gW := gW_in (List.mem_append_right _ (List.mem_append_right _ (List.mem_append_right _ (List.mem_append_left _ (List.mem_of_getElem? (i := 12) rfl))))) rfl
set_option maxRecDepth 20000 in
theorem q678 : Cond.code yX2_send cX2_send 5 none ∈ gW := gW_in (List.mem_append_right _ (List.mem_append_right _ (List.mem_append_right _ (List.mem_append_left _ (List.mem_of_getElem? (i := 13) rfl))))) rfl
set_option maxRecDepth 20000 in
theorem q679 : Cond.methodLink RX2 52 arraycopyName ∈ gW := gW_in (List.mem_append_right _ (List.mem_append_right _ (List.mem_append_right _ (List.mem_append_left _ (List.mem_of_getElem? (i := 14) rfl))))) rfl
set_option maxRecDepth 20000 in
theorem q680 : Cond.native arraycopyName ∈ gW := gW_in (List.mem_append_right _ (List.mem_append_right _ (List.mem_append_right _ (List.mem_append_left _ (List.mem_of_getElem? (i := 16) rfl))))) rfl
set_option maxRecDepth 20000 in
theorem q681 : Cond.static arraycopyName ∈ gW := gW_in (List.mem_append_right _ (List.mem_append_right _ (List.mem_append_right _ (List.mem_append_left _ (List.mem_of_getElem? (i := 15) rfl))))) rfl
set_option maxRecDepth 20000 in
theorem q682 : Cond.initialized "java/lang/System" ∈ gW := gW_in (List.mem_append_right _ (List.mem_append_left _ (List.mem_of_getElem? (i := 11) rfl))) rfl
set_option maxRecDepth 20000 in
theorem q683 : Cond.methodLink RL 116 yX6_copy ∈ gW := gW_in (List.mem_append_right _ (List.mem_append_right _ (List.mem_append_right _ (List.mem_append_right _ (List.mem_of_getElem? (i := 122) rfl))))) rfl
set_option maxRecDepth 20000 in
theorem q684 : Cond.instanceMethod yX6_copy ∈ gW := gW_in (List.mem_append_right _ (List.mem_append_right _ (List.mem_append_right _ (List.mem_append_right _ (List.mem_of_getElem? (i := 123) rfl))))) rfl
set_option maxRecDepth 20000 in
theorem q685 : Cond.selects RX6 yX6_copy yX6_copy ∈ gW := gW_in (List.mem_append_right _ (List.mem_append_right _ (List.mem_append_right _ (List.mem_append_right _ (List.mem_of_getElem? (i := 124) rfl))))) rfl
set_option maxRecDepth 20000 in
theorem q686 : Cond.code yX6_copy cX6_copy 10 (some .int) ∈ gW := gW_in (List.mem_append_right _ (List.mem_append_right _ (List.mem_append_right _ (List.mem_append_right _ (List.mem_of_getElem? (i := 125) rfl))))) rfl
set_option maxRecDepth 20000 in
theorem q687 : Cond.methodLink RL 117 yX5_tell ∈ gW := gW_in (List.mem_append_right _ (List.mem_append_right _ (List.mem_append_right _ (List.mem_append_left _ (List.mem_of_getElem? (i := 17) rfl))))) rfl
set_option maxRecDepth 20000 in
theorem q688 : Cond.instanceMethod yX5_tell ∈ gW := gW_in (List.mem_append_right _ (List.mem_append_right _ (List.mem_append_right _ (List.mem_append_left _ (List.mem_of_getElem? (i := 18) rfl))))) rfl
set_option maxRecDepth 20000 in
theorem q689 : Cond.selects RX5 yX5_tell yX5_tell ∈ gW := gW_in (List.mem_append_right _ (List.mem_append_right _ (List.mem_append_right _ (List.mem_append_left _ (List.mem_of_getElem? (i := 19) rfl))))) rfl
set_option maxRecDepth 20000 in
theorem q690 : Cond.code yX5_tell cX5_tell 2 (some .int) ∈ gW := gW_in (List.mem_append_right _ (List.mem_append_right _ (List.mem_append_right _ (List.mem_append_left _ (List.mem_of_getElem? (i := 20) rfl))))) rfl
set_option maxRecDepth 20000 in
theorem q691 : Cond.methodLink RX5 275 yX5_tellBrushed ∈ gW := gW_in (List.mem_append_right _ (List.mem_append_right _ (List.mem_append_right _ (List.mem_append_left _ (List.mem_of_getElem? (i := 21) rfl))))) rfl
set_option maxRecDepth 20000 in
theorem q692 : Cond.instanceMethod yX5_tellBrushed ∈ gW := gW_in (List.mem_append_right _ (List.mem_append_right _ (List.mem_append_right _ (List.mem_append_left _ (List.mem_of_getElem? (i := 23) rfl))))) rfl
set_option maxRecDepth 20000 in
theorem q693 : Cond.selects RX5 yX5_tellBrushed yX5_tellBrushed ∈ gW := gW_in (List.mem_append_left _ (List.mem_of_getElem? (i := 17) rfl)) rfl
set_option maxRecDepth 20000 in
theorem q694 : Cond.code yX5_tellBrushed cX5_tellBrushed 2 (some .int) ∈ gW := gW_in (List.mem_append_right _ (List.mem_append_right _ (List.mem_append_right _ (List.mem_append_left _ (List.mem_of_getElem? (i := 24) rfl))))) rfl
set_option maxRecDepth 20000 in
theorem q695 : Cond.methodLink RX5 285 yX5_leave ∈ gW := gW_in (List.mem_append_right _ (List.mem_append_right _ (List.mem_append_right _ (List.mem_append_left _ (List.mem_of_getElem? (i := 25) rfl))))) rfl
set_option maxRecDepth 20000 in
theorem q696 : Cond.instanceMethod yX5_leave ∈ gW := gW_in (List.mem_append_right _ (List.mem_append_right _ (List.mem_append_right _ (List.mem_append_left _ (List.mem_of_getElem? (i := 27) rfl))))) rfl
set_option maxRecDepth 20000 in
theorem q697 : Cond.selects RX5 yX5_leave yX5_leave ∈ gW := gW_in (List.mem_append_left _ (List.mem_of_getElem? (i := 18) rfl)) rfl
set_option maxRecDepth 20000 in
theorem q698 : Cond.code yX5_leave cX5_leave 2 none ∈ gW := gW_in (List.mem_append_right _ (List.mem_append_right _ (List.mem_append_right _ (List.mem_append_left _ (List.mem_of_getElem? (i := 28) rfl))))) rfl
set_option maxRecDepth 20000 in
theorem q699 : Cond.fieldLink RX5 289 "NestedDolls" "traced" "I" ∈ gW := gW_in (List.mem_append_right _ (List.mem_append_left _ (List.mem_of_getElem? (i := 101) rfl))) rfl
set_option maxRecDepth 20000 in
theorem q700 : Cond.methodLink RX5 282 yX5_tellPlain ∈ gW := gW_in (List.mem_append_right _ (List.mem_append_right _ (List.mem_append_right _ (List.mem_append_left _ (List.mem_of_getElem? (i := 29) rfl))))) rfl
set_option maxRecDepth 20000 in
theorem q701 : Cond.instanceMethod yX5_tellPlain ∈ gW := gW_in (List.mem_append_right _ (List.mem_append_right _ (List.mem_append_right _ (List.mem_append_left _ (List.mem_of_getElem? (i := 31) rfl))))) rfl
set_option maxRecDepth 20000 in
theorem q702 : Cond.selects RX5 yX5_tellPlain yX5_tellPlain ∈ gW := gW_in (List.mem_append_left _ (List.mem_of_getElem? (i := 19) rfl)) rfl
set_option maxRecDepth 20000 in
theorem q703 : Cond.code yX5_tellPlain cX5_tellPlain 2 (some .int) ∈ gW := gW_in (List.mem_append_right _ (List.mem_append_right _ (List.mem_append_right _ (List.mem_append_left _ (List.mem_of_getElem? (i := 32) rfl))))) rfl
set_option maxRecDepth 20000 in
theorem q704 : Cond.methodLink RX5 279 yX5_tellSwollen ∈ gW := gW_in (List.mem_append_right _ (List.mem_append_right _ (List.mem_append_right _ (List.mem_append_left _ (List.mem_of_getElem? (i := 33) rfl))))) rfl
set_option maxRecDepth 20000 in
theorem q705 : Cond.instanceMethod yX5_tellSwollen ∈ gW := gW_in (List.mem_append_right _ (List.mem_append_right _ (List.mem_append_right _ (List.mem_append_left _ (List.mem_of_getElem? (i := 35) rfl))))) rfl
set_option maxRecDepth 20000 in
theorem q706 : Cond.selects RX5 yX5_tellSwollen yX5_tellSwollen ∈ gW := gW_in (List.mem_append_left _ (List.mem_of_getElem? (i := 20) rfl)) rfl
set_option maxRecDepth 20000 in
theorem q707 : Cond.code yX5_tellSwollen cX5_tellSwollen 3 (some .int) ∈ gW := gW_in (List.mem_append_right _ (List.mem_append_right _ (List.mem_append_right _ (List.mem_append_left _ (List.mem_of_getElem? (i := 36) rfl))))) rfl
set_option maxRecDepth 20000 in
theorem q708 : Cond.methodLink RL 120 yX6_tell ∈ gW := gW_in (List.mem_append_right _ (List.mem_append_right _ (List.mem_append_right _ (List.mem_append_right _ (List.mem_of_getElem? (i := 126) rfl))))) rfl
set_option maxRecDepth 20000 in
theorem q709 : Cond.instanceMethod yX6_tell ∈ gW := gW_in (List.mem_append_right _ (List.mem_append_right _ (List.mem_append_right _ (List.mem_append_right _ (List.mem_of_getElem? (i := 127) rfl))))) rfl
set_option maxRecDepth 20000 in
theorem q710 : Cond.selects RX6 yX6_tell yX6_tell ∈ gW := gW_in (List.mem_append_right _ (List.mem_append_right _ (List.mem_append_right _ (List.mem_append_right _ (List.mem_of_getElem? (i := 128) rfl))))) rfl
set_option maxRecDepth 20000 in
theorem q711 : Cond.code yX6_tell cX6_tell 3 (some .int) ∈ gW := gW_in (List.mem_append_right _ (List.mem_append_right _ (List.mem_append_right _ (List.mem_append_right _ (List.mem_of_getElem? (i := 129) rfl))))) rfl
set_option maxRecDepth 20000 in
theorem q712 : Cond.methodLink RX6 203 yX6_begins ∈ gW := gW_in (List.mem_append_right _ (List.mem_append_right _ (List.mem_append_right _ (List.mem_append_right _ (List.mem_of_getElem? (i := 130) rfl))))) rfl
set_option maxRecDepth 20000 in
theorem q713 : Cond.instanceMethod yX6_begins ∈ gW := gW_in (List.mem_append_right _ (List.mem_append_right _ (List.mem_append_right _ (List.mem_append_right _ (List.mem_of_getElem? (i := 132) rfl))))) rfl
set_option maxRecDepth 20000 in
theorem q714 : Cond.selects RX6 yX6_begins yX6_begins ∈ gW := gW_in (List.mem_append_left _ (List.mem_of_getElem? (i := 48) rfl)) rfl
set_option maxRecDepth 20000 in
theorem q715 : Cond.code yX6_begins cX6_begins 2 none ∈ gW := gW_in (List.mem_append_right _ (List.mem_append_right _ (List.mem_append_right _ (List.mem_append_right _ (List.mem_of_getElem? (i := 133) rfl))))) rfl
set_option maxRecDepth 20000 in
theorem q716 : Cond.fieldLink RX6 200 "NestedDollsModel" "trace" "I" ∈ gW := gW_in (List.mem_append_right _ (List.mem_append_right _ (List.mem_append_right _ (List.mem_append_left _ (List.mem_of_getElem? (i := 65) rfl))))) rfl
set_option maxRecDepth 20000 in
theorem q717 : Cond.methodLink RL 121 yX5_shake ∈ gW := gW_in (List.mem_append_right _ (List.mem_append_right _ (List.mem_append_right _ (List.mem_append_left _ (List.mem_of_getElem? (i := 37) rfl))))) rfl
set_option maxRecDepth 20000 in
theorem q718 : Cond.instanceMethod yX5_shake ∈ gW := gW_in (List.mem_append_right _ (List.mem_append_right _ (List.mem_append_right _ (List.mem_append_left _ (List.mem_of_getElem? (i := 38) rfl))))) rfl
set_option maxRecDepth 20000 in
theorem q719 : Cond.selects RX5 yX5_shake yX5_shake ∈ gW := gW_in (List.mem_append_right _ (List.mem_append_right _ (List.mem_append_right _ (List.mem_append_left _ (List.mem_of_getElem? (i := 39) rfl))))) rfl
set_option maxRecDepth 20000 in
theorem q720 : Cond.code yX5_shake cX5_shake 2 (some .int) ∈ gW := gW_in (List.mem_append_right _ (List.mem_append_right _ (List.mem_append_right _ (List.mem_append_left _ (List.mem_of_getElem? (i := 40) rfl))))) rfl
set_option maxRecDepth 20000 in
theorem q721 : Cond.methodLink RL 124 yX6_shake ∈ gW := gW_in (List.mem_append_right _ (List.mem_append_right _ (List.mem_append_right _ (List.mem_append_right _ (List.mem_of_getElem? (i := 134) rfl))))) rfl
set_option maxRecDepth 20000 in
theorem q722 : Cond.instanceMethod yX6_shake ∈ gW := gW_in (List.mem_append_right _ (List.mem_append_right _ (List.mem_append_right _ (List.mem_append_right _ (List.mem_of_getElem? (i := 135) rfl))))) rfl
set_option maxRecDepth 20000 in
theorem q723 : Cond.selects RX6 yX6_shake yX6_shake ∈ gW := gW_in (List.mem_append_right _ (List.mem_append_right _ (List.mem_append_right _ (List.mem_append_right _ (List.mem_of_getElem? (i := 136) rfl))))) rfl
set_option maxRecDepth 20000 in
theorem q724 : Cond.code yX6_shake cX6_shake 2 (some .int) ∈ gW := gW_in (List.mem_append_right _ (List.mem_append_right _ (List.mem_append_right _ (List.mem_append_right _ (List.mem_of_getElem? (i := 137) rfl))))) rfl
set_option maxRecDepth 20000 in
theorem q725 : Cond.methodLink RL 125 yX5_as ∈ gW := gW_in (List.mem_append_right _ (List.mem_append_right _ (List.mem_append_right _ (List.mem_append_left _ (List.mem_of_getElem? (i := 41) rfl))))) rfl
set_option maxRecDepth 20000 in
theorem q726 : Cond.instanceMethod yX5_as ∈ gW := gW_in (List.mem_append_right _ (List.mem_append_right _ (List.mem_append_right _ (List.mem_append_left _ (List.mem_of_getElem? (i := 42) rfl))))) rfl
set_option maxRecDepth 20000 in
theorem q727 : Cond.selects RX5 yX5_as yX5_as ∈ gW := gW_in (List.mem_append_right _ (List.mem_append_right _ (List.mem_append_right _ (List.mem_append_left _ (List.mem_of_getElem? (i := 43) rfl))))) rfl
set_option maxRecDepth 20000 in
theorem q728 : Cond.code yX5_as cX5_as 3 (some .int) ∈ gW := gW_in (List.mem_append_right _ (List.mem_append_right _ (List.mem_append_right _ (List.mem_append_left _ (List.mem_of_getElem? (i := 44) rfl))))) rfl
set_option maxRecDepth 20000 in
theorem q729 : Cond.methodLink RL 128 yX6_as ∈ gW := gW_in (List.mem_append_right _ (List.mem_append_right _ (List.mem_append_right _ (List.mem_append_right _ (List.mem_of_getElem? (i := 138) rfl))))) rfl
set_option maxRecDepth 20000 in
theorem q730 : Cond.instanceMethod yX6_as ∈ gW := gW_in (List.mem_append_right _ (List.mem_append_right _ (List.mem_append_right _ (List.mem_append_right _ (List.mem_of_getElem? (i := 139) rfl))))) rfl
set_option maxRecDepth 20000 in
theorem q731 : Cond.selects RX6 yX6_as yX6_as ∈ gW := gW_in (List.mem_append_right _ (List.mem_append_right _ (List.mem_append_right _ (List.mem_append_right _ (List.mem_of_getElem? (i := 140) rfl))))) rfl
set_option maxRecDepth 20000 in
theorem q732 : Cond.code yX6_as cX6_as 3 (some .int) ∈ gW := gW_in (List.mem_append_right _ (List.mem_append_right _ (List.mem_append_right _ (List.mem_append_right _ (List.mem_of_getElem? (i := 141) rfl))))) rfl
set_option maxRecDepth 20000 in
theorem q733 : Cond.methodLink RL 129 yX5_trace ∈ gW := gW_in (List.mem_append_right _ (List.mem_append_right _ (List.mem_append_right _ (List.mem_append_left _ (List.mem_of_getElem? (i := 45) rfl))))) rfl
set_option maxRecDepth 20000 in
theorem q734 : Cond.instanceMethod yX5_trace ∈ gW := gW_in (List.mem_append_right _ (List.mem_append_right _ (List.mem_append_right _ (List.mem_append_left _ (List.mem_of_getElem? (i := 46) rfl))))) rfl
set_option maxRecDepth 20000 in
theorem q735 : Cond.selects RX5 yX5_trace yX5_trace ∈ gW := gW_in (List.mem_append_right _ (List.mem_append_right _ (List.mem_append_right _ (List.mem_append_left _ (List.mem_of_getElem? (i := 47) rfl))))) rfl
set_option maxRecDepth 20000 in
theorem q736 : Cond.code yX5_trace cX5_trace 1 (some .int) ∈ gW := gW_in (List.mem_append_right _ (List.mem_append_right _ (List.mem_append_right _ (List.mem_append_left _ (List.mem_of_getElem? (i := 48) rfl))))) rfl
set_option maxRecDepth 20000 in
theorem q737 : Cond.methodLink RL 132 yX6_trace ∈ gW := gW_in (List.mem_append_right _ (List.mem_append_right _ (List.mem_append_right _ (List.mem_append_right _ (List.mem_of_getElem? (i := 142) rfl))))) rfl
set_option maxRecDepth 20000 in
theorem q738 : Cond.instanceMethod yX6_trace ∈ gW := gW_in (List.mem_append_right _ (List.mem_append_right _ (List.mem_append_right _ (List.mem_append_right _ (List.mem_of_getElem? (i := 143) rfl))))) rfl
set_option maxRecDepth 20000 in
theorem q739 : Cond.selects RX6 yX6_trace yX6_trace ∈ gW := gW_in (List.mem_append_right _ (List.mem_append_right _ (List.mem_append_right _ (List.mem_append_right _ (List.mem_of_getElem? (i := 144) rfl))))) rfl
set_option maxRecDepth 20000 in
theorem q740 : Cond.code yX6_trace cX6_trace 1 (some .int) ∈ gW := gW_in (List.mem_append_right _ (List.mem_append_right _ (List.mem_append_right _ (List.mem_append_right _ (List.mem_of_getElem? (i := 145) rfl))))) rfl
set_option maxRecDepth 20000 in
theorem q741 : Cond.methodLink RL 133 yX5_fault ∈ gW := gW_in (List.mem_append_right _ (List.mem_append_right _ (List.mem_append_right _ (List.mem_append_left _ (List.mem_of_getElem? (i := 49) rfl))))) rfl
set_option maxRecDepth 20000 in
theorem q742 : Cond.instanceMethod yX5_fault ∈ gW := gW_in (List.mem_append_right _ (List.mem_append_right _ (List.mem_append_right _ (List.mem_append_left _ (List.mem_of_getElem? (i := 50) rfl))))) rfl
set_option maxRecDepth 20000 in
theorem q743 : Cond.selects RX5 yX5_fault yX5_fault ∈ gW := gW_in (List.mem_append_right _ (List.mem_append_right _ (List.mem_append_right _ (List.mem_append_left _ (List.mem_of_getElem? (i := 51) rfl))))) rfl
set_option maxRecDepth 20000 in
theorem q744 : Cond.code yX5_fault cX5_fault 1 (some .int) ∈ gW := gW_in (List.mem_append_right _ (List.mem_append_right _ (List.mem_append_right _ (List.mem_append_left _ (List.mem_of_getElem? (i := 52) rfl))))) rfl
set_option maxRecDepth 20000 in
theorem q745 : Cond.methodLink RL 136 yX6_fault ∈ gW := gW_in (List.mem_append_right _ (List.mem_append_right _ (List.mem_append_right _ (List.mem_append_right _ (List.mem_of_getElem? (i := 146) rfl))))) rfl
set_option maxRecDepth 20000 in
theorem q746 : Cond.instanceMethod yX6_fault ∈ gW := gW_in (List.mem_append_right _ (List.mem_append_right _ (List.mem_append_right _ (List.mem_append_right _ (List.mem_of_getElem? (i := 147) rfl))))) rfl
set_option maxRecDepth 20000 in
theorem q747 : Cond.selects RX6 yX6_fault yX6_fault ∈ gW := gW_in (List.mem_append_right _ (List.mem_append_right _ (List.mem_append_right _ (List.mem_append_right _ (List.mem_of_getElem? (i := 148) rfl))))) rfl
set_option maxRecDepth 20000 in
theorem q748 : Cond.code yX6_fault cX6_fault 1 (some .int) ∈ gW := gW_in (List.mem_append_right _ (List.mem_append_right _ (List.mem_append_right _ (List.mem_append_right _ (List.mem_of_getElem? (i := 149) rfl))))) rfl
set_option maxRecDepth 20000 in
theorem q749 : Cond.methodLink RL 137 yX5_many ∈ gW := gW_in (List.mem_append_right _ (List.mem_append_right _ (List.mem_append_right _ (List.mem_append_left _ (List.mem_of_getElem? (i := 53) rfl))))) rfl
set_option maxRecDepth 20000 in
theorem q750 : Cond.instanceMethod yX5_many ∈ gW := gW_in (List.mem_append_right _ (List.mem_append_right _ (List.mem_append_right _ (List.mem_append_left _ (List.mem_of_getElem? (i := 54) rfl))))) rfl
set_option maxRecDepth 20000 in
theorem q751 : Cond.selects RX5 yX5_many yX5_many ∈ gW := gW_in (List.mem_append_right _ (List.mem_append_right _ (List.mem_append_right _ (List.mem_append_left _ (List.mem_of_getElem? (i := 55) rfl))))) rfl
set_option maxRecDepth 20000 in
theorem q752 : Cond.code yX5_many cX5_many 2 (some .int) ∈ gW := gW_in (List.mem_append_right _ (List.mem_append_right _ (List.mem_append_right _ (List.mem_append_left _ (List.mem_of_getElem? (i := 56) rfl))))) rfl
set_option maxRecDepth 20000 in
theorem q753 : Cond.methodLink RL 140 yX6_many ∈ gW := gW_in (List.mem_append_right _ (List.mem_append_right _ (List.mem_append_right _ (List.mem_append_right _ (List.mem_of_getElem? (i := 150) rfl))))) rfl
set_option maxRecDepth 20000 in
theorem q754 : Cond.instanceMethod yX6_many ∈ gW := gW_in (List.mem_append_right _ (List.mem_append_right _ (List.mem_append_right _ (List.mem_append_right _ (List.mem_of_getElem? (i := 151) rfl))))) rfl
set_option maxRecDepth 20000 in
theorem q755 : Cond.selects RX6 yX6_many yX6_many ∈ gW := gW_in (List.mem_append_right _ (List.mem_append_right _ (List.mem_append_right _ (List.mem_append_right _ (List.mem_of_getElem? (i := 152) rfl))))) rfl
set_option maxRecDepth 20000 in
theorem q756 : Cond.code yX6_many cX6_many 4 (some .int) ∈ gW := gW_in (List.mem_append_right _ (List.mem_append_right _ (List.mem_append_right _ (List.mem_append_right _ (List.mem_of_getElem? (i := 153) rfl))))) rfl
set_option maxRecDepth 20000 in
theorem q757 : Cond.lays "NestedDolls$Doll" "NestedDolls$Doll" "kind" "I" ∈ gW := gW_in (List.mem_append_right _ (List.mem_append_left _ (List.mem_of_getElem? (i := 69) rfl))) rfl
set_option maxRecDepth 20000 in
theorem q758 : Cond.lays "NestedDolls$Doll" "NestedDolls$Doll" "girth" "I" ∈ gW := gW_in (List.mem_append_right _ (List.mem_append_left _ (List.mem_of_getElem? (i := 71) rfl))) rfl
set_option maxRecDepth 20000 in
theorem q759 : Cond.lays "NestedDolls$Doll" "NestedDolls$Doll" "room" "I" ∈ gW := gW_in (List.mem_append_right _ (List.mem_append_left _ (List.mem_of_getElem? (i := 73) rfl))) rfl
set_option maxRecDepth 20000 in
theorem q760 : Cond.laysFinal "NestedDolls$Search" "NestedDolls$Search" "reached" "[I" ∈ gW := gW_in (List.mem_append_right _ (List.mem_append_left _ (List.mem_of_getElem? (i := 37) rfl))) rfl
set_option maxRecDepth 20000 in
theorem q761 : Cond.laysFinal "NestedDolls$Search" "NestedDolls$Search" "from" "[I" ∈ gW := gW_in (List.mem_append_right _ (List.mem_append_left _ (List.mem_of_getElem? (i := 39) rfl))) rfl
set_option maxRecDepth 20000 in
theorem q762 : Cond.laysFinal "NestedDolls$Search" "NestedDolls$Search" "by" "[I" ∈ gW := gW_in (List.mem_append_right _ (List.mem_append_left _ (List.mem_of_getElem? (i := 41) rfl))) rfl
set_option maxRecDepth 20000 in
theorem q763 : Cond.laysFinal "NestedDolls$Search" "NestedDolls$Search" "seen" "[J" ∈ gW := gW_in (List.mem_append_right _ (List.mem_append_left _ (List.mem_of_getElem? (i := 43) rfl))) rfl
set_option maxRecDepth 20000 in
theorem q764 : Cond.lays "NestedDolls$Search" "NestedDolls$Search" "many" "I" ∈ gW := gW_in (List.mem_append_right _ (List.mem_append_left _ (List.mem_of_getElem? (i := 45) rfl))) rfl
set_option maxRecDepth 20000 in
theorem q765 : Cond.lays "NestedDolls$Search" "NestedDolls$Search" "count" "I" ∈ gW := gW_in (List.mem_append_right _ (List.mem_append_left _ (List.mem_of_getElem? (i := 47) rfl))) rfl
set_option maxRecDepth 20000 in
theorem q766 : Cond.lays "NestedDolls$Search" "NestedDolls$Search" "fitting" "I" ∈ gW := gW_in (List.mem_append_right _ (List.mem_append_left _ (List.mem_of_getElem? (i := 49) rfl))) rfl
set_option maxRecDepth 20000 in
theorem q767 : Cond.laysFinal "NestedDolls$Sheet" "NestedDolls$Sheet" "cells" "[I" ∈ gW := gW_in (List.mem_append_right _ (List.mem_append_left _ (List.mem_of_getElem? (i := 84) rfl))) rfl
set_option maxRecDepth 20000 in
theorem q768 : Cond.lays "NestedDolls$Sheet" "NestedDolls$Sheet" "laneOfRow" "I" ∈ gW := gW_in (List.mem_append_right _ (List.mem_append_left _ (List.mem_of_getElem? (i := 86) rfl))) rfl
set_option maxRecDepth 20000 in
theorem q769 : Cond.lays "NestedDolls$Sheet" "NestedDolls$Sheet" "size" "I" ∈ gW := gW_in (List.mem_append_right _ (List.mem_append_left _ (List.mem_of_getElem? (i := 88) rfl))) rfl
set_option maxRecDepth 20000 in
theorem q770 : Cond.laysFinal "NestedDolls" "NestedDolls" "row" "[LNestedDolls$Doll;" ∈ gW := gW_in (List.mem_append_right _ (List.mem_append_left _ (List.mem_of_getElem? (i := 103) rfl))) rfl
set_option maxRecDepth 20000 in
theorem q771 : Cond.laysFinal "NestedDolls" "NestedDolls" "sheets" "[LNestedDolls$Sheet;" ∈ gW := gW_in (List.mem_append_right _ (List.mem_append_left _ (List.mem_of_getElem? (i := 105) rfl))) rfl
set_option maxRecDepth 20000 in
theorem q772 : Cond.laysFinal "NestedDolls" "NestedDolls" "readFirst" "[I" ∈ gW := gW_in (List.mem_append_right _ (List.mem_append_left _ (List.mem_of_getElem? (i := 107) rfl))) rfl
set_option maxRecDepth 20000 in
theorem q773 : Cond.laysFinal "NestedDolls" "NestedDolls" "readSecond" "[I" ∈ gW := gW_in (List.mem_append_right _ (List.mem_append_left _ (List.mem_of_getElem? (i := 109) rfl))) rfl
set_option maxRecDepth 20000 in
theorem q774 : Cond.laysFinal "NestedDolls" "NestedDolls" "readFits" "[Z" ∈ gW := gW_in (List.mem_append_right _ (List.mem_append_left _ (List.mem_of_getElem? (i := 111) rfl))) rfl
set_option maxRecDepth 20000 in
theorem q775 : Cond.laysFinal "NestedDolls" "NestedDolls" "search" "LNestedDolls$Search;" ∈ gW := gW_in (List.mem_append_right _ (List.mem_append_left _ (List.mem_of_getElem? (i := 113) rfl))) rfl
set_option maxRecDepth 20000 in
theorem q776 : Cond.lays "NestedDolls" "NestedDolls" "count" "I" ∈ gW := gW_in (List.mem_append_right _ (List.mem_append_left _ (List.mem_of_getElem? (i := 115) rfl))) rfl
set_option maxRecDepth 20000 in
theorem q777 : Cond.lays "NestedDolls" "NestedDolls" "stand" "I" ∈ gW := gW_in (List.mem_append_right _ (List.mem_append_left _ (List.mem_of_getElem? (i := 117) rfl))) rfl
set_option maxRecDepth 20000 in
theorem q778 : Cond.lays "NestedDolls" "NestedDolls" "acts" "I" ∈ gW := gW_in (List.mem_append_right _ (List.mem_append_left _ (List.mem_of_getElem? (i := 119) rfl))) rfl
set_option maxRecDepth 20000 in
theorem q779 : Cond.lays "NestedDolls" "NestedDolls" "readings" "I" ∈ gW := gW_in (List.mem_append_right _ (List.mem_append_left _ (List.mem_of_getElem? (i := 121) rfl))) rfl
set_option maxRecDepth 20000 in
theorem q780 : Cond.lays "NestedDolls" "NestedDolls" "traced" "I" ∈ gW := gW_in (List.mem_append_right _ (List.mem_append_left _ (List.mem_of_getElem? (i := 123) rfl))) rfl
set_option maxRecDepth 20000 in
theorem q781 : Cond.lays "NestedDolls" "NestedDolls" "latestFault" "I" ∈ gW := gW_in (List.mem_append_right _ (List.mem_append_left _ (List.mem_of_getElem? (i := 125) rfl))) rfl
set_option maxRecDepth 20000 in
theorem q782 : Cond.lays "NestedDollsModel" "NestedDollsModel" "fault" "I" ∈ gW := gW_in (List.mem_append_right _ (List.mem_append_right _ (List.mem_append_right _ (List.mem_append_left _ (List.mem_of_getElem? (i := 91) rfl))))) rfl
set_option maxRecDepth 20000 in
theorem q783 : Cond.lays "NestedDollsModel" "NestedDollsModel" "trace" "I" ∈ gW := gW_in (List.mem_append_right _ (List.mem_append_right _ (List.mem_append_right _ (List.mem_append_left _ (List.mem_of_getElem? (i := 93) rfl))))) rfl
set_option maxRecDepth 20000 in
theorem q784 : Cond.laysFinal "NestedDollsModel" "NestedDollsModel" "sorts" "[I" ∈ gW := gW_in (List.mem_append_right _ (List.mem_append_right _ (List.mem_append_right _ (List.mem_append_left _ (List.mem_of_getElem? (i := 95) rfl))))) rfl
set_option maxRecDepth 20000 in
theorem q785 : Cond.laysFinal "NestedDollsModel" "NestedDollsModel" "sheetLong" "[I" ∈ gW := gW_in (List.mem_append_right _ (List.mem_append_right _ (List.mem_append_right _ (List.mem_append_left _ (List.mem_of_getElem? (i := 97) rfl))))) rfl
set_option maxRecDepth 20000 in
theorem q786 : Cond.laysFinal "NestedDollsModel" "NestedDollsModel" "cells" "[I" ∈ gW := gW_in (List.mem_append_right _ (List.mem_append_right _ (List.mem_append_right _ (List.mem_append_left _ (List.mem_of_getElem? (i := 99) rfl))))) rfl
set_option maxRecDepth 20000 in
theorem q787 : Cond.lays "NestedDollsModel" "NestedDollsModel" "dolls" "I" ∈ gW := gW_in (List.mem_append_right _ (List.mem_append_right _ (List.mem_append_right _ (List.mem_append_left _ (List.mem_of_getElem? (i := 101) rfl))))) rfl
set_option maxRecDepth 20000 in
theorem q788 : Cond.lays "NestedDollsModel" "NestedDollsModel" "done" "I" ∈ gW := gW_in (List.mem_append_right _ (List.mem_append_right _ (List.mem_append_right _ (List.mem_append_left _ (List.mem_of_getElem? (i := 103) rfl))))) rfl
set_option maxRecDepth 20000 in
theorem q789 : Cond.laysFinal "NestedDollsModel" "NestedDollsModel" "kind" "[I" ∈ gW := gW_in (List.mem_append_right _ (List.mem_append_right _ (List.mem_append_right _ (List.mem_append_left _ (List.mem_of_getElem? (i := 105) rfl))))) rfl
set_option maxRecDepth 20000 in
theorem q790 : Cond.laysFinal "NestedDollsModel" "NestedDollsModel" "girth" "[I" ∈ gW := gW_in (List.mem_append_right _ (List.mem_append_right _ (List.mem_append_right _ (List.mem_append_left _ (List.mem_of_getElem? (i := 107) rfl))))) rfl
set_option maxRecDepth 20000 in
theorem q791 : Cond.laysFinal "NestedDollsModel" "NestedDollsModel" "room" "[I" ∈ gW := gW_in (List.mem_append_right _ (List.mem_append_right _ (List.mem_append_right _ (List.mem_append_left _ (List.mem_of_getElem? (i := 109) rfl))))) rfl
set_option maxRecDepth 20000 in
theorem q792 : Cond.laysFinal "NestedDollsModel" "NestedDollsModel" "where" "[I" ∈ gW := gW_in (List.mem_append_right _ (List.mem_append_right _ (List.mem_append_right _ (List.mem_append_left _ (List.mem_of_getElem? (i := 111) rfl))))) rfl
set_option maxRecDepth 20000 in
theorem q793 : Cond.lays "NestedDollsModel" "NestedDollsModel" "open" "I" ∈ gW := gW_in (List.mem_append_right _ (List.mem_append_right _ (List.mem_append_right _ (List.mem_append_left _ (List.mem_of_getElem? (i := 113) rfl))))) rfl
set_option maxRecDepth 20000 in
theorem q794 : Cond.lays "NestedDollsModel" "NestedDollsModel" "at" "I" ∈ gW := gW_in (List.mem_append_right _ (List.mem_append_right _ (List.mem_append_right _ (List.mem_append_left _ (List.mem_of_getElem? (i := 115) rfl))))) rfl
set_option maxRecDepth 20000 in
theorem q795 : Cond.lays "NestedDollsModel" "NestedDollsModel" "readDolls" "I" ∈ gW := gW_in (List.mem_append_right _ (List.mem_append_right _ (List.mem_append_right _ (List.mem_append_left _ (List.mem_of_getElem? (i := 117) rfl))))) rfl
set_option maxRecDepth 20000 in
theorem q796 : Cond.laysFinal "NestedDollsModel" "NestedDollsModel" "read" "[I" ∈ gW := gW_in (List.mem_append_right _ (List.mem_append_right _ (List.mem_append_right _ (List.mem_append_left _ (List.mem_of_getElem? (i := 119) rfl))))) rfl
set_option maxRecDepth 20000 in
theorem q797 : Cond.laysFinal "NestedDollsModel" "NestedDollsModel" "placeOf" "[I" ∈ gW := gW_in (List.mem_append_right _ (List.mem_append_right _ (List.mem_append_right _ (List.mem_append_left _ (List.mem_of_getElem? (i := 121) rfl))))) rfl
set_option maxRecDepth 20000 in
theorem q798 : Cond.laysFinal "NestedDollsModel" "NestedDollsModel" "nests" "[I" ∈ gW := gW_in (List.mem_append_right _ (List.mem_append_right _ (List.mem_append_right _ (List.mem_append_left _ (List.mem_of_getElem? (i := 123) rfl))))) rfl
set_option maxRecDepth 20000 in
theorem q799 : Cond.laysFinal "NestedDollsModel" "NestedDollsModel" "leads" "[I" ∈ gW := gW_in (List.mem_append_right _ (List.mem_append_right _ (List.mem_append_right _ (List.mem_append_left _ (List.mem_of_getElem? (i := 125) rfl))))) rfl
set_option maxRecDepth 20000 in
theorem q800 : Cond.laysFinal "NestedDollsModel" "NestedDollsModel" "far" "[I" ∈ gW := gW_in (List.mem_append_right _ (List.mem_append_right _ (List.mem_append_right _ (List.mem_append_left _ (List.mem_of_getElem? (i := 127) rfl))))) rfl
set_option maxRecDepth 20000 in
theorem q801 : Cond.lays "NestedDollsModel" "NestedDollsModel" "come" "I" ∈ gW := gW_in (List.mem_append_right _ (List.mem_append_right _ (List.mem_append_right _ (List.mem_append_left _ (List.mem_of_getElem? (i := 129) rfl))))) rfl
set_option maxRecDepth 20000 in
theorem q802 : Cond.laysFinal "NestedDollsModel" "NestedDollsModel" "tidied" "[I" ∈ gW := gW_in (List.mem_append_right _ (List.mem_append_right _ (List.mem_append_right _ (List.mem_append_left _ (List.mem_of_getElem? (i := 131) rfl))))) rfl
set_option maxRecDepth 20000 in
theorem q803 : Cond.laysFinal "NestedDollsModel" "NestedDollsModel" "bestTidied" "[I" ∈ gW := gW_in (List.mem_append_right _ (List.mem_append_right _ (List.mem_append_right _ (List.mem_append_left _ (List.mem_of_getElem? (i := 133) rfl))))) rfl
set_option maxRecDepth 20000 in
theorem q804 : Cond.laysFinal "NestedDollsModel" "NestedDollsModel" "chains" "[I" ∈ gW := gW_in (List.mem_append_right _ (List.mem_append_right _ (List.mem_append_right _ (List.mem_append_left _ (List.mem_of_getElem? (i := 135) rfl))))) rfl
set_option maxRecDepth 20000 in
theorem q805 : Cond.lays "NestedDollsModel" "NestedDollsModel" "readings" "I" ∈ gW := gW_in (List.mem_append_right _ (List.mem_append_right _ (List.mem_append_right _ (List.mem_append_left _ (List.mem_of_getElem? (i := 137) rfl))))) rfl
set_option maxRecDepth 20000 in
theorem q806 : Cond.laysFinal "NestedDollsModel" "NestedDollsModel" "readOne" "[I" ∈ gW := gW_in (List.mem_append_right _ (List.mem_append_right _ (List.mem_append_right _ (List.mem_append_left _ (List.mem_of_getElem? (i := 139) rfl))))) rfl
set_option maxRecDepth 20000 in
theorem q807 : Cond.laysFinal "NestedDollsModel" "NestedDollsModel" "readOther" "[I" ∈ gW := gW_in (List.mem_append_right _ (List.mem_append_right _ (List.mem_append_right _ (List.mem_append_left _ (List.mem_of_getElem? (i := 141) rfl))))) rfl
set_option maxRecDepth 20000 in
theorem q808 : Cond.laysFinal "NestedDollsModel" "NestedDollsModel" "readFits" "[I" ∈ gW := gW_in (List.mem_append_right _ (List.mem_append_right _ (List.mem_append_right _ (List.mem_append_left _ (List.mem_of_getElem? (i := 143) rfl))))) rfl
theorem gX0 : ∀ w ∈ wsX00, w ∈ gW := by
  intro w h
  obtain ⟨k, hk, rfl⟩ := List.mem_map.mp h
  have hk := List.mem_range.mp hk
  match k, hk with
  | 0, _ => exact q757
  | 1, _ => exact q758
  | 2, _ => exact q759
  | k + 3, h => exact absurd h (by omega)
theorem gX1 : ∀ w ∈ wsX10, w ∈ gW := by
  intro w h
  obtain ⟨k, hk, rfl⟩ := List.mem_map.mp h
  have hk := List.mem_range.mp hk
  match k, hk with
  | 0, _ => exact q760
  | 1, _ => exact q761
  | 2, _ => exact q762
  | 3, _ => exact q763
  | 4, _ => exact q764
  | 5, _ => exact q765
  | 6, _ => exact q766
  | k + 7, h => exact absurd h (by omega)
theorem gX2 : ∀ w ∈ wsX20, w ∈ gW := by
  intro w h
  obtain ⟨k, hk, rfl⟩ := List.mem_map.mp h
  have hk := List.mem_range.mp hk
  match k, hk with
  | 0, _ => exact q767
  | 1, _ => exact q768
  | 2, _ => exact q769
  | k + 3, h => exact absurd h (by omega)
theorem gX5 : ∀ w ∈ wsX50, w ∈ gW := by
  intro w h
  obtain ⟨k, hk, rfl⟩ := List.mem_map.mp h
  have hk := List.mem_range.mp hk
  match k, hk with
  | 0, _ => exact q770
  | 1, _ => exact q771
  | 2, _ => exact q772
  | 3, _ => exact q773
  | 4, _ => exact q774
  | 5, _ => exact q775
  | 6, _ => exact q776
  | 7, _ => exact q777
  | 8, _ => exact q778
  | 9, _ => exact q779
  | 10, _ => exact q780
  | 11, _ => exact q781
  | k + 12, h => exact absurd h (by omega)
theorem gX6 : ∀ w ∈ wsX60, w ∈ gW := by
  intro w h
  obtain ⟨k, hk, rfl⟩ := List.mem_map.mp h
  have hk := List.mem_range.mp hk
  match k, hk with
  | 0, _ => exact q782
  | 1, _ => exact q783
  | 2, _ => exact q784
  | 3, _ => exact q785
  | 4, _ => exact q786
  | 5, _ => exact q787
  | 6, _ => exact q788
  | 7, _ => exact q789
  | 8, _ => exact q790
  | 9, _ => exact q791
  | 10, _ => exact q792
  | 11, _ => exact q793
  | 12, _ => exact q794
  | 13, _ => exact q795
  | 14, _ => exact q796
  | 15, _ => exact q797
  | 16, _ => exact q798
  | 17, _ => exact q799
  | 18, _ => exact q800
  | 19, _ => exact q801
  | 20, _ => exact q802
  | 21, _ => exact q803
  | 22, _ => exact q804
  | 23, _ => exact q805
  | 24, _ => exact q806
  | 25, _ => exact q807
  | 26, _ => exact q808
  | k + 27, h => exact absurd h (by omega)
end
section
/-! ===== the pure side: words of the lifted methods ===== -/
abbrev St : Type := (Nat → Nat → Int32) × (Nat → Int64)
/-- an index is within a row of n places -/
def ck (i : Int32) (n : Nat) : Bool := !(decide (i < 0) || decide (n ≤ i.toNatClampNeg))
theorem ck_in {i : Int32} {n : Nat} (h : ck i n = true) : vp_in i n := by
  unfold vp_in
  intro q
  unfold ck at h
  rcases q with q | q
  · simp [q] at h
  · simp [q] at h
theorem ck_lt {i : Int32} {n : Nat} (h : ck i n = true) : i.toNatClampNeg < n := Nat.not_le.mp fun q => ck_in h (Or.inr q)
/-- a guard -/
def gd {α : Type} (b : Bool) (x : Option α) : Option α := if b = true then x else none
/-- a name for a value -/
def nm {α β : Type} (e : α) (f : α → Option β) : Option β := f e
def bd {α β : Type} (x : Option α) (f : α → Option β) : Option β := x.bind f
def bd2 {α γ β : Type} (x : Option (α × γ)) (f : α → γ → Option β) : Option β := x.bind fun p => f p.1 p.2
/-- a loop, at most k times: the body goes on (inl) or ends it (inr) -/
def lpF {S O : Type} (f : S → Option (S ⊕ O)) : Nat → S → Option O
  | 0 => fun _ => none
  | k + 1 => fun s => (f s).bind (Sum.elim (lpF f k) some)
/-- one place of one group is written -/
def wS (σ : St) (g j : Nat) (v : Int32) : St := (va_up σ.1 g (upd (σ.1 g) j v), σ.2)
/-- a whole group is written -/
def wG (σ : St) (g : Nat) (f : Nat → Int32) : St := (va_up σ.1 g f, σ.2)
def wL (σ : St) (j : Nat) (v : Int64) : St := (σ.1, vp_updL σ.2 j v)
def wLs (σ : St) (f : Nat → Int64) : St := (σ.1, f)
def isB (v : Int32) : Bool := decide (v &&& 1 = v)
theorem isB_n {v : Int32} (h : isB v = true) : narrow .boolean (.int v) = .int v := by
  show Value.int (v &&& 1) = .int v
  rw [of_decide_eq_true h]
section ORows
variable {α β γ δ : Type} {K : β → Option γ} {out : γ}
theorem obs {x : Option γ} (h : x = some out) : x.bind some = some out := by rw [h]; rfl
theorem obd {x : Option α} {f : α → Option β} (h : (bd x f).bind K = some out) : ∃ a, x = some a ∧ (f a).bind K = some out := by
  cases x with
  | none => cases h
  | some a => exact ⟨a, rfl, h⟩
theorem obd2 {x : Option (α × δ)} {f : α → δ → Option β} (h : (bd2 x f).bind K = some out) : ∃ a d, x = some (a, d) ∧ (f a d).bind K = some out := by
  cases x with
  | none => cases h
  | some a => exact ⟨a.1, a.2, rfl, h⟩
theorem onm {e : α} {f : α → Option β} (h : (nm e f).bind K = some out) : ∃ x, e = x ∧ (f x).bind K = some out := ⟨e, rfl, h⟩
theorem ogd {b : Bool} {x : Option β} (h : (gd b x).bind K = some out) : b = true ∧ x.bind K = some out := by
  cases b with
  | false => cases h
  | true => exact ⟨rfl, h⟩
theorem oit {c : Prop} {_ : Decidable c} {x y : Option β} (hc : c) (h : (if c then x else y).bind K = some out) : x.bind K = some out := by
  rw [if_pos hc] at h
  exact h
theorem oif {c : Prop} {_ : Decidable c} {x y : Option β} (hc : ¬ c) (h : (if c then x else y).bind K = some out) : y.bind K = some out := by
  rw [if_neg hc] at h
  exact h
theorem oun {x y : Option β} (e : x = y) (h : x.bind K = some out) : y.bind K = some out := e ▸ h
theorem ol0 {S O : Type} {f : S → Option (S ⊕ O)} {s : S} {F : O → Option β} (h : (bd (lpF f 0 s) F).bind K = some out) : False := by
  cases h
theorem ol1 {S O : Type} {f : S → Option (S ⊕ O)} {k : Nat} {s : S} {F : O → Option β} (h : (bd (lpF f (k + 1) s) F).bind K = some out) : ∃ K1 : S ⊕ O → Option γ, (f s).bind K1 = some out ∧ (∀ s', K1 (.inl s') = (bd (lpF f k s') F).bind K) ∧ ∀ o, K1 (.inr o) = (F o).bind K := by
  refine ⟨fun x => (bd (Sum.elim (lpF f k) some x) F).bind K, ?_, fun _ => rfl, fun _ => rfl⟩
  have h' : (((f s).bind (Sum.elim (lpF f k) some)).bind F).bind K = some out := h
  cases hx : f s with
  | none => rw [hx] at h'; cases h'
  | some x => rw [hx] at h'; exact h'
theorem okx {ε : Type} {K1 : ε → Option γ} {x : ε} {y : Option γ} (h : (some x).bind K1 = some out) (e : K1 x = y) : y = some out := e.symm.trans h
theorem oret {v r : α} {σ u : β} (h : (some (v, σ)).bind some = some (r, u)) : v = r ∧ σ = u := by
  cases h
  exact ⟨rfl, rfl⟩
end ORows
/-- the room of a recursion of depth k -/
def rrF (k : Nat) : Room := { frames := k, cells := 0, slots := 0, locals := 60 * k + 60 }
theorem rr_a {k f : Nat} (h : f + 1 ≤ k) : f + 1 ≤ (rrF k).frames := h
theorem rr_b {k x : Nat} (h : x ≤ 60 * k + 60) : x ≤ (rrF k).locals := h
/-! ===== the machine side: worlds, contracts, calls ===== -/
theorem wsL_in {y : MethodName} {bytes : ByteArray} {maxL : Nat} {ret : Option FieldType} (h : Cond.code y bytes maxL ret ∈ gW) : GoodIn gW (Cond.code y bytes maxL ret :: gW) := by
  intro w hw
  have hm : w ∈ gW := by
    rcases List.mem_cons.mp hw with e | e
    · rw [e]; exact h
    · exact e
  exact ⟨hm, good_of_word (gW_good w hm)⟩
abbrev nwA : Cond := .methodLinkNest RX3 15 yX5_has "NestedDolls"
abbrev nwB : Cond := .methodLinkNest RX1 55 yX5_has "NestedDolls"
def KN (U : State) : Prop := va_Nw nwA U ∧ va_Nw nwB U
theorem KN.warm {s U : State} (hW : s.WarmedH U.vm) (h : KN s) : KN U := ⟨va_Nw.warmM hW h.1, va_Nw.warmM hW h.2⟩
theorem KN.same {u U : State} (e : u.vm = U.vm) (h : KN u) : KN U := ⟨va_Nw.same rfl e h.1, va_Nw.same rfl e h.2⟩
abbrev tyW (c : Nat → ClassId) : List (ClassId × FieldType) := [(c 0, .int), (c 1, .long), (c 2, .boolean), (c 3, .object "NestedDolls$Doll"), (c 4, .object "NestedDolls$Sheet")]
def KK (D : va_G) (c : Nat → ClassId) (U : State) : Prop := va_K D vwCl (tyW c) U ∧ KN U
theorem KK.warm {D : va_G} {c : Nat → ClassId} {s U : State} (hW : s.WarmedH U.vm) (h : KK D c s) : KK D c U := ⟨va_K.moved hW.alike h.1, h.2.warm hW⟩
theorem KK.same {D : va_G} {c : Nat → ClassId} {u U : State} (e : u.vm = U.vm) (h : KK D c u) : KK D c U := ⟨va_K.moved (by rw [e]; exact Vm.Alike.refl U.vm) h.1, h.2.same e⟩
/-- the world of a system: a list of cells by its state -/
def Pw (wf : St → va_W) (D : va_G) (c : Nat → ClassId) (σ : St) : State → Prop := fun U => va_P D vwCl (wf σ) U.heap ∧ KK D c U
def Bw (wf : St → va_W) (D : va_G) : St → State → Prop := fun u t => va_P D vwCl (wf u) t.heap
theorem blP {wf : St → va_W} {D : va_G} {c : Nat → ClassId} {σ : St} {As : List Value} : FrameBlind (va_Pc As (Pw wf D c σ)) := fun _ _ _ _ q => ⟨q.1, q.2.1, q.2.2.same rfl⟩
theorem blS {As : List Value} : FrameBlind (va_Pc As KN) := fun _ _ _ _ q => ⟨q.1, q.2.same rfl⟩
theorem vP_eq {D : va_G} {cl : List vw_C} {ws ws' : va_W} {H : Heap} (e : ws = ws') (h : va_P D cl ws H) : va_P D cl ws' H := e ▸ h
abbrev MetI (l : Launch) (y : MethodName) (bytes : ByteArray) (maxL : Nat) (ret : Option FieldType) (rm : Room) (wf : St → va_W) (D : va_G) (c : Nat → ClassId) (A : Nat → Prop) (As : List Value) (σ : St) (r : Int32) (u : St) : Prop :=
  Met l y (Cond.code y bytes maxL ret :: gW) rm (va_Pc As (Pw wf D c σ)) (va_Qi (fun r' u' => r' = r ∧ u' = u) (Bw wf D) A) 0 0 A
abbrev MetL (l : Launch) (y : MethodName) (bytes : ByteArray) (maxL : Nat) (ret : Option FieldType) (rm : Room) (wf : St → va_W) (D : va_G) (c : Nat → ClassId) (A : Nat → Prop) (As : List Value) (σ : St) (r : Int64) (u : St) : Prop :=
  Met l y (Cond.code y bytes maxL ret :: gW) rm (va_Pc As (Pw wf D c σ)) (va_Ql (fun r' u' => r' = r ∧ u' = u) (Bw wf D) A) 0 0 A
abbrev MetV (l : Launch) (y : MethodName) (bytes : ByteArray) (maxL : Nat) (ret : Option FieldType) (rm : Room) (wf : St → va_W) (D : va_G) (c : Nat → ClassId) (A : Nat → Prop) (As : List Value) (σ : St) (u : St) : Prop :=
  Met l y (Cond.code y bytes maxL ret :: gW) rm (va_Pc As (Pw wf D c σ)) (va_Qv (fun u' => u' = u) (Bw wf D) A) 0 0 A
abbrev MetS (l : Launch) (y : MethodName) (bytes : ByteArray) (maxL : Nat) (ret : Option FieldType) (rm : Room) (As : List Value) (r : Int32) : Prop :=
  Met l y (Cond.code y bytes maxL ret :: gW) rm (va_Pc As KN) (vp_Si (fun r' => r' = r)) 0 0 (fun _ => False)
abbrev MetSl (l : Launch) (y : MethodName) (bytes : ByteArray) (maxL : Nat) (ret : Option FieldType) (rm : Room) (As : List Value) (r : Int64) : Prop :=
  Met l y (Cond.code y bytes maxL ret :: gW) rm (va_Pc As KN) (vp_Sl (fun r' => r' = r)) 0 0 (fun _ => False)
section Mk
variable {l : Launch} {y : MethodName} {bytes : ByteArray} {maxL : Nat} {ret : Option FieldType} {rm : Room} {wf : St → va_W} {D : va_G} {c : Nat → ClassId} {A : Nat → Prop} {As : List Value} {σ u : St}
/-- the start of a walk: what holds at the entry -/
abbrev At0 (p : Program) (s : State) (m : MethodId) (args : Array Value) (meth : Method) (cd : Code) (y : MethodName) (bytes : ByteArray) (maxL : Nat) (ret : Option FieldType) : Prop :=
  CallFix p m cd bytes maxL s args gW y.cls ∧ meth.sig.returnType = ret ∧ meth.locks = false
theorem at0_of {p : Program} {e : Env} {s s₁ : State} {m : MethodId} {args : Array Value} {below : List Frame} {meth : Method} {cd : Code} (B : BodyLoose p l y (headSpec (Cond.code y bytes maxL ret :: gW) rm) bytes maxL ret e s m args below meth cd s₁) (hml : cd.maxLocals = maxL) : At0 p s m args meth cd y bytes maxL ret := by
  have hts := atoms_spec (ws := Cond.code y bytes maxL ret :: gW) B.pre
  exact ⟨⟨B.exec, B.bytes, hml, findClass_of_methodNamed B.named, fun w h => hts w (List.mem_cons_of_mem _ h)⟩, B.returns, B.notSynchronized⟩
theorem mkI {r : Int32} (hy : plainName y.cls = true) (hlen : (lg_sl As).length ≤ maxL) {ty : FieldType} (hty : ret = some ty)
    (body : ∀ (p : Program) (e : Env) (s : State) (m : MethodId) (args : Array Value) (below : List Frame) (meth : Method) (cd : Code) (Q : State → Prop) (ls : Array Slot), At0 p s m args meth cd y bytes maxL ret → KK D c s → va_P D vwCl (wf σ) s.heap →
      (∀ (H : Heap) (locs : List Loc) (pc : Nat) (ls : Array Slot) (v : Int32) (σ' : St), decode bytes pc = .ok (.ireturn, 1) → narrow ty (.int v) = .int v → va_P D vwCl (wf σ') H → va_S A s.heap H locs → v = r ∧ σ' = u → W p l e rm s m args below meth cd H locs 0 0 Q (F0 m pc ls [.int v])) →
      lv_has ls maxL (lv_args 0 As) → W p l e rm s m args below meth cd s.heap [] 0 0 Q (F0 m 0 ls [])) : MetI l y bytes maxL ret rm wf D c A As σ r u := by
  refine Met.ofW (cc := bytes) (maxL := maxL) (ret := ret) hy rfl ?_
  intro p e s m args below meth cd s₁ B hml hv
  obtain ⟨rfl, hP, hK⟩ := hv
  have h0 := at0_of B hml
  rw [lg_entry_eq]
  refine body p e s m _ below meth cd _ _ h0 hK hP ?_ (lv_entry As hlen)
  intro H locs pc ls v σ' hdg hn hP hS hvu
  exact W.zret h0.1.1 h0.1.2.1 (h0.2.1.trans hty) hn (fun t ht hW => ⟨⟨v, σ', rfl, hvu, by show va_P D vwCl (wf σ') t.heap; rw [ht]; exact hP⟩, hS.F ht⟩) hS.2.2 hdg h0.2.2
theorem mkL {r : Int64} (hy : plainName y.cls = true) (hlen : (lg_sl As).length ≤ maxL) (hty : ret = some .long)
    (body : ∀ (p : Program) (e : Env) (s : State) (m : MethodId) (args : Array Value) (below : List Frame) (meth : Method) (cd : Code) (Q : State → Prop) (ls : Array Slot), At0 p s m args meth cd y bytes maxL ret → KK D c s → va_P D vwCl (wf σ) s.heap →
      (∀ (H : Heap) (locs : List Loc) (pc : Nat) (ls : Array Slot) (v : Int64) (σ' : St), decode bytes pc = .ok (.lreturn, 1) → va_P D vwCl (wf σ') H → va_S A s.heap H locs → v = r ∧ σ' = u → W p l e rm s m args below meth cd H locs 0 0 Q (F0 m pc ls [.long v])) →
      lv_has ls maxL (lv_args 0 As) → W p l e rm s m args below meth cd s.heap [] 0 0 Q (F0 m 0 ls [])) : MetL l y bytes maxL ret rm wf D c A As σ r u := by
  refine Met.ofW (cc := bytes) (maxL := maxL) (ret := ret) hy rfl ?_
  intro p e s m args below meth cd s₁ B hml hv
  obtain ⟨rfl, hP, hK⟩ := hv
  have h0 := at0_of B hml
  rw [lg_entry_eq]
  refine body p e s m _ below meth cd _ _ h0 hK hP ?_ (lv_entry As hlen)
  intro H locs pc ls v σ' hdg hP hS hvu
  exact W.lret h0.1.1 h0.1.2.1 (h0.2.1.trans hty) (fun t ht hW => ⟨⟨v, σ', rfl, hvu, by show va_P D vwCl (wf σ') t.heap; rw [ht]; exact hP⟩, hS.F ht⟩) hS.2.2 hdg h0.2.2
theorem mkV (hy : plainName y.cls = true) (hlen : (lg_sl As).length ≤ maxL) (hty : ret = none)
    (body : ∀ (p : Program) (e : Env) (s : State) (m : MethodId) (args : Array Value) (below : List Frame) (meth : Method) (cd : Code) (Q : State → Prop) (ls : Array Slot), At0 p s m args meth cd y bytes maxL ret → KK D c s → va_P D vwCl (wf σ) s.heap →
      (∀ (H : Heap) (locs : List Loc) (pc : Nat) (ls : Array Slot) (σ' : St), decode bytes pc = .ok (.return_, 1) → va_P D vwCl (wf σ') H → va_S A s.heap H locs → σ' = u → W p l e rm s m args below meth cd H locs 0 0 Q (F0 m pc ls [])) →
      lv_has ls maxL (lv_args 0 As) → W p l e rm s m args below meth cd s.heap [] 0 0 Q (F0 m 0 ls [])) : MetV l y bytes maxL ret rm wf D c A As σ u := by
  refine Met.ofW (cc := bytes) (maxL := maxL) (ret := ret) hy rfl ?_
  intro p e s m args below meth cd s₁ B hml hv
  obtain ⟨rfl, hP, hK⟩ := hv
  have h0 := at0_of B hml
  rw [lg_entry_eq]
  refine body p e s m _ below meth cd _ _ h0 hK hP ?_ (lv_entry As hlen)
  intro H locs pc ls σ' hdg hP hS hvu
  exact W.vret h0.1.1 h0.1.2.1 (h0.2.1.trans hty) (fun t ht hW => ⟨⟨σ', rfl, hvu, by show va_P D vwCl (wf σ') t.heap; rw [ht]; exact hP⟩, hS.F ht⟩) hS.2.2 hdg h0.2.2
theorem mkS {r : Int32} (hy : plainName y.cls = true) (hlen : (lg_sl As).length ≤ maxL) {ty : FieldType} (hty : ret = some ty)
    (body : ∀ (p : Program) (e : Env) (s : State) (m : MethodId) (args : Array Value) (below : List Frame) (meth : Method) (cd : Code) (Q : State → Prop) (ls : Array Slot), At0 p s m args meth cd y bytes maxL ret → KN s →
      (∀ (pc : Nat) (ls : Array Slot) (v : Int32), decode bytes pc = .ok (.ireturn, 1) → narrow ty (.int v) = .int v → v = r → W p l e rm s m args below meth cd s.heap [] 0 0 Q (F0 m pc ls [.int v])) →
      lv_has ls maxL (lv_args 0 As) → W p l e rm s m args below meth cd s.heap [] 0 0 Q (F0 m 0 ls [])) : MetS l y bytes maxL ret rm As r := by
  refine Met.ofW (cc := bytes) (maxL := maxL) (ret := ret) hy rfl ?_
  intro p e s m args below meth cd s₁ B hml hv
  obtain ⟨rfl, hK⟩ := hv
  have h0 := at0_of B hml
  rw [lg_entry_eq]
  refine body p e s m _ below meth cd _ _ h0 hK ?_ (lv_entry As hlen)
  intro pc ls v hdg hn hvu
  exact W.zret h0.1.1 h0.1.2.1 (h0.2.1.trans hty) hn (fun t ht hW => ⟨v, rfl, hvu, ht⟩) (fun q h => by cases h) hdg h0.2.2
theorem mkSl {r : Int64} (hy : plainName y.cls = true) (hlen : (lg_sl As).length ≤ maxL) (hty : ret = some .long)
    (body : ∀ (p : Program) (e : Env) (s : State) (m : MethodId) (args : Array Value) (below : List Frame) (meth : Method) (cd : Code) (Q : State → Prop) (ls : Array Slot), At0 p s m args meth cd y bytes maxL ret → KN s →
      (∀ (pc : Nat) (ls : Array Slot) (v : Int64), decode bytes pc = .ok (.lreturn, 1) → v = r → W p l e rm s m args below meth cd s.heap [] 0 0 Q (F0 m pc ls [.long v])) →
      lv_has ls maxL (lv_args 0 As) → W p l e rm s m args below meth cd s.heap [] 0 0 Q (F0 m 0 ls [])) : MetSl l y bytes maxL ret rm As r := by
  refine Met.ofW (cc := bytes) (maxL := maxL) (ret := ret) hy rfl ?_
  intro p e s m args below meth cd s₁ B hml hv
  obtain ⟨rfl, hK⟩ := hv
  have h0 := at0_of B hml
  rw [lg_entry_eq]
  refine body p e s m _ below meth cd _ _ h0 hK ?_ (lv_entry As hlen)
  intro pc ls v hdg hvu
  exact W.lret h0.1.1 h0.1.2.1 (h0.2.1.trans hty) (fun t ht hW => ⟨v, rfl, hvu, ht⟩) (fun q h => by cases h) hdg h0.2.2
end Mk
section Rows
variable {p : Program} {l : Launch} {e : Env} {R : Room} {s : State} {m : MethodId} {args : Array Value} {below : List Frame} {meth : Method} {c : Code} {H : Heap} {locs : List Loc} {cells slots : Nat} {Q : State → Prop} {pc : Nat} {ls : Array Slot} {rest : List Value}
theorem lv_nm {x z : Int32} (h : x = z) (k : W p l e R s m args below meth c H locs cells slots Q (F0 m pc ls (.int z :: rest))) : W p l e R s m args below meth c H locs cells slots Q (F0 m pc ls (.int x :: rest)) := by rw [h]; exact k
theorem lv_nml {x z : Int64} (h : x = z) (k : W p l e R s m args below meth c H locs cells slots Q (F0 m pc ls (.long z :: rest))) : W p l e R s m args below meth c H locs cells slots Q (F0 m pc ls (.long x :: rest)) := by rw [h]; exact k
variable {y : MethodName} {bytes cc : ByteArray} {maxL nL n idx : Nat} {ret : Option FieldType} {rm : Room} {own C : String} {As st0 : List Value}
variable {wf : St → va_W} {D : va_G} {cA : Nat → ClassId} {A : Nat → Prop} {σ u : St} {b : Nat}
/-- what a callee is: its code among the words, initialised, its name, how many arguments -/
abbrev Cal (y : MethodName) (bytes : ByteArray) (maxL : Nat) (ret : Option FieldType) (n : Nat) : Prop :=
  Cond.code y bytes maxL ret ∈ gW ∧ Cond.initialized y.cls ∈ gW ∧ (y.cls ≠ "java/lang/invoke/MethodHandle" ∧ y.cls ≠ "java/lang/invoke/VarHandle" ∧ (parseMethodDescriptor y.desc).map (fun d => d.parameters.length) = some n)
theorem cal_B (S : CallFix p m c cc nL s args gW own) (hc : Cal y bytes maxL ret n) (hl : Cond.methodLink own idx y ∈ gW) (hR : rm.frames + 1 ≤ R.frames ∧ 8 + (maxL + 11) + rm.locals ≤ R.locals) (h0 : rm.cells = 0 ∧ rm.slots = 0) : CallB R s args own idx y bytes maxL ret (Cond.code y bytes maxL ret :: gW) rm 0 0 n :=
  callB_of n S.2.2.2.2 (wsL_in hc.1) rfl h0.1 h0.2 (S.2.2.2.2 _ hc.2.1) (S.2.2.2.2 _ hl) hc.2.2 hR
variable (S : CallFix p m c cc nL s args gW own) (hc : Cal y bytes maxL ret n)
/-- static, whole numbers alone -/
theorem xs_S (S : CallFix p m c cc nL s args gW own) (hc : Cal y bytes maxL ret n) (hl : Cond.methodLink own idx y ∈ gW) (hst : Cond.static y ∈ gW) (hR : rm.frames + 1 ≤ R.frames ∧ 8 + (maxL + 11) + rm.locals ≤ R.locals) (h0 : rm.cells = 0 ∧ rm.slots = 0) {r : Int32} (hM : MetS l y bytes maxL ret rm As r) (hK : KN s) (hn : As.length = n) (hsz : ls.size = nL) (he : st0 = As.reverse ++ rest) (hro : (rest.map fun v => v.category).sum ≤ 8) (hdg : decode cc pc = .ok (.invokestatic idx, 3)) (hcs : cells ≤ R.cells ∧ slots ≤ R.slots)
    (kk : W p l e R s m args below meth c H locs cells slots Q (F0 m (pc + 3) ls (.int r :: rest))) : W p l e R s m args below meth c H locs cells slots Q (F0 m pc ls st0) := by
  refine vp_callSi (rest := rest) (W.runS (g := F0 m pc ls st0) (As := As) S hM ⟨cal_B S hc hl hR h0, S.2.2.2.2 _ hst⟩ ⟨blS, fun U hU hW => ⟨rfl, hK.warm hW⟩⟩ rfl hn hsz he (lv_room hro) hdg hcs) (fun r' hr => ?_)
  rw [hr]; exact kk
theorem xs_Sl (S : CallFix p m c cc nL s args gW own) (hc : Cal y bytes maxL ret n) (hl : Cond.methodLink own idx y ∈ gW) (hst : Cond.static y ∈ gW) (hR : rm.frames + 1 ≤ R.frames ∧ 8 + (maxL + 11) + rm.locals ≤ R.locals) (h0 : rm.cells = 0 ∧ rm.slots = 0) {r : Int64} (hM : MetSl l y bytes maxL ret rm As r) (hK : KN s) (hn : As.length = n) (hsz : ls.size = nL) (he : st0 = As.reverse ++ rest) (hro : (rest.map fun v => v.category).sum ≤ 8) (hdg : decode cc pc = .ok (.invokestatic idx, 3)) (hcs : cells ≤ R.cells ∧ slots ≤ R.slots)
    (kk : W p l e R s m args below meth c H locs cells slots Q (F0 m (pc + 3) ls (.long r :: rest))) : W p l e R s m args below meth c H locs cells slots Q (F0 m pc ls st0) := by
  refine vp_callSl (rest := rest) (W.runS (g := F0 m pc ls st0) (As := As) S hM ⟨cal_B S hc hl hR h0, S.2.2.2.2 _ hst⟩ ⟨blS, fun U hU hW => ⟨rfl, hK.warm hW⟩⟩ rfl hn hsz he (lv_room hro) hdg hcs) (fun r' hr => ?_)
  rw [hr]; exact kk
/-- static of a nest mate, whole numbers alone -/
theorem xn_S {host : String} (S : CallFix p m c cc nL s args gW own) (hc : Cal y bytes maxL ret n) (hl : va_Nw (.methodLinkNest own idx y host) s) (hst : Cond.static y ∈ gW) (hR : rm.frames + 1 ≤ R.frames ∧ 8 + (maxL + 11) + rm.locals ≤ R.locals) (h0 : rm.cells = 0 ∧ rm.slots = 0) {r : Int32} (hM : MetS l y bytes maxL ret rm As r) (hK : KN s) (hn : As.length = n) (hsz : ls.size = nL) (he : st0 = As.reverse ++ rest) (hro : (rest.map fun v => v.category).sum ≤ 8) (hdg : decode cc pc = .ok (.invokestatic idx, 3)) (hcs : cells ≤ R.cells ∧ slots ≤ R.slots)
    (kk : W p l e R s m args below meth c H locs cells slots Q (F0 m (pc + 3) ls (.int r :: rest))) : W p l e R s m args below meth c H locs cells slots Q (F0 m pc ls st0) := by
  have hr := va_runSN (locs := locs) (cells := cells) (slots := slots) (below := below) (meth := meth) (H := H) (e := e) (R := R) (g := F0 m pc ls st0) (rest := rest) (As := As) S hM ⟨va_cnB n S.2.2.2.2 (wsL_in hc.1) rfl h0.1 h0.2 hl (S.2.2.2.2 _ hc.2.1) hc.2.2 hR, S.2.2.2.2 _ hst, trivial⟩ ⟨blS, fun U hU hW => ⟨rfl, hK.warm hW⟩⟩ rfl hn hsz he (lv_room hro) hdg hcs
  refine vp_callSi (rest := rest) (post := fun r' => r' = r) (a := As.toArray) (fun T hT X => ?_) (fun r' hr => ?_)
  · obtain ⟨v, st₀, t, T', L, h1, h2, h3, h4, -, h5, h6⟩ := hr T hT X
    exact ⟨v, st₀, t, T', L, h1, h2, h3, h4, h5, h6⟩
  · rw [hr]; exact kk
/-- a call over the whole world -/
theorem xv_I (S : CallFix p m c cc nL s args gW own) (hc : Cal y bytes maxL ret n) (hl : Cond.methodLink own idx y ∈ gW) (hin : Cond.instanceMethod y ∈ gW) (hse : Cond.selects C y y ∈ gW) (hR : rm.frames + 1 ≤ R.frames ∧ 8 + (maxL + 11) + rm.locals ≤ R.locals) (h0 : rm.cells = 0 ∧ rm.slots = 0) {r : Int32} (hM : MetI l y bytes maxL ret rm wf D cA A (.ref b :: As) σ r u) (hK : KK D cA s) (hP : va_P D vwCl (wf σ) H) (hS : va_S A s.heap H locs) (hrec : ∃ cell : Cell, H[b]? = some cell ∧ cell.vm.isStatics = false ∧ s.vm.findClass C = some cell.cls) (hn : As.length = n) (hsz : ls.size = nL) (he : st0 = As.reverse ++ .ref b :: rest) (hro : (rest.map fun v => v.category).sum ≤ 8) (hdg : decode cc pc = .ok (.invokevirtual idx, 3)) (hcs : cells ≤ R.cells ∧ slots ≤ R.slots)
    (kk : ∀ (H : Heap) (locs : List Loc), va_P D vwCl (wf u) H → va_S A s.heap H locs → W p l e R s m args below meth c H locs cells slots Q (F0 m (pc + 3) ls (.int r :: rest))) : W p l e R s m args below meth c H locs cells slots Q (F0 m pc ls st0) := by
  refine va_calli (rest := rest) (va_runV (g := F0 m pc ls st0) (As := As) S hM ⟨cal_B S hc hl hR h0, S.2.2.2.2 _ hin, S.2.2.2.2 _ hse⟩ ⟨blP, hrec, fun U hU hW => ⟨rfl, by rw [hU]; exact hP, hK.warm hW⟩⟩ rfl hn hsz he (lv_room hro) hdg hcs) hS (fun _ _ h => h) (fun _ h => h) (fun r' u' t H1 locs1 ht hvm hw hB hz1 hk1 hS1 => ?_)
  obtain ⟨rfl, rfl⟩ := hw
  exact kk H1 locs1 (by rw [← ht]; exact hB) hS1
theorem xv_L (S : CallFix p m c cc nL s args gW own) (hc : Cal y bytes maxL ret n) (hl : Cond.methodLink own idx y ∈ gW) (hin : Cond.instanceMethod y ∈ gW) (hse : Cond.selects C y y ∈ gW) (hR : rm.frames + 1 ≤ R.frames ∧ 8 + (maxL + 11) + rm.locals ≤ R.locals) (h0 : rm.cells = 0 ∧ rm.slots = 0) {r : Int64} (hM : MetL l y bytes maxL ret rm wf D cA A (.ref b :: As) σ r u) (hK : KK D cA s) (hP : va_P D vwCl (wf σ) H) (hS : va_S A s.heap H locs) (hrec : ∃ cell : Cell, H[b]? = some cell ∧ cell.vm.isStatics = false ∧ s.vm.findClass C = some cell.cls) (hn : As.length = n) (hsz : ls.size = nL) (he : st0 = As.reverse ++ .ref b :: rest) (hro : (rest.map fun v => v.category).sum ≤ 8) (hdg : decode cc pc = .ok (.invokevirtual idx, 3)) (hcs : cells ≤ R.cells ∧ slots ≤ R.slots)
    (kk : ∀ (H : Heap) (locs : List Loc), va_P D vwCl (wf u) H → va_S A s.heap H locs → W p l e R s m args below meth c H locs cells slots Q (F0 m (pc + 3) ls (.long r :: rest))) : W p l e R s m args below meth c H locs cells slots Q (F0 m pc ls st0) := by
  refine va_calll (rest := rest) (va_runV (g := F0 m pc ls st0) (As := As) S hM ⟨cal_B S hc hl hR h0, S.2.2.2.2 _ hin, S.2.2.2.2 _ hse⟩ ⟨blP, hrec, fun U hU hW => ⟨rfl, by rw [hU]; exact hP, hK.warm hW⟩⟩ rfl hn hsz he (lv_room hro) hdg hcs) hS (fun _ _ h => h) (fun _ h => h) (fun r' u' t H1 locs1 ht hvm hw hB hz1 hk1 hS1 => ?_)
  obtain ⟨rfl, rfl⟩ := hw
  exact kk H1 locs1 (by rw [← ht]; exact hB) hS1
theorem xv_V (S : CallFix p m c cc nL s args gW own) (hc : Cal y bytes maxL ret n) (hl : Cond.methodLink own idx y ∈ gW) (hin : Cond.instanceMethod y ∈ gW) (hse : Cond.selects C y y ∈ gW) (hR : rm.frames + 1 ≤ R.frames ∧ 8 + (maxL + 11) + rm.locals ≤ R.locals) (h0 : rm.cells = 0 ∧ rm.slots = 0) (hM : MetV l y bytes maxL ret rm wf D cA A (.ref b :: As) σ u) (hK : KK D cA s) (hP : va_P D vwCl (wf σ) H) (hS : va_S A s.heap H locs) (hrec : ∃ cell : Cell, H[b]? = some cell ∧ cell.vm.isStatics = false ∧ s.vm.findClass C = some cell.cls) (hn : As.length = n) (hsz : ls.size = nL) (he : st0 = As.reverse ++ .ref b :: rest) (hro : (rest.map fun v => v.category).sum ≤ 8) (hdg : decode cc pc = .ok (.invokevirtual idx, 3)) (hcs : cells ≤ R.cells ∧ slots ≤ R.slots)
    (kk : ∀ (H : Heap) (locs : List Loc), va_P D vwCl (wf u) H → va_S A s.heap H locs → W p l e R s m args below meth c H locs cells slots Q (F0 m (pc + 3) ls rest)) : W p l e R s m args below meth c H locs cells slots Q (F0 m pc ls st0) := by
  refine va_callv (rest := rest) (va_runV (g := F0 m pc ls st0) (As := As) S hM ⟨cal_B S hc hl hR h0, S.2.2.2.2 _ hin, S.2.2.2.2 _ hse⟩ ⟨blP, hrec, fun U hU hW => ⟨rfl, by rw [hU]; exact hP, hK.warm hW⟩⟩ rfl hn hsz he (lv_room hro) hdg hcs) hS (fun _ _ h => h) (fun _ h => h) (fun u' t H1 locs1 ht hvm hw hB hz1 hk1 hS1 => ?_)
  subst hw
  exact kk H1 locs1 (by rw [← ht]; exact hB) hS1
/-- static over the whole world -/
theorem xs_I (S : CallFix p m c cc nL s args gW own) (hc : Cal y bytes maxL ret n) (hl : Cond.methodLink own idx y ∈ gW) (hst : Cond.static y ∈ gW) (hR : rm.frames + 1 ≤ R.frames ∧ 8 + (maxL + 11) + rm.locals ≤ R.locals) (h0 : rm.cells = 0 ∧ rm.slots = 0) {r : Int32} (hM : MetI l y bytes maxL ret rm wf D cA A As σ r u) (hK : KK D cA s) (hP : va_P D vwCl (wf σ) H) (hS : va_S A s.heap H locs) (hn : As.length = n) (hsz : ls.size = nL) (he : st0 = As.reverse ++ rest) (hro : (rest.map fun v => v.category).sum ≤ 8) (hdg : decode cc pc = .ok (.invokestatic idx, 3)) (hcs : cells ≤ R.cells ∧ slots ≤ R.slots)
    (kk : ∀ (H : Heap) (locs : List Loc), va_P D vwCl (wf u) H → va_S A s.heap H locs → W p l e R s m args below meth c H locs cells slots Q (F0 m (pc + 3) ls (.int r :: rest))) : W p l e R s m args below meth c H locs cells slots Q (F0 m pc ls st0) := by
  refine va_calli (rest := rest) (va_runS (g := F0 m pc ls st0) (As := As) S hM ⟨cal_B S hc hl hR h0, S.2.2.2.2 _ hst⟩ ⟨blP, fun U hU hW => ⟨rfl, by rw [hU]; exact hP, hK.warm hW⟩⟩ rfl hn hsz he (lv_room hro) hdg hcs) hS (fun _ _ h => h) (fun _ h => h) (fun r' u' t H1 locs1 ht hvm hw hB hz1 hk1 hS1 => ?_)
  obtain ⟨rfl, rfl⟩ := hw
  exact kk H1 locs1 (by rw [← ht]; exact hB) hS1
theorem xs_V (S : CallFix p m c cc nL s args gW own) (hc : Cal y bytes maxL ret n) (hl : Cond.methodLink own idx y ∈ gW) (hst : Cond.static y ∈ gW) (hR : rm.frames + 1 ≤ R.frames ∧ 8 + (maxL + 11) + rm.locals ≤ R.locals) (h0 : rm.cells = 0 ∧ rm.slots = 0) (hM : MetV l y bytes maxL ret rm wf D cA A As σ u) (hK : KK D cA s) (hP : va_P D vwCl (wf σ) H) (hS : va_S A s.heap H locs) (hn : As.length = n) (hsz : ls.size = nL) (he : st0 = As.reverse ++ rest) (hro : (rest.map fun v => v.category).sum ≤ 8) (hdg : decode cc pc = .ok (.invokestatic idx, 3)) (hcs : cells ≤ R.cells ∧ slots ≤ R.slots)
    (kk : ∀ (H : Heap) (locs : List Loc), va_P D vwCl (wf u) H → va_S A s.heap H locs → W p l e R s m args below meth c H locs cells slots Q (F0 m (pc + 3) ls rest)) : W p l e R s m args below meth c H locs cells slots Q (F0 m pc ls st0) := by
  refine va_callv (rest := rest) (va_runS (g := F0 m pc ls st0) (As := As) S hM ⟨cal_B S hc hl hR h0, S.2.2.2.2 _ hst⟩ ⟨blP, fun U hU hW => ⟨rfl, by rw [hU]; exact hP, hK.warm hW⟩⟩ rfl hn hsz he (lv_room hro) hdg hcs) hS (fun _ _ h => h) (fun _ h => h) (fun u' t H1 locs1 ht hvm hw hB hz1 hk1 hS1 => ?_)
  subst hw
  exact kk H1 locs1 (by rw [← ht]; exact hB) hS1
end Rows
end
section
def cW (a : Nat → Nat) (c : Nat → ClassId) (σ : St) : va_W := [
  (a 0, .inr (3, [.ref (a 1), .ref (a 2), .ref (a 3), .ref (a 4), .ref (a 5), .ref (a 6), .int (σ.1 0 0), .int (σ.1 0 1), .int (σ.1 0 2), .int (σ.1 0 3), .int (σ.1 0 4), .int (σ.1 0 5)])),
  (a 1, .inl (c 3, 4, .inr (.inr (.inr (.inr (fun d => some (a (11 + d)))))))),
  (a 2, .inl (c 4, 4, .inr (.inr (.inr (.inr (fun d => some (a (15 + d)))))))),
  (a 3, .inl (c 0, 8, .inl (σ.1 6))),
  (a 4, .inl (c 0, 8, .inl (σ.1 7))),
  (a 5, .inl (c 2, 8, .inl (σ.1 8))),
  (a 6, .inr (1, [.ref (a 7), .ref (a 8), .ref (a 9), .ref (a 10), .int (σ.1 0 6), .int (σ.1 0 7), .int (σ.1 0 8)])),
  (a 7, .inl (c 0, 580, .inl (σ.1 9))),
  (a 8, .inl (c 0, 580, .inl (σ.1 10))),
  (a 9, .inl (c 0, 580, .inl (σ.1 11))),
  (a 10, .inl (c 1, 1024, .inr (.inl σ.2))),
  (a 11, .inr (0, [.int (σ.1 1 0), .int (σ.1 2 0), .int (σ.1 3 0)])),
  (a 12, .inr (0, [.int (σ.1 1 1), .int (σ.1 2 1), .int (σ.1 3 1)])),
  (a 13, .inr (0, [.int (σ.1 1 2), .int (σ.1 2 2), .int (σ.1 3 2)])),
  (a 14, .inr (0, [.int (σ.1 1 3), .int (σ.1 2 3), .int (σ.1 3 3)])),
  (a 15, .inr (2, [.ref (a (19 + 0)), .int (σ.1 4 0), .int (σ.1 5 0)])),
  (a 16, .inr (2, [.ref (a (19 + 1)), .int (σ.1 4 1), .int (σ.1 5 1)])),
  (a 17, .inr (2, [.ref (a (19 + 2)), .int (σ.1 4 2), .int (σ.1 5 2)])),
  (a 18, .inr (2, [.ref (a (19 + 3)), .int (σ.1 4 3), .int (σ.1 5 3)])),
  (a 19, .inl (c 0, 60, .inl (σ.1 12))),
  (a 20, .inl (c 0, 60, .inl (σ.1 13))),
  (a 21, .inl (c 0, 60, .inl (σ.1 14))),
  (a 22, .inl (c 0, 60, .inl (σ.1 15)))]
theorem cw0 (a : Nat → Nat) (c : Nat → ClassId) (σ : St) : (cW a c σ)[0]? = some (a 0, .inr (3, [.ref (a 1), .ref (a 2), .ref (a 3), .ref (a 4), .ref (a 5), .ref (a 6), .int (σ.1 0 0), .int (σ.1 0 1), .int (σ.1 0 2), .int (σ.1 0 3), .int (σ.1 0 4), .int (σ.1 0 5)])) := rfl
theorem cw1 (a : Nat → Nat) (c : Nat → ClassId) (σ : St) : (cW a c σ)[1]? = some (a 1, .inl (c 3, 4, .inr (.inr (.inr (.inr (fun d => some (a (11 + d)))))))) := rfl
theorem cw2 (a : Nat → Nat) (c : Nat → ClassId) (σ : St) : (cW a c σ)[2]? = some (a 2, .inl (c 4, 4, .inr (.inr (.inr (.inr (fun d => some (a (15 + d)))))))) := rfl
theorem cw3 (a : Nat → Nat) (c : Nat → ClassId) (σ : St) : (cW a c σ)[3]? = some (a 3, .inl (c 0, 8, .inl (σ.1 6))) := rfl
theorem cw4 (a : Nat → Nat) (c : Nat → ClassId) (σ : St) : (cW a c σ)[4]? = some (a 4, .inl (c 0, 8, .inl (σ.1 7))) := rfl
theorem cw5 (a : Nat → Nat) (c : Nat → ClassId) (σ : St) : (cW a c σ)[5]? = some (a 5, .inl (c 2, 8, .inl (σ.1 8))) := rfl
theorem cw6 (a : Nat → Nat) (c : Nat → ClassId) (σ : St) : (cW a c σ)[6]? = some (a 6, .inr (1, [.ref (a 7), .ref (a 8), .ref (a 9), .ref (a 10), .int (σ.1 0 6), .int (σ.1 0 7), .int (σ.1 0 8)])) := rfl
theorem cw7 (a : Nat → Nat) (c : Nat → ClassId) (σ : St) : (cW a c σ)[7]? = some (a 7, .inl (c 0, 580, .inl (σ.1 9))) := rfl
theorem cw8 (a : Nat → Nat) (c : Nat → ClassId) (σ : St) : (cW a c σ)[8]? = some (a 8, .inl (c 0, 580, .inl (σ.1 10))) := rfl
theorem cw9 (a : Nat → Nat) (c : Nat → ClassId) (σ : St) : (cW a c σ)[9]? = some (a 9, .inl (c 0, 580, .inl (σ.1 11))) := rfl
theorem cw10 (a : Nat → Nat) (c : Nat → ClassId) (σ : St) : (cW a c σ)[10]? = some (a 10, .inl (c 1, 1024, .inr (.inl σ.2))) := rfl
theorem cwX0 (a : Nat → Nat) (c : Nat → ClassId) (σ : St) (d : Nat) (h : d < 4) : (cW a c σ)[11 + d]? = some (a (11 + d), .inr (0, [.int (σ.1 1 d), .int (σ.1 2 d), .int (σ.1 3 d)])) := by
  match d, h with
  | 0, _ => rfl
  | 1, _ => rfl
  | 2, _ => rfl
  | 3, _ => rfl
  | d + 4, h => exact absurd h (by omega)
theorem cwX2 (a : Nat → Nat) (c : Nat → ClassId) (σ : St) (d : Nat) (h : d < 4) : (cW a c σ)[15 + d]? = some (a (15 + d), .inr (2, [.ref (a (19 + d)), .int (σ.1 4 d), .int (σ.1 5 d)])) := by
  match d, h with
  | 0, _ => rfl
  | 1, _ => rfl
  | 2, _ => rfl
  | 3, _ => rfl
  | d + 4, h => exact absurd h (by omega)
theorem cwcells (a : Nat → Nat) (c : Nat → ClassId) (σ : St) (d : Nat) (h : d < 4) : (cW a c σ)[19 + d]? = some (a (19 + d), .inl (c 0, 60, .inl (σ.1 (12 + d)))) := by
  match d, h with
  | 0, _ => rfl
  | 1, _ => rfl
  | 2, _ => rfl
  | 3, _ => rfl
  | d + 4, h => exact absurd h (by omega)
theorem cpX5_count (a : Nat → Nat) (c : Nat → ClassId) (σ : St) (v : Int32) : (cW a c σ).set 0 (a 0, .inr (3, List.set [.ref (a 1), .ref (a 2), .ref (a 3), .ref (a 4), .ref (a 5), .ref (a 6), .int (σ.1 0 0), .int (σ.1 0 1), .int (σ.1 0 2), .int (σ.1 0 3), .int (σ.1 0 4), .int (σ.1 0 5)] 6 (.int v))) = cW a c (wS σ 0 0 v) := rfl
theorem cpX5_stand (a : Nat → Nat) (c : Nat → ClassId) (σ : St) (v : Int32) : (cW a c σ).set 0 (a 0, .inr (3, List.set [.ref (a 1), .ref (a 2), .ref (a 3), .ref (a 4), .ref (a 5), .ref (a 6), .int (σ.1 0 0), .int (σ.1 0 1), .int (σ.1 0 2), .int (σ.1 0 3), .int (σ.1 0 4), .int (σ.1 0 5)] 7 (.int v))) = cW a c (wS σ 0 1 v) := rfl
theorem cpX5_acts (a : Nat → Nat) (c : Nat → ClassId) (σ : St) (v : Int32) : (cW a c σ).set 0 (a 0, .inr (3, List.set [.ref (a 1), .ref (a 2), .ref (a 3), .ref (a 4), .ref (a 5), .ref (a 6), .int (σ.1 0 0), .int (σ.1 0 1), .int (σ.1 0 2), .int (σ.1 0 3), .int (σ.1 0 4), .int (σ.1 0 5)] 8 (.int v))) = cW a c (wS σ 0 2 v) := rfl
theorem cpX5_readings (a : Nat → Nat) (c : Nat → ClassId) (σ : St) (v : Int32) : (cW a c σ).set 0 (a 0, .inr (3, List.set [.ref (a 1), .ref (a 2), .ref (a 3), .ref (a 4), .ref (a 5), .ref (a 6), .int (σ.1 0 0), .int (σ.1 0 1), .int (σ.1 0 2), .int (σ.1 0 3), .int (σ.1 0 4), .int (σ.1 0 5)] 9 (.int v))) = cW a c (wS σ 0 3 v) := rfl
theorem cpX5_traced (a : Nat → Nat) (c : Nat → ClassId) (σ : St) (v : Int32) : (cW a c σ).set 0 (a 0, .inr (3, List.set [.ref (a 1), .ref (a 2), .ref (a 3), .ref (a 4), .ref (a 5), .ref (a 6), .int (σ.1 0 0), .int (σ.1 0 1), .int (σ.1 0 2), .int (σ.1 0 3), .int (σ.1 0 4), .int (σ.1 0 5)] 10 (.int v))) = cW a c (wS σ 0 4 v) := rfl
theorem cpX5_latestFault (a : Nat → Nat) (c : Nat → ClassId) (σ : St) (v : Int32) : (cW a c σ).set 0 (a 0, .inr (3, List.set [.ref (a 1), .ref (a 2), .ref (a 3), .ref (a 4), .ref (a 5), .ref (a 6), .int (σ.1 0 0), .int (σ.1 0 1), .int (σ.1 0 2), .int (σ.1 0 3), .int (σ.1 0 4), .int (σ.1 0 5)] 11 (.int v))) = cW a c (wS σ 0 5 v) := rfl
theorem cpX1_many (a : Nat → Nat) (c : Nat → ClassId) (σ : St) (v : Int32) : (cW a c σ).set 6 (a 6, .inr (1, List.set [.ref (a 7), .ref (a 8), .ref (a 9), .ref (a 10), .int (σ.1 0 6), .int (σ.1 0 7), .int (σ.1 0 8)] 4 (.int v))) = cW a c (wS σ 0 6 v) := rfl
theorem cpX1_count (a : Nat → Nat) (c : Nat → ClassId) (σ : St) (v : Int32) : (cW a c σ).set 6 (a 6, .inr (1, List.set [.ref (a 7), .ref (a 8), .ref (a 9), .ref (a 10), .int (σ.1 0 6), .int (σ.1 0 7), .int (σ.1 0 8)] 5 (.int v))) = cW a c (wS σ 0 7 v) := rfl
theorem cpX1_fitting (a : Nat → Nat) (c : Nat → ClassId) (σ : St) (v : Int32) : (cW a c σ).set 6 (a 6, .inr (1, List.set [.ref (a 7), .ref (a 8), .ref (a 9), .ref (a 10), .int (σ.1 0 6), .int (σ.1 0 7), .int (σ.1 0 8)] 6 (.int v))) = cW a c (wS σ 0 8 v) := rfl
theorem cpX0_kind (a : Nat → Nat) (c : Nat → ClassId) (σ : St) (d : Nat) (h : d < 4) (v : Int32) : (cW a c σ).set (11 + d) (a (11 + d), .inr (0, List.set [.int (σ.1 1 d), .int (σ.1 2 d), .int (σ.1 3 d)] 0 (.int v))) = cW a c (wS σ 1 d v) := by
  match d, h with
  | 0, _ => rfl
  | 1, _ => rfl
  | 2, _ => rfl
  | 3, _ => rfl
  | d + 4, h => exact absurd h (by omega)
theorem cpX0_girth (a : Nat → Nat) (c : Nat → ClassId) (σ : St) (d : Nat) (h : d < 4) (v : Int32) : (cW a c σ).set (11 + d) (a (11 + d), .inr (0, List.set [.int (σ.1 1 d), .int (σ.1 2 d), .int (σ.1 3 d)] 1 (.int v))) = cW a c (wS σ 2 d v) := by
  match d, h with
  | 0, _ => rfl
  | 1, _ => rfl
  | 2, _ => rfl
  | 3, _ => rfl
  | d + 4, h => exact absurd h (by omega)
theorem cpX0_room (a : Nat → Nat) (c : Nat → ClassId) (σ : St) (d : Nat) (h : d < 4) (v : Int32) : (cW a c σ).set (11 + d) (a (11 + d), .inr (0, List.set [.int (σ.1 1 d), .int (σ.1 2 d), .int (σ.1 3 d)] 2 (.int v))) = cW a c (wS σ 3 d v) := by
  match d, h with
  | 0, _ => rfl
  | 1, _ => rfl
  | 2, _ => rfl
  | 3, _ => rfl
  | d + 4, h => exact absurd h (by omega)
theorem cpX2_laneOfRow (a : Nat → Nat) (c : Nat → ClassId) (σ : St) (d : Nat) (h : d < 4) (v : Int32) : (cW a c σ).set (15 + d) (a (15 + d), .inr (2, List.set [.ref (a (19 + d)), .int (σ.1 4 d), .int (σ.1 5 d)] 1 (.int v))) = cW a c (wS σ 4 d v) := by
  match d, h with
  | 0, _ => rfl
  | 1, _ => rfl
  | 2, _ => rfl
  | 3, _ => rfl
  | d + 4, h => exact absurd h (by omega)
theorem cpX2_size (a : Nat → Nat) (c : Nat → ClassId) (σ : St) (d : Nat) (h : d < 4) (v : Int32) : (cW a c σ).set (15 + d) (a (15 + d), .inr (2, List.set [.ref (a (19 + d)), .int (σ.1 4 d), .int (σ.1 5 d)] 2 (.int v))) = cW a c (wS σ 5 d v) := by
  match d, h with
  | 0, _ => rfl
  | 1, _ => rfl
  | 2, _ => rfl
  | 3, _ => rfl
  | d + 4, h => exact absurd h (by omega)
theorem cpA_readFirst (a : Nat → Nat) (c : Nat → ClassId) (σ : St) (j : Nat) (v : Int32) : (cW a c σ).set 3 (a 3, .inl (c 0, 8, .inl (upd (σ.1 6) j v))) = cW a c (wS σ 6 j v) := rfl
theorem cpA_readSecond (a : Nat → Nat) (c : Nat → ClassId) (σ : St) (j : Nat) (v : Int32) : (cW a c σ).set 4 (a 4, .inl (c 0, 8, .inl (upd (σ.1 7) j v))) = cW a c (wS σ 7 j v) := rfl
theorem cpA_readFits (a : Nat → Nat) (c : Nat → ClassId) (σ : St) (j : Nat) (v : Int32) : (cW a c σ).set 5 (a 5, .inl (c 2, 8, .inl (upd (σ.1 8) j v))) = cW a c (wS σ 8 j v) := rfl
theorem cpA_reached (a : Nat → Nat) (c : Nat → ClassId) (σ : St) (j : Nat) (v : Int32) : (cW a c σ).set 7 (a 7, .inl (c 0, 580, .inl (upd (σ.1 9) j v))) = cW a c (wS σ 9 j v) := rfl
theorem cpA_from (a : Nat → Nat) (c : Nat → ClassId) (σ : St) (j : Nat) (v : Int32) : (cW a c σ).set 8 (a 8, .inl (c 0, 580, .inl (upd (σ.1 10) j v))) = cW a c (wS σ 10 j v) := rfl
theorem cpA_by (a : Nat → Nat) (c : Nat → ClassId) (σ : St) (j : Nat) (v : Int32) : (cW a c σ).set 9 (a 9, .inl (c 0, 580, .inl (upd (σ.1 11) j v))) = cW a c (wS σ 11 j v) := rfl
theorem cpA_seen (a : Nat → Nat) (c : Nat → ClassId) (σ : St) (j : Nat) (v : Int64) : (cW a c σ).set 10 (a 10, .inl (c 1, 1024, .inr (.inl (vp_updL σ.2 j v)))) = cW a c (wL σ j v) := rfl
theorem cpLs_seen (a : Nat → Nat) (c : Nat → ClassId) (σ : St) (f : Nat → Int64) : (cW a c σ).set 10 (a 10, .inl (c 1, 1024, .inr (.inl f))) = cW a c (wLs σ f) := rfl
theorem cpA_cells (a : Nat → Nat) (c : Nat → ClassId) (σ : St) (d : Nat) (h : d < 4) (j : Nat) (v : Int32) : (cW a c σ).set (19 + d) (a (19 + d), .inl (c 0, 60, .inl (upd (σ.1 (12 + d)) j v))) = cW a c (wS σ (12 + d) j v) := by
  match d, h with
  | 0, _ => rfl
  | 1, _ => rfl
  | 2, _ => rfl
  | 3, _ => rfl
  | d + 4, h => exact absurd h (by omega)
theorem cpG_cells (a : Nat → Nat) (c : Nat → ClassId) (σ : St) (d : Nat) (h : d < 4) (f : Nat → Int32) : (cW a c σ).set (19 + d) (a (19 + d), .inl (c 0, 60, .inl f)) = cW a c (wG σ (12 + d) f) := by
  match d, h with
  | 0, _ => rfl
  | 1, _ => rfl
  | 2, _ => rfl
  | 3, _ => rfl
  | d + 4, h => exact absurd h (by omega)
def mW (a : Nat → Nat) (c : Nat → ClassId) (σ : St) : va_W := [
  (a 0, .inr (4, [.int (σ.1 0 0), .int (σ.1 0 1), .ref (a 1), .ref (a 2), .ref (a 3), .int (σ.1 0 2), .int (σ.1 0 3), .ref (a 4), .ref (a 5), .ref (a 6), .ref (a 7), .int (σ.1 0 4), .int (σ.1 0 5), .int (σ.1 0 6), .ref (a 8), .ref (a 9), .ref (a 10), .ref (a 11), .ref (a 12), .int (σ.1 0 7), .ref (a 13), .ref (a 14), .ref (a 15), .int (σ.1 0 8), .ref (a 16), .ref (a 17), .ref (a 18)])),
  (a 1, .inl (c 0, 4, .inl (σ.1 1))),
  (a 2, .inl (c 0, 4, .inl (σ.1 2))),
  (a 3, .inl (c 0, 240, .inl (σ.1 3))),
  (a 4, .inl (c 0, 4, .inl (σ.1 4))),
  (a 5, .inl (c 0, 4, .inl (σ.1 5))),
  (a 6, .inl (c 0, 4, .inl (σ.1 6))),
  (a 7, .inl (c 0, 4, .inl (σ.1 7))),
  (a 8, .inl (c 0, 12, .inl (σ.1 8))),
  (a 9, .inl (c 0, 10000, .inl (σ.1 9))),
  (a 10, .inl (c 0, 1200, .inl (σ.1 10))),
  (a 11, .inl (c 0, 33600, .inl (σ.1 11))),
  (a 12, .inl (c 0, 1200, .inl (σ.1 12))),
  (a 13, .inl (c 0, 4, .inl (σ.1 13))),
  (a 14, .inl (c 0, 4, .inl (σ.1 14))),
  (a 15, .inl (c 0, 4, .inl (σ.1 15))),
  (a 16, .inl (c 0, 8, .inl (σ.1 16))),
  (a 17, .inl (c 0, 8, .inl (σ.1 17))),
  (a 18, .inl (c 0, 8, .inl (σ.1 18)))]
theorem mw0 (a : Nat → Nat) (c : Nat → ClassId) (σ : St) : (mW a c σ)[0]? = some (a 0, .inr (4, [.int (σ.1 0 0), .int (σ.1 0 1), .ref (a 1), .ref (a 2), .ref (a 3), .int (σ.1 0 2), .int (σ.1 0 3), .ref (a 4), .ref (a 5), .ref (a 6), .ref (a 7), .int (σ.1 0 4), .int (σ.1 0 5), .int (σ.1 0 6), .ref (a 8), .ref (a 9), .ref (a 10), .ref (a 11), .ref (a 12), .int (σ.1 0 7), .ref (a 13), .ref (a 14), .ref (a 15), .int (σ.1 0 8), .ref (a 16), .ref (a 17), .ref (a 18)])) := rfl
theorem mw1 (a : Nat → Nat) (c : Nat → ClassId) (σ : St) : (mW a c σ)[1]? = some (a 1, .inl (c 0, 4, .inl (σ.1 1))) := rfl
theorem mpA_m1 (a : Nat → Nat) (c : Nat → ClassId) (σ : St) (j : Nat) (v : Int32) : (mW a c σ).set 1 (a 1, .inl (c 0, 4, .inl (upd (σ.1 1) j v))) = mW a c (wS σ 1 j v) := rfl
theorem mw2 (a : Nat → Nat) (c : Nat → ClassId) (σ : St) : (mW a c σ)[2]? = some (a 2, .inl (c 0, 4, .inl (σ.1 2))) := rfl
theorem mpA_m2 (a : Nat → Nat) (c : Nat → ClassId) (σ : St) (j : Nat) (v : Int32) : (mW a c σ).set 2 (a 2, .inl (c 0, 4, .inl (upd (σ.1 2) j v))) = mW a c (wS σ 2 j v) := rfl
theorem mw3 (a : Nat → Nat) (c : Nat → ClassId) (σ : St) : (mW a c σ)[3]? = some (a 3, .inl (c 0, 240, .inl (σ.1 3))) := rfl
theorem mpA_m3 (a : Nat → Nat) (c : Nat → ClassId) (σ : St) (j : Nat) (v : Int32) : (mW a c σ).set 3 (a 3, .inl (c 0, 240, .inl (upd (σ.1 3) j v))) = mW a c (wS σ 3 j v) := rfl
theorem mw4 (a : Nat → Nat) (c : Nat → ClassId) (σ : St) : (mW a c σ)[4]? = some (a 4, .inl (c 0, 4, .inl (σ.1 4))) := rfl
theorem mpA_m4 (a : Nat → Nat) (c : Nat → ClassId) (σ : St) (j : Nat) (v : Int32) : (mW a c σ).set 4 (a 4, .inl (c 0, 4, .inl (upd (σ.1 4) j v))) = mW a c (wS σ 4 j v) := rfl
theorem mw5 (a : Nat → Nat) (c : Nat → ClassId) (σ : St) : (mW a c σ)[5]? = some (a 5, .inl (c 0, 4, .inl (σ.1 5))) := rfl
theorem mpA_m5 (a : Nat → Nat) (c : Nat → ClassId) (σ : St) (j : Nat) (v : Int32) : (mW a c σ).set 5 (a 5, .inl (c 0, 4, .inl (upd (σ.1 5) j v))) = mW a c (wS σ 5 j v) := rfl
theorem mw6 (a : Nat → Nat) (c : Nat → ClassId) (σ : St) : (mW a c σ)[6]? = some (a 6, .inl (c 0, 4, .inl (σ.1 6))) := rfl
theorem mpA_m6 (a : Nat → Nat) (c : Nat → ClassId) (σ : St) (j : Nat) (v : Int32) : (mW a c σ).set 6 (a 6, .inl (c 0, 4, .inl (upd (σ.1 6) j v))) = mW a c (wS σ 6 j v) := rfl
theorem mw7 (a : Nat → Nat) (c : Nat → ClassId) (σ : St) : (mW a c σ)[7]? = some (a 7, .inl (c 0, 4, .inl (σ.1 7))) := rfl
theorem mpA_m7 (a : Nat → Nat) (c : Nat → ClassId) (σ : St) (j : Nat) (v : Int32) : (mW a c σ).set 7 (a 7, .inl (c 0, 4, .inl (upd (σ.1 7) j v))) = mW a c (wS σ 7 j v) := rfl
theorem mw8 (a : Nat → Nat) (c : Nat → ClassId) (σ : St) : (mW a c σ)[8]? = some (a 8, .inl (c 0, 12, .inl (σ.1 8))) := rfl
theorem mpA_m8 (a : Nat → Nat) (c : Nat → ClassId) (σ : St) (j : Nat) (v : Int32) : (mW a c σ).set 8 (a 8, .inl (c 0, 12, .inl (upd (σ.1 8) j v))) = mW a c (wS σ 8 j v) := rfl
theorem mw9 (a : Nat → Nat) (c : Nat → ClassId) (σ : St) : (mW a c σ)[9]? = some (a 9, .inl (c 0, 10000, .inl (σ.1 9))) := rfl
theorem mpA_m9 (a : Nat → Nat) (c : Nat → ClassId) (σ : St) (j : Nat) (v : Int32) : (mW a c σ).set 9 (a 9, .inl (c 0, 10000, .inl (upd (σ.1 9) j v))) = mW a c (wS σ 9 j v) := rfl
theorem mw10 (a : Nat → Nat) (c : Nat → ClassId) (σ : St) : (mW a c σ)[10]? = some (a 10, .inl (c 0, 1200, .inl (σ.1 10))) := rfl
theorem mpA_m10 (a : Nat → Nat) (c : Nat → ClassId) (σ : St) (j : Nat) (v : Int32) : (mW a c σ).set 10 (a 10, .inl (c 0, 1200, .inl (upd (σ.1 10) j v))) = mW a c (wS σ 10 j v) := rfl
theorem mw11 (a : Nat → Nat) (c : Nat → ClassId) (σ : St) : (mW a c σ)[11]? = some (a 11, .inl (c 0, 33600, .inl (σ.1 11))) := rfl
theorem mpA_m11 (a : Nat → Nat) (c : Nat → ClassId) (σ : St) (j : Nat) (v : Int32) : (mW a c σ).set 11 (a 11, .inl (c 0, 33600, .inl (upd (σ.1 11) j v))) = mW a c (wS σ 11 j v) := rfl
theorem mw12 (a : Nat → Nat) (c : Nat → ClassId) (σ : St) : (mW a c σ)[12]? = some (a 12, .inl (c 0, 1200, .inl (σ.1 12))) := rfl
theorem mpA_m12 (a : Nat → Nat) (c : Nat → ClassId) (σ : St) (j : Nat) (v : Int32) : (mW a c σ).set 12 (a 12, .inl (c 0, 1200, .inl (upd (σ.1 12) j v))) = mW a c (wS σ 12 j v) := rfl
theorem mw13 (a : Nat → Nat) (c : Nat → ClassId) (σ : St) : (mW a c σ)[13]? = some (a 13, .inl (c 0, 4, .inl (σ.1 13))) := rfl
theorem mpA_m13 (a : Nat → Nat) (c : Nat → ClassId) (σ : St) (j : Nat) (v : Int32) : (mW a c σ).set 13 (a 13, .inl (c 0, 4, .inl (upd (σ.1 13) j v))) = mW a c (wS σ 13 j v) := rfl
theorem mw14 (a : Nat → Nat) (c : Nat → ClassId) (σ : St) : (mW a c σ)[14]? = some (a 14, .inl (c 0, 4, .inl (σ.1 14))) := rfl
theorem mpA_m14 (a : Nat → Nat) (c : Nat → ClassId) (σ : St) (j : Nat) (v : Int32) : (mW a c σ).set 14 (a 14, .inl (c 0, 4, .inl (upd (σ.1 14) j v))) = mW a c (wS σ 14 j v) := rfl
theorem mw15 (a : Nat → Nat) (c : Nat → ClassId) (σ : St) : (mW a c σ)[15]? = some (a 15, .inl (c 0, 4, .inl (σ.1 15))) := rfl
theorem mpA_m15 (a : Nat → Nat) (c : Nat → ClassId) (σ : St) (j : Nat) (v : Int32) : (mW a c σ).set 15 (a 15, .inl (c 0, 4, .inl (upd (σ.1 15) j v))) = mW a c (wS σ 15 j v) := rfl
theorem mw16 (a : Nat → Nat) (c : Nat → ClassId) (σ : St) : (mW a c σ)[16]? = some (a 16, .inl (c 0, 8, .inl (σ.1 16))) := rfl
theorem mpA_m16 (a : Nat → Nat) (c : Nat → ClassId) (σ : St) (j : Nat) (v : Int32) : (mW a c σ).set 16 (a 16, .inl (c 0, 8, .inl (upd (σ.1 16) j v))) = mW a c (wS σ 16 j v) := rfl
theorem mw17 (a : Nat → Nat) (c : Nat → ClassId) (σ : St) : (mW a c σ)[17]? = some (a 17, .inl (c 0, 8, .inl (σ.1 17))) := rfl
theorem mpA_m17 (a : Nat → Nat) (c : Nat → ClassId) (σ : St) (j : Nat) (v : Int32) : (mW a c σ).set 17 (a 17, .inl (c 0, 8, .inl (upd (σ.1 17) j v))) = mW a c (wS σ 17 j v) := rfl
theorem mw18 (a : Nat → Nat) (c : Nat → ClassId) (σ : St) : (mW a c σ)[18]? = some (a 18, .inl (c 0, 8, .inl (σ.1 18))) := rfl
theorem mpA_m18 (a : Nat → Nat) (c : Nat → ClassId) (σ : St) (j : Nat) (v : Int32) : (mW a c σ).set 18 (a 18, .inl (c 0, 8, .inl (upd (σ.1 18) j v))) = mW a c (wS σ 18 j v) := rfl
theorem mpX6_fault (a : Nat → Nat) (c : Nat → ClassId) (σ : St) (v : Int32) : (mW a c σ).set 0 (a 0, .inr (4, List.set [.int (σ.1 0 0), .int (σ.1 0 1), .ref (a 1), .ref (a 2), .ref (a 3), .int (σ.1 0 2), .int (σ.1 0 3), .ref (a 4), .ref (a 5), .ref (a 6), .ref (a 7), .int (σ.1 0 4), .int (σ.1 0 5), .int (σ.1 0 6), .ref (a 8), .ref (a 9), .ref (a 10), .ref (a 11), .ref (a 12), .int (σ.1 0 7), .ref (a 13), .ref (a 14), .ref (a 15), .int (σ.1 0 8), .ref (a 16), .ref (a 17), .ref (a 18)] 0 (.int v))) = mW a c (wS σ 0 0 v) := rfl
theorem mpX6_trace (a : Nat → Nat) (c : Nat → ClassId) (σ : St) (v : Int32) : (mW a c σ).set 0 (a 0, .inr (4, List.set [.int (σ.1 0 0), .int (σ.1 0 1), .ref (a 1), .ref (a 2), .ref (a 3), .int (σ.1 0 2), .int (σ.1 0 3), .ref (a 4), .ref (a 5), .ref (a 6), .ref (a 7), .int (σ.1 0 4), .int (σ.1 0 5), .int (σ.1 0 6), .ref (a 8), .ref (a 9), .ref (a 10), .ref (a 11), .ref (a 12), .int (σ.1 0 7), .ref (a 13), .ref (a 14), .ref (a 15), .int (σ.1 0 8), .ref (a 16), .ref (a 17), .ref (a 18)] 1 (.int v))) = mW a c (wS σ 0 1 v) := rfl
theorem mpX6_dolls (a : Nat → Nat) (c : Nat → ClassId) (σ : St) (v : Int32) : (mW a c σ).set 0 (a 0, .inr (4, List.set [.int (σ.1 0 0), .int (σ.1 0 1), .ref (a 1), .ref (a 2), .ref (a 3), .int (σ.1 0 2), .int (σ.1 0 3), .ref (a 4), .ref (a 5), .ref (a 6), .ref (a 7), .int (σ.1 0 4), .int (σ.1 0 5), .int (σ.1 0 6), .ref (a 8), .ref (a 9), .ref (a 10), .ref (a 11), .ref (a 12), .int (σ.1 0 7), .ref (a 13), .ref (a 14), .ref (a 15), .int (σ.1 0 8), .ref (a 16), .ref (a 17), .ref (a 18)] 5 (.int v))) = mW a c (wS σ 0 2 v) := rfl
theorem mpX6_done (a : Nat → Nat) (c : Nat → ClassId) (σ : St) (v : Int32) : (mW a c σ).set 0 (a 0, .inr (4, List.set [.int (σ.1 0 0), .int (σ.1 0 1), .ref (a 1), .ref (a 2), .ref (a 3), .int (σ.1 0 2), .int (σ.1 0 3), .ref (a 4), .ref (a 5), .ref (a 6), .ref (a 7), .int (σ.1 0 4), .int (σ.1 0 5), .int (σ.1 0 6), .ref (a 8), .ref (a 9), .ref (a 10), .ref (a 11), .ref (a 12), .int (σ.1 0 7), .ref (a 13), .ref (a 14), .ref (a 15), .int (σ.1 0 8), .ref (a 16), .ref (a 17), .ref (a 18)] 6 (.int v))) = mW a c (wS σ 0 3 v) := rfl
theorem mpX6_open (a : Nat → Nat) (c : Nat → ClassId) (σ : St) (v : Int32) : (mW a c σ).set 0 (a 0, .inr (4, List.set [.int (σ.1 0 0), .int (σ.1 0 1), .ref (a 1), .ref (a 2), .ref (a 3), .int (σ.1 0 2), .int (σ.1 0 3), .ref (a 4), .ref (a 5), .ref (a 6), .ref (a 7), .int (σ.1 0 4), .int (σ.1 0 5), .int (σ.1 0 6), .ref (a 8), .ref (a 9), .ref (a 10), .ref (a 11), .ref (a 12), .int (σ.1 0 7), .ref (a 13), .ref (a 14), .ref (a 15), .int (σ.1 0 8), .ref (a 16), .ref (a 17), .ref (a 18)] 11 (.int v))) = mW a c (wS σ 0 4 v) := rfl
theorem mpX6_at (a : Nat → Nat) (c : Nat → ClassId) (σ : St) (v : Int32) : (mW a c σ).set 0 (a 0, .inr (4, List.set [.int (σ.1 0 0), .int (σ.1 0 1), .ref (a 1), .ref (a 2), .ref (a 3), .int (σ.1 0 2), .int (σ.1 0 3), .ref (a 4), .ref (a 5), .ref (a 6), .ref (a 7), .int (σ.1 0 4), .int (σ.1 0 5), .int (σ.1 0 6), .ref (a 8), .ref (a 9), .ref (a 10), .ref (a 11), .ref (a 12), .int (σ.1 0 7), .ref (a 13), .ref (a 14), .ref (a 15), .int (σ.1 0 8), .ref (a 16), .ref (a 17), .ref (a 18)] 12 (.int v))) = mW a c (wS σ 0 5 v) := rfl
theorem mpX6_readDolls (a : Nat → Nat) (c : Nat → ClassId) (σ : St) (v : Int32) : (mW a c σ).set 0 (a 0, .inr (4, List.set [.int (σ.1 0 0), .int (σ.1 0 1), .ref (a 1), .ref (a 2), .ref (a 3), .int (σ.1 0 2), .int (σ.1 0 3), .ref (a 4), .ref (a 5), .ref (a 6), .ref (a 7), .int (σ.1 0 4), .int (σ.1 0 5), .int (σ.1 0 6), .ref (a 8), .ref (a 9), .ref (a 10), .ref (a 11), .ref (a 12), .int (σ.1 0 7), .ref (a 13), .ref (a 14), .ref (a 15), .int (σ.1 0 8), .ref (a 16), .ref (a 17), .ref (a 18)] 13 (.int v))) = mW a c (wS σ 0 6 v) := rfl
theorem mpX6_come (a : Nat → Nat) (c : Nat → ClassId) (σ : St) (v : Int32) : (mW a c σ).set 0 (a 0, .inr (4, List.set [.int (σ.1 0 0), .int (σ.1 0 1), .ref (a 1), .ref (a 2), .ref (a 3), .int (σ.1 0 2), .int (σ.1 0 3), .ref (a 4), .ref (a 5), .ref (a 6), .ref (a 7), .int (σ.1 0 4), .int (σ.1 0 5), .int (σ.1 0 6), .ref (a 8), .ref (a 9), .ref (a 10), .ref (a 11), .ref (a 12), .int (σ.1 0 7), .ref (a 13), .ref (a 14), .ref (a 15), .int (σ.1 0 8), .ref (a 16), .ref (a 17), .ref (a 18)] 19 (.int v))) = mW a c (wS σ 0 7 v) := rfl
theorem mpX6_readings (a : Nat → Nat) (c : Nat → ClassId) (σ : St) (v : Int32) : (mW a c σ).set 0 (a 0, .inr (4, List.set [.int (σ.1 0 0), .int (σ.1 0 1), .ref (a 1), .ref (a 2), .ref (a 3), .int (σ.1 0 2), .int (σ.1 0 3), .ref (a 4), .ref (a 5), .ref (a 6), .ref (a 7), .int (σ.1 0 4), .int (σ.1 0 5), .int (σ.1 0 6), .ref (a 8), .ref (a 9), .ref (a 10), .ref (a 11), .ref (a 12), .int (σ.1 0 7), .ref (a 13), .ref (a 14), .ref (a 15), .int (σ.1 0 8), .ref (a 16), .ref (a 17), .ref (a 18)] 23 (.int v))) = mW a c (wS σ 0 8 v) := rfl
end
section
theorem k_X2_hasCells : Cal yX2_hasCells cX2_hasCells 3 (some .boolean) 2 := ⟨q92, q28, by decide +kernel⟩
theorem k_X2_hasNothing : Cal yX2_hasNothing cX2_hasNothing 1 (some .boolean) 0 := ⟨q88, q28, by decide +kernel⟩
theorem k_X2_faultOf : Cal yX2_faultOf cX2_faultOf 4 (some .int) 3 := ⟨q84, q28, by decide +kernel⟩
theorem k_X2_at : Cal yX2_at cX2_at 2 (some .int) 1 := ⟨q105, q28, by decide +kernel⟩
theorem k_X4_kindOf : Cal yX4_kindOf cX4_kindOf 1 (some .int) 1 := ⟨q111, q100, by decide +kernel⟩
theorem k_X4_goesOn : Cal yX4_goesOn cX4_goesOn 3 (some .boolean) 3 := ⟨q108, q100, by decide +kernel⟩
theorem k_X4_firstFault : Cal yX4_firstFault cX4_firstFault 4 (some .int) 3 := ⟨q101, q100, by decide +kernel⟩
theorem k_X5_come : Cal yX5_come cX5_come 2 (some .int) 1 := ⟨q97, q2, by decide +kernel⟩
theorem k_X5_isLane : Cal yX5_isLane cX5_isLane 1 (some .boolean) 1 := ⟨q80, q2, by decide +kernel⟩
theorem k_X5_isSheet : Cal yX5_isSheet cX5_isSheet 1 (some .boolean) 1 := ⟨q77, q2, by decide +kernel⟩
theorem k_X4_dollsIn : Cal yX4_dollsIn cX4_dollsIn 1 (some .int) 1 := ⟨q121, q100, by decide +kernel⟩
theorem k_X4_tellDoll : Cal yX4_tellDoll cX4_tellDoll 5 (none) 4 := ⟨q128, q100, by decide +kernel⟩
theorem k_X5_take : Cal yX5_take cX5_take 5 (none) 3 := ⟨q115, q2, by decide +kernel⟩
theorem k_X5_dolls : Cal yX5_dolls cX5_dolls 7 (some .int) 4 := ⟨q72, q2, by decide +kernel⟩
theorem k_X6_against : Cal yX6_against cX6_against 5 (some .int) 4 := ⟨q155, q5, by decide +kernel⟩
theorem k_X6_fails : Cal yX6_fails cX6_fails 2 (some .int) 1 := ⟨q159, q5, by decide +kernel⟩
theorem k_X6_within : Cal yX6_within cX6_within 3 (some .boolean) 3 := ⟨q148, q5, by decide +kernel⟩
theorem k_X6_isSheet : Cal yX6_isSheet cX6_isSheet 1 (some .boolean) 1 := ⟨q145, q5, by decide +kernel⟩
theorem k_X6_isSort : Cal yX6_isSort cX6_isSort 1 (some .boolean) 1 := ⟨q151, q5, by decide +kernel⟩
theorem k_X6_isSign : Cal yX6_isSign cX6_isSign 3 (some .boolean) 2 := ⟨q167, q5, by decide +kernel⟩
theorem k_X6_digit : Cal yX6_digit cX6_digit 4 (some .int) 3 := ⟨q175, q5, by decide +kernel⟩
theorem k_X6_readDoll : Cal yX6_readDoll cX6_readDoll 4 (some .boolean) 1 := ⟨q171, q5, by decide +kernel⟩
theorem k_X6_readAll : Cal yX6_readAll cX6_readAll 2 (some .boolean) 1 := ⟨q163, q5, by decide +kernel⟩
theorem k_X6_dolls : Cal yX6_dolls cX6_dolls 8 (some .int) 4 := ⟨q135, q5, by decide +kernel⟩
theorem k_X0_wide : Cal yX0_wide cX0_wide 1 (some .int) 0 := ⟨q190, q26, by decide +kernel⟩
theorem k_X3_openSet : Cal yX3_openSet cX3_openSet 1 (some .int) 1 := ⟨q201, q194, by decide +kernel⟩
theorem k_X3_placeOf : Cal yX3_placeOf cX3_placeOf 2 (some .int) 2 := ⟨q195, q194, by decide +kernel⟩
theorem k_X5_has : Cal yX5_has cX5_has 2 (some .boolean) 2 := ⟨q203, q2, by decide +kernel⟩
theorem k_X3_canBeGotAt : Cal yX3_canBeGotAt cX3_canBeGotAt 5 (some .boolean) 2 := ⟨q212, q194, by decide +kernel⟩
theorem k_X3_handSet : Cal yX3_handSet cX3_handSet 4 (some .int) 2 := ⟨q209, q194, by decide +kernel⟩
theorem k_X3_innerOf : Cal yX3_innerOf cX3_innerOf 4 (some .int) 3 := ⟨q217, q194, by decide +kernel⟩
theorem k_X3_isOpen : Cal yX3_isOpen cX3_isOpen 2 (some .boolean) 2 := ⟨q198, q194, by decide +kernel⟩
theorem k_X3_manyWithin : Cal yX3_manyWithin cX3_manyWithin 6 (some .int) 3 := ⟨q220, q194, by decide +kernel⟩
theorem k_X5_isDoll : Cal yX5_isDoll cX5_isDoll 2 (some .boolean) 1 := ⟨q186, q2, by decide +kernel⟩
theorem k_X5_oneIf : Cal yX5_oneIf cX5_oneIf 1 (some .int) 1 := ⟨q206, q2, by decide +kernel⟩
theorem k_X5_ofDoll : Cal yX5_ofDoll cX5_ofDoll 3 (some .int) 2 := ⟨q179, q2, by decide +kernel⟩
theorem k_X6_inOf : Cal yX6_inOf cX6_inOf 3 (some .int) 1 := ⟨q244, q5, by decide +kernel⟩
theorem k_X6_isOf : Cal yX6_isOf cX6_isOf 2 (some .boolean) 2 := ⟨q240, q5, by decide +kernel⟩
theorem k_X6_isAtHand : Cal yX6_isAtHand cX6_isAtHand 4 (some .boolean) 1 := ⟨q237, q5, by decide +kernel⟩
theorem k_X6_isDoll : Cal yX6_isDoll cX6_isDoll 2 (some .boolean) 1 := ⟨q229, q5, by decide +kernel⟩
theorem k_X6_manyWithin : Cal yX6_manyWithin cX6_manyWithin 4 (some .int) 1 := ⟨q248, q5, by decide +kernel⟩
theorem k_X6_wideOf : Cal yX6_wideOf cX6_wideOf 2 (some .int) 1 := ⟨q233, q5, by decide +kernel⟩
theorem k_X6_ofDoll : Cal yX6_ofDoll cX6_ofDoll 3 (some .int) 2 := ⟨q225, q5, by decide +kernel⟩
theorem k_X5_girth : Cal yX5_girth cX5_girth 4 (some .int) 2 := ⟨q252, q2, by decide +kernel⟩
theorem k_X6_girth : Cal yX6_girth cX6_girth 4 (some .int) 2 := ⟨q256, q5, by decide +kernel⟩
theorem k_X5_room : Cal yX5_room cX5_room 4 (some .int) 2 := ⟨q260, q2, by decide +kernel⟩
theorem k_X6_room : Cal yX6_room cX6_room 4 (some .int) 2 := ⟨q264, q5, by decide +kernel⟩
theorem k_X0_goesInto : Cal yX0_goesInto cX0_goesInto 2 (some .boolean) 1 := ⟨q276, q26, by decide +kernel⟩
theorem k_X5_areTwo : Cal yX5_areTwo cX5_areTwo 3 (some .boolean) 2 := ⟨q272, q2, by decide +kernel⟩
theorem k_X5_fits : Cal yX5_fits cX5_fits 3 (some .int) 2 := ⟨q268, q2, by decide +kernel⟩
theorem k_X6_areTwo : Cal yX6_areTwo cX6_areTwo 3 (some .boolean) 2 := ⟨q286, q5, by decide +kernel⟩
theorem k_X6_fitsInto : Cal yX6_fitsInto cX6_fitsInto 3 (some .boolean) 2 := ⟨q290, q5, by decide +kernel⟩
theorem k_X6_fits : Cal yX6_fits cX6_fits 3 (some .int) 2 := ⟨q282, q5, by decide +kernel⟩
theorem k_X3_moved : Cal yX3_moved cX3_moved 4 (some .int) 3 := ⟨q321, q194, by decide +kernel⟩
theorem k_X3_after : Cal yX3_after cX3_after 2 (some .int) 2 := ⟨q318, q194, by decide +kernel⟩
theorem k_X3_outersOf : Cal yX3_outersOf cX3_outersOf 5 (some .int) 2 := ⟨q315, q194, by decide +kernel⟩
theorem k_X3_tableSet : Cal yX3_tableSet cX3_tableSet 4 (some .int) 2 := ⟨q312, q194, by decide +kernel⟩
theorem k_X3_doable : Cal yX3_doable cX3_doable 9 (some .int) 3 := ⟨q308, q194, by decide +kernel⟩
theorem k_X5_fitting : Cal yX5_fitting cX5_fitting 4 (some .int) 0 := ⟨q305, q2, by decide +kernel⟩
theorem k_X5_doableAt : Cal yX5_doableAt cX5_doableAt 2 (some .int) 1 := ⟨q301, q2, by decide +kernel⟩
theorem k_X5_isAct : Cal yX5_isAct cX5_isAct 1 (some .boolean) 1 := ⟨q297, q2, by decide +kernel⟩
theorem k_J6_bitCount_0f7a4 : Cal yJ6_bitCount_0f7a4 cJ6_bitCount_0f7a4 1 (some .int) 1 := ⟨q330, q329, by decide +kernel⟩
theorem k_X5_manyOnTable : Cal yX5_manyOnTable cX5_manyOnTable 2 (some .int) 1 := ⟨q325, q2, by decide +kernel⟩
theorem k_X5_act : Cal yX5_act cX5_act 2 (some .int) 1 := ⟨q294, q2, by decide +kernel⟩
theorem k_X6_canDo : Cal yX6_canDo cX6_canDo 4 (some .boolean) 1 := ⟨q341, q5, by decide +kernel⟩
theorem k_X6_does : Cal yX6_does cX6_does 3 (none) 1 := ⟨q345, q5, by decide +kernel⟩
theorem k_X6_onTable : Cal yX6_onTable cX6_onTable 3 (some .int) 0 := ⟨q349, q5, by decide +kernel⟩
theorem k_X6_act : Cal yX6_act cX6_act 2 (some .int) 1 := ⟨q337, q5, by decide +kernel⟩
theorem k_X5_anew : Cal yX5_anew cX5_anew 2 (some .int) 0 := ⟨q353, q2, by decide +kernel⟩
theorem k_X6_anew : Cal yX6_anew cX6_anew 3 (some .int) 0 := ⟨q357, q5, by decide +kernel⟩
theorem k_X5_can : Cal yX5_can cX5_can 1 (some .int) 0 := ⟨q361, q2, by decide +kernel⟩
theorem k_X6_can : Cal yX6_can cX6_can 3 (some .int) 0 := ⟨q365, q5, by decide +kernel⟩
theorem k_X2_isWithin : Cal yX2_isWithin cX2_isWithin 7 (some .boolean) 4 := ⟨q376, q28, by decide +kernel⟩
theorem k_X5_firstWrong : Cal yX5_firstWrong cX5_firstWrong 7 (some .int) 3 := ⟨q381, q2, by decide +kernel⟩
theorem k_X5_isAskedOfDay : Cal yX5_isAskedOfDay cX5_isAskedOfDay 1 (some .boolean) 1 := ⟨q372, q2, by decide +kernel⟩
theorem k_X3_mostWithin : Cal yX3_mostWithin cX3_mostWithin 4 (some .int) 2 := ⟨q394, q194, by decide +kernel⟩
theorem k_X5_ofStand : Cal yX5_ofStand cX5_ofStand 3 (some .int) 2 := ⟨q390, q2, by decide +kernel⟩
theorem k_X5_standAfter : Cal yX5_standAfter cX5_standAfter 6 (some .int) 3 := ⟨q386, q2, by decide +kernel⟩
theorem k_X5_day : Cal yX5_day cX5_day 8 (some .int) 5 := ⟨q369, q2, by decide +kernel⟩
theorem k_X6_becomeNest : Cal yX6_becomeNest cX6_becomeNest 4 (none) 1 := ⟨q422, q5, by decide +kernel⟩
theorem k_X6_goDay : Cal yX6_goDay cX6_goDay 4 (some .int) 2 := ⟨q410, q5, by decide +kernel⟩
theorem k_X6_nestNow : Cal yX6_nestNow cX6_nestNow 3 (some .int) 0 := ⟨q406, q5, by decide +kernel⟩
theorem k_X6_handSet : Cal yX6_handSet cX6_handSet 3 (some .int) 0 := ⟨q418, q5, by decide +kernel⟩
theorem k_X6_tellDay : Cal yX6_tellDay cX6_tellDay 4 (some .int) 1 := ⟨q414, q5, by decide +kernel⟩
theorem k_X6_day : Cal yX6_day cX6_day 11 (some .int) 5 := ⟨q402, q5, by decide +kernel⟩
theorem k_X1_lengthTo : Cal yX1_lengthTo cX1_lengthTo 4 (some .int) 1 := ⟨q460, q23, by decide +kernel⟩
theorem k_X1_actTo : Cal yX1_actTo cX1_actTo 5 (some .int) 2 := ⟨q464, q23, by decide +kernel⟩
theorem k_X1_find : Cal yX1_find cX1_find 3 (some .int) 1 := ⟨q456, q23, by decide +kernel⟩
theorem k_X1_reach : Cal yX1_reach cX1_reach 7 (none) 3 := ⟨q441, q23, by decide +kernel⟩
theorem k_X1_goOn : Cal yX1_goOn cX1_goOn 4 (none) 1 := ⟨q445, q23, by decide +kernel⟩
theorem k_X1_go : Cal yX1_go cX1_go 5 (none) 3 := ⟨q430, q23, by decide +kernel⟩
theorem k_X5_nestTold : Cal yX5_nestTold cX5_nestTold 5 (some .int) 2 := ⟨q451, q2, by decide +kernel⟩
theorem k_X5_fewest : Cal yX5_fewest cX5_fewest 7 (some .int) 4 := ⟨q426, q2, by decide +kernel⟩
theorem k_X6_isTold : Cal yX6_isTold cX6_isTold 4 (some .boolean) 1 := ⟨q482, q5, by decide +kernel⟩
theorem k_X6_findFar : Cal yX6_findFar cX6_findFar 6 (none) 1 := ⟨q478, q5, by decide +kernel⟩
theorem k_X6_findNests : Cal yX6_findNests cX6_findNests 5 (none) 0 := ⟨q473, q5, by decide +kernel⟩
theorem k_X6_fewest : Cal yX6_fewest cX6_fewest 10 (some .int) 4 := ⟨q469, q5, by decide +kernel⟩
theorem k_X1_isOf : Cal yX1_isOf cX1_isOf 3 (some .boolean) 2 := ⟨q494, q23, by decide +kernel⟩
theorem k_X1_howMany : Cal yX1_howMany cX1_howMany 4 (some .int) 1 := ⟨q490, q23, by decide +kernel⟩
theorem k_X5_stands : Cal yX5_stands cX5_stands 2 (some .int) 1 := ⟨q486, q2, by decide +kernel⟩
theorem k_X6_stands : Cal yX6_stands cX6_stands 6 (some .int) 1 := ⟨q502, q5, by decide +kernel⟩
theorem k_X5_isFree : Cal yX5_isFree cX5_isFree 4 (some .boolean) 4 := ⟨q513, q2, by decide +kernel⟩
theorem k_X5_leastWith : Cal yX5_leastWith cX5_leastWith 5 (some .int) 5 := ⟨q516, q2, by decide +kernel⟩
theorem k_X5_leastOnTable : Cal yX5_leastOnTable cX5_leastOnTable 6 (some .int) 4 := ⟨q509, q2, by decide +kernel⟩
theorem k_X5_firstPlace : Cal yX5_firstPlace cX5_firstPlace 6 (some .int) 4 := ⟨q523, q2, by decide +kernel⟩
theorem k_X5_tidyPlace : Cal yX5_tidyPlace cX5_tidyPlace 6 (some .int) 2 := ⟨q520, q2, by decide +kernel⟩
theorem k_X5_tidy : Cal yX5_tidy cX5_tidy 3 (some .int) 1 := ⟨q506, q2, by decide +kernel⟩
theorem k_X6_canTidy : Cal yX6_canTidy cX6_canTidy 6 (some .boolean) 1 := ⟨q531, q5, by decide +kernel⟩
theorem k_X6_tidy : Cal yX6_tidy cX6_tidy 7 (some .int) 1 := ⟨q527, q5, by decide +kernel⟩
theorem k_X5_longestFrom : Cal yX5_longestFrom cX5_longestFrom 6 (some .int) 4 := ⟨q539, q2, by decide +kernel⟩
theorem k_X5_chain : Cal yX5_chain cX5_chain 4 (some .int) 0 := ⟨q535, q2, by decide +kernel⟩
theorem k_X6_chain : Cal yX6_chain cX6_chain 6 (some .int) 0 := ⟨q543, q5, by decide +kernel⟩
theorem k_X5_reading : Cal yX5_reading cX5_reading 4 (some .int) 3 := ⟨q547, q2, by decide +kernel⟩
theorem k_X6_reading : Cal yX6_reading cX6_reading 4 (some .int) 3 := ⟨q551, q5, by decide +kernel⟩
theorem k_X5_back : Cal yX5_back cX5_back 2 (some .int) 1 := ⟨q555, q2, by decide +kernel⟩
theorem k_X6_back : Cal yX6_back cX6_back 2 (some .int) 1 := ⟨q559, q5, by decide +kernel⟩
theorem k_X5_readingsAreSo : Cal yX5_readingsAreSo cX5_readingsAreSo 4 (some .boolean) 0 := ⟨q567, q2, by decide +kernel⟩
theorem k_X5_girths : Cal yX5_girths cX5_girths 5 (some .int) 1 := ⟨q563, q2, by decide +kernel⟩
theorem k_X6_areSo : Cal yX6_areSo cX6_areSo 2 (some .boolean) 0 := ⟨q575, q5, by decide +kernel⟩
theorem k_X6_girths : Cal yX6_girths cX6_girths 5 (some .int) 1 := ⟨q571, q5, by decide +kernel⟩
theorem k_X5_rooms : Cal yX5_rooms cX5_rooms 5 (some .int) 1 := ⟨q579, q2, by decide +kernel⟩
theorem k_X6_rooms : Cal yX6_rooms cX6_rooms 5 (some .int) 1 := ⟨q583, q5, by decide +kernel⟩
theorem k_X5_kinds : Cal yX5_kinds cX5_kinds 5 (some .int) 1 := ⟨q587, q2, by decide +kernel⟩
theorem k_X6_kinds : Cal yX6_kinds cX6_kinds 5 (some .int) 1 := ⟨q591, q5, by decide +kernel⟩
theorem k_X5_commonDivisor : Cal yX5_commonDivisor cX5_commonDivisor 3 (some .int) 2 := ⟨q599, q2, by decide +kernel⟩
theorem k_X5_odds : Cal yX5_odds cX5_odds 5 (some .long) 1 := ⟨q595, q2, by decide +kernel⟩
theorem k_X6_inLeastTerms : Cal yX6_inLeastTerms cX6_inLeastTerms 11 (some .long) 3 := ⟨q607, q5, by decide +kernel⟩
theorem k_X6_odds : Cal yX6_odds cX6_odds 5 (some .long) 1 := ⟨q603, q5, by decide +kernel⟩
theorem k_X2_renew : Cal yX2_renew cX2_renew 3 (none) 2 := ⟨q615, q28, by decide +kernel⟩
theorem k_X5_sheet : Cal yX5_sheet cX5_sheet 4 (some .int) 3 := ⟨q611, q2, by decide +kernel⟩
theorem k_X6_sheet : Cal yX6_sheet cX6_sheet 5 (some .int) 3 := ⟨q624, q5, by decide +kernel⟩
theorem k_X2_clear : Cal yX2_clear cX2_clear 1 (none) 0 := ⟨q633, q28, by decide +kernel⟩
theorem k_X5_lose : Cal yX5_lose cX5_lose 2 (some .int) 1 := ⟨q628, q2, by decide +kernel⟩
theorem k_X6_lose : Cal yX6_lose cX6_lose 3 (some .int) 1 := ⟨q637, q5, by decide +kernel⟩
theorem k_X2_cut : Cal yX2_cut cX2_cut 2 (some .int) 1 := ⟨q650, q28, by decide +kernel⟩
theorem k_X2_write : Cal yX2_write cX2_write 3 (none) 2 := ⟨q646, q28, by decide +kernel⟩
theorem k_X5_put : Cal yX5_put cX5_put 4 (some .int) 3 := ⟨q641, q2, by decide +kernel⟩
theorem k_X6_put : Cal yX6_put cX6_put 4 (some .int) 3 := ⟨q654, q5, by decide +kernel⟩
theorem k_X5_cell : Cal yX5_cell cX5_cell 4 (some .long) 3 := ⟨q658, q2, by decide +kernel⟩
theorem k_X6_lost : Cal yX6_lost cX6_lost 2 (some .long) 1 := ⟨q666, q5, by decide +kernel⟩
theorem k_X6_cell : Cal yX6_cell cX6_cell 4 (some .long) 3 := ⟨q662, q5, by decide +kernel⟩
theorem k_X2_isLike : Cal yX2_isLike cX2_isLike 2 (some .boolean) 1 := ⟨q674, q28, by decide +kernel⟩
theorem k_X2_send : Cal yX2_send cX2_send 5 (none) 4 := ⟨q678, q28, by decide +kernel⟩
theorem k_X5_copy : Cal yX5_copy cX5_copy 6 (some .int) 5 := ⟨q670, q2, by decide +kernel⟩
theorem k_X6_copy : Cal yX6_copy cX6_copy 10 (some .int) 5 := ⟨q686, q5, by decide +kernel⟩
theorem k_X5_leave : Cal yX5_leave cX5_leave 2 (none) 1 := ⟨q698, q2, by decide +kernel⟩
theorem k_X5_tellPlain : Cal yX5_tellPlain cX5_tellPlain 2 (some .int) 1 := ⟨q703, q2, by decide +kernel⟩
theorem k_X5_tellBrushed : Cal yX5_tellBrushed cX5_tellBrushed 2 (some .int) 1 := ⟨q694, q2, by decide +kernel⟩
theorem k_X5_tellSwollen : Cal yX5_tellSwollen cX5_tellSwollen 3 (some .int) 1 := ⟨q707, q2, by decide +kernel⟩
theorem k_X5_tell : Cal yX5_tell cX5_tell 2 (some .int) 1 := ⟨q690, q2, by decide +kernel⟩
theorem k_X6_begins : Cal yX6_begins cX6_begins 2 (none) 1 := ⟨q715, q5, by decide +kernel⟩
theorem k_X6_tell : Cal yX6_tell cX6_tell 3 (some .int) 1 := ⟨q711, q5, by decide +kernel⟩
theorem k_X5_shake : Cal yX5_shake cX5_shake 2 (some .int) 1 := ⟨q720, q2, by decide +kernel⟩
theorem k_X6_shake : Cal yX6_shake cX6_shake 2 (some .int) 1 := ⟨q724, q5, by decide +kernel⟩
theorem k_X5_as : Cal yX5_as cX5_as 3 (some .int) 2 := ⟨q728, q2, by decide +kernel⟩
theorem k_X6_as : Cal yX6_as cX6_as 3 (some .int) 2 := ⟨q732, q5, by decide +kernel⟩
theorem k_X5_trace : Cal yX5_trace cX5_trace 1 (some .int) 0 := ⟨q736, q2, by decide +kernel⟩
theorem k_X6_trace : Cal yX6_trace cX6_trace 1 (some .int) 0 := ⟨q740, q5, by decide +kernel⟩
theorem k_X5_fault : Cal yX5_fault cX5_fault 1 (some .int) 0 := ⟨q744, q2, by decide +kernel⟩
theorem k_X6_fault : Cal yX6_fault cX6_fault 1 (some .int) 0 := ⟨q748, q5, by decide +kernel⟩
theorem k_X5_many : Cal yX5_many cX5_many 2 (some .int) 1 := ⟨q752, q2, by decide +kernel⟩
theorem k_X6_many : Cal yX6_many cX6_many 4 (some .int) 1 := ⟨q756, q5, by decide +kernel⟩
theorem k_J7_fill_53178 : Cal yJ7_fill_53178 cJ7_fill_53178 4 none 2 := ⟨q620, q436, by decide +kernel⟩
theorem k_J7_fill_d0a16 : Cal yJ7_fill_d0a16 cJ7_fill_d0a16 5 none 2 := ⟨q437, q436, by decide +kernel⟩
end
section
theorem dX4_kindOf_0 : decode cX4_kindOf 0 = .ok (.iload_n 0, 1) := by decide +kernel
theorem dX4_kindOf_1 : decode cX4_kindOf 1 = .ok (.lookupswitch 41 #[(98, 37), (112, 35), (115, 39)], 35) := by decide +kernel
theorem dX4_kindOf_36 : decode cX4_kindOf 36 = .ok (.iconst 0, 1) := by decide +kernel
theorem dX4_kindOf_37 : decode cX4_kindOf 37 = .ok (.ireturn, 1) := by decide +kernel
theorem dX4_kindOf_38 : decode cX4_kindOf 38 = .ok (.iconst 1, 1) := by decide +kernel
theorem dX4_kindOf_39 : decode cX4_kindOf 39 = .ok (.ireturn, 1) := by decide +kernel
theorem dX4_kindOf_40 : decode cX4_kindOf 40 = .ok (.iconst 2, 1) := by decide +kernel
theorem dX4_kindOf_41 : decode cX4_kindOf 41 = .ok (.ireturn, 1) := by decide +kernel
theorem dX4_kindOf_42 : decode cX4_kindOf 42 = .ok (.bipush (-9), 2) := by decide +kernel
theorem dX4_kindOf_44 : decode cX4_kindOf 44 = .ok (.ireturn, 1) := by decide +kernel
def f_X4_kindOf (x0 : Int32) : Option Int32 :=
  if x0 = (98 : Int32) then (some (1 : Int32))
  else if x0 = (112 : Int32) then (some (0 : Int32))
  else if x0 = (115 : Int32) then (some (2 : Int32))
  else some (-9 : Int32)
abbrev rmX4_kindOf : Room := { frames := 0, cells := 0, slots := 0, locals := 0 }
set_option maxRecDepth 100000 in
set_option maxHeartbeats 4000000 in
theorem c_X4_kindOf (l : Launch) (x0 : Int32) (r : Int32) (hf : f_X4_kindOf x0 = some r) : MetS l yX4_kindOf cX4_kindOf 1 (some .int) rmX4_kindOf [.int x0] r := by
  refine mkS (by decide) (Nat.le_of_ble_eq_true rfl) rfl ?_
  intro p e s m args below meth cd Q ls h0 hK hret hl
  obtain ⟨S, hr, hlk⟩ := h0
  obtain ⟨hx, hb, hml, hown, ht⟩ := id S
  have hl : lv_has ls 1 [(0, .int x0)] := hl
  have hf := obs hf
  have hf := oun (f_X4_kindOf.eq_1 _) hf
  refine lv_iload_n hx hb dX4_kindOf_0 rfl (lv_at hl 0 rfl) ?_
  by_cases c_1 : x0 = (98 : Int32)
  · have hf := oit c_1 hf
    refine lv_lookup (tgt := 38) (off := 37) hx hb dX4_kindOf_1 (by decide) (by rw [c_1]; decide) (by decide) ?_
    refine lv_iconst (v := (1 : Int32)) hx hb dX4_kindOf_38 (by decide) ?_
    exact hret _ _ _ dX4_kindOf_39 rfl (Option.some.inj hf)
  have hf := oif c_1 hf
  by_cases c_2 : x0 = (112 : Int32)
  · have hf := oit c_2 hf
    refine lv_lookup (tgt := 36) (off := 35) hx hb dX4_kindOf_1 (by decide) (by rw [c_2]; decide) (by decide) ?_
    refine lv_iconst (v := (0 : Int32)) hx hb dX4_kindOf_36 (by decide) ?_
    exact hret _ _ _ dX4_kindOf_37 rfl (Option.some.inj hf)
  have hf := oif c_2 hf
  by_cases c_3 : x0 = (115 : Int32)
  · have hf := oit c_3 hf
    refine lv_lookup (tgt := 40) (off := 39) hx hb dX4_kindOf_1 (by decide) (by rw [c_3]; decide) (by decide) ?_
    refine lv_iconst (v := (2 : Int32)) hx hb dX4_kindOf_40 (by decide) ?_
    exact hret _ _ _ dX4_kindOf_41 rfl (Option.some.inj hf)
  have hf := oif c_3 hf
  refine lv_lookup (tgt := 42) (off := 41) hx hb dX4_kindOf_1 (by decide) (by show Op.lookupswitch.offset [(98, 37), (112, 35), (115, 39)] 41 _ = _; rw [lv_osw c_1 (a := 98) (by decide), lv_osw c_2 (a := 112) (by decide), lv_osw c_3 (a := 115) (by decide)]; rfl) (by decide) ?_
  refine lv_bipush (v := (-9 : Int32)) hx hb dX4_kindOf_42 (by decide) ?_
  exact hret _ _ _ dX4_kindOf_44 rfl (Option.some.inj hf)
theorem dX4_goesOn_0 : decode cX4_goesOn 0 = .ok (.iload_n 0, 1) := by decide +kernel
theorem dX4_goesOn_1 : decode cX4_goesOn 1 = .ok (.ifCond .ne 15, 3) := by decide +kernel
theorem dX4_goesOn_4 : decode cX4_goesOn 4 = .ok (.iload_n 1, 1) := by decide +kernel
theorem dX4_goesOn_5 : decode cX4_goesOn 5 = .ok (.bipush 110, 2) := by decide +kernel
theorem dX4_goesOn_7 : decode cX4_goesOn 7 = .ok (.if_icmp .ne 7, 3) := by decide +kernel
theorem dX4_goesOn_10 : decode cX4_goesOn 10 = .ok (.iconst 1, 1) := by decide +kernel
theorem dX4_goesOn_11 : decode cX4_goesOn 11 = .ok (.goto 4, 3) := by decide +kernel
theorem dX4_goesOn_14 : decode cX4_goesOn 14 = .ok (.iconst 0, 1) := by decide +kernel
theorem dX4_goesOn_15 : decode cX4_goesOn 15 = .ok (.ireturn, 1) := by decide +kernel
theorem dX4_goesOn_16 : decode cX4_goesOn 16 = .ok (.iload_n 0, 1) := by decide +kernel
theorem dX4_goesOn_17 : decode cX4_goesOn 17 = .ok (.bipush 17, 2) := by decide +kernel
theorem dX4_goesOn_19 : decode cX4_goesOn 19 = .ok (.if_icmp .lt 5, 3) := by decide +kernel
theorem dX4_goesOn_22 : decode cX4_goesOn 22 = .ok (.iconst 0, 1) := by decide +kernel
theorem dX4_goesOn_23 : decode cX4_goesOn 23 = .ok (.ireturn, 1) := by decide +kernel
theorem dX4_goesOn_24 : decode cX4_goesOn 24 = .ok (.iload_n 0, 1) := by decide +kernel
theorem dX4_goesOn_25 : decode cX4_goesOn 25 = .ok (.iconst 1, 1) := by decide +kernel
theorem dX4_goesOn_26 : decode cX4_goesOn 26 = .ok (.isub, 1) := by decide +kernel
theorem dX4_goesOn_27 : decode cX4_goesOn 27 = .ok (.iconst 4, 1) := by decide +kernel
theorem dX4_goesOn_28 : decode cX4_goesOn 28 = .ok (.irem, 1) := by decide +kernel
theorem dX4_goesOn_29 : decode cX4_goesOn 29 = .ok (.tableswitch 72 0 2 #[27, 39, 54], 27) := by decide +kernel
theorem dX4_goesOn_56 : decode cX4_goesOn 56 = .ok (.iload_n 1, 1) := by decide +kernel
theorem dX4_goesOn_57 : decode cX4_goesOn 57 = .ok (.bipush 59, 2) := by decide +kernel
theorem dX4_goesOn_59 : decode cX4_goesOn 59 = .ok (.if_icmp .ne 7, 3) := by decide +kernel
theorem dX4_goesOn_62 : decode cX4_goesOn 62 = .ok (.iconst 1, 1) := by decide +kernel
theorem dX4_goesOn_63 : decode cX4_goesOn 63 = .ok (.goto 4, 3) := by decide +kernel
theorem dX4_goesOn_66 : decode cX4_goesOn 66 = .ok (.iconst 0, 1) := by decide +kernel
theorem dX4_goesOn_67 : decode cX4_goesOn 67 = .ok (.ireturn, 1) := by decide +kernel
theorem dX4_goesOn_68 : decode cX4_goesOn 68 = .ok (.iload_n 1, 1) := by decide +kernel
theorem dX4_goesOn_69 : decode cX4_goesOn 69 = .ok (.invokestatic 21, 3) := by decide +kernel
theorem dX4_goesOn_72 : decode cX4_goesOn 72 = .ok (.bipush (-9), 2) := by decide +kernel
theorem dX4_goesOn_74 : decode cX4_goesOn 74 = .ok (.if_icmp .eq 7, 3) := by decide +kernel
theorem dX4_goesOn_77 : decode cX4_goesOn 77 = .ok (.iconst 1, 1) := by decide +kernel
theorem dX4_goesOn_78 : decode cX4_goesOn 78 = .ok (.goto 4, 3) := by decide +kernel
theorem dX4_goesOn_81 : decode cX4_goesOn 81 = .ok (.iconst 0, 1) := by decide +kernel
theorem dX4_goesOn_82 : decode cX4_goesOn 82 = .ok (.ireturn, 1) := by decide +kernel
theorem dX4_goesOn_83 : decode cX4_goesOn 83 = .ok (.iload_n 1, 1) := by decide +kernel
theorem dX4_goesOn_84 : decode cX4_goesOn 84 = .ok (.bipush 49, 2) := by decide +kernel
theorem dX4_goesOn_86 : decode cX4_goesOn 86 = .ok (.if_icmp .lt 13, 3) := by decide +kernel
theorem dX4_goesOn_89 : decode cX4_goesOn 89 = .ok (.iload_n 1, 1) := by decide +kernel
theorem dX4_goesOn_90 : decode cX4_goesOn 90 = .ok (.bipush 57, 2) := by decide +kernel
theorem dX4_goesOn_92 : decode cX4_goesOn 92 = .ok (.if_icmp .gt 7, 3) := by decide +kernel
theorem dX4_goesOn_95 : decode cX4_goesOn 95 = .ok (.iconst 1, 1) := by decide +kernel
theorem dX4_goesOn_96 : decode cX4_goesOn 96 = .ok (.goto 4, 3) := by decide +kernel
theorem dX4_goesOn_99 : decode cX4_goesOn 99 = .ok (.iconst 0, 1) := by decide +kernel
theorem dX4_goesOn_100 : decode cX4_goesOn 100 = .ok (.ireturn, 1) := by decide +kernel
theorem dX4_goesOn_101 : decode cX4_goesOn 101 = .ok (.iload_n 1, 1) := by decide +kernel
theorem dX4_goesOn_102 : decode cX4_goesOn 102 = .ok (.bipush 48, 2) := by decide +kernel
theorem dX4_goesOn_104 : decode cX4_goesOn 104 = .ok (.if_icmp .lt 12, 3) := by decide +kernel
theorem dX4_goesOn_107 : decode cX4_goesOn 107 = .ok (.iload_n 1, 1) := by decide +kernel
theorem dX4_goesOn_108 : decode cX4_goesOn 108 = .ok (.iload_n 2, 1) := by decide +kernel
theorem dX4_goesOn_109 : decode cX4_goesOn 109 = .ok (.if_icmp .ge 7, 3) := by decide +kernel
theorem dX4_goesOn_112 : decode cX4_goesOn 112 = .ok (.iconst 1, 1) := by decide +kernel
theorem dX4_goesOn_113 : decode cX4_goesOn 113 = .ok (.goto 4, 3) := by decide +kernel
theorem dX4_goesOn_116 : decode cX4_goesOn 116 = .ok (.iconst 0, 1) := by decide +kernel
theorem dX4_goesOn_117 : decode cX4_goesOn 117 = .ok (.ireturn, 1) := by decide +kernel
def f_X4_goesOn (x0 : Int32) (x1 : Int32) (x2 : Int32) : Option Int32 :=
  if x0 = 0 then (if x1 = (110 : Int32) then (some (1 : Int32))
    else some (0 : Int32))
  else if x0 < (17 : Int32) then (nm ((x0 - (1 : Int32)) - (x0 - (1 : Int32)) / (4 : Int32) * (4 : Int32)) fun w_3 =>
      if w_3 = (0 : Int32) then (if x1 = (59 : Int32) then (some (1 : Int32))
        else some (0 : Int32))
      else if w_3 = (1 : Int32) then (bd (f_X4_kindOf x1) fun r_7 =>
        if r_7 = (-9 : Int32) then (some (0 : Int32))
        else some (1 : Int32))
      else if w_3 = (2 : Int32) then (if x1 < (49 : Int32) then (some (0 : Int32))
        else if (57 : Int32) < x1 then (some (0 : Int32))
        else some (1 : Int32))
      else if x1 < (48 : Int32) then (some (0 : Int32))
      else if x2 ≤ x1 then (some (0 : Int32))
      else some (1 : Int32))
    else some (0 : Int32)
abbrev rmX4_goesOn : Room := { frames := 1, cells := 0, slots := 0, locals := 20 }
set_option maxRecDepth 100000 in
set_option maxHeartbeats 4000000 in
theorem c_X4_goesOn (l : Launch) (x0 : Int32) (x1 : Int32) (x2 : Int32) (r : Int32) (hf : f_X4_goesOn x0 x1 x2 = some r) : MetS l yX4_goesOn cX4_goesOn 3 (some .boolean) rmX4_goesOn [.int x0, .int x1, .int x2] r := by
  refine mkS (by decide) (Nat.le_of_ble_eq_true rfl) rfl ?_
  intro p e s m args below meth cd Q ls h0 hK hret hl
  obtain ⟨S, hr, hlk⟩ := h0
  obtain ⟨hx, hb, hml, hown, ht⟩ := id S
  have hl : lv_has ls 3 [(0, .int x0), (1, .int x1), (2, .int x2)] := hl
  have hf := obs hf
  have hf := oun (f_X4_goesOn.eq_1 _ _ _) hf
  refine lv_iload_n hx hb dX4_goesOn_0 rfl (lv_at hl 0 rfl) ?_
  refine lv_if_ne (tgt := 16) hx hb dX4_goesOn_1 (by decide) (fun c_1 => ?_) (fun c_1 => ?_)
  · have hf := oif c_1 hf
    refine lv_iload_n hx hb dX4_goesOn_16 rfl (lv_at hl 0 rfl) ?_
    refine lv_bipush (v := (17 : Int32)) hx hb dX4_goesOn_17 (by decide) ?_
    refine lv_icmp_lt (tgt := 24) hx hb dX4_goesOn_19 (by decide) (fun c_2 => ?_) (fun c_2 => ?_)
    · have hf := oit c_2 hf
      refine lv_iload_n hx hb dX4_goesOn_24 rfl (lv_at hl 0 rfl) ?_
      refine lv_iconst (v := (1 : Int32)) hx hb dX4_goesOn_25 (by decide) ?_
      refine lv_isub hx hb dX4_goesOn_26 ?_
      refine lv_iconst (v := (4 : Int32)) hx hb dX4_goesOn_27 (by decide) ?_
      refine lv_irem hx hb dX4_goesOn_28 (by decide) ?_
      obtain ⟨w_3, ew_3, hf⟩ := onm hf
      refine lv_nm ew_3 ?_
      by_cases c_4 : w_3 = (0 : Int32)
      · have hf := oit c_4 hf
        refine lv_tableIn (tgt := 56) (off := 27) hx hb dX4_goesOn_29 (by rw [c_4]; decide) (by rw [c_4]; decide) (by rw [c_4]; decide) (by decide) ?_
        refine lv_iload_n hx hb dX4_goesOn_56 rfl (lv_at hl 1 rfl) ?_
        refine lv_bipush (v := (59 : Int32)) hx hb dX4_goesOn_57 (by decide) ?_
        refine lv_icmp_ne (tgt := 66) hx hb dX4_goesOn_59 (by decide) (fun c_5 => ?_) (fun c_5 => ?_)
        · have hf := oif c_5 hf
          refine lv_iconst (v := (0 : Int32)) hx hb dX4_goesOn_66 (by decide) ?_
          exact hret _ _ _ dX4_goesOn_67 (by decide) (Option.some.inj hf)
        have hf := oit c_5 hf
        refine lv_iconst (v := (1 : Int32)) hx hb dX4_goesOn_62 (by decide) ?_
        refine lv_goto (tgt := 67) hx hb dX4_goesOn_63 (by decide) ?_
        exact hret _ _ _ dX4_goesOn_67 (by decide) (Option.some.inj hf)
      have hf := oif c_4 hf
      by_cases c_6 : w_3 = (1 : Int32)
      · have hf := oit c_6 hf
        refine lv_tableIn (tgt := 68) (off := 39) hx hb dX4_goesOn_29 (by rw [c_6]; decide) (by rw [c_6]; decide) (by rw [c_6]; decide) (by decide) ?_
        refine lv_iload_n hx hb dX4_goesOn_68 rfl (lv_at hl 1 rfl) ?_
        obtain ⟨r_7, h_8, hf⟩ := obd hf
        refine xs_S (As := [.int x1]) (rest := []) S k_X4_kindOf q109 q110 ⟨Nat.le_of_ble_eq_true rfl, Nat.le_of_ble_eq_true rfl⟩ ⟨rfl, rfl⟩ (c_X4_kindOf l x1 r_7 h_8) hK rfl hl.1 rfl (Nat.le_of_ble_eq_true rfl) dX4_goesOn_69 ⟨Nat.zero_le _, Nat.zero_le _⟩ ?_
        refine lv_bipush (v := (-9 : Int32)) hx hb dX4_goesOn_72 (by decide) ?_
        refine lv_icmp_eq (tgt := 81) hx hb dX4_goesOn_74 (by decide) (fun c_9 => ?_) (fun c_9 => ?_)
        · have hf := oit c_9 hf
          refine lv_iconst (v := (0 : Int32)) hx hb dX4_goesOn_81 (by decide) ?_
          exact hret _ _ _ dX4_goesOn_82 (by decide) (Option.some.inj hf)
        have hf := oif c_9 hf
        refine lv_iconst (v := (1 : Int32)) hx hb dX4_goesOn_77 (by decide) ?_
        refine lv_goto (tgt := 82) hx hb dX4_goesOn_78 (by decide) ?_
        exact hret _ _ _ dX4_goesOn_82 (by decide) (Option.some.inj hf)
      have hf := oif c_6 hf
      by_cases c_10 : w_3 = (2 : Int32)
      · have hf := oit c_10 hf
        refine lv_tableIn (tgt := 83) (off := 54) hx hb dX4_goesOn_29 (by rw [c_10]; decide) (by rw [c_10]; decide) (by rw [c_10]; decide) (by decide) ?_
        refine lv_iload_n hx hb dX4_goesOn_83 rfl (lv_at hl 1 rfl) ?_
        refine lv_bipush (v := (49 : Int32)) hx hb dX4_goesOn_84 (by decide) ?_
        refine lv_icmp_lt (tgt := 99) hx hb dX4_goesOn_86 (by decide) (fun c_11 => ?_) (fun c_11 => ?_)
        · have hf := oit c_11 hf
          refine lv_iconst (v := (0 : Int32)) hx hb dX4_goesOn_99 (by decide) ?_
          exact hret _ _ _ dX4_goesOn_100 (by decide) (Option.some.inj hf)
        have hf := oif c_11 hf
        refine lv_iload_n hx hb dX4_goesOn_89 rfl (lv_at hl 1 rfl) ?_
        refine lv_bipush (v := (57 : Int32)) hx hb dX4_goesOn_90 (by decide) ?_
        refine lv_icmp_gt (tgt := 99) hx hb dX4_goesOn_92 (by decide) (fun c_12 => ?_) (fun c_12 => ?_)
        · have hf := oit c_12 hf
          refine lv_iconst (v := (0 : Int32)) hx hb dX4_goesOn_99 (by decide) ?_
          exact hret _ _ _ dX4_goesOn_100 (by decide) (Option.some.inj hf)
        have hf := oif c_12 hf
        refine lv_iconst (v := (1 : Int32)) hx hb dX4_goesOn_95 (by decide) ?_
        refine lv_goto (tgt := 100) hx hb dX4_goesOn_96 (by decide) ?_
        exact hret _ _ _ dX4_goesOn_100 (by decide) (Option.some.inj hf)
      have hf := oif c_10 hf
      refine lv_tableOut (tgt := 101) hx hb dX4_goesOn_29 (by have z0 := lv_neT c_4 (a := 0) rfl; have z1 := lv_neT c_6 (a := 1) rfl; have z2 := lv_neT c_10 (a := 2) rfl; omega) (by decide) ?_
      refine lv_iload_n hx hb dX4_goesOn_101 rfl (lv_at hl 1 rfl) ?_
      refine lv_bipush (v := (48 : Int32)) hx hb dX4_goesOn_102 (by decide) ?_
      refine lv_icmp_lt (tgt := 116) hx hb dX4_goesOn_104 (by decide) (fun c_13 => ?_) (fun c_13 => ?_)
      · have hf := oit c_13 hf
        refine lv_iconst (v := (0 : Int32)) hx hb dX4_goesOn_116 (by decide) ?_
        exact hret _ _ _ dX4_goesOn_117 (by decide) (Option.some.inj hf)
      have hf := oif c_13 hf
      refine lv_iload_n hx hb dX4_goesOn_107 rfl (lv_at hl 1 rfl) ?_
      refine lv_iload_n hx hb dX4_goesOn_108 rfl (lv_at hl 2 rfl) ?_
      refine lv_icmp_ge (tgt := 116) hx hb dX4_goesOn_109 (by decide) (fun c_14 => ?_) (fun c_14 => ?_)
      · have hf := oit c_14 hf
        refine lv_iconst (v := (0 : Int32)) hx hb dX4_goesOn_116 (by decide) ?_
        exact hret _ _ _ dX4_goesOn_117 (by decide) (Option.some.inj hf)
      have hf := oif c_14 hf
      refine lv_iconst (v := (1 : Int32)) hx hb dX4_goesOn_112 (by decide) ?_
      refine lv_goto (tgt := 117) hx hb dX4_goesOn_113 (by decide) ?_
      exact hret _ _ _ dX4_goesOn_117 (by decide) (Option.some.inj hf)
    have hf := oif c_2 hf
    refine lv_iconst (v := (0 : Int32)) hx hb dX4_goesOn_22 (by decide) ?_
    exact hret _ _ _ dX4_goesOn_23 (by decide) (Option.some.inj hf)
  have hf := oit c_1 hf
  refine lv_iload_n hx hb dX4_goesOn_4 rfl (lv_at hl 1 rfl) ?_
  refine lv_bipush (v := (110 : Int32)) hx hb dX4_goesOn_5 (by decide) ?_
  refine lv_icmp_ne (tgt := 14) hx hb dX4_goesOn_7 (by decide) (fun c_15 => ?_) (fun c_15 => ?_)
  · have hf := oif c_15 hf
    refine lv_iconst (v := (0 : Int32)) hx hb dX4_goesOn_14 (by decide) ?_
    exact hret _ _ _ dX4_goesOn_15 (by decide) (Option.some.inj hf)
  have hf := oit c_15 hf
  refine lv_iconst (v := (1 : Int32)) hx hb dX4_goesOn_10 (by decide) ?_
  refine lv_goto (tgt := 15) hx hb dX4_goesOn_11 (by decide) ?_
  exact hret _ _ _ dX4_goesOn_15 (by decide) (Option.some.inj hf)
theorem dX5_isLane_0 : decode cX5_isLane 0 = .ok (.iload_n 0, 1) := by decide +kernel
theorem dX5_isLane_1 : decode cX5_isLane 1 = .ok (.ifCond .lt 12, 3) := by decide +kernel
theorem dX5_isLane_4 : decode cX5_isLane 4 = .ok (.iload_n 0, 1) := by decide +kernel
theorem dX5_isLane_5 : decode cX5_isLane 5 = .ok (.iconst 2, 1) := by decide +kernel
theorem dX5_isLane_6 : decode cX5_isLane 6 = .ok (.if_icmp .gt 7, 3) := by decide +kernel
theorem dX5_isLane_9 : decode cX5_isLane 9 = .ok (.iconst 1, 1) := by decide +kernel
theorem dX5_isLane_10 : decode cX5_isLane 10 = .ok (.goto 4, 3) := by decide +kernel
theorem dX5_isLane_13 : decode cX5_isLane 13 = .ok (.iconst 0, 1) := by decide +kernel
theorem dX5_isLane_14 : decode cX5_isLane 14 = .ok (.ireturn, 1) := by decide +kernel
def f_X5_isLane (x0 : Int32) : Option Int32 :=
  if x0 < 0 then (some (0 : Int32))
  else if (2 : Int32) < x0 then (some (0 : Int32))
  else some (1 : Int32)
abbrev rmX5_isLane : Room := { frames := 0, cells := 0, slots := 0, locals := 0 }
set_option maxRecDepth 100000 in
set_option maxHeartbeats 4000000 in
theorem c_X5_isLane (l : Launch) (x0 : Int32) (r : Int32) (hf : f_X5_isLane x0 = some r) : MetS l yX5_isLane cX5_isLane 1 (some .boolean) rmX5_isLane [.int x0] r := by
  refine mkS (by decide) (Nat.le_of_ble_eq_true rfl) rfl ?_
  intro p e s m args below meth cd Q ls h0 hK hret hl
  obtain ⟨S, hr, hlk⟩ := h0
  obtain ⟨hx, hb, hml, hown, ht⟩ := id S
  have hl : lv_has ls 1 [(0, .int x0)] := hl
  have hf := obs hf
  have hf := oun (f_X5_isLane.eq_1 _) hf
  refine lv_iload_n hx hb dX5_isLane_0 rfl (lv_at hl 0 rfl) ?_
  refine lv_if_lt (tgt := 13) hx hb dX5_isLane_1 (by decide) (fun c_1 => ?_) (fun c_1 => ?_)
  · have hf := oit c_1 hf
    refine lv_iconst (v := (0 : Int32)) hx hb dX5_isLane_13 (by decide) ?_
    exact hret _ _ _ dX5_isLane_14 (by decide) (Option.some.inj hf)
  have hf := oif c_1 hf
  refine lv_iload_n hx hb dX5_isLane_4 rfl (lv_at hl 0 rfl) ?_
  refine lv_iconst (v := (2 : Int32)) hx hb dX5_isLane_5 (by decide) ?_
  refine lv_icmp_gt (tgt := 13) hx hb dX5_isLane_6 (by decide) (fun c_2 => ?_) (fun c_2 => ?_)
  · have hf := oit c_2 hf
    refine lv_iconst (v := (0 : Int32)) hx hb dX5_isLane_13 (by decide) ?_
    exact hret _ _ _ dX5_isLane_14 (by decide) (Option.some.inj hf)
  have hf := oif c_2 hf
  refine lv_iconst (v := (1 : Int32)) hx hb dX5_isLane_9 (by decide) ?_
  refine lv_goto (tgt := 14) hx hb dX5_isLane_10 (by decide) ?_
  exact hret _ _ _ dX5_isLane_14 (by decide) (Option.some.inj hf)
theorem dX5_isSheet_0 : decode cX5_isSheet 0 = .ok (.iload_n 0, 1) := by decide +kernel
theorem dX5_isSheet_1 : decode cX5_isSheet 1 = .ok (.ifCond .lt 12, 3) := by decide +kernel
theorem dX5_isSheet_4 : decode cX5_isSheet 4 = .ok (.iload_n 0, 1) := by decide +kernel
theorem dX5_isSheet_5 : decode cX5_isSheet 5 = .ok (.iconst 4, 1) := by decide +kernel
theorem dX5_isSheet_6 : decode cX5_isSheet 6 = .ok (.if_icmp .ge 7, 3) := by decide +kernel
theorem dX5_isSheet_9 : decode cX5_isSheet 9 = .ok (.iconst 1, 1) := by decide +kernel
theorem dX5_isSheet_10 : decode cX5_isSheet 10 = .ok (.goto 4, 3) := by decide +kernel
theorem dX5_isSheet_13 : decode cX5_isSheet 13 = .ok (.iconst 0, 1) := by decide +kernel
theorem dX5_isSheet_14 : decode cX5_isSheet 14 = .ok (.ireturn, 1) := by decide +kernel
def f_X5_isSheet (x0 : Int32) : Option Int32 :=
  if x0 < 0 then (some (0 : Int32))
  else if (4 : Int32) ≤ x0 then (some (0 : Int32))
  else some (1 : Int32)
abbrev rmX5_isSheet : Room := { frames := 0, cells := 0, slots := 0, locals := 0 }
set_option maxRecDepth 100000 in
set_option maxHeartbeats 4000000 in
theorem c_X5_isSheet (l : Launch) (x0 : Int32) (r : Int32) (hf : f_X5_isSheet x0 = some r) : MetS l yX5_isSheet cX5_isSheet 1 (some .boolean) rmX5_isSheet [.int x0] r := by
  refine mkS (by decide) (Nat.le_of_ble_eq_true rfl) rfl ?_
  intro p e s m args below meth cd Q ls h0 hK hret hl
  obtain ⟨S, hr, hlk⟩ := h0
  obtain ⟨hx, hb, hml, hown, ht⟩ := id S
  have hl : lv_has ls 1 [(0, .int x0)] := hl
  have hf := obs hf
  have hf := oun (f_X5_isSheet.eq_1 _) hf
  refine lv_iload_n hx hb dX5_isSheet_0 rfl (lv_at hl 0 rfl) ?_
  refine lv_if_lt (tgt := 13) hx hb dX5_isSheet_1 (by decide) (fun c_1 => ?_) (fun c_1 => ?_)
  · have hf := oit c_1 hf
    refine lv_iconst (v := (0 : Int32)) hx hb dX5_isSheet_13 (by decide) ?_
    exact hret _ _ _ dX5_isSheet_14 (by decide) (Option.some.inj hf)
  have hf := oif c_1 hf
  refine lv_iload_n hx hb dX5_isSheet_4 rfl (lv_at hl 0 rfl) ?_
  refine lv_iconst (v := (4 : Int32)) hx hb dX5_isSheet_5 (by decide) ?_
  refine lv_icmp_ge (tgt := 13) hx hb dX5_isSheet_6 (by decide) (fun c_2 => ?_) (fun c_2 => ?_)
  · have hf := oit c_2 hf
    refine lv_iconst (v := (0 : Int32)) hx hb dX5_isSheet_13 (by decide) ?_
    exact hret _ _ _ dX5_isSheet_14 (by decide) (Option.some.inj hf)
  have hf := oif c_2 hf
  refine lv_iconst (v := (1 : Int32)) hx hb dX5_isSheet_9 (by decide) ?_
  refine lv_goto (tgt := 14) hx hb dX5_isSheet_10 (by decide) ?_
  exact hret _ _ _ dX5_isSheet_14 (by decide) (Option.some.inj hf)
theorem dX4_dollsIn_0 : decode cX4_dollsIn 0 = .ok (.iconst 4, 1) := by decide +kernel
theorem dX4_dollsIn_1 : decode cX4_dollsIn 1 = .ok (.iload_n 0, 1) := by decide +kernel
theorem dX4_dollsIn_2 : decode cX4_dollsIn 2 = .ok (.iconst 1, 1) := by decide +kernel
theorem dX4_dollsIn_3 : decode cX4_dollsIn 3 = .ok (.isub, 1) := by decide +kernel
theorem dX4_dollsIn_4 : decode cX4_dollsIn 4 = .ok (.iconst 4, 1) := by decide +kernel
theorem dX4_dollsIn_5 : decode cX4_dollsIn 5 = .ok (.idiv, 1) := by decide +kernel
theorem dX4_dollsIn_6 : decode cX4_dollsIn 6 = .ok (.invokestatic 24, 3) := by decide +kernel
theorem dX4_dollsIn_9 : decode cX4_dollsIn 9 = .ok (.ireturn, 1) := by decide +kernel
def f_X4_dollsIn (x0 : Int32) : Option Int32 :=
  some (if ((x0 - (1 : Int32)) / (4 : Int32)) < (4 : Int32) then ((x0 - (1 : Int32)) / (4 : Int32)) else (4 : Int32))
abbrev rmX4_dollsIn : Room := { frames := 1, cells := 0, slots := 0, locals := 21 }
set_option maxRecDepth 100000 in
set_option maxHeartbeats 4000000 in
theorem c_X4_dollsIn (l : Launch) (x0 : Int32) (r : Int32) (hf : f_X4_dollsIn x0 = some r) : MetS l yX4_dollsIn cX4_dollsIn 1 (some .int) rmX4_dollsIn [.int x0] r := by
  refine mkS (by decide) (Nat.le_of_ble_eq_true rfl) rfl ?_
  intro p e s m args below meth cd Q ls h0 hK hret hl
  obtain ⟨S, hr, hlk⟩ := h0
  obtain ⟨hx, hb, hml, hown, ht⟩ := id S
  have hl : lv_has ls 1 [(0, .int x0)] := hl
  have hf := obs hf
  have hf := oun (f_X4_dollsIn.eq_1 _) hf
  refine lv_iconst (v := (4 : Int32)) hx hb dX4_dollsIn_0 (by decide) ?_
  refine lv_iload_n hx hb dX4_dollsIn_1 rfl (lv_at hl 0 rfl) ?_
  refine lv_iconst (v := (1 : Int32)) hx hb dX4_dollsIn_2 (by decide) ?_
  refine lv_isub hx hb dX4_dollsIn_3 ?_
  refine lv_iconst (v := (4 : Int32)) hx hb dX4_dollsIn_4 (by decide) ?_
  refine lv_idiv hx hb dX4_dollsIn_5 (by decide) ?_
  refine va_mmin hx hb (hml.trans hl.1.symm) hown (ht _ q122) (ht _ q123) (ht _ q124) (ht _ q125) (by exact Nat.le_of_ble_eq_true rfl) (by exact Nat.le_of_ble_eq_true rfl) (Nat.zero_le _) (Nat.zero_le _) dX4_dollsIn_6 ?_
  exact hret _ _ _ dX4_dollsIn_9 rfl (Option.some.inj hf)
theorem dX6_within_0 : decode cX6_within 0 = .ok (.iload_n 0, 1) := by decide +kernel
theorem dX6_within_1 : decode cX6_within 1 = .ok (.iload_n 1, 1) := by decide +kernel
theorem dX6_within_2 : decode cX6_within 2 = .ok (.if_icmp .lt 12, 3) := by decide +kernel
theorem dX6_within_5 : decode cX6_within 5 = .ok (.iload_n 0, 1) := by decide +kernel
theorem dX6_within_6 : decode cX6_within 6 = .ok (.iload_n 2, 1) := by decide +kernel
theorem dX6_within_7 : decode cX6_within 7 = .ok (.if_icmp .gt 7, 3) := by decide +kernel
theorem dX6_within_10 : decode cX6_within 10 = .ok (.iconst 1, 1) := by decide +kernel
theorem dX6_within_11 : decode cX6_within 11 = .ok (.goto 4, 3) := by decide +kernel
theorem dX6_within_14 : decode cX6_within 14 = .ok (.iconst 0, 1) := by decide +kernel
theorem dX6_within_15 : decode cX6_within 15 = .ok (.ireturn, 1) := by decide +kernel
def f_X6_within (x0 : Int32) (x1 : Int32) (x2 : Int32) : Option Int32 :=
  if x0 < x1 then (some (0 : Int32))
  else if x2 < x0 then (some (0 : Int32))
  else some (1 : Int32)
abbrev rmX6_within : Room := { frames := 0, cells := 0, slots := 0, locals := 0 }
set_option maxRecDepth 100000 in
set_option maxHeartbeats 4000000 in
theorem c_X6_within (l : Launch) (x0 : Int32) (x1 : Int32) (x2 : Int32) (r : Int32) (hf : f_X6_within x0 x1 x2 = some r) : MetS l yX6_within cX6_within 3 (some .boolean) rmX6_within [.int x0, .int x1, .int x2] r := by
  refine mkS (by decide) (Nat.le_of_ble_eq_true rfl) rfl ?_
  intro p e s m args below meth cd Q ls h0 hK hret hl
  obtain ⟨S, hr, hlk⟩ := h0
  obtain ⟨hx, hb, hml, hown, ht⟩ := id S
  have hl : lv_has ls 3 [(0, .int x0), (1, .int x1), (2, .int x2)] := hl
  have hf := obs hf
  have hf := oun (f_X6_within.eq_1 _ _ _) hf
  refine lv_iload_n hx hb dX6_within_0 rfl (lv_at hl 0 rfl) ?_
  refine lv_iload_n hx hb dX6_within_1 rfl (lv_at hl 1 rfl) ?_
  refine lv_icmp_lt (tgt := 14) hx hb dX6_within_2 (by decide) (fun c_1 => ?_) (fun c_1 => ?_)
  · have hf := oit c_1 hf
    refine lv_iconst (v := (0 : Int32)) hx hb dX6_within_14 (by decide) ?_
    exact hret _ _ _ dX6_within_15 (by decide) (Option.some.inj hf)
  have hf := oif c_1 hf
  refine lv_iload_n hx hb dX6_within_5 rfl (lv_at hl 0 rfl) ?_
  refine lv_iload_n hx hb dX6_within_6 rfl (lv_at hl 2 rfl) ?_
  refine lv_icmp_gt (tgt := 14) hx hb dX6_within_7 (by decide) (fun c_2 => ?_) (fun c_2 => ?_)
  · have hf := oit c_2 hf
    refine lv_iconst (v := (0 : Int32)) hx hb dX6_within_14 (by decide) ?_
    exact hret _ _ _ dX6_within_15 (by decide) (Option.some.inj hf)
  have hf := oif c_2 hf
  refine lv_iconst (v := (1 : Int32)) hx hb dX6_within_10 (by decide) ?_
  refine lv_goto (tgt := 15) hx hb dX6_within_11 (by decide) ?_
  exact hret _ _ _ dX6_within_15 (by decide) (Option.some.inj hf)
theorem dX6_isSheet_0 : decode cX6_isSheet 0 = .ok (.iload_n 0, 1) := by decide +kernel
theorem dX6_isSheet_1 : decode cX6_isSheet 1 = .ok (.iconst 0, 1) := by decide +kernel
theorem dX6_isSheet_2 : decode cX6_isSheet 2 = .ok (.iconst 3, 1) := by decide +kernel
theorem dX6_isSheet_3 : decode cX6_isSheet 3 = .ok (.invokestatic 71, 3) := by decide +kernel
theorem dX6_isSheet_6 : decode cX6_isSheet 6 = .ok (.ireturn, 1) := by decide +kernel
def f_X6_isSheet (x0 : Int32) : Option Int32 :=
  bd (f_X6_within x0 (0 : Int32) (3 : Int32)) fun r_1 =>
  gd (isB r_1) <|
  some r_1
abbrev rmX6_isSheet : Room := { frames := 1, cells := 0, slots := 0, locals := 22 }
set_option maxRecDepth 100000 in
set_option maxHeartbeats 4000000 in
theorem c_X6_isSheet (l : Launch) (x0 : Int32) (r : Int32) (hf : f_X6_isSheet x0 = some r) : MetS l yX6_isSheet cX6_isSheet 1 (some .boolean) rmX6_isSheet [.int x0] r := by
  refine mkS (by decide) (Nat.le_of_ble_eq_true rfl) rfl ?_
  intro p e s m args below meth cd Q ls h0 hK hret hl
  obtain ⟨S, hr, hlk⟩ := h0
  obtain ⟨hx, hb, hml, hown, ht⟩ := id S
  have hl : lv_has ls 1 [(0, .int x0)] := hl
  have hf := obs hf
  have hf := oun (f_X6_isSheet.eq_1 _) hf
  refine lv_iload_n hx hb dX6_isSheet_0 rfl (lv_at hl 0 rfl) ?_
  refine lv_iconst (v := (0 : Int32)) hx hb dX6_isSheet_1 (by decide) ?_
  refine lv_iconst (v := (3 : Int32)) hx hb dX6_isSheet_2 (by decide) ?_
  obtain ⟨r_1, h_2, hf⟩ := obd hf
  refine xs_S (As := [.int x0, .int (0 : Int32), .int (3 : Int32)]) (rest := []) S k_X6_within q146 q147 ⟨Nat.le_of_ble_eq_true rfl, Nat.le_of_ble_eq_true rfl⟩ ⟨rfl, rfl⟩ (c_X6_within l x0 (0 : Int32) (3 : Int32) r_1 h_2) hK rfl hl.1 rfl (Nat.le_of_ble_eq_true rfl) dX6_isSheet_3 ⟨Nat.zero_le _, Nat.zero_le _⟩ ?_
  obtain ⟨g_3, hf⟩ := ogd hf
  exact hret _ _ _ dX6_isSheet_6 (isB_n g_3) (Option.some.inj hf)
theorem dX6_isSort_0 : decode cX6_isSort 0 = .ok (.iload_n 0, 1) := by decide +kernel
theorem dX6_isSort_1 : decode cX6_isSort 1 = .ok (.iconst 0, 1) := by decide +kernel
theorem dX6_isSort_2 : decode cX6_isSort 2 = .ok (.iconst 2, 1) := by decide +kernel
theorem dX6_isSort_3 : decode cX6_isSort 3 = .ok (.invokestatic 71, 3) := by decide +kernel
theorem dX6_isSort_6 : decode cX6_isSort 6 = .ok (.ireturn, 1) := by decide +kernel
def f_X6_isSort (x0 : Int32) : Option Int32 :=
  bd (f_X6_within x0 (0 : Int32) (2 : Int32)) fun r_1 =>
  gd (isB r_1) <|
  some r_1
abbrev rmX6_isSort : Room := { frames := 1, cells := 0, slots := 0, locals := 22 }
set_option maxRecDepth 100000 in
set_option maxHeartbeats 4000000 in
theorem c_X6_isSort (l : Launch) (x0 : Int32) (r : Int32) (hf : f_X6_isSort x0 = some r) : MetS l yX6_isSort cX6_isSort 1 (some .boolean) rmX6_isSort [.int x0] r := by
  refine mkS (by decide) (Nat.le_of_ble_eq_true rfl) rfl ?_
  intro p e s m args below meth cd Q ls h0 hK hret hl
  obtain ⟨S, hr, hlk⟩ := h0
  obtain ⟨hx, hb, hml, hown, ht⟩ := id S
  have hl : lv_has ls 1 [(0, .int x0)] := hl
  have hf := obs hf
  have hf := oun (f_X6_isSort.eq_1 _) hf
  refine lv_iload_n hx hb dX6_isSort_0 rfl (lv_at hl 0 rfl) ?_
  refine lv_iconst (v := (0 : Int32)) hx hb dX6_isSort_1 (by decide) ?_
  refine lv_iconst (v := (2 : Int32)) hx hb dX6_isSort_2 (by decide) ?_
  obtain ⟨r_1, h_2, hf⟩ := obd hf
  refine xs_S (As := [.int x0, .int (0 : Int32), .int (2 : Int32)]) (rest := []) S k_X6_within q146 q147 ⟨Nat.le_of_ble_eq_true rfl, Nat.le_of_ble_eq_true rfl⟩ ⟨rfl, rfl⟩ (c_X6_within l x0 (0 : Int32) (2 : Int32) r_1 h_2) hK rfl hl.1 rfl (Nat.le_of_ble_eq_true rfl) dX6_isSort_3 ⟨Nat.zero_le _, Nat.zero_le _⟩ ?_
  obtain ⟨g_3, hf⟩ := ogd hf
  exact hret _ _ _ dX6_isSort_6 (isB_n g_3) (Option.some.inj hf)
theorem dX3_openSet_0 : decode cX3_openSet 0 = .ok (.iload_n 0, 1) := by decide +kernel
theorem dX3_openSet_1 : decode cX3_openSet 1 = .ok (.bipush 12, 2) := by decide +kernel
theorem dX3_openSet_3 : decode cX3_openSet 3 = .ok (.ishr, 1) := by decide +kernel
theorem dX3_openSet_4 : decode cX3_openSet 4 = .ok (.bipush 15, 2) := by decide +kernel
theorem dX3_openSet_6 : decode cX3_openSet 6 = .ok (.iand, 1) := by decide +kernel
theorem dX3_openSet_7 : decode cX3_openSet 7 = .ok (.ireturn, 1) := by decide +kernel
def f_X3_openSet (x0 : Int32) : Option Int32 :=
  some ((x0 >>> ((12 : Int32) &&& 31)) &&& (15 : Int32))
abbrev rmX3_openSet : Room := { frames := 0, cells := 0, slots := 0, locals := 0 }
set_option maxRecDepth 100000 in
set_option maxHeartbeats 4000000 in
theorem c_X3_openSet (l : Launch) (x0 : Int32) (r : Int32) (hf : f_X3_openSet x0 = some r) : MetS l yX3_openSet cX3_openSet 1 (some .int) rmX3_openSet [.int x0] r := by
  refine mkS (by decide) (Nat.le_of_ble_eq_true rfl) rfl ?_
  intro p e s m args below meth cd Q ls h0 hK hret hl
  obtain ⟨S, hr, hlk⟩ := h0
  obtain ⟨hx, hb, hml, hown, ht⟩ := id S
  have hl : lv_has ls 1 [(0, .int x0)] := hl
  have hf := obs hf
  have hf := oun (f_X3_openSet.eq_1 _) hf
  refine lv_iload_n hx hb dX3_openSet_0 rfl (lv_at hl 0 rfl) ?_
  refine lv_bipush (v := (12 : Int32)) hx hb dX3_openSet_1 (by decide) ?_
  refine lv_ishr hx hb dX3_openSet_3 ?_
  refine lv_bipush (v := (15 : Int32)) hx hb dX3_openSet_4 (by decide) ?_
  refine lv_iand hx hb dX3_openSet_6 ?_
  exact hret _ _ _ dX3_openSet_7 rfl (Option.some.inj hf)
theorem dX3_placeOf_0 : decode cX3_placeOf 0 = .ok (.iload_n 0, 1) := by decide +kernel
theorem dX3_placeOf_1 : decode cX3_placeOf 1 = .ok (.iconst 3, 1) := by decide +kernel
theorem dX3_placeOf_2 : decode cX3_placeOf 2 = .ok (.iload_n 1, 1) := by decide +kernel
theorem dX3_placeOf_3 : decode cX3_placeOf 3 = .ok (.imul, 1) := by decide +kernel
theorem dX3_placeOf_4 : decode cX3_placeOf 4 = .ok (.ishr, 1) := by decide +kernel
theorem dX3_placeOf_5 : decode cX3_placeOf 5 = .ok (.bipush 7, 2) := by decide +kernel
theorem dX3_placeOf_7 : decode cX3_placeOf 7 = .ok (.iand, 1) := by decide +kernel
theorem dX3_placeOf_8 : decode cX3_placeOf 8 = .ok (.ireturn, 1) := by decide +kernel
def f_X3_placeOf (x0 : Int32) (x1 : Int32) : Option Int32 :=
  some ((x0 >>> (((3 : Int32) * x1) &&& 31)) &&& (7 : Int32))
abbrev rmX3_placeOf : Room := { frames := 0, cells := 0, slots := 0, locals := 0 }
set_option maxRecDepth 100000 in
set_option maxHeartbeats 4000000 in
theorem c_X3_placeOf (l : Launch) (x0 : Int32) (x1 : Int32) (r : Int32) (hf : f_X3_placeOf x0 x1 = some r) : MetS l yX3_placeOf cX3_placeOf 2 (some .int) rmX3_placeOf [.int x0, .int x1] r := by
  refine mkS (by decide) (Nat.le_of_ble_eq_true rfl) rfl ?_
  intro p e s m args below meth cd Q ls h0 hK hret hl
  obtain ⟨S, hr, hlk⟩ := h0
  obtain ⟨hx, hb, hml, hown, ht⟩ := id S
  have hl : lv_has ls 2 [(0, .int x0), (1, .int x1)] := hl
  have hf := obs hf
  have hf := oun (f_X3_placeOf.eq_1 _ _) hf
  refine lv_iload_n hx hb dX3_placeOf_0 rfl (lv_at hl 0 rfl) ?_
  refine lv_iconst (v := (3 : Int32)) hx hb dX3_placeOf_1 (by decide) ?_
  refine lv_iload_n hx hb dX3_placeOf_2 rfl (lv_at hl 1 rfl) ?_
  refine lv_imul hx hb dX3_placeOf_3 ?_
  refine lv_ishr hx hb dX3_placeOf_4 ?_
  refine lv_bipush (v := (7 : Int32)) hx hb dX3_placeOf_5 (by decide) ?_
  refine lv_iand hx hb dX3_placeOf_7 ?_
  exact hret _ _ _ dX3_placeOf_8 rfl (Option.some.inj hf)
theorem dX5_has_0 : decode cX5_has 0 = .ok (.iload_n 0, 1) := by decide +kernel
theorem dX5_has_1 : decode cX5_has 1 = .ok (.iload_n 1, 1) := by decide +kernel
theorem dX5_has_2 : decode cX5_has 2 = .ok (.ishr, 1) := by decide +kernel
theorem dX5_has_3 : decode cX5_has 3 = .ok (.iconst 1, 1) := by decide +kernel
theorem dX5_has_4 : decode cX5_has 4 = .ok (.iand, 1) := by decide +kernel
theorem dX5_has_5 : decode cX5_has 5 = .ok (.ifCond .eq 7, 3) := by decide +kernel
theorem dX5_has_8 : decode cX5_has 8 = .ok (.iconst 1, 1) := by decide +kernel
theorem dX5_has_9 : decode cX5_has 9 = .ok (.goto 4, 3) := by decide +kernel
theorem dX5_has_12 : decode cX5_has 12 = .ok (.iconst 0, 1) := by decide +kernel
theorem dX5_has_13 : decode cX5_has 13 = .ok (.ireturn, 1) := by decide +kernel
def f_X5_has (x0 : Int32) (x1 : Int32) : Option Int32 :=
  if ((x0 >>> (x1 &&& 31)) &&& (1 : Int32)) = 0 then (some (0 : Int32))
  else some (1 : Int32)
abbrev rmX5_has : Room := { frames := 0, cells := 0, slots := 0, locals := 0 }
set_option maxRecDepth 100000 in
set_option maxHeartbeats 4000000 in
theorem c_X5_has (l : Launch) (x0 : Int32) (x1 : Int32) (r : Int32) (hf : f_X5_has x0 x1 = some r) : MetS l yX5_has cX5_has 2 (some .boolean) rmX5_has [.int x0, .int x1] r := by
  refine mkS (by decide) (Nat.le_of_ble_eq_true rfl) rfl ?_
  intro p e s m args below meth cd Q ls h0 hK hret hl
  obtain ⟨S, hr, hlk⟩ := h0
  obtain ⟨hx, hb, hml, hown, ht⟩ := id S
  have hl : lv_has ls 2 [(0, .int x0), (1, .int x1)] := hl
  have hf := obs hf
  have hf := oun (f_X5_has.eq_1 _ _) hf
  refine lv_iload_n hx hb dX5_has_0 rfl (lv_at hl 0 rfl) ?_
  refine lv_iload_n hx hb dX5_has_1 rfl (lv_at hl 1 rfl) ?_
  refine lv_ishr hx hb dX5_has_2 ?_
  refine lv_iconst (v := (1 : Int32)) hx hb dX5_has_3 (by decide) ?_
  refine lv_iand hx hb dX5_has_4 ?_
  refine lv_if_eq (tgt := 12) hx hb dX5_has_5 (by decide) (fun c_1 => ?_) (fun c_1 => ?_)
  · have hf := oit c_1 hf
    refine lv_iconst (v := (0 : Int32)) hx hb dX5_has_12 (by decide) ?_
    exact hret _ _ _ dX5_has_13 (by decide) (Option.some.inj hf)
  have hf := oif c_1 hf
  refine lv_iconst (v := (1 : Int32)) hx hb dX5_has_8 (by decide) ?_
  refine lv_goto (tgt := 13) hx hb dX5_has_9 (by decide) ?_
  exact hret _ _ _ dX5_has_13 (by decide) (Option.some.inj hf)
theorem dX3_canBeGotAt_0 : decode cX3_canBeGotAt 0 = .ok (.iload_n 0, 1) := by decide +kernel
theorem dX3_canBeGotAt_1 : decode cX3_canBeGotAt 1 = .ok (.invokestatic 11, 3) := by decide +kernel
theorem dX3_canBeGotAt_4 : decode cX3_canBeGotAt 4 = .ok (.istore_n 2, 1) := by decide +kernel
theorem dX3_canBeGotAt_5 : decode cX3_canBeGotAt 5 = .ok (.iload_n 0, 1) := by decide +kernel
theorem dX3_canBeGotAt_6 : decode cX3_canBeGotAt 6 = .ok (.iload_n 1, 1) := by decide +kernel
theorem dX3_canBeGotAt_7 : decode cX3_canBeGotAt 7 = .ok (.invokestatic 19, 3) := by decide +kernel
theorem dX3_canBeGotAt_10 : decode cX3_canBeGotAt 10 = .ok (.istore_n 3, 1) := by decide +kernel
theorem dX3_canBeGotAt_11 : decode cX3_canBeGotAt 11 = .ok (.iconst 0, 1) := by decide +kernel
theorem dX3_canBeGotAt_12 : decode cX3_canBeGotAt 12 = .ok (.istore 4, 2) := by decide +kernel
theorem dX3_canBeGotAt_14 : decode cX3_canBeGotAt 14 = .ok (.iload 4, 2) := by decide +kernel
theorem dX3_canBeGotAt_16 : decode cX3_canBeGotAt 16 = .ok (.iconst 4, 1) := by decide +kernel
theorem dX3_canBeGotAt_17 : decode cX3_canBeGotAt 17 = .ok (.if_icmp .ge 33, 3) := by decide +kernel
theorem dX3_canBeGotAt_20 : decode cX3_canBeGotAt 20 = .ok (.iload_n 3, 1) := by decide +kernel
theorem dX3_canBeGotAt_21 : decode cX3_canBeGotAt 21 = .ok (.ifCond .eq 29, 3) := by decide +kernel
theorem dX3_canBeGotAt_24 : decode cX3_canBeGotAt 24 = .ok (.iload_n 2, 1) := by decide +kernel
theorem dX3_canBeGotAt_25 : decode cX3_canBeGotAt 25 = .ok (.iload_n 3, 1) := by decide +kernel
theorem dX3_canBeGotAt_26 : decode cX3_canBeGotAt 26 = .ok (.iconst 1, 1) := by decide +kernel
theorem dX3_canBeGotAt_27 : decode cX3_canBeGotAt 27 = .ok (.isub, 1) := by decide +kernel
theorem dX3_canBeGotAt_28 : decode cX3_canBeGotAt 28 = .ok (.invokestatic 15, 3) := by decide +kernel
theorem dX3_canBeGotAt_31 : decode cX3_canBeGotAt 31 = .ok (.ifCond .ne 5, 3) := by decide +kernel
theorem dX3_canBeGotAt_34 : decode cX3_canBeGotAt 34 = .ok (.iconst 0, 1) := by decide +kernel
theorem dX3_canBeGotAt_35 : decode cX3_canBeGotAt 35 = .ok (.ireturn, 1) := by decide +kernel
theorem dX3_canBeGotAt_36 : decode cX3_canBeGotAt 36 = .ok (.iload_n 0, 1) := by decide +kernel
theorem dX3_canBeGotAt_37 : decode cX3_canBeGotAt 37 = .ok (.iload_n 3, 1) := by decide +kernel
theorem dX3_canBeGotAt_38 : decode cX3_canBeGotAt 38 = .ok (.iconst 1, 1) := by decide +kernel
theorem dX3_canBeGotAt_39 : decode cX3_canBeGotAt 39 = .ok (.isub, 1) := by decide +kernel
theorem dX3_canBeGotAt_40 : decode cX3_canBeGotAt 40 = .ok (.invokestatic 19, 3) := by decide +kernel
theorem dX3_canBeGotAt_43 : decode cX3_canBeGotAt 43 = .ok (.istore_n 3, 1) := by decide +kernel
theorem dX3_canBeGotAt_44 : decode cX3_canBeGotAt 44 = .ok (.iinc 4 1, 3) := by decide +kernel
theorem dX3_canBeGotAt_47 : decode cX3_canBeGotAt 47 = .ok (.goto (-33), 3) := by decide +kernel
theorem dX3_canBeGotAt_50 : decode cX3_canBeGotAt 50 = .ok (.iconst 1, 1) := by decide +kernel
theorem dX3_canBeGotAt_51 : decode cX3_canBeGotAt 51 = .ok (.ireturn, 1) := by decide +kernel
def f_X3_canBeGotAt_j50 (N : Nat) : Option Int32 :=
  some (1 : Int32)
def f_X3_canBeGotAt_b14 (N : Nat) (x0 : Int32) (x2 : Int32) (x3 : Int32) (x4 : Int32) : Option ((Int32 × Int32) ⊕ (Int32 ⊕ (Unit))) :=
  if (4 : Int32) ≤ x4 then (some (.inr (.inr ())))
  else if x3 = 0 then (some (.inr (.inr ())))
  else bd (f_X5_has x2 (x3 - (1 : Int32))) fun r_3 =>
  if r_3 = 0 then (some (.inr (.inl (0 : Int32))))
  else bd (f_X3_placeOf x0 (x3 - (1 : Int32))) fun r_6 =>
    nm (x4 + (1 : Int32)) fun x4_8 =>
    some (.inl (r_6, x4_8))
def f_X3_canBeGotAt (N : Nat) (x0 : Int32) (x1 : Int32) : Option Int32 :=
  bd (f_X3_openSet x0) fun r_9 =>
  bd (f_X3_placeOf x0 x1) fun r_11 =>
  bd (lpF (fun s => f_X3_canBeGotAt_b14 N x0 r_9 s.1 s.2) N (r_11, (0 : Int32))) (Sum.elim (fun v => some v) (fun o => f_X3_canBeGotAt_j50 N))
abbrev rmX3_canBeGotAt : Room := { frames := 1, cells := 0, slots := 0, locals := 21 }
set_option maxRecDepth 100000 in
set_option maxHeartbeats 4000000 in
theorem c_X3_canBeGotAt (l : Launch) (N : Nat) (x0 : Int32) (x1 : Int32) (r : Int32) (hf : f_X3_canBeGotAt N x0 x1 = some r) : MetS l yX3_canBeGotAt cX3_canBeGotAt 5 (some .boolean) rmX3_canBeGotAt [.int x0, .int x1] r := by
  refine mkS (by decide) (Nat.le_of_ble_eq_true rfl) rfl ?_
  intro p e s m args below meth cd Q ls h0 hK hret hl
  obtain ⟨S, hr, hlk⟩ := h0
  obtain ⟨hx, hb, hml, hown, ht⟩ := id S
  have hl : lv_has ls 5 [(0, .int x0), (1, .int x1)] := hl
  have hf := obs hf
  have j50 : ∀ (ls : Array Slot), lv_has ls 5 [] → Option.bind (f_X3_canBeGotAt_j50 N) some = some r → W p l e rmX3_canBeGotAt s m args below meth cd s.heap [] 0 0 Q (F0 m 50 ls []) := by
    intro ls hl hf
    have hf := oun (f_X3_canBeGotAt_j50.eq_1 _) hf
    refine lv_iconst (v := (1 : Int32)) hx hb dX3_canBeGotAt_50 (by decide) ?_
    exact hret _ _ _ dX3_canBeGotAt_51 (by decide) (Option.some.inj hf)
  have L14 : ∀ (x0 : Int32) (x2 : Int32) (k : Nat) (x3 : Int32) (x4 : Int32) (ls : Array Slot), lv_has ls 5 [(0, .int x0), (2, .int x2), (3, .int x3), (4, .int x4)] → Option.bind (bd (lpF (fun s => f_X3_canBeGotAt_b14 N x0 x2 s.1 s.2) k (x3, x4)) (Sum.elim (fun v => some v) (fun o => f_X3_canBeGotAt_j50 N))) some = some r → W p l e rmX3_canBeGotAt s m args below meth cd s.heap [] 0 0 Q (F0 m 14 ls []) := by
    intro x0 x2 k
    induction k with
    | zero =>
      intro x3 x4 ls hl hf
      exact (ol0 hf).elim
    | succ k ih =>
      intro x3 x4 ls hl hf
      obtain ⟨K14, hf, hc14, hx14⟩ := ol1 hf
      have hf := oun (f_X3_canBeGotAt_b14.eq_1 N x0 x2 x3 x4) hf
      refine lv_iload hx hb dX3_canBeGotAt_14 (lv_at hl 3 rfl) ?_
      refine lv_iconst (v := (4 : Int32)) hx hb dX3_canBeGotAt_16 (by decide) ?_
      refine lv_icmp_ge (tgt := 50) hx hb dX3_canBeGotAt_17 (by decide) (fun c_1 => ?_) (fun c_1 => ?_)
      · have hf := oit c_1 hf
        exact j50 _ (lv_sub hl [] rfl) (okx hf (hx14 _))
      have hf := oif c_1 hf
      refine lv_iload_n hx hb dX3_canBeGotAt_20 rfl (lv_at hl 2 rfl) ?_
      refine lv_if_eq (tgt := 50) hx hb dX3_canBeGotAt_21 (by decide) (fun c_2 => ?_) (fun c_2 => ?_)
      · have hf := oit c_2 hf
        exact j50 _ (lv_sub hl [] rfl) (okx hf (hx14 _))
      have hf := oif c_2 hf
      refine lv_iload_n hx hb dX3_canBeGotAt_24 rfl (lv_at hl 1 rfl) ?_
      refine lv_iload_n hx hb dX3_canBeGotAt_25 rfl (lv_at hl 2 rfl) ?_
      refine lv_iconst (v := (1 : Int32)) hx hb dX3_canBeGotAt_26 (by decide) ?_
      refine lv_isub hx hb dX3_canBeGotAt_27 ?_
      obtain ⟨r_3, h_4, hf⟩ := obd hf
      refine xn_S (As := [.int x2, .int (x3 - (1 : Int32))]) (rest := []) S k_X5_has hK.1 q202 ⟨Nat.le_of_ble_eq_true rfl, Nat.le_of_ble_eq_true rfl⟩ ⟨rfl, rfl⟩ (c_X5_has l x2 (x3 - (1 : Int32)) r_3 h_4) hK rfl hl.1 rfl (Nat.le_of_ble_eq_true rfl) dX3_canBeGotAt_28 ⟨Nat.zero_le _, Nat.zero_le _⟩ ?_
      refine lv_if_ne (tgt := 36) hx hb dX3_canBeGotAt_31 (by decide) (fun c_5 => ?_) (fun c_5 => ?_)
      · have hf := oif c_5 hf
        refine lv_iload_n hx hb dX3_canBeGotAt_36 rfl (lv_at hl 0 rfl) ?_
        refine lv_iload_n hx hb dX3_canBeGotAt_37 rfl (lv_at hl 2 rfl) ?_
        refine lv_iconst (v := (1 : Int32)) hx hb dX3_canBeGotAt_38 (by decide) ?_
        refine lv_isub hx hb dX3_canBeGotAt_39 ?_
        obtain ⟨r_6, h_7, hf⟩ := obd hf
        refine xs_S (As := [.int x0, .int (x3 - (1 : Int32))]) (rest := []) S k_X3_placeOf q213 q193 ⟨Nat.le_of_ble_eq_true rfl, Nat.le_of_ble_eq_true rfl⟩ ⟨rfl, rfl⟩ (c_X3_placeOf l x0 (x3 - (1 : Int32)) r_6 h_7) hK rfl hl.1 rfl (Nat.le_of_ble_eq_true rfl) dX3_canBeGotAt_40 ⟨Nat.zero_le _, Nat.zero_le _⟩ ?_
        refine lv_istore_n (lv' := [(3, .int r_6), (0, .int x0), (2, .int x2), (4, .int x4)]) hx hb dX3_canBeGotAt_43 rfl hl (by decide) rfl (fun ls hl => ?_)
        obtain ⟨x4_8, ex4_8, hf⟩ := onm hf
        refine lv_iinc (v := x4_8) (lv' := [(4, .int x4_8), (3, .int r_6), (0, .int x0), (2, .int x2)]) hx hb dX3_canBeGotAt_44 hl (k := 3) rfl ex4_8 (by decide) rfl (fun ls hl => ?_)
        refine lv_goto (tgt := 14) hx hb dX3_canBeGotAt_47 (by decide) ?_
        exact ih r_6 x4_8 _ (lv_sub hl [2, 3, 1, 0] rfl) (okx hf (hc14 _))
      have hf := oit c_5 hf
      refine lv_iconst (v := (0 : Int32)) hx hb dX3_canBeGotAt_34 (by decide) ?_
      have hf := okx hf (hx14 _)
      exact hret _ _ _ dX3_canBeGotAt_35 (by decide) (Option.some.inj hf)
  have hf := oun (f_X3_canBeGotAt.eq_1 _ _ _) hf
  refine lv_iload_n hx hb dX3_canBeGotAt_0 rfl (lv_at hl 0 rfl) ?_
  obtain ⟨r_9, h_10, hf⟩ := obd hf
  refine xs_S (As := [.int x0]) (rest := []) S k_X3_openSet q199 q200 ⟨Nat.le_of_ble_eq_true rfl, Nat.le_of_ble_eq_true rfl⟩ ⟨rfl, rfl⟩ (c_X3_openSet l x0 r_9 h_10) hK rfl hl.1 rfl (Nat.le_of_ble_eq_true rfl) dX3_canBeGotAt_1 ⟨Nat.zero_le _, Nat.zero_le _⟩ ?_
  refine lv_istore_n (lv' := [(2, .int r_9), (0, .int x0), (1, .int x1)]) hx hb dX3_canBeGotAt_4 rfl hl (by decide) rfl (fun ls hl => ?_)
  refine lv_iload_n hx hb dX3_canBeGotAt_5 rfl (lv_at hl 1 rfl) ?_
  refine lv_iload_n hx hb dX3_canBeGotAt_6 rfl (lv_at hl 2 rfl) ?_
  obtain ⟨r_11, h_12, hf⟩ := obd hf
  refine xs_S (As := [.int x0, .int x1]) (rest := []) S k_X3_placeOf q213 q193 ⟨Nat.le_of_ble_eq_true rfl, Nat.le_of_ble_eq_true rfl⟩ ⟨rfl, rfl⟩ (c_X3_placeOf l x0 x1 r_11 h_12) hK rfl hl.1 rfl (Nat.le_of_ble_eq_true rfl) dX3_canBeGotAt_7 ⟨Nat.zero_le _, Nat.zero_le _⟩ ?_
  refine lv_istore_n (lv' := [(3, .int r_11), (2, .int r_9), (0, .int x0), (1, .int x1)]) hx hb dX3_canBeGotAt_10 rfl hl (by decide) rfl (fun ls hl => ?_)
  refine lv_iconst (v := (0 : Int32)) hx hb dX3_canBeGotAt_11 (by decide) ?_
  refine lv_istore (lv' := [(4, .int (0 : Int32)), (3, .int r_11), (2, .int r_9), (0, .int x0), (1, .int x1)]) hx hb dX3_canBeGotAt_12 hl (by decide) rfl (fun ls hl => ?_)
  exact L14 x0 r_9 N r_11 (0 : Int32) _ (lv_sub hl [3, 2, 1, 0] rfl) hf
theorem dX3_handSet_0 : decode cX3_handSet 0 = .ok (.iconst 0, 1) := by decide +kernel
theorem dX3_handSet_1 : decode cX3_handSet 1 = .ok (.istore_n 2, 1) := by decide +kernel
theorem dX3_handSet_2 : decode cX3_handSet 2 = .ok (.iconst 0, 1) := by decide +kernel
theorem dX3_handSet_3 : decode cX3_handSet 3 = .ok (.istore_n 3, 1) := by decide +kernel
theorem dX3_handSet_4 : decode cX3_handSet 4 = .ok (.iload_n 3, 1) := by decide +kernel
theorem dX3_handSet_5 : decode cX3_handSet 5 = .ok (.iload_n 1, 1) := by decide +kernel
theorem dX3_handSet_6 : decode cX3_handSet 6 = .ok (.if_icmp .ge 23, 3) := by decide +kernel
theorem dX3_handSet_9 : decode cX3_handSet 9 = .ok (.iload_n 0, 1) := by decide +kernel
theorem dX3_handSet_10 : decode cX3_handSet 10 = .ok (.iload_n 3, 1) := by decide +kernel
theorem dX3_handSet_11 : decode cX3_handSet 11 = .ok (.invokestatic 23, 3) := by decide +kernel
theorem dX3_handSet_14 : decode cX3_handSet 14 = .ok (.ifCond .eq 9, 3) := by decide +kernel
theorem dX3_handSet_17 : decode cX3_handSet 17 = .ok (.iload_n 2, 1) := by decide +kernel
theorem dX3_handSet_18 : decode cX3_handSet 18 = .ok (.iconst 1, 1) := by decide +kernel
theorem dX3_handSet_19 : decode cX3_handSet 19 = .ok (.iload_n 3, 1) := by decide +kernel
theorem dX3_handSet_20 : decode cX3_handSet 20 = .ok (.ishl, 1) := by decide +kernel
theorem dX3_handSet_21 : decode cX3_handSet 21 = .ok (.ior, 1) := by decide +kernel
theorem dX3_handSet_22 : decode cX3_handSet 22 = .ok (.istore_n 2, 1) := by decide +kernel
theorem dX3_handSet_23 : decode cX3_handSet 23 = .ok (.iinc 3 1, 3) := by decide +kernel
theorem dX3_handSet_26 : decode cX3_handSet 26 = .ok (.goto (-22), 3) := by decide +kernel
theorem dX3_handSet_29 : decode cX3_handSet 29 = .ok (.iload_n 2, 1) := by decide +kernel
theorem dX3_handSet_30 : decode cX3_handSet 30 = .ok (.ireturn, 1) := by decide +kernel
def f_X3_handSet_j29 (N : Nat) (x2 : Int32) : Option Int32 :=
  some x2
def f_X3_handSet_j23 (N : Nat) (x0 : Int32) (x1 : Int32) (x2 : Int32) (x3 : Int32) : Option ((Int32 × Int32) ⊕ ((Int32))) :=
  nm (x3 + (1 : Int32)) fun x3_1 =>
  some (.inl (x2, x3_1))
def f_X3_handSet_b4 (N : Nat) (x0 : Int32) (x1 : Int32) (x2 : Int32) (x3 : Int32) : Option ((Int32 × Int32) ⊕ ((Int32))) :=
  if x1 ≤ x3 then (some (.inr x2))
  else bd (f_X3_canBeGotAt N x0 x3) fun r_3 =>
  if r_3 = 0 then (f_X3_handSet_j23 N x0 x1 x2 x3)
  else nm (x2 ||| ((1 : Int32) <<< (x3 &&& 31))) fun x2_6 =>
  f_X3_handSet_j23 N x0 x1 x2_6 x3
def f_X3_handSet (N : Nat) (x0 : Int32) (x1 : Int32) : Option Int32 :=
  bd (lpF (fun s => f_X3_handSet_b4 N x0 x1 s.1 s.2) N ((0 : Int32), (0 : Int32))) (fun o => f_X3_handSet_j29 N o)
abbrev rmX3_handSet : Room := { frames := 2, cells := 0, slots := 0, locals := 45 }
set_option maxRecDepth 100000 in
set_option maxHeartbeats 4000000 in
theorem c_X3_handSet (l : Launch) (N : Nat) (x0 : Int32) (x1 : Int32) (r : Int32) (hf : f_X3_handSet N x0 x1 = some r) : MetS l yX3_handSet cX3_handSet 4 (some .int) rmX3_handSet [.int x0, .int x1] r := by
  refine mkS (by decide) (Nat.le_of_ble_eq_true rfl) rfl ?_
  intro p e s m args below meth cd Q ls h0 hK hret hl
  obtain ⟨S, hr, hlk⟩ := h0
  obtain ⟨hx, hb, hml, hown, ht⟩ := id S
  have hl : lv_has ls 4 [(0, .int x0), (1, .int x1)] := hl
  have hf := obs hf
  have j29 : ∀ (x2 : Int32) (ls : Array Slot), lv_has ls 4 [(2, .int x2)] → Option.bind (f_X3_handSet_j29 N x2) some = some r → W p l e rmX3_handSet s m args below meth cd s.heap [] 0 0 Q (F0 m 29 ls []) := by
    intro x2 ls hl hf
    have hf := oun (f_X3_handSet_j29.eq_1 _ _) hf
    refine lv_iload_n hx hb dX3_handSet_29 rfl (lv_at hl 0 rfl) ?_
    exact hret _ _ _ dX3_handSet_30 rfl (Option.some.inj hf)
  have L4 : ∀ (x0 : Int32) (x1 : Int32) (k : Nat) (x2 : Int32) (x3 : Int32) (ls : Array Slot), lv_has ls 4 [(0, .int x0), (1, .int x1), (2, .int x2), (3, .int x3)] → Option.bind (bd (lpF (fun s => f_X3_handSet_b4 N x0 x1 s.1 s.2) k (x2, x3)) (fun o => f_X3_handSet_j29 N o)) some = some r → W p l e rmX3_handSet s m args below meth cd s.heap [] 0 0 Q (F0 m 4 ls []) := by
    intro x0 x1 k
    induction k with
    | zero =>
      intro x2 x3 ls hl hf
      exact (ol0 hf).elim
    | succ k ih =>
      intro x2 x3 ls hl hf
      obtain ⟨K4, hf, hc4, hx4⟩ := ol1 hf
      have j23 : ∀ (x2 : Int32) (x3 : Int32) (ls : Array Slot), lv_has ls 4 [(0, .int x0), (1, .int x1), (2, .int x2), (3, .int x3)] → Option.bind (f_X3_handSet_j23 N x0 x1 x2 x3) K4 = some r → W p l e rmX3_handSet s m args below meth cd s.heap [] 0 0 Q (F0 m 23 ls []) := by
        intro x2 x3 ls hl hf
        have hf := oun (f_X3_handSet_j23.eq_1 _ _ _ _ _) hf
        obtain ⟨x3_1, ex3_1, hf⟩ := onm hf
        refine lv_iinc (v := x3_1) (lv' := [(3, .int x3_1), (0, .int x0), (1, .int x1), (2, .int x2)]) hx hb dX3_handSet_23 hl (k := 3) rfl ex3_1 (by decide) rfl (fun ls hl => ?_)
        refine lv_goto (tgt := 4) hx hb dX3_handSet_26 (by decide) ?_
        exact ih x2 x3_1 _ (lv_sub hl [1, 2, 3, 0] rfl) (okx hf (hc4 _))
      have hf := oun (f_X3_handSet_b4.eq_1 N x0 x1 x2 x3) hf
      refine lv_iload_n hx hb dX3_handSet_4 rfl (lv_at hl 3 rfl) ?_
      refine lv_iload_n hx hb dX3_handSet_5 rfl (lv_at hl 1 rfl) ?_
      refine lv_icmp_ge (tgt := 29) hx hb dX3_handSet_6 (by decide) (fun c_2 => ?_) (fun c_2 => ?_)
      · have hf := oit c_2 hf
        exact j29 x2 _ (lv_sub hl [2] rfl) (okx hf (hx4 _))
      have hf := oif c_2 hf
      refine lv_iload_n hx hb dX3_handSet_9 rfl (lv_at hl 0 rfl) ?_
      refine lv_iload_n hx hb dX3_handSet_10 rfl (lv_at hl 3 rfl) ?_
      obtain ⟨r_3, h_4, hf⟩ := obd hf
      refine xs_S (As := [.int x0, .int x3]) (rest := []) S k_X3_canBeGotAt q210 q211 ⟨Nat.le_of_ble_eq_true rfl, Nat.le_of_ble_eq_true rfl⟩ ⟨rfl, rfl⟩ (c_X3_canBeGotAt l N x0 x3 r_3 h_4) hK rfl hl.1 rfl (Nat.le_of_ble_eq_true rfl) dX3_handSet_11 ⟨Nat.zero_le _, Nat.zero_le _⟩ ?_
      refine lv_if_eq (tgt := 23) hx hb dX3_handSet_14 (by decide) (fun c_5 => ?_) (fun c_5 => ?_)
      · have hf := oit c_5 hf
        exact j23 x2 x3 _ (lv_sub hl [0, 1, 2, 3] rfl) hf
      have hf := oif c_5 hf
      refine lv_iload_n hx hb dX3_handSet_17 rfl (lv_at hl 2 rfl) ?_
      refine lv_iconst (v := (1 : Int32)) hx hb dX3_handSet_18 (by decide) ?_
      refine lv_iload_n hx hb dX3_handSet_19 rfl (lv_at hl 3 rfl) ?_
      refine lv_ishl hx hb dX3_handSet_20 ?_
      refine lv_ior hx hb dX3_handSet_21 ?_
      obtain ⟨x2_6, ex2_6, hf⟩ := onm hf
      refine lv_nm ex2_6 ?_
      refine lv_istore_n (lv' := [(2, .int x2_6), (0, .int x0), (1, .int x1), (3, .int x3)]) hx hb dX3_handSet_22 rfl hl (by decide) rfl (fun ls hl => ?_)
      exact j23 x2_6 x3 _ (lv_sub hl [1, 2, 0, 3] rfl) hf
  have hf := oun (f_X3_handSet.eq_1 _ _ _) hf
  refine lv_iconst (v := (0 : Int32)) hx hb dX3_handSet_0 (by decide) ?_
  refine lv_istore_n (lv' := [(2, .int (0 : Int32)), (0, .int x0), (1, .int x1)]) hx hb dX3_handSet_1 rfl hl (by decide) rfl (fun ls hl => ?_)
  refine lv_iconst (v := (0 : Int32)) hx hb dX3_handSet_2 (by decide) ?_
  refine lv_istore_n (lv' := [(3, .int (0 : Int32)), (2, .int (0 : Int32)), (0, .int x0), (1, .int x1)]) hx hb dX3_handSet_3 rfl hl (by decide) rfl (fun ls hl => ?_)
  exact L4 x0 x1 N (0 : Int32) (0 : Int32) _ (lv_sub hl [2, 3, 1, 0] rfl) hf
theorem dX3_innerOf_0 : decode cX3_innerOf 0 = .ok (.iconst 0, 1) := by decide +kernel
theorem dX3_innerOf_1 : decode cX3_innerOf 1 = .ok (.istore_n 3, 1) := by decide +kernel
theorem dX3_innerOf_2 : decode cX3_innerOf 2 = .ok (.iload_n 3, 1) := by decide +kernel
theorem dX3_innerOf_3 : decode cX3_innerOf 3 = .ok (.iload_n 2, 1) := by decide +kernel
theorem dX3_innerOf_4 : decode cX3_innerOf 4 = .ok (.if_icmp .ge 22, 3) := by decide +kernel
theorem dX3_innerOf_7 : decode cX3_innerOf 7 = .ok (.iload_n 0, 1) := by decide +kernel
theorem dX3_innerOf_8 : decode cX3_innerOf 8 = .ok (.iload_n 3, 1) := by decide +kernel
theorem dX3_innerOf_9 : decode cX3_innerOf 9 = .ok (.invokestatic 19, 3) := by decide +kernel
theorem dX3_innerOf_12 : decode cX3_innerOf 12 = .ok (.iload_n 1, 1) := by decide +kernel
theorem dX3_innerOf_13 : decode cX3_innerOf 13 = .ok (.iconst 1, 1) := by decide +kernel
theorem dX3_innerOf_14 : decode cX3_innerOf 14 = .ok (.iadd, 1) := by decide +kernel
theorem dX3_innerOf_15 : decode cX3_innerOf 15 = .ok (.if_icmp .ne 5, 3) := by decide +kernel
theorem dX3_innerOf_18 : decode cX3_innerOf 18 = .ok (.iload_n 3, 1) := by decide +kernel
theorem dX3_innerOf_19 : decode cX3_innerOf 19 = .ok (.ireturn, 1) := by decide +kernel
theorem dX3_innerOf_20 : decode cX3_innerOf 20 = .ok (.iinc 3 1, 3) := by decide +kernel
theorem dX3_innerOf_23 : decode cX3_innerOf 23 = .ok (.goto (-21), 3) := by decide +kernel
theorem dX3_innerOf_26 : decode cX3_innerOf 26 = .ok (.bipush (-9), 2) := by decide +kernel
theorem dX3_innerOf_28 : decode cX3_innerOf 28 = .ok (.ireturn, 1) := by decide +kernel
def f_X3_innerOf_j26 (N : Nat) : Option Int32 :=
  some (-9 : Int32)
def f_X3_innerOf_b2 (N : Nat) (x0 : Int32) (x1 : Int32) (x2 : Int32) (x3 : Int32) : Option ((Int32) ⊕ (Int32 ⊕ (Unit))) :=
  if x2 ≤ x3 then (some (.inr (.inr ())))
  else bd (f_X3_placeOf x0 x3) fun r_2 =>
  if r_2 = (x1 + (1 : Int32)) then (some (.inr (.inl x3)))
  else nm (x3 + (1 : Int32)) fun x3_5 =>
    some (.inl x3_5)
def f_X3_innerOf (N : Nat) (x0 : Int32) (x1 : Int32) (x2 : Int32) : Option Int32 :=
  bd (lpF (fun s => f_X3_innerOf_b2 N x0 x1 x2 s) N (0 : Int32)) (Sum.elim (fun v => some v) (fun o => f_X3_innerOf_j26 N))
abbrev rmX3_innerOf : Room := { frames := 1, cells := 0, slots := 0, locals := 21 }
set_option maxRecDepth 100000 in
set_option maxHeartbeats 4000000 in
theorem c_X3_innerOf (l : Launch) (N : Nat) (x0 : Int32) (x1 : Int32) (x2 : Int32) (r : Int32) (hf : f_X3_innerOf N x0 x1 x2 = some r) : MetS l yX3_innerOf cX3_innerOf 4 (some .int) rmX3_innerOf [.int x0, .int x1, .int x2] r := by
  refine mkS (by decide) (Nat.le_of_ble_eq_true rfl) rfl ?_
  intro p e s m args below meth cd Q ls h0 hK hret hl
  obtain ⟨S, hr, hlk⟩ := h0
  obtain ⟨hx, hb, hml, hown, ht⟩ := id S
  have hl : lv_has ls 4 [(0, .int x0), (1, .int x1), (2, .int x2)] := hl
  have hf := obs hf
  have j26 : ∀ (ls : Array Slot), lv_has ls 4 [] → Option.bind (f_X3_innerOf_j26 N) some = some r → W p l e rmX3_innerOf s m args below meth cd s.heap [] 0 0 Q (F0 m 26 ls []) := by
    intro ls hl hf
    have hf := oun (f_X3_innerOf_j26.eq_1 _) hf
    refine lv_bipush (v := (-9 : Int32)) hx hb dX3_innerOf_26 (by decide) ?_
    exact hret _ _ _ dX3_innerOf_28 rfl (Option.some.inj hf)
  have L2 : ∀ (x0 : Int32) (x1 : Int32) (x2 : Int32) (k : Nat) (x3 : Int32) (ls : Array Slot), lv_has ls 4 [(0, .int x0), (1, .int x1), (2, .int x2), (3, .int x3)] → Option.bind (bd (lpF (fun s => f_X3_innerOf_b2 N x0 x1 x2 s) k x3) (Sum.elim (fun v => some v) (fun o => f_X3_innerOf_j26 N))) some = some r → W p l e rmX3_innerOf s m args below meth cd s.heap [] 0 0 Q (F0 m 2 ls []) := by
    intro x0 x1 x2 k
    induction k with
    | zero =>
      intro x3 ls hl hf
      exact (ol0 hf).elim
    | succ k ih =>
      intro x3 ls hl hf
      obtain ⟨K2, hf, hc2, hx2⟩ := ol1 hf
      have hf := oun (f_X3_innerOf_b2.eq_1 N x0 x1 x2 x3) hf
      refine lv_iload_n hx hb dX3_innerOf_2 rfl (lv_at hl 3 rfl) ?_
      refine lv_iload_n hx hb dX3_innerOf_3 rfl (lv_at hl 2 rfl) ?_
      refine lv_icmp_ge (tgt := 26) hx hb dX3_innerOf_4 (by decide) (fun c_1 => ?_) (fun c_1 => ?_)
      · have hf := oit c_1 hf
        exact j26 _ (lv_sub hl [] rfl) (okx hf (hx2 _))
      have hf := oif c_1 hf
      refine lv_iload_n hx hb dX3_innerOf_7 rfl (lv_at hl 0 rfl) ?_
      refine lv_iload_n hx hb dX3_innerOf_8 rfl (lv_at hl 3 rfl) ?_
      obtain ⟨r_2, h_3, hf⟩ := obd hf
      refine xs_S (As := [.int x0, .int x3]) (rest := []) S k_X3_placeOf q213 q193 ⟨Nat.le_of_ble_eq_true rfl, Nat.le_of_ble_eq_true rfl⟩ ⟨rfl, rfl⟩ (c_X3_placeOf l x0 x3 r_2 h_3) hK rfl hl.1 rfl (Nat.le_of_ble_eq_true rfl) dX3_innerOf_9 ⟨Nat.zero_le _, Nat.zero_le _⟩ ?_
      refine lv_iload_n hx hb dX3_innerOf_12 rfl (lv_at hl 1 rfl) ?_
      refine lv_iconst (v := (1 : Int32)) hx hb dX3_innerOf_13 (by decide) ?_
      refine lv_iadd hx hb dX3_innerOf_14 ?_
      refine lv_icmp_ne (tgt := 20) hx hb dX3_innerOf_15 (by decide) (fun c_4 => ?_) (fun c_4 => ?_)
      · have hf := oif c_4 hf
        obtain ⟨x3_5, ex3_5, hf⟩ := onm hf
        refine lv_iinc (v := x3_5) (lv' := [(3, .int x3_5), (0, .int x0), (1, .int x1), (2, .int x2)]) hx hb dX3_innerOf_20 hl (k := 3) rfl ex3_5 (by decide) rfl (fun ls hl => ?_)
        refine lv_goto (tgt := 2) hx hb dX3_innerOf_23 (by decide) ?_
        exact ih x3_5 _ (lv_sub hl [1, 2, 3, 0] rfl) (okx hf (hc2 _))
      have hf := oit c_4 hf
      refine lv_iload_n hx hb dX3_innerOf_18 rfl (lv_at hl 3 rfl) ?_
      have hf := okx hf (hx2 _)
      exact hret _ _ _ dX3_innerOf_19 rfl (Option.some.inj hf)
  have hf := oun (f_X3_innerOf.eq_1 _ _ _ _) hf
  refine lv_iconst (v := (0 : Int32)) hx hb dX3_innerOf_0 (by decide) ?_
  refine lv_istore_n (lv' := [(3, .int (0 : Int32)), (0, .int x0), (1, .int x1), (2, .int x2)]) hx hb dX3_innerOf_1 rfl hl (by decide) rfl (fun ls hl => ?_)
  exact L2 x0 x1 x2 N (0 : Int32) _ (lv_sub hl [1, 2, 3, 0] rfl) hf
theorem dX3_isOpen_0 : decode cX3_isOpen 0 = .ok (.iload_n 0, 1) := by decide +kernel
theorem dX3_isOpen_1 : decode cX3_isOpen 1 = .ok (.invokestatic 11, 3) := by decide +kernel
theorem dX3_isOpen_4 : decode cX3_isOpen 4 = .ok (.iload_n 1, 1) := by decide +kernel
theorem dX3_isOpen_5 : decode cX3_isOpen 5 = .ok (.invokestatic 15, 3) := by decide +kernel
theorem dX3_isOpen_8 : decode cX3_isOpen 8 = .ok (.ireturn, 1) := by decide +kernel
def f_X3_isOpen (x0 : Int32) (x1 : Int32) : Option Int32 :=
  bd (f_X3_openSet x0) fun r_1 =>
  bd (f_X5_has r_1 x1) fun r_3 =>
  gd (isB r_3) <|
  some r_3
abbrev rmX3_isOpen : Room := { frames := 1, cells := 0, slots := 0, locals := 21 }
set_option maxRecDepth 100000 in
set_option maxHeartbeats 4000000 in
theorem c_X3_isOpen (l : Launch) (x0 : Int32) (x1 : Int32) (r : Int32) (hf : f_X3_isOpen x0 x1 = some r) : MetS l yX3_isOpen cX3_isOpen 2 (some .boolean) rmX3_isOpen [.int x0, .int x1] r := by
  refine mkS (by decide) (Nat.le_of_ble_eq_true rfl) rfl ?_
  intro p e s m args below meth cd Q ls h0 hK hret hl
  obtain ⟨S, hr, hlk⟩ := h0
  obtain ⟨hx, hb, hml, hown, ht⟩ := id S
  have hl : lv_has ls 2 [(0, .int x0), (1, .int x1)] := hl
  have hf := obs hf
  have hf := oun (f_X3_isOpen.eq_1 _ _) hf
  refine lv_iload_n hx hb dX3_isOpen_0 rfl (lv_at hl 0 rfl) ?_
  obtain ⟨r_1, h_2, hf⟩ := obd hf
  refine xs_S (As := [.int x0]) (rest := []) S k_X3_openSet q199 q200 ⟨Nat.le_of_ble_eq_true rfl, Nat.le_of_ble_eq_true rfl⟩ ⟨rfl, rfl⟩ (c_X3_openSet l x0 r_1 h_2) hK rfl hl.1 rfl (Nat.le_of_ble_eq_true rfl) dX3_isOpen_1 ⟨Nat.zero_le _, Nat.zero_le _⟩ ?_
  refine lv_iload_n hx hb dX3_isOpen_4 rfl (lv_at hl 1 rfl) ?_
  obtain ⟨r_3, h_4, hf⟩ := obd hf
  refine xn_S (As := [.int r_1, .int x1]) (rest := []) S k_X5_has hK.1 q202 ⟨Nat.le_of_ble_eq_true rfl, Nat.le_of_ble_eq_true rfl⟩ ⟨rfl, rfl⟩ (c_X5_has l r_1 x1 r_3 h_4) hK rfl hl.1 rfl (Nat.le_of_ble_eq_true rfl) dX3_isOpen_5 ⟨Nat.zero_le _, Nat.zero_le _⟩ ?_
  obtain ⟨g_5, hf⟩ := ogd hf
  exact hret _ _ _ dX3_isOpen_8 (isB_n g_5) (Option.some.inj hf)
theorem dX3_manyWithin_0 : decode cX3_manyWithin 0 = .ok (.iload_n 0, 1) := by decide +kernel
theorem dX3_manyWithin_1 : decode cX3_manyWithin 1 = .ok (.iload_n 1, 1) := by decide +kernel
theorem dX3_manyWithin_2 : decode cX3_manyWithin 2 = .ok (.iload_n 2, 1) := by decide +kernel
theorem dX3_manyWithin_3 : decode cX3_manyWithin 3 = .ok (.invokestatic 26, 3) := by decide +kernel
theorem dX3_manyWithin_6 : decode cX3_manyWithin 6 = .ok (.istore_n 3, 1) := by decide +kernel
theorem dX3_manyWithin_7 : decode cX3_manyWithin 7 = .ok (.iconst 0, 1) := by decide +kernel
theorem dX3_manyWithin_8 : decode cX3_manyWithin 8 = .ok (.istore 4, 2) := by decide +kernel
theorem dX3_manyWithin_10 : decode cX3_manyWithin 10 = .ok (.iconst 0, 1) := by decide +kernel
theorem dX3_manyWithin_11 : decode cX3_manyWithin 11 = .ok (.istore 5, 2) := by decide +kernel
theorem dX3_manyWithin_13 : decode cX3_manyWithin 13 = .ok (.iload 5, 2) := by decide +kernel
theorem dX3_manyWithin_15 : decode cX3_manyWithin 15 = .ok (.iconst 4, 1) := by decide +kernel
theorem dX3_manyWithin_16 : decode cX3_manyWithin 16 = .ok (.if_icmp .ge 25, 3) := by decide +kernel
theorem dX3_manyWithin_19 : decode cX3_manyWithin 19 = .ok (.iload_n 3, 1) := by decide +kernel
theorem dX3_manyWithin_20 : decode cX3_manyWithin 20 = .ok (.bipush (-9), 2) := by decide +kernel
theorem dX3_manyWithin_22 : decode cX3_manyWithin 22 = .ok (.if_icmp .eq 19, 3) := by decide +kernel
theorem dX3_manyWithin_25 : decode cX3_manyWithin 25 = .ok (.iinc 4 1, 3) := by decide +kernel
theorem dX3_manyWithin_28 : decode cX3_manyWithin 28 = .ok (.iload_n 0, 1) := by decide +kernel
theorem dX3_manyWithin_29 : decode cX3_manyWithin 29 = .ok (.iload_n 3, 1) := by decide +kernel
theorem dX3_manyWithin_30 : decode cX3_manyWithin 30 = .ok (.iload_n 2, 1) := by decide +kernel
theorem dX3_manyWithin_31 : decode cX3_manyWithin 31 = .ok (.invokestatic 26, 3) := by decide +kernel
theorem dX3_manyWithin_34 : decode cX3_manyWithin 34 = .ok (.istore_n 3, 1) := by decide +kernel
theorem dX3_manyWithin_35 : decode cX3_manyWithin 35 = .ok (.iinc 5 1, 3) := by decide +kernel
theorem dX3_manyWithin_38 : decode cX3_manyWithin 38 = .ok (.goto (-25), 3) := by decide +kernel
theorem dX3_manyWithin_41 : decode cX3_manyWithin 41 = .ok (.iload 4, 2) := by decide +kernel
theorem dX3_manyWithin_43 : decode cX3_manyWithin 43 = .ok (.ireturn, 1) := by decide +kernel
def f_X3_manyWithin_j41 (N : Nat) (x4 : Int32) : Option Int32 :=
  some x4
def f_X3_manyWithin_b13 (N : Nat) (x0 : Int32) (x2 : Int32) (x3 : Int32) (x4 : Int32) (x5 : Int32) : Option ((Int32 × Int32 × Int32) ⊕ ((Int32))) :=
  if (4 : Int32) ≤ x5 then (some (.inr x4))
  else if x3 = (-9 : Int32) then (some (.inr x4))
  else nm (x4 + (1 : Int32)) fun x4_3 =>
  bd (f_X3_innerOf N x0 x3 x2) fun r_4 =>
  nm (x5 + (1 : Int32)) fun x5_6 =>
  some (.inl (r_4, x4_3, x5_6))
def f_X3_manyWithin (N : Nat) (x0 : Int32) (x1 : Int32) (x2 : Int32) : Option Int32 :=
  bd (f_X3_innerOf N x0 x1 x2) fun r_7 =>
  bd (lpF (fun s => f_X3_manyWithin_b13 N x0 x2 s.1 s.2.1 s.2.2) N (r_7, (0 : Int32), (0 : Int32))) (fun o => f_X3_manyWithin_j41 N o)
abbrev rmX3_manyWithin : Room := { frames := 2, cells := 0, slots := 0, locals := 44 }
set_option maxRecDepth 100000 in
set_option maxHeartbeats 4000000 in
theorem c_X3_manyWithin (l : Launch) (N : Nat) (x0 : Int32) (x1 : Int32) (x2 : Int32) (r : Int32) (hf : f_X3_manyWithin N x0 x1 x2 = some r) : MetS l yX3_manyWithin cX3_manyWithin 6 (some .int) rmX3_manyWithin [.int x0, .int x1, .int x2] r := by
  refine mkS (by decide) (Nat.le_of_ble_eq_true rfl) rfl ?_
  intro p e s m args below meth cd Q ls h0 hK hret hl
  obtain ⟨S, hr, hlk⟩ := h0
  obtain ⟨hx, hb, hml, hown, ht⟩ := id S
  have hl : lv_has ls 6 [(0, .int x0), (1, .int x1), (2, .int x2)] := hl
  have hf := obs hf
  have j41 : ∀ (x4 : Int32) (ls : Array Slot), lv_has ls 6 [(4, .int x4)] → Option.bind (f_X3_manyWithin_j41 N x4) some = some r → W p l e rmX3_manyWithin s m args below meth cd s.heap [] 0 0 Q (F0 m 41 ls []) := by
    intro x4 ls hl hf
    have hf := oun (f_X3_manyWithin_j41.eq_1 _ _) hf
    refine lv_iload hx hb dX3_manyWithin_41 (lv_at hl 0 rfl) ?_
    exact hret _ _ _ dX3_manyWithin_43 rfl (Option.some.inj hf)
  have L13 : ∀ (x0 : Int32) (x2 : Int32) (k : Nat) (x3 : Int32) (x4 : Int32) (x5 : Int32) (ls : Array Slot), lv_has ls 6 [(0, .int x0), (2, .int x2), (3, .int x3), (4, .int x4), (5, .int x5)] → Option.bind (bd (lpF (fun s => f_X3_manyWithin_b13 N x0 x2 s.1 s.2.1 s.2.2) k (x3, x4, x5)) (fun o => f_X3_manyWithin_j41 N o)) some = some r → W p l e rmX3_manyWithin s m args below meth cd s.heap [] 0 0 Q (F0 m 13 ls []) := by
    intro x0 x2 k
    induction k with
    | zero =>
      intro x3 x4 x5 ls hl hf
      exact (ol0 hf).elim
    | succ k ih =>
      intro x3 x4 x5 ls hl hf
      obtain ⟨K13, hf, hc13, hx13⟩ := ol1 hf
      have hf := oun (f_X3_manyWithin_b13.eq_1 N x0 x2 x3 x4 x5) hf
      refine lv_iload hx hb dX3_manyWithin_13 (lv_at hl 4 rfl) ?_
      refine lv_iconst (v := (4 : Int32)) hx hb dX3_manyWithin_15 (by decide) ?_
      refine lv_icmp_ge (tgt := 41) hx hb dX3_manyWithin_16 (by decide) (fun c_1 => ?_) (fun c_1 => ?_)
      · have hf := oit c_1 hf
        exact j41 x4 _ (lv_sub hl [3] rfl) (okx hf (hx13 _))
      have hf := oif c_1 hf
      refine lv_iload_n hx hb dX3_manyWithin_19 rfl (lv_at hl 2 rfl) ?_
      refine lv_bipush (v := (-9 : Int32)) hx hb dX3_manyWithin_20 (by decide) ?_
      refine lv_icmp_eq (tgt := 41) hx hb dX3_manyWithin_22 (by decide) (fun c_2 => ?_) (fun c_2 => ?_)
      · have hf := oit c_2 hf
        exact j41 x4 _ (lv_sub hl [3] rfl) (okx hf (hx13 _))
      have hf := oif c_2 hf
      obtain ⟨x4_3, ex4_3, hf⟩ := onm hf
      refine lv_iinc (v := x4_3) (lv' := [(4, .int x4_3), (0, .int x0), (2, .int x2), (3, .int x3), (5, .int x5)]) hx hb dX3_manyWithin_25 hl (k := 3) rfl ex4_3 (by decide) rfl (fun ls hl => ?_)
      refine lv_iload_n hx hb dX3_manyWithin_28 rfl (lv_at hl 1 rfl) ?_
      refine lv_iload_n hx hb dX3_manyWithin_29 rfl (lv_at hl 3 rfl) ?_
      refine lv_iload_n hx hb dX3_manyWithin_30 rfl (lv_at hl 2 rfl) ?_
      obtain ⟨r_4, h_5, hf⟩ := obd hf
      refine xs_S (As := [.int x0, .int x3, .int x2]) (rest := []) S k_X3_innerOf q221 q216 ⟨Nat.le_of_ble_eq_true rfl, Nat.le_of_ble_eq_true rfl⟩ ⟨rfl, rfl⟩ (c_X3_innerOf l N x0 x3 x2 r_4 h_5) hK rfl hl.1 rfl (Nat.le_of_ble_eq_true rfl) dX3_manyWithin_31 ⟨Nat.zero_le _, Nat.zero_le _⟩ ?_
      refine lv_istore_n (lv' := [(3, .int r_4), (4, .int x4_3), (0, .int x0), (2, .int x2), (5, .int x5)]) hx hb dX3_manyWithin_34 rfl hl (by decide) rfl (fun ls hl => ?_)
      obtain ⟨x5_6, ex5_6, hf⟩ := onm hf
      refine lv_iinc (v := x5_6) (lv' := [(5, .int x5_6), (3, .int r_4), (4, .int x4_3), (0, .int x0), (2, .int x2)]) hx hb dX3_manyWithin_35 hl (k := 4) rfl ex5_6 (by decide) rfl (fun ls hl => ?_)
      refine lv_goto (tgt := 13) hx hb dX3_manyWithin_38 (by decide) ?_
      exact ih r_4 x4_3 x5_6 _ (lv_sub hl [3, 4, 1, 2, 0] rfl) (okx hf (hc13 _))
  have hf := oun (f_X3_manyWithin.eq_1 _ _ _ _) hf
  refine lv_iload_n hx hb dX3_manyWithin_0 rfl (lv_at hl 0 rfl) ?_
  refine lv_iload_n hx hb dX3_manyWithin_1 rfl (lv_at hl 1 rfl) ?_
  refine lv_iload_n hx hb dX3_manyWithin_2 rfl (lv_at hl 2 rfl) ?_
  obtain ⟨r_7, h_8, hf⟩ := obd hf
  refine xs_S (As := [.int x0, .int x1, .int x2]) (rest := []) S k_X3_innerOf q221 q216 ⟨Nat.le_of_ble_eq_true rfl, Nat.le_of_ble_eq_true rfl⟩ ⟨rfl, rfl⟩ (c_X3_innerOf l N x0 x1 x2 r_7 h_8) hK rfl hl.1 rfl (Nat.le_of_ble_eq_true rfl) dX3_manyWithin_3 ⟨Nat.zero_le _, Nat.zero_le _⟩ ?_
  refine lv_istore_n (lv' := [(3, .int r_7), (0, .int x0), (1, .int x1), (2, .int x2)]) hx hb dX3_manyWithin_6 rfl hl (by decide) rfl (fun ls hl => ?_)
  refine lv_iconst (v := (0 : Int32)) hx hb dX3_manyWithin_7 (by decide) ?_
  refine lv_istore (lv' := [(4, .int (0 : Int32)), (3, .int r_7), (0, .int x0), (1, .int x1), (2, .int x2)]) hx hb dX3_manyWithin_8 hl (by decide) rfl (fun ls hl => ?_)
  refine lv_iconst (v := (0 : Int32)) hx hb dX3_manyWithin_10 (by decide) ?_
  refine lv_istore (lv' := [(5, .int (0 : Int32)), (4, .int (0 : Int32)), (3, .int r_7), (0, .int x0), (1, .int x1), (2, .int x2)]) hx hb dX3_manyWithin_11 hl (by decide) rfl (fun ls hl => ?_)
  exact L13 x0 x2 N r_7 (0 : Int32) (0 : Int32) _ (lv_sub hl [3, 5, 2, 1, 0] rfl) hf
theorem dX5_oneIf_0 : decode cX5_oneIf 0 = .ok (.iload_n 0, 1) := by decide +kernel
theorem dX5_oneIf_1 : decode cX5_oneIf 1 = .ok (.ifCond .eq 7, 3) := by decide +kernel
theorem dX5_oneIf_4 : decode cX5_oneIf 4 = .ok (.iconst 1, 1) := by decide +kernel
theorem dX5_oneIf_5 : decode cX5_oneIf 5 = .ok (.goto 4, 3) := by decide +kernel
theorem dX5_oneIf_8 : decode cX5_oneIf 8 = .ok (.iconst 0, 1) := by decide +kernel
theorem dX5_oneIf_9 : decode cX5_oneIf 9 = .ok (.ireturn, 1) := by decide +kernel
def f_X5_oneIf (x0 : Int32) : Option Int32 :=
  if x0 = 0 then (some (0 : Int32))
  else some (1 : Int32)
abbrev rmX5_oneIf : Room := { frames := 0, cells := 0, slots := 0, locals := 0 }
set_option maxRecDepth 100000 in
set_option maxHeartbeats 4000000 in
theorem c_X5_oneIf (l : Launch) (x0 : Int32) (r : Int32) (hf : f_X5_oneIf x0 = some r) : MetS l yX5_oneIf cX5_oneIf 1 (some .int) rmX5_oneIf [.int x0] r := by
  refine mkS (by decide) (Nat.le_of_ble_eq_true rfl) rfl ?_
  intro p e s m args below meth cd Q ls h0 hK hret hl
  obtain ⟨S, hr, hlk⟩ := h0
  obtain ⟨hx, hb, hml, hown, ht⟩ := id S
  have hl : lv_has ls 1 [(0, .int x0)] := hl
  have hf := obs hf
  have hf := oun (f_X5_oneIf.eq_1 _) hf
  refine lv_iload_n hx hb dX5_oneIf_0 rfl (lv_at hl 0 rfl) ?_
  refine lv_if_eq (tgt := 8) hx hb dX5_oneIf_1 (by decide) (fun c_1 => ?_) (fun c_1 => ?_)
  · have hf := oit c_1 hf
    refine lv_iconst (v := (0 : Int32)) hx hb dX5_oneIf_8 (by decide) ?_
    exact hret _ _ _ dX5_oneIf_9 rfl (Option.some.inj hf)
  have hf := oif c_1 hf
  refine lv_iconst (v := (1 : Int32)) hx hb dX5_oneIf_4 (by decide) ?_
  refine lv_goto (tgt := 9) hx hb dX5_oneIf_5 (by decide) ?_
  exact hret _ _ _ dX5_oneIf_9 rfl (Option.some.inj hf)
theorem dX6_isOf_0 : decode cX6_isOf 0 = .ok (.iload_n 0, 1) := by decide +kernel
theorem dX6_isOf_1 : decode cX6_isOf 1 = .ok (.iload_n 1, 1) := by decide +kernel
theorem dX6_isOf_2 : decode cX6_isOf 2 = .ok (.ishr, 1) := by decide +kernel
theorem dX6_isOf_3 : decode cX6_isOf 3 = .ok (.iconst 1, 1) := by decide +kernel
theorem dX6_isOf_4 : decode cX6_isOf 4 = .ok (.iand, 1) := by decide +kernel
theorem dX6_isOf_5 : decode cX6_isOf 5 = .ok (.iconst 1, 1) := by decide +kernel
theorem dX6_isOf_6 : decode cX6_isOf 6 = .ok (.if_icmp .ne 7, 3) := by decide +kernel
theorem dX6_isOf_9 : decode cX6_isOf 9 = .ok (.iconst 1, 1) := by decide +kernel
theorem dX6_isOf_10 : decode cX6_isOf 10 = .ok (.goto 4, 3) := by decide +kernel
theorem dX6_isOf_13 : decode cX6_isOf 13 = .ok (.iconst 0, 1) := by decide +kernel
theorem dX6_isOf_14 : decode cX6_isOf 14 = .ok (.ireturn, 1) := by decide +kernel
def f_X6_isOf (x0 : Int32) (x1 : Int32) : Option Int32 :=
  if ((x0 >>> (x1 &&& 31)) &&& (1 : Int32)) = (1 : Int32) then (some (1 : Int32))
  else some (0 : Int32)
abbrev rmX6_isOf : Room := { frames := 0, cells := 0, slots := 0, locals := 0 }
set_option maxRecDepth 100000 in
set_option maxHeartbeats 4000000 in
theorem c_X6_isOf (l : Launch) (x0 : Int32) (x1 : Int32) (r : Int32) (hf : f_X6_isOf x0 x1 = some r) : MetS l yX6_isOf cX6_isOf 2 (some .boolean) rmX6_isOf [.int x0, .int x1] r := by
  refine mkS (by decide) (Nat.le_of_ble_eq_true rfl) rfl ?_
  intro p e s m args below meth cd Q ls h0 hK hret hl
  obtain ⟨S, hr, hlk⟩ := h0
  obtain ⟨hx, hb, hml, hown, ht⟩ := id S
  have hl : lv_has ls 2 [(0, .int x0), (1, .int x1)] := hl
  have hf := obs hf
  have hf := oun (f_X6_isOf.eq_1 _ _) hf
  refine lv_iload_n hx hb dX6_isOf_0 rfl (lv_at hl 0 rfl) ?_
  refine lv_iload_n hx hb dX6_isOf_1 rfl (lv_at hl 1 rfl) ?_
  refine lv_ishr hx hb dX6_isOf_2 ?_
  refine lv_iconst (v := (1 : Int32)) hx hb dX6_isOf_3 (by decide) ?_
  refine lv_iand hx hb dX6_isOf_4 ?_
  refine lv_iconst (v := (1 : Int32)) hx hb dX6_isOf_5 (by decide) ?_
  refine lv_icmp_ne (tgt := 13) hx hb dX6_isOf_6 (by decide) (fun c_1 => ?_) (fun c_1 => ?_)
  · have hf := oif c_1 hf
    refine lv_iconst (v := (0 : Int32)) hx hb dX6_isOf_13 (by decide) ?_
    exact hret _ _ _ dX6_isOf_14 (by decide) (Option.some.inj hf)
  have hf := oit c_1 hf
  refine lv_iconst (v := (1 : Int32)) hx hb dX6_isOf_9 (by decide) ?_
  refine lv_goto (tgt := 14) hx hb dX6_isOf_10 (by decide) ?_
  exact hret _ _ _ dX6_isOf_14 (by decide) (Option.some.inj hf)
theorem dX3_moved_0 : decode cX3_moved 0 = .ok (.iconst 3, 1) := by decide +kernel
theorem dX3_moved_1 : decode cX3_moved 1 = .ok (.iload_n 1, 1) := by decide +kernel
theorem dX3_moved_2 : decode cX3_moved 2 = .ok (.imul, 1) := by decide +kernel
theorem dX3_moved_3 : decode cX3_moved 3 = .ok (.istore_n 3, 1) := by decide +kernel
theorem dX3_moved_4 : decode cX3_moved 4 = .ok (.iload_n 0, 1) := by decide +kernel
theorem dX3_moved_5 : decode cX3_moved 5 = .ok (.bipush 7, 2) := by decide +kernel
theorem dX3_moved_7 : decode cX3_moved 7 = .ok (.iload_n 3, 1) := by decide +kernel
theorem dX3_moved_8 : decode cX3_moved 8 = .ok (.ishl, 1) := by decide +kernel
theorem dX3_moved_9 : decode cX3_moved 9 = .ok (.iconst (-1), 1) := by decide +kernel
theorem dX3_moved_10 : decode cX3_moved 10 = .ok (.ixor, 1) := by decide +kernel
theorem dX3_moved_11 : decode cX3_moved 11 = .ok (.iand, 1) := by decide +kernel
theorem dX3_moved_12 : decode cX3_moved 12 = .ok (.iload_n 2, 1) := by decide +kernel
theorem dX3_moved_13 : decode cX3_moved 13 = .ok (.iload_n 3, 1) := by decide +kernel
theorem dX3_moved_14 : decode cX3_moved 14 = .ok (.ishl, 1) := by decide +kernel
theorem dX3_moved_15 : decode cX3_moved 15 = .ok (.ior, 1) := by decide +kernel
theorem dX3_moved_16 : decode cX3_moved 16 = .ok (.ireturn, 1) := by decide +kernel
def f_X3_moved (x0 : Int32) (x1 : Int32) (x2 : Int32) : Option Int32 :=
  nm ((3 : Int32) * x1) fun x3_1 =>
  some ((x0 &&& (((7 : Int32) <<< (x3_1 &&& 31)) ^^^ (-1 : Int32))) ||| (x2 <<< (x3_1 &&& 31)))
abbrev rmX3_moved : Room := { frames := 0, cells := 0, slots := 0, locals := 0 }
set_option maxRecDepth 100000 in
set_option maxHeartbeats 4000000 in
theorem c_X3_moved (l : Launch) (x0 : Int32) (x1 : Int32) (x2 : Int32) (r : Int32) (hf : f_X3_moved x0 x1 x2 = some r) : MetS l yX3_moved cX3_moved 4 (some .int) rmX3_moved [.int x0, .int x1, .int x2] r := by
  refine mkS (by decide) (Nat.le_of_ble_eq_true rfl) rfl ?_
  intro p e s m args below meth cd Q ls h0 hK hret hl
  obtain ⟨S, hr, hlk⟩ := h0
  obtain ⟨hx, hb, hml, hown, ht⟩ := id S
  have hl : lv_has ls 4 [(0, .int x0), (1, .int x1), (2, .int x2)] := hl
  have hf := obs hf
  have hf := oun (f_X3_moved.eq_1 _ _ _) hf
  refine lv_iconst (v := (3 : Int32)) hx hb dX3_moved_0 (by decide) ?_
  refine lv_iload_n hx hb dX3_moved_1 rfl (lv_at hl 1 rfl) ?_
  refine lv_imul hx hb dX3_moved_2 ?_
  obtain ⟨x3_1, ex3_1, hf⟩ := onm hf
  refine lv_nm ex3_1 ?_
  refine lv_istore_n (lv' := [(3, .int x3_1), (0, .int x0), (1, .int x1), (2, .int x2)]) hx hb dX3_moved_3 rfl hl (by decide) rfl (fun ls hl => ?_)
  refine lv_iload_n hx hb dX3_moved_4 rfl (lv_at hl 1 rfl) ?_
  refine lv_bipush (v := (7 : Int32)) hx hb dX3_moved_5 (by decide) ?_
  refine lv_iload_n hx hb dX3_moved_7 rfl (lv_at hl 0 rfl) ?_
  refine lv_ishl hx hb dX3_moved_8 ?_
  refine lv_iconst (v := (-1 : Int32)) hx hb dX3_moved_9 (by decide) ?_
  refine lv_ixor hx hb dX3_moved_10 ?_
  refine lv_iand hx hb dX3_moved_11 ?_
  refine lv_iload_n hx hb dX3_moved_12 rfl (lv_at hl 3 rfl) ?_
  refine lv_iload_n hx hb dX3_moved_13 rfl (lv_at hl 0 rfl) ?_
  refine lv_ishl hx hb dX3_moved_14 ?_
  refine lv_ior hx hb dX3_moved_15 ?_
  exact hret _ _ _ dX3_moved_16 rfl (Option.some.inj hf)
theorem dX3_after_0 : decode cX3_after 0 = .ok (.iload_n 1, 1) := by decide +kernel
theorem dX3_after_1 : decode cX3_after 1 = .ok (.iconst 4, 1) := by decide +kernel
theorem dX3_after_2 : decode cX3_after 2 = .ok (.if_icmp .ge 12, 3) := by decide +kernel
theorem dX3_after_5 : decode cX3_after 5 = .ok (.iload_n 0, 1) := by decide +kernel
theorem dX3_after_6 : decode cX3_after 6 = .ok (.iconst 1, 1) := by decide +kernel
theorem dX3_after_7 : decode cX3_after 7 = .ok (.bipush 12, 2) := by decide +kernel
theorem dX3_after_9 : decode cX3_after 9 = .ok (.iload_n 1, 1) := by decide +kernel
theorem dX3_after_10 : decode cX3_after 10 = .ok (.iadd, 1) := by decide +kernel
theorem dX3_after_11 : decode cX3_after 11 = .ok (.ishl, 1) := by decide +kernel
theorem dX3_after_12 : decode cX3_after 12 = .ok (.ior, 1) := by decide +kernel
theorem dX3_after_13 : decode cX3_after 13 = .ok (.ireturn, 1) := by decide +kernel
theorem dX3_after_14 : decode cX3_after 14 = .ok (.iload_n 1, 1) := by decide +kernel
theorem dX3_after_15 : decode cX3_after 15 = .ok (.bipush 8, 2) := by decide +kernel
theorem dX3_after_17 : decode cX3_after 17 = .ok (.if_icmp .ge 16, 3) := by decide +kernel
theorem dX3_after_20 : decode cX3_after 20 = .ok (.iload_n 0, 1) := by decide +kernel
theorem dX3_after_21 : decode cX3_after 21 = .ok (.iconst 1, 1) := by decide +kernel
theorem dX3_after_22 : decode cX3_after 22 = .ok (.bipush 12, 2) := by decide +kernel
theorem dX3_after_24 : decode cX3_after 24 = .ok (.iload_n 1, 1) := by decide +kernel
theorem dX3_after_25 : decode cX3_after 25 = .ok (.iadd, 1) := by decide +kernel
theorem dX3_after_26 : decode cX3_after 26 = .ok (.iconst 4, 1) := by decide +kernel
theorem dX3_after_27 : decode cX3_after 27 = .ok (.isub, 1) := by decide +kernel
theorem dX3_after_28 : decode cX3_after 28 = .ok (.ishl, 1) := by decide +kernel
theorem dX3_after_29 : decode cX3_after 29 = .ok (.iconst (-1), 1) := by decide +kernel
theorem dX3_after_30 : decode cX3_after 30 = .ok (.ixor, 1) := by decide +kernel
theorem dX3_after_31 : decode cX3_after 31 = .ok (.iand, 1) := by decide +kernel
theorem dX3_after_32 : decode cX3_after 32 = .ok (.ireturn, 1) := by decide +kernel
theorem dX3_after_33 : decode cX3_after 33 = .ok (.iload_n 1, 1) := by decide +kernel
theorem dX3_after_34 : decode cX3_after 34 = .ok (.bipush 12, 2) := by decide +kernel
theorem dX3_after_36 : decode cX3_after 36 = .ok (.if_icmp .ge 13, 3) := by decide +kernel
theorem dX3_after_39 : decode cX3_after 39 = .ok (.iload_n 0, 1) := by decide +kernel
theorem dX3_after_40 : decode cX3_after 40 = .ok (.iload_n 1, 1) := by decide +kernel
theorem dX3_after_41 : decode cX3_after 41 = .ok (.bipush 8, 2) := by decide +kernel
theorem dX3_after_43 : decode cX3_after 43 = .ok (.isub, 1) := by decide +kernel
theorem dX3_after_44 : decode cX3_after 44 = .ok (.iconst 0, 1) := by decide +kernel
theorem dX3_after_45 : decode cX3_after 45 = .ok (.invokestatic 47, 3) := by decide +kernel
theorem dX3_after_48 : decode cX3_after 48 = .ok (.ireturn, 1) := by decide +kernel
theorem dX3_after_49 : decode cX3_after 49 = .ok (.iload_n 0, 1) := by decide +kernel
theorem dX3_after_50 : decode cX3_after 50 = .ok (.iload_n 1, 1) := by decide +kernel
theorem dX3_after_51 : decode cX3_after 51 = .ok (.bipush 12, 2) := by decide +kernel
theorem dX3_after_53 : decode cX3_after 53 = .ok (.isub, 1) := by decide +kernel
theorem dX3_after_54 : decode cX3_after 54 = .ok (.iconst 4, 1) := by decide +kernel
theorem dX3_after_55 : decode cX3_after 55 = .ok (.idiv, 1) := by decide +kernel
theorem dX3_after_56 : decode cX3_after 56 = .ok (.iload_n 1, 1) := by decide +kernel
theorem dX3_after_57 : decode cX3_after 57 = .ok (.bipush 12, 2) := by decide +kernel
theorem dX3_after_59 : decode cX3_after 59 = .ok (.isub, 1) := by decide +kernel
theorem dX3_after_60 : decode cX3_after 60 = .ok (.iconst 4, 1) := by decide +kernel
theorem dX3_after_61 : decode cX3_after 61 = .ok (.irem, 1) := by decide +kernel
theorem dX3_after_62 : decode cX3_after 62 = .ok (.iconst 1, 1) := by decide +kernel
theorem dX3_after_63 : decode cX3_after 63 = .ok (.iadd, 1) := by decide +kernel
theorem dX3_after_64 : decode cX3_after 64 = .ok (.invokestatic 47, 3) := by decide +kernel
theorem dX3_after_67 : decode cX3_after 67 = .ok (.ireturn, 1) := by decide +kernel
def f_X3_after (x0 : Int32) (x1 : Int32) : Option Int32 :=
  if (4 : Int32) ≤ x1 then (if (8 : Int32) ≤ x1 then (if (12 : Int32) ≤ x1 then (bd (f_X3_moved x0 ((x1 - (12 : Int32)) / (4 : Int32)) (((x1 - (12 : Int32)) - (x1 - (12 : Int32)) / (4 : Int32) * (4 : Int32)) + (1 : Int32))) fun r_4 =>
        some r_4)
      else bd (f_X3_moved x0 (x1 - (8 : Int32)) (0 : Int32)) fun r_6 =>
      some r_6)
    else some (x0 &&& (((1 : Int32) <<< ((((12 : Int32) + x1) - (4 : Int32)) &&& 31)) ^^^ (-1 : Int32))))
  else some (x0 ||| ((1 : Int32) <<< (((12 : Int32) + x1) &&& 31)))
abbrev rmX3_after : Room := { frames := 1, cells := 0, slots := 0, locals := 23 }
set_option maxRecDepth 100000 in
set_option maxHeartbeats 4000000 in
theorem c_X3_after (l : Launch) (x0 : Int32) (x1 : Int32) (r : Int32) (hf : f_X3_after x0 x1 = some r) : MetS l yX3_after cX3_after 2 (some .int) rmX3_after [.int x0, .int x1] r := by
  refine mkS (by decide) (Nat.le_of_ble_eq_true rfl) rfl ?_
  intro p e s m args below meth cd Q ls h0 hK hret hl
  obtain ⟨S, hr, hlk⟩ := h0
  obtain ⟨hx, hb, hml, hown, ht⟩ := id S
  have hl : lv_has ls 2 [(0, .int x0), (1, .int x1)] := hl
  have hf := obs hf
  have hf := oun (f_X3_after.eq_1 _ _) hf
  refine lv_iload_n hx hb dX3_after_0 rfl (lv_at hl 1 rfl) ?_
  refine lv_iconst (v := (4 : Int32)) hx hb dX3_after_1 (by decide) ?_
  refine lv_icmp_ge (tgt := 14) hx hb dX3_after_2 (by decide) (fun c_1 => ?_) (fun c_1 => ?_)
  · have hf := oit c_1 hf
    refine lv_iload_n hx hb dX3_after_14 rfl (lv_at hl 1 rfl) ?_
    refine lv_bipush (v := (8 : Int32)) hx hb dX3_after_15 (by decide) ?_
    refine lv_icmp_ge (tgt := 33) hx hb dX3_after_17 (by decide) (fun c_2 => ?_) (fun c_2 => ?_)
    · have hf := oit c_2 hf
      refine lv_iload_n hx hb dX3_after_33 rfl (lv_at hl 1 rfl) ?_
      refine lv_bipush (v := (12 : Int32)) hx hb dX3_after_34 (by decide) ?_
      refine lv_icmp_ge (tgt := 49) hx hb dX3_after_36 (by decide) (fun c_3 => ?_) (fun c_3 => ?_)
      · have hf := oit c_3 hf
        refine lv_iload_n hx hb dX3_after_49 rfl (lv_at hl 0 rfl) ?_
        refine lv_iload_n hx hb dX3_after_50 rfl (lv_at hl 1 rfl) ?_
        refine lv_bipush (v := (12 : Int32)) hx hb dX3_after_51 (by decide) ?_
        refine lv_isub hx hb dX3_after_53 ?_
        refine lv_iconst (v := (4 : Int32)) hx hb dX3_after_54 (by decide) ?_
        refine lv_idiv hx hb dX3_after_55 (by decide) ?_
        refine lv_iload_n hx hb dX3_after_56 rfl (lv_at hl 1 rfl) ?_
        refine lv_bipush (v := (12 : Int32)) hx hb dX3_after_57 (by decide) ?_
        refine lv_isub hx hb dX3_after_59 ?_
        refine lv_iconst (v := (4 : Int32)) hx hb dX3_after_60 (by decide) ?_
        refine lv_irem hx hb dX3_after_61 (by decide) ?_
        refine lv_iconst (v := (1 : Int32)) hx hb dX3_after_62 (by decide) ?_
        refine lv_iadd hx hb dX3_after_63 ?_
        obtain ⟨r_4, h_5, hf⟩ := obd hf
        refine xs_S (As := [.int x0, .int ((x1 - (12 : Int32)) / (4 : Int32)), .int (((x1 - (12 : Int32)) - (x1 - (12 : Int32)) / (4 : Int32) * (4 : Int32)) + (1 : Int32))]) (rest := []) S k_X3_moved q319 q320 ⟨Nat.le_of_ble_eq_true rfl, Nat.le_of_ble_eq_true rfl⟩ ⟨rfl, rfl⟩ (c_X3_moved l x0 ((x1 - (12 : Int32)) / (4 : Int32)) (((x1 - (12 : Int32)) - (x1 - (12 : Int32)) / (4 : Int32) * (4 : Int32)) + (1 : Int32)) r_4 h_5) hK rfl hl.1 rfl (Nat.le_of_ble_eq_true rfl) dX3_after_64 ⟨Nat.zero_le _, Nat.zero_le _⟩ ?_
        exact hret _ _ _ dX3_after_67 rfl (Option.some.inj hf)
      have hf := oif c_3 hf
      refine lv_iload_n hx hb dX3_after_39 rfl (lv_at hl 0 rfl) ?_
      refine lv_iload_n hx hb dX3_after_40 rfl (lv_at hl 1 rfl) ?_
      refine lv_bipush (v := (8 : Int32)) hx hb dX3_after_41 (by decide) ?_
      refine lv_isub hx hb dX3_after_43 ?_
      refine lv_iconst (v := (0 : Int32)) hx hb dX3_after_44 (by decide) ?_
      obtain ⟨r_6, h_7, hf⟩ := obd hf
      refine xs_S (As := [.int x0, .int (x1 - (8 : Int32)), .int (0 : Int32)]) (rest := []) S k_X3_moved q319 q320 ⟨Nat.le_of_ble_eq_true rfl, Nat.le_of_ble_eq_true rfl⟩ ⟨rfl, rfl⟩ (c_X3_moved l x0 (x1 - (8 : Int32)) (0 : Int32) r_6 h_7) hK rfl hl.1 rfl (Nat.le_of_ble_eq_true rfl) dX3_after_45 ⟨Nat.zero_le _, Nat.zero_le _⟩ ?_
      exact hret _ _ _ dX3_after_48 rfl (Option.some.inj hf)
    have hf := oif c_2 hf
    refine lv_iload_n hx hb dX3_after_20 rfl (lv_at hl 0 rfl) ?_
    refine lv_iconst (v := (1 : Int32)) hx hb dX3_after_21 (by decide) ?_
    refine lv_bipush (v := (12 : Int32)) hx hb dX3_after_22 (by decide) ?_
    refine lv_iload_n hx hb dX3_after_24 rfl (lv_at hl 1 rfl) ?_
    refine lv_iadd hx hb dX3_after_25 ?_
    refine lv_iconst (v := (4 : Int32)) hx hb dX3_after_26 (by decide) ?_
    refine lv_isub hx hb dX3_after_27 ?_
    refine lv_ishl hx hb dX3_after_28 ?_
    refine lv_iconst (v := (-1 : Int32)) hx hb dX3_after_29 (by decide) ?_
    refine lv_ixor hx hb dX3_after_30 ?_
    refine lv_iand hx hb dX3_after_31 ?_
    exact hret _ _ _ dX3_after_32 rfl (Option.some.inj hf)
  have hf := oif c_1 hf
  refine lv_iload_n hx hb dX3_after_5 rfl (lv_at hl 0 rfl) ?_
  refine lv_iconst (v := (1 : Int32)) hx hb dX3_after_6 (by decide) ?_
  refine lv_bipush (v := (12 : Int32)) hx hb dX3_after_7 (by decide) ?_
  refine lv_iload_n hx hb dX3_after_9 rfl (lv_at hl 1 rfl) ?_
  refine lv_iadd hx hb dX3_after_10 ?_
  refine lv_ishl hx hb dX3_after_11 ?_
  refine lv_ior hx hb dX3_after_12 ?_
  exact hret _ _ _ dX3_after_13 rfl (Option.some.inj hf)
theorem dX3_outersOf_0 : decode cX3_outersOf 0 = .ok (.iconst 0, 1) := by decide +kernel
theorem dX3_outersOf_1 : decode cX3_outersOf 1 = .ok (.istore_n 2, 1) := by decide +kernel
theorem dX3_outersOf_2 : decode cX3_outersOf 2 = .ok (.iconst 0, 1) := by decide +kernel
theorem dX3_outersOf_3 : decode cX3_outersOf 3 = .ok (.istore_n 3, 1) := by decide +kernel
theorem dX3_outersOf_4 : decode cX3_outersOf 4 = .ok (.iload_n 3, 1) := by decide +kernel
theorem dX3_outersOf_5 : decode cX3_outersOf 5 = .ok (.iconst 4, 1) := by decide +kernel
theorem dX3_outersOf_6 : decode cX3_outersOf 6 = .ok (.if_icmp .ge 38, 3) := by decide +kernel
theorem dX3_outersOf_9 : decode cX3_outersOf 9 = .ok (.iload_n 0, 1) := by decide +kernel
theorem dX3_outersOf_10 : decode cX3_outersOf 10 = .ok (.iload_n 3, 1) := by decide +kernel
theorem dX3_outersOf_11 : decode cX3_outersOf 11 = .ok (.invokestatic 19, 3) := by decide +kernel
theorem dX3_outersOf_14 : decode cX3_outersOf 14 = .ok (.istore 4, 2) := by decide +kernel
theorem dX3_outersOf_16 : decode cX3_outersOf 16 = .ok (.iload_n 1, 1) := by decide +kernel
theorem dX3_outersOf_17 : decode cX3_outersOf 17 = .ok (.iload_n 3, 1) := by decide +kernel
theorem dX3_outersOf_18 : decode cX3_outersOf 18 = .ok (.invokestatic 15, 3) := by decide +kernel
theorem dX3_outersOf_21 : decode cX3_outersOf 21 = .ok (.ifCond .eq 17, 3) := by decide +kernel
theorem dX3_outersOf_24 : decode cX3_outersOf 24 = .ok (.iload 4, 2) := by decide +kernel
theorem dX3_outersOf_26 : decode cX3_outersOf 26 = .ok (.ifCond .eq 12, 3) := by decide +kernel
theorem dX3_outersOf_29 : decode cX3_outersOf 29 = .ok (.iload_n 2, 1) := by decide +kernel
theorem dX3_outersOf_30 : decode cX3_outersOf 30 = .ok (.iconst 1, 1) := by decide +kernel
theorem dX3_outersOf_31 : decode cX3_outersOf 31 = .ok (.iload 4, 2) := by decide +kernel
theorem dX3_outersOf_33 : decode cX3_outersOf 33 = .ok (.iconst 1, 1) := by decide +kernel
theorem dX3_outersOf_34 : decode cX3_outersOf 34 = .ok (.isub, 1) := by decide +kernel
theorem dX3_outersOf_35 : decode cX3_outersOf 35 = .ok (.ishl, 1) := by decide +kernel
theorem dX3_outersOf_36 : decode cX3_outersOf 36 = .ok (.ior, 1) := by decide +kernel
theorem dX3_outersOf_37 : decode cX3_outersOf 37 = .ok (.istore_n 2, 1) := by decide +kernel
theorem dX3_outersOf_38 : decode cX3_outersOf 38 = .ok (.iinc 3 1, 3) := by decide +kernel
theorem dX3_outersOf_41 : decode cX3_outersOf 41 = .ok (.goto (-37), 3) := by decide +kernel
theorem dX3_outersOf_44 : decode cX3_outersOf 44 = .ok (.iload_n 2, 1) := by decide +kernel
theorem dX3_outersOf_45 : decode cX3_outersOf 45 = .ok (.ireturn, 1) := by decide +kernel
def f_X3_outersOf_j44 (N : Nat) (x2 : Int32) : Option Int32 :=
  some x2
def f_X3_outersOf_j38 (N : Nat) (x0 : Int32) (x1 : Int32) (x2 : Int32) (x3 : Int32) : Option ((Int32 × Int32) ⊕ ((Int32))) :=
  nm (x3 + (1 : Int32)) fun x3_1 =>
  some (.inl (x2, x3_1))
def f_X3_outersOf_b4 (N : Nat) (x0 : Int32) (x1 : Int32) (x2 : Int32) (x3 : Int32) : Option ((Int32 × Int32) ⊕ ((Int32))) :=
  if (4 : Int32) ≤ x3 then (some (.inr x2))
  else bd (f_X3_placeOf x0 x3) fun r_3 =>
  bd (f_X5_has x1 x3) fun r_5 =>
  if r_5 = 0 then (f_X3_outersOf_j38 N x0 x1 x2 x3)
  else if r_3 = 0 then (f_X3_outersOf_j38 N x0 x1 x2 x3)
  else nm (x2 ||| ((1 : Int32) <<< ((r_3 - (1 : Int32)) &&& 31))) fun x2_9 =>
  f_X3_outersOf_j38 N x0 x1 x2_9 x3
def f_X3_outersOf (N : Nat) (x0 : Int32) (x1 : Int32) : Option Int32 :=
  bd (lpF (fun s => f_X3_outersOf_b4 N x0 x1 s.1 s.2) N ((0 : Int32), (0 : Int32))) (fun o => f_X3_outersOf_j44 N o)
abbrev rmX3_outersOf : Room := { frames := 1, cells := 0, slots := 0, locals := 21 }
set_option maxRecDepth 100000 in
set_option maxHeartbeats 4000000 in
theorem c_X3_outersOf (l : Launch) (N : Nat) (x0 : Int32) (x1 : Int32) (r : Int32) (hf : f_X3_outersOf N x0 x1 = some r) : MetS l yX3_outersOf cX3_outersOf 5 (some .int) rmX3_outersOf [.int x0, .int x1] r := by
  refine mkS (by decide) (Nat.le_of_ble_eq_true rfl) rfl ?_
  intro p e s m args below meth cd Q ls h0 hK hret hl
  obtain ⟨S, hr, hlk⟩ := h0
  obtain ⟨hx, hb, hml, hown, ht⟩ := id S
  have hl : lv_has ls 5 [(0, .int x0), (1, .int x1)] := hl
  have hf := obs hf
  have j44 : ∀ (x2 : Int32) (ls : Array Slot), lv_has ls 5 [(2, .int x2)] → Option.bind (f_X3_outersOf_j44 N x2) some = some r → W p l e rmX3_outersOf s m args below meth cd s.heap [] 0 0 Q (F0 m 44 ls []) := by
    intro x2 ls hl hf
    have hf := oun (f_X3_outersOf_j44.eq_1 _ _) hf
    refine lv_iload_n hx hb dX3_outersOf_44 rfl (lv_at hl 0 rfl) ?_
    exact hret _ _ _ dX3_outersOf_45 rfl (Option.some.inj hf)
  have L4 : ∀ (x0 : Int32) (x1 : Int32) (k : Nat) (x2 : Int32) (x3 : Int32) (ls : Array Slot), lv_has ls 5 [(0, .int x0), (1, .int x1), (2, .int x2), (3, .int x3)] → Option.bind (bd (lpF (fun s => f_X3_outersOf_b4 N x0 x1 s.1 s.2) k (x2, x3)) (fun o => f_X3_outersOf_j44 N o)) some = some r → W p l e rmX3_outersOf s m args below meth cd s.heap [] 0 0 Q (F0 m 4 ls []) := by
    intro x0 x1 k
    induction k with
    | zero =>
      intro x2 x3 ls hl hf
      exact (ol0 hf).elim
    | succ k ih =>
      intro x2 x3 ls hl hf
      obtain ⟨K4, hf, hc4, hx4⟩ := ol1 hf
      have j38 : ∀ (x2 : Int32) (x3 : Int32) (ls : Array Slot), lv_has ls 5 [(0, .int x0), (1, .int x1), (2, .int x2), (3, .int x3)] → Option.bind (f_X3_outersOf_j38 N x0 x1 x2 x3) K4 = some r → W p l e rmX3_outersOf s m args below meth cd s.heap [] 0 0 Q (F0 m 38 ls []) := by
        intro x2 x3 ls hl hf
        have hf := oun (f_X3_outersOf_j38.eq_1 _ _ _ _ _) hf
        obtain ⟨x3_1, ex3_1, hf⟩ := onm hf
        refine lv_iinc (v := x3_1) (lv' := [(3, .int x3_1), (0, .int x0), (1, .int x1), (2, .int x2)]) hx hb dX3_outersOf_38 hl (k := 3) rfl ex3_1 (by decide) rfl (fun ls hl => ?_)
        refine lv_goto (tgt := 4) hx hb dX3_outersOf_41 (by decide) ?_
        exact ih x2 x3_1 _ (lv_sub hl [1, 2, 3, 0] rfl) (okx hf (hc4 _))
      have hf := oun (f_X3_outersOf_b4.eq_1 N x0 x1 x2 x3) hf
      refine lv_iload_n hx hb dX3_outersOf_4 rfl (lv_at hl 3 rfl) ?_
      refine lv_iconst (v := (4 : Int32)) hx hb dX3_outersOf_5 (by decide) ?_
      refine lv_icmp_ge (tgt := 44) hx hb dX3_outersOf_6 (by decide) (fun c_2 => ?_) (fun c_2 => ?_)
      · have hf := oit c_2 hf
        exact j44 x2 _ (lv_sub hl [2] rfl) (okx hf (hx4 _))
      have hf := oif c_2 hf
      refine lv_iload_n hx hb dX3_outersOf_9 rfl (lv_at hl 0 rfl) ?_
      refine lv_iload_n hx hb dX3_outersOf_10 rfl (lv_at hl 3 rfl) ?_
      obtain ⟨r_3, h_4, hf⟩ := obd hf
      refine xs_S (As := [.int x0, .int x3]) (rest := []) S k_X3_placeOf q213 q193 ⟨Nat.le_of_ble_eq_true rfl, Nat.le_of_ble_eq_true rfl⟩ ⟨rfl, rfl⟩ (c_X3_placeOf l x0 x3 r_3 h_4) hK rfl hl.1 rfl (Nat.le_of_ble_eq_true rfl) dX3_outersOf_11 ⟨Nat.zero_le _, Nat.zero_le _⟩ ?_
      refine lv_istore (lv' := [(4, .int r_3), (0, .int x0), (1, .int x1), (2, .int x2), (3, .int x3)]) hx hb dX3_outersOf_14 hl (by decide) rfl (fun ls hl => ?_)
      refine lv_iload_n hx hb dX3_outersOf_16 rfl (lv_at hl 2 rfl) ?_
      refine lv_iload_n hx hb dX3_outersOf_17 rfl (lv_at hl 4 rfl) ?_
      obtain ⟨r_5, h_6, hf⟩ := obd hf
      refine xn_S (As := [.int x1, .int x3]) (rest := []) S k_X5_has hK.1 q202 ⟨Nat.le_of_ble_eq_true rfl, Nat.le_of_ble_eq_true rfl⟩ ⟨rfl, rfl⟩ (c_X5_has l x1 x3 r_5 h_6) hK rfl hl.1 rfl (Nat.le_of_ble_eq_true rfl) dX3_outersOf_18 ⟨Nat.zero_le _, Nat.zero_le _⟩ ?_
      refine lv_if_eq (tgt := 38) hx hb dX3_outersOf_21 (by decide) (fun c_7 => ?_) (fun c_7 => ?_)
      · have hf := oit c_7 hf
        exact j38 x2 x3 _ (lv_sub hl [1, 2, 3, 4] rfl) hf
      have hf := oif c_7 hf
      refine lv_iload hx hb dX3_outersOf_24 (lv_at hl 0 rfl) ?_
      refine lv_if_eq (tgt := 38) hx hb dX3_outersOf_26 (by decide) (fun c_8 => ?_) (fun c_8 => ?_)
      · have hf := oit c_8 hf
        exact j38 x2 x3 _ (lv_sub hl [1, 2, 3, 4] rfl) hf
      have hf := oif c_8 hf
      refine lv_iload_n hx hb dX3_outersOf_29 rfl (lv_at hl 3 rfl) ?_
      refine lv_iconst (v := (1 : Int32)) hx hb dX3_outersOf_30 (by decide) ?_
      refine lv_iload hx hb dX3_outersOf_31 (lv_at hl 0 rfl) ?_
      refine lv_iconst (v := (1 : Int32)) hx hb dX3_outersOf_33 (by decide) ?_
      refine lv_isub hx hb dX3_outersOf_34 ?_
      refine lv_ishl hx hb dX3_outersOf_35 ?_
      refine lv_ior hx hb dX3_outersOf_36 ?_
      obtain ⟨x2_9, ex2_9, hf⟩ := onm hf
      refine lv_nm ex2_9 ?_
      refine lv_istore_n (lv' := [(2, .int x2_9), (4, .int r_3), (0, .int x0), (1, .int x1), (3, .int x3)]) hx hb dX3_outersOf_37 rfl hl (by decide) rfl (fun ls hl => ?_)
      exact j38 x2_9 x3 _ (lv_sub hl [2, 3, 0, 4] rfl) hf
  have hf := oun (f_X3_outersOf.eq_1 _ _ _) hf
  refine lv_iconst (v := (0 : Int32)) hx hb dX3_outersOf_0 (by decide) ?_
  refine lv_istore_n (lv' := [(2, .int (0 : Int32)), (0, .int x0), (1, .int x1)]) hx hb dX3_outersOf_1 rfl hl (by decide) rfl (fun ls hl => ?_)
  refine lv_iconst (v := (0 : Int32)) hx hb dX3_outersOf_2 (by decide) ?_
  refine lv_istore_n (lv' := [(3, .int (0 : Int32)), (2, .int (0 : Int32)), (0, .int x0), (1, .int x1)]) hx hb dX3_outersOf_3 rfl hl (by decide) rfl (fun ls hl => ?_)
  exact L4 x0 x1 N (0 : Int32) (0 : Int32) _ (lv_sub hl [2, 3, 1, 0] rfl) hf
theorem dX3_tableSet_0 : decode cX3_tableSet 0 = .ok (.iconst 0, 1) := by decide +kernel
theorem dX3_tableSet_1 : decode cX3_tableSet 1 = .ok (.istore_n 2, 1) := by decide +kernel
theorem dX3_tableSet_2 : decode cX3_tableSet 2 = .ok (.iconst 0, 1) := by decide +kernel
theorem dX3_tableSet_3 : decode cX3_tableSet 3 = .ok (.istore_n 3, 1) := by decide +kernel
theorem dX3_tableSet_4 : decode cX3_tableSet 4 = .ok (.iload_n 3, 1) := by decide +kernel
theorem dX3_tableSet_5 : decode cX3_tableSet 5 = .ok (.iload_n 1, 1) := by decide +kernel
theorem dX3_tableSet_6 : decode cX3_tableSet 6 = .ok (.if_icmp .ge 23, 3) := by decide +kernel
theorem dX3_tableSet_9 : decode cX3_tableSet 9 = .ok (.iload_n 0, 1) := by decide +kernel
theorem dX3_tableSet_10 : decode cX3_tableSet 10 = .ok (.iload_n 3, 1) := by decide +kernel
theorem dX3_tableSet_11 : decode cX3_tableSet 11 = .ok (.invokestatic 19, 3) := by decide +kernel
theorem dX3_tableSet_14 : decode cX3_tableSet 14 = .ok (.ifCond .ne 9, 3) := by decide +kernel
theorem dX3_tableSet_17 : decode cX3_tableSet 17 = .ok (.iload_n 2, 1) := by decide +kernel
theorem dX3_tableSet_18 : decode cX3_tableSet 18 = .ok (.iconst 1, 1) := by decide +kernel
theorem dX3_tableSet_19 : decode cX3_tableSet 19 = .ok (.iload_n 3, 1) := by decide +kernel
theorem dX3_tableSet_20 : decode cX3_tableSet 20 = .ok (.ishl, 1) := by decide +kernel
theorem dX3_tableSet_21 : decode cX3_tableSet 21 = .ok (.ior, 1) := by decide +kernel
theorem dX3_tableSet_22 : decode cX3_tableSet 22 = .ok (.istore_n 2, 1) := by decide +kernel
theorem dX3_tableSet_23 : decode cX3_tableSet 23 = .ok (.iinc 3 1, 3) := by decide +kernel
theorem dX3_tableSet_26 : decode cX3_tableSet 26 = .ok (.goto (-22), 3) := by decide +kernel
theorem dX3_tableSet_29 : decode cX3_tableSet 29 = .ok (.iload_n 2, 1) := by decide +kernel
theorem dX3_tableSet_30 : decode cX3_tableSet 30 = .ok (.ireturn, 1) := by decide +kernel
def f_X3_tableSet_j29 (N : Nat) (x2 : Int32) : Option Int32 :=
  some x2
def f_X3_tableSet_j23 (N : Nat) (x0 : Int32) (x1 : Int32) (x2 : Int32) (x3 : Int32) : Option ((Int32 × Int32) ⊕ ((Int32))) :=
  nm (x3 + (1 : Int32)) fun x3_1 =>
  some (.inl (x2, x3_1))
def f_X3_tableSet_b4 (N : Nat) (x0 : Int32) (x1 : Int32) (x2 : Int32) (x3 : Int32) : Option ((Int32 × Int32) ⊕ ((Int32))) :=
  if x1 ≤ x3 then (some (.inr x2))
  else bd (f_X3_placeOf x0 x3) fun r_3 =>
  if r_3 = 0 then (nm (x2 ||| ((1 : Int32) <<< (x3 &&& 31))) fun x2_6 =>
    f_X3_tableSet_j23 N x0 x1 x2_6 x3)
  else f_X3_tableSet_j23 N x0 x1 x2 x3
def f_X3_tableSet (N : Nat) (x0 : Int32) (x1 : Int32) : Option Int32 :=
  bd (lpF (fun s => f_X3_tableSet_b4 N x0 x1 s.1 s.2) N ((0 : Int32), (0 : Int32))) (fun o => f_X3_tableSet_j29 N o)
abbrev rmX3_tableSet : Room := { frames := 1, cells := 0, slots := 0, locals := 21 }
set_option maxRecDepth 100000 in
set_option maxHeartbeats 4000000 in
theorem c_X3_tableSet (l : Launch) (N : Nat) (x0 : Int32) (x1 : Int32) (r : Int32) (hf : f_X3_tableSet N x0 x1 = some r) : MetS l yX3_tableSet cX3_tableSet 4 (some .int) rmX3_tableSet [.int x0, .int x1] r := by
  refine mkS (by decide) (Nat.le_of_ble_eq_true rfl) rfl ?_
  intro p e s m args below meth cd Q ls h0 hK hret hl
  obtain ⟨S, hr, hlk⟩ := h0
  obtain ⟨hx, hb, hml, hown, ht⟩ := id S
  have hl : lv_has ls 4 [(0, .int x0), (1, .int x1)] := hl
  have hf := obs hf
  have j29 : ∀ (x2 : Int32) (ls : Array Slot), lv_has ls 4 [(2, .int x2)] → Option.bind (f_X3_tableSet_j29 N x2) some = some r → W p l e rmX3_tableSet s m args below meth cd s.heap [] 0 0 Q (F0 m 29 ls []) := by
    intro x2 ls hl hf
    have hf := oun (f_X3_tableSet_j29.eq_1 _ _) hf
    refine lv_iload_n hx hb dX3_tableSet_29 rfl (lv_at hl 0 rfl) ?_
    exact hret _ _ _ dX3_tableSet_30 rfl (Option.some.inj hf)
  have L4 : ∀ (x0 : Int32) (x1 : Int32) (k : Nat) (x2 : Int32) (x3 : Int32) (ls : Array Slot), lv_has ls 4 [(0, .int x0), (1, .int x1), (2, .int x2), (3, .int x3)] → Option.bind (bd (lpF (fun s => f_X3_tableSet_b4 N x0 x1 s.1 s.2) k (x2, x3)) (fun o => f_X3_tableSet_j29 N o)) some = some r → W p l e rmX3_tableSet s m args below meth cd s.heap [] 0 0 Q (F0 m 4 ls []) := by
    intro x0 x1 k
    induction k with
    | zero =>
      intro x2 x3 ls hl hf
      exact (ol0 hf).elim
    | succ k ih =>
      intro x2 x3 ls hl hf
      obtain ⟨K4, hf, hc4, hx4⟩ := ol1 hf
      have j23 : ∀ (x2 : Int32) (x3 : Int32) (ls : Array Slot), lv_has ls 4 [(0, .int x0), (1, .int x1), (2, .int x2), (3, .int x3)] → Option.bind (f_X3_tableSet_j23 N x0 x1 x2 x3) K4 = some r → W p l e rmX3_tableSet s m args below meth cd s.heap [] 0 0 Q (F0 m 23 ls []) := by
        intro x2 x3 ls hl hf
        have hf := oun (f_X3_tableSet_j23.eq_1 _ _ _ _ _) hf
        obtain ⟨x3_1, ex3_1, hf⟩ := onm hf
        refine lv_iinc (v := x3_1) (lv' := [(3, .int x3_1), (0, .int x0), (1, .int x1), (2, .int x2)]) hx hb dX3_tableSet_23 hl (k := 3) rfl ex3_1 (by decide) rfl (fun ls hl => ?_)
        refine lv_goto (tgt := 4) hx hb dX3_tableSet_26 (by decide) ?_
        exact ih x2 x3_1 _ (lv_sub hl [1, 2, 3, 0] rfl) (okx hf (hc4 _))
      have hf := oun (f_X3_tableSet_b4.eq_1 N x0 x1 x2 x3) hf
      refine lv_iload_n hx hb dX3_tableSet_4 rfl (lv_at hl 3 rfl) ?_
      refine lv_iload_n hx hb dX3_tableSet_5 rfl (lv_at hl 1 rfl) ?_
      refine lv_icmp_ge (tgt := 29) hx hb dX3_tableSet_6 (by decide) (fun c_2 => ?_) (fun c_2 => ?_)
      · have hf := oit c_2 hf
        exact j29 x2 _ (lv_sub hl [2] rfl) (okx hf (hx4 _))
      have hf := oif c_2 hf
      refine lv_iload_n hx hb dX3_tableSet_9 rfl (lv_at hl 0 rfl) ?_
      refine lv_iload_n hx hb dX3_tableSet_10 rfl (lv_at hl 3 rfl) ?_
      obtain ⟨r_3, h_4, hf⟩ := obd hf
      refine xs_S (As := [.int x0, .int x3]) (rest := []) S k_X3_placeOf q213 q193 ⟨Nat.le_of_ble_eq_true rfl, Nat.le_of_ble_eq_true rfl⟩ ⟨rfl, rfl⟩ (c_X3_placeOf l x0 x3 r_3 h_4) hK rfl hl.1 rfl (Nat.le_of_ble_eq_true rfl) dX3_tableSet_11 ⟨Nat.zero_le _, Nat.zero_le _⟩ ?_
      refine lv_if_ne (tgt := 23) hx hb dX3_tableSet_14 (by decide) (fun c_5 => ?_) (fun c_5 => ?_)
      · have hf := oif c_5 hf
        exact j23 x2 x3 _ (lv_sub hl [0, 1, 2, 3] rfl) hf
      have hf := oit c_5 hf
      refine lv_iload_n hx hb dX3_tableSet_17 rfl (lv_at hl 2 rfl) ?_
      refine lv_iconst (v := (1 : Int32)) hx hb dX3_tableSet_18 (by decide) ?_
      refine lv_iload_n hx hb dX3_tableSet_19 rfl (lv_at hl 3 rfl) ?_
      refine lv_ishl hx hb dX3_tableSet_20 ?_
      refine lv_ior hx hb dX3_tableSet_21 ?_
      obtain ⟨x2_6, ex2_6, hf⟩ := onm hf
      refine lv_nm ex2_6 ?_
      refine lv_istore_n (lv' := [(2, .int x2_6), (0, .int x0), (1, .int x1), (3, .int x3)]) hx hb dX3_tableSet_22 rfl hl (by decide) rfl (fun ls hl => ?_)
      exact j23 x2_6 x3 _ (lv_sub hl [1, 2, 0, 3] rfl) hf
  have hf := oun (f_X3_tableSet.eq_1 _ _ _) hf
  refine lv_iconst (v := (0 : Int32)) hx hb dX3_tableSet_0 (by decide) ?_
  refine lv_istore_n (lv' := [(2, .int (0 : Int32)), (0, .int x0), (1, .int x1)]) hx hb dX3_tableSet_1 rfl hl (by decide) rfl (fun ls hl => ?_)
  refine lv_iconst (v := (0 : Int32)) hx hb dX3_tableSet_2 (by decide) ?_
  refine lv_istore_n (lv' := [(3, .int (0 : Int32)), (2, .int (0 : Int32)), (0, .int x0), (1, .int x1)]) hx hb dX3_tableSet_3 rfl hl (by decide) rfl (fun ls hl => ?_)
  exact L4 x0 x1 N (0 : Int32) (0 : Int32) _ (lv_sub hl [2, 3, 1, 0] rfl) hf
theorem dX3_doable_0 : decode cX3_doable 0 = .ok (.iload_n 0, 1) := by decide +kernel
theorem dX3_doable_1 : decode cX3_doable 1 = .ok (.iload_n 1, 1) := by decide +kernel
theorem dX3_doable_2 : decode cX3_doable 2 = .ok (.invokestatic 38, 3) := by decide +kernel
theorem dX3_doable_5 : decode cX3_doable 5 = .ok (.istore_n 3, 1) := by decide +kernel
theorem dX3_doable_6 : decode cX3_doable 6 = .ok (.iload_n 0, 1) := by decide +kernel
theorem dX3_doable_7 : decode cX3_doable 7 = .ok (.iload_n 1, 1) := by decide +kernel
theorem dX3_doable_8 : decode cX3_doable 8 = .ok (.invokestatic 41, 3) := by decide +kernel
theorem dX3_doable_11 : decode cX3_doable 11 = .ok (.istore 4, 2) := by decide +kernel
theorem dX3_doable_13 : decode cX3_doable 13 = .ok (.iload_n 0, 1) := by decide +kernel
theorem dX3_doable_14 : decode cX3_doable 14 = .ok (.invokestatic 11, 3) := by decide +kernel
theorem dX3_doable_17 : decode cX3_doable 17 = .ok (.istore 5, 2) := by decide +kernel
theorem dX3_doable_19 : decode cX3_doable 19 = .ok (.iload_n 3, 1) := by decide +kernel
theorem dX3_doable_20 : decode cX3_doable 20 = .ok (.iload 5, 2) := by decide +kernel
theorem dX3_doable_22 : decode cX3_doable 22 = .ok (.iand, 1) := by decide +kernel
theorem dX3_doable_23 : decode cX3_doable 23 = .ok (.iload_n 0, 1) := by decide +kernel
theorem dX3_doable_24 : decode cX3_doable 24 = .ok (.bipush 15, 2) := by decide +kernel
theorem dX3_doable_26 : decode cX3_doable 26 = .ok (.invokestatic 44, 3) := by decide +kernel
theorem dX3_doable_29 : decode cX3_doable 29 = .ok (.iconst (-1), 1) := by decide +kernel
theorem dX3_doable_30 : decode cX3_doable 30 = .ok (.ixor, 1) := by decide +kernel
theorem dX3_doable_31 : decode cX3_doable 31 = .ok (.iand, 1) := by decide +kernel
theorem dX3_doable_32 : decode cX3_doable 32 = .ok (.istore 6, 2) := by decide +kernel
theorem dX3_doable_34 : decode cX3_doable 34 = .ok (.iload_n 3, 1) := by decide +kernel
theorem dX3_doable_35 : decode cX3_doable 35 = .ok (.iload 5, 2) := by decide +kernel
theorem dX3_doable_37 : decode cX3_doable 37 = .ok (.iconst (-1), 1) := by decide +kernel
theorem dX3_doable_38 : decode cX3_doable 38 = .ok (.ixor, 1) := by decide +kernel
theorem dX3_doable_39 : decode cX3_doable 39 = .ok (.iand, 1) := by decide +kernel
theorem dX3_doable_40 : decode cX3_doable 40 = .ok (.istore 7, 2) := by decide +kernel
theorem dX3_doable_42 : decode cX3_doable 42 = .ok (.iload 7, 2) := by decide +kernel
theorem dX3_doable_44 : decode cX3_doable 44 = .ok (.iload_n 3, 1) := by decide +kernel
theorem dX3_doable_45 : decode cX3_doable 45 = .ok (.iload 5, 2) := by decide +kernel
theorem dX3_doable_47 : decode cX3_doable 47 = .ok (.iand, 1) := by decide +kernel
theorem dX3_doable_48 : decode cX3_doable 48 = .ok (.iload_n 0, 1) := by decide +kernel
theorem dX3_doable_49 : decode cX3_doable 49 = .ok (.iload 5, 2) := by decide +kernel
theorem dX3_doable_51 : decode cX3_doable 51 = .ok (.invokestatic 44, 3) := by decide +kernel
theorem dX3_doable_54 : decode cX3_doable 54 = .ok (.iconst (-1), 1) := by decide +kernel
theorem dX3_doable_55 : decode cX3_doable 55 = .ok (.ixor, 1) := by decide +kernel
theorem dX3_doable_56 : decode cX3_doable 56 = .ok (.iand, 1) := by decide +kernel
theorem dX3_doable_57 : decode cX3_doable 57 = .ok (.iconst 4, 1) := by decide +kernel
theorem dX3_doable_58 : decode cX3_doable 58 = .ok (.ishl, 1) := by decide +kernel
theorem dX3_doable_59 : decode cX3_doable 59 = .ok (.ior, 1) := by decide +kernel
theorem dX3_doable_60 : decode cX3_doable 60 = .ok (.istore 7, 2) := by decide +kernel
theorem dX3_doable_62 : decode cX3_doable 62 = .ok (.iload 7, 2) := by decide +kernel
theorem dX3_doable_64 : decode cX3_doable 64 = .ok (.iload_n 3, 1) := by decide +kernel
theorem dX3_doable_65 : decode cX3_doable 65 = .ok (.iload 4, 2) := by decide +kernel
theorem dX3_doable_67 : decode cX3_doable 67 = .ok (.iconst (-1), 1) := by decide +kernel
theorem dX3_doable_68 : decode cX3_doable 68 = .ok (.ixor, 1) := by decide +kernel
theorem dX3_doable_69 : decode cX3_doable 69 = .ok (.iand, 1) := by decide +kernel
theorem dX3_doable_70 : decode cX3_doable 70 = .ok (.bipush 8, 2) := by decide +kernel
theorem dX3_doable_72 : decode cX3_doable 72 = .ok (.ishl, 1) := by decide +kernel
theorem dX3_doable_73 : decode cX3_doable 73 = .ok (.ior, 1) := by decide +kernel
theorem dX3_doable_74 : decode cX3_doable 74 = .ok (.istore 7, 2) := by decide +kernel
theorem dX3_doable_76 : decode cX3_doable 76 = .ok (.iconst 0, 1) := by decide +kernel
theorem dX3_doable_77 : decode cX3_doable 77 = .ok (.istore 8, 2) := by decide +kernel
theorem dX3_doable_79 : decode cX3_doable 79 = .ok (.iload 8, 2) := by decide +kernel
theorem dX3_doable_81 : decode cX3_doable 81 = .ok (.iload_n 1, 1) := by decide +kernel
theorem dX3_doable_82 : decode cX3_doable 82 = .ok (.if_icmp .ge 46, 3) := by decide +kernel
theorem dX3_doable_85 : decode cX3_doable 85 = .ok (.iload 4, 2) := by decide +kernel
theorem dX3_doable_87 : decode cX3_doable 87 = .ok (.iload 5, 2) := by decide +kernel
theorem dX3_doable_89 : decode cX3_doable 89 = .ok (.iconst (-1), 1) := by decide +kernel
theorem dX3_doable_90 : decode cX3_doable 90 = .ok (.ixor, 1) := by decide +kernel
theorem dX3_doable_91 : decode cX3_doable 91 = .ok (.iand, 1) := by decide +kernel
theorem dX3_doable_92 : decode cX3_doable 92 = .ok (.iload 8, 2) := by decide +kernel
theorem dX3_doable_94 : decode cX3_doable 94 = .ok (.invokestatic 15, 3) := by decide +kernel
theorem dX3_doable_97 : decode cX3_doable 97 = .ok (.ifCond .eq 25, 3) := by decide +kernel
theorem dX3_doable_100 : decode cX3_doable 100 = .ok (.iload 7, 2) := by decide +kernel
theorem dX3_doable_102 : decode cX3_doable 102 = .ok (.iload 6, 2) := by decide +kernel
theorem dX3_doable_104 : decode cX3_doable 104 = .ok (.iload_n 2, 1) := by decide +kernel
theorem dX3_doable_105 : decode cX3_doable 105 = .ok (.iconst 4, 1) := by decide +kernel
theorem dX3_doable_106 : decode cX3_doable 106 = .ok (.iload 8, 2) := by decide +kernel
theorem dX3_doable_108 : decode cX3_doable 108 = .ok (.imul, 1) := by decide +kernel
theorem dX3_doable_109 : decode cX3_doable 109 = .ok (.ishr, 1) := by decide +kernel
theorem dX3_doable_110 : decode cX3_doable 110 = .ok (.iand, 1) := by decide +kernel
theorem dX3_doable_111 : decode cX3_doable 111 = .ok (.bipush 12, 2) := by decide +kernel
theorem dX3_doable_113 : decode cX3_doable 113 = .ok (.iconst 4, 1) := by decide +kernel
theorem dX3_doable_114 : decode cX3_doable 114 = .ok (.iload 8, 2) := by decide +kernel
theorem dX3_doable_116 : decode cX3_doable 116 = .ok (.imul, 1) := by decide +kernel
theorem dX3_doable_117 : decode cX3_doable 117 = .ok (.iadd, 1) := by decide +kernel
theorem dX3_doable_118 : decode cX3_doable 118 = .ok (.ishl, 1) := by decide +kernel
theorem dX3_doable_119 : decode cX3_doable 119 = .ok (.ior, 1) := by decide +kernel
theorem dX3_doable_120 : decode cX3_doable 120 = .ok (.istore 7, 2) := by decide +kernel
theorem dX3_doable_122 : decode cX3_doable 122 = .ok (.iinc 8 1, 3) := by decide +kernel
theorem dX3_doable_125 : decode cX3_doable 125 = .ok (.goto (-46), 3) := by decide +kernel
theorem dX3_doable_128 : decode cX3_doable 128 = .ok (.iload 7, 2) := by decide +kernel
theorem dX3_doable_130 : decode cX3_doable 130 = .ok (.ireturn, 1) := by decide +kernel
def f_X3_doable_j128 (N : Nat) (x7 : Int32) : Option Int32 :=
  some x7
def f_X3_doable_j122 (N : Nat) (x1 : Int32) (x2 : Int32) (x4 : Int32) (x5 : Int32) (x6 : Int32) (x7 : Int32) (x8 : Int32) : Option ((Int32 × Int32) ⊕ ((Int32))) :=
  nm (x8 + (1 : Int32)) fun x8_1 =>
  some (.inl (x7, x8_1))
def f_X3_doable_b79 (N : Nat) (x1 : Int32) (x2 : Int32) (x4 : Int32) (x5 : Int32) (x6 : Int32) (x7 : Int32) (x8 : Int32) : Option ((Int32 × Int32) ⊕ ((Int32))) :=
  if x1 ≤ x8 then (some (.inr x7))
  else bd (f_X5_has (x4 &&& (x5 ^^^ (-1 : Int32))) x8) fun r_3 =>
  if r_3 = 0 then (f_X3_doable_j122 N x1 x2 x4 x5 x6 x7 x8)
  else nm (x7 ||| ((x6 &&& (x2 >>> (((4 : Int32) * x8) &&& 31))) <<< (((12 : Int32) + ((4 : Int32) * x8)) &&& 31))) fun x7_6 =>
  f_X3_doable_j122 N x1 x2 x4 x5 x6 x7_6 x8
def f_X3_doable (N : Nat) (x0 : Int32) (x1 : Int32) (x2 : Int32) : Option Int32 :=
  bd (f_X3_handSet N x0 x1) fun r_7 =>
  bd (f_X3_tableSet N x0 x1) fun r_9 =>
  bd (f_X3_openSet x0) fun r_11 =>
  bd (f_X3_outersOf N x0 (15 : Int32)) fun r_13 =>
  nm ((r_7 &&& r_11) &&& (r_13 ^^^ (-1 : Int32))) fun x6_15 =>
  nm (r_7 &&& (r_11 ^^^ (-1 : Int32))) fun x7_16 =>
  bd (f_X3_outersOf N x0 r_11) fun r_17 =>
  nm (x7_16 ||| (((r_7 &&& r_11) &&& (r_17 ^^^ (-1 : Int32))) <<< ((4 : Int32) &&& 31))) fun x7_19 =>
  nm (x7_19 ||| ((r_7 &&& (r_9 ^^^ (-1 : Int32))) <<< ((8 : Int32) &&& 31))) fun x7_20 =>
  bd (lpF (fun s => f_X3_doable_b79 N x1 x2 r_9 r_11 x6_15 s.1 s.2) N (x7_20, (0 : Int32))) (fun o => f_X3_doable_j128 N o)
abbrev rmX3_doable : Room := { frames := 3, cells := 0, slots := 0, locals := 68 }
set_option maxRecDepth 100000 in
set_option maxHeartbeats 4000000 in
theorem c_X3_doable (l : Launch) (N : Nat) (x0 : Int32) (x1 : Int32) (x2 : Int32) (r : Int32) (hf : f_X3_doable N x0 x1 x2 = some r) : MetS l yX3_doable cX3_doable 9 (some .int) rmX3_doable [.int x0, .int x1, .int x2] r := by
  refine mkS (by decide) (Nat.le_of_ble_eq_true rfl) rfl ?_
  intro p e s m args below meth cd Q ls h0 hK hret hl
  obtain ⟨S, hr, hlk⟩ := h0
  obtain ⟨hx, hb, hml, hown, ht⟩ := id S
  have hl : lv_has ls 9 [(0, .int x0), (1, .int x1), (2, .int x2)] := hl
  have hf := obs hf
  have j128 : ∀ (x7 : Int32) (ls : Array Slot), lv_has ls 9 [(7, .int x7)] → Option.bind (f_X3_doable_j128 N x7) some = some r → W p l e rmX3_doable s m args below meth cd s.heap [] 0 0 Q (F0 m 128 ls []) := by
    intro x7 ls hl hf
    have hf := oun (f_X3_doable_j128.eq_1 _ _) hf
    refine lv_iload hx hb dX3_doable_128 (lv_at hl 0 rfl) ?_
    exact hret _ _ _ dX3_doable_130 rfl (Option.some.inj hf)
  have L79 : ∀ (x1 : Int32) (x2 : Int32) (x4 : Int32) (x5 : Int32) (x6 : Int32) (k : Nat) (x7 : Int32) (x8 : Int32) (ls : Array Slot), lv_has ls 9 [(1, .int x1), (2, .int x2), (4, .int x4), (5, .int x5), (6, .int x6), (7, .int x7), (8, .int x8)] → Option.bind (bd (lpF (fun s => f_X3_doable_b79 N x1 x2 x4 x5 x6 s.1 s.2) k (x7, x8)) (fun o => f_X3_doable_j128 N o)) some = some r → W p l e rmX3_doable s m args below meth cd s.heap [] 0 0 Q (F0 m 79 ls []) := by
    intro x1 x2 x4 x5 x6 k
    induction k with
    | zero =>
      intro x7 x8 ls hl hf
      exact (ol0 hf).elim
    | succ k ih =>
      intro x7 x8 ls hl hf
      obtain ⟨K79, hf, hc79, hx79⟩ := ol1 hf
      have j122 : ∀ (x7 : Int32) (x8 : Int32) (ls : Array Slot), lv_has ls 9 [(1, .int x1), (2, .int x2), (4, .int x4), (5, .int x5), (6, .int x6), (7, .int x7), (8, .int x8)] → Option.bind (f_X3_doable_j122 N x1 x2 x4 x5 x6 x7 x8) K79 = some r → W p l e rmX3_doable s m args below meth cd s.heap [] 0 0 Q (F0 m 122 ls []) := by
        intro x7 x8 ls hl hf
        have hf := oun (f_X3_doable_j122.eq_1 _ _ _ _ _ _ _ _) hf
        obtain ⟨x8_1, ex8_1, hf⟩ := onm hf
        refine lv_iinc (v := x8_1) (lv' := [(8, .int x8_1), (1, .int x1), (2, .int x2), (4, .int x4), (5, .int x5), (6, .int x6), (7, .int x7)]) hx hb dX3_doable_122 hl (k := 6) rfl ex8_1 (by decide) rfl (fun ls hl => ?_)
        refine lv_goto (tgt := 79) hx hb dX3_doable_125 (by decide) ?_
        exact ih x7 x8_1 _ (lv_sub hl [1, 2, 3, 4, 5, 6, 0] rfl) (okx hf (hc79 _))
      have hf := oun (f_X3_doable_b79.eq_1 N x1 x2 x4 x5 x6 x7 x8) hf
      refine lv_iload hx hb dX3_doable_79 (lv_at hl 6 rfl) ?_
      refine lv_iload_n hx hb dX3_doable_81 rfl (lv_at hl 0 rfl) ?_
      refine lv_icmp_ge (tgt := 128) hx hb dX3_doable_82 (by decide) (fun c_2 => ?_) (fun c_2 => ?_)
      · have hf := oit c_2 hf
        exact j128 x7 _ (lv_sub hl [5] rfl) (okx hf (hx79 _))
      have hf := oif c_2 hf
      refine lv_iload hx hb dX3_doable_85 (lv_at hl 2 rfl) ?_
      refine lv_iload hx hb dX3_doable_87 (lv_at hl 3 rfl) ?_
      refine lv_iconst (v := (-1 : Int32)) hx hb dX3_doable_89 (by decide) ?_
      refine lv_ixor hx hb dX3_doable_90 ?_
      refine lv_iand hx hb dX3_doable_91 ?_
      refine lv_iload hx hb dX3_doable_92 (lv_at hl 6 rfl) ?_
      obtain ⟨r_3, h_4, hf⟩ := obd hf
      refine xn_S (As := [.int (x4 &&& (x5 ^^^ (-1 : Int32))), .int x8]) (rest := []) S k_X5_has hK.1 q202 ⟨Nat.le_of_ble_eq_true rfl, Nat.le_of_ble_eq_true rfl⟩ ⟨rfl, rfl⟩ (c_X5_has l (x4 &&& (x5 ^^^ (-1 : Int32))) x8 r_3 h_4) hK rfl hl.1 rfl (Nat.le_of_ble_eq_true rfl) dX3_doable_94 ⟨Nat.zero_le _, Nat.zero_le _⟩ ?_
      refine lv_if_eq (tgt := 122) hx hb dX3_doable_97 (by decide) (fun c_5 => ?_) (fun c_5 => ?_)
      · have hf := oit c_5 hf
        exact j122 x7 x8 _ (lv_sub hl [0, 1, 2, 3, 4, 5, 6] rfl) hf
      have hf := oif c_5 hf
      refine lv_iload hx hb dX3_doable_100 (lv_at hl 5 rfl) ?_
      refine lv_iload hx hb dX3_doable_102 (lv_at hl 4 rfl) ?_
      refine lv_iload_n hx hb dX3_doable_104 rfl (lv_at hl 1 rfl) ?_
      refine lv_iconst (v := (4 : Int32)) hx hb dX3_doable_105 (by decide) ?_
      refine lv_iload hx hb dX3_doable_106 (lv_at hl 6 rfl) ?_
      refine lv_imul hx hb dX3_doable_108 ?_
      refine lv_ishr hx hb dX3_doable_109 ?_
      refine lv_iand hx hb dX3_doable_110 ?_
      refine lv_bipush (v := (12 : Int32)) hx hb dX3_doable_111 (by decide) ?_
      refine lv_iconst (v := (4 : Int32)) hx hb dX3_doable_113 (by decide) ?_
      refine lv_iload hx hb dX3_doable_114 (lv_at hl 6 rfl) ?_
      refine lv_imul hx hb dX3_doable_116 ?_
      refine lv_iadd hx hb dX3_doable_117 ?_
      refine lv_ishl hx hb dX3_doable_118 ?_
      refine lv_ior hx hb dX3_doable_119 ?_
      obtain ⟨x7_6, ex7_6, hf⟩ := onm hf
      refine lv_nm ex7_6 ?_
      refine lv_istore (lv' := [(7, .int x7_6), (1, .int x1), (2, .int x2), (4, .int x4), (5, .int x5), (6, .int x6), (8, .int x8)]) hx hb dX3_doable_120 hl (by decide) rfl (fun ls hl => ?_)
      exact j122 x7_6 x8 _ (lv_sub hl [1, 2, 3, 4, 5, 0, 6] rfl) hf
  have hf := oun (f_X3_doable.eq_1 _ _ _ _) hf
  refine lv_iload_n hx hb dX3_doable_0 rfl (lv_at hl 0 rfl) ?_
  refine lv_iload_n hx hb dX3_doable_1 rfl (lv_at hl 1 rfl) ?_
  obtain ⟨r_7, h_8, hf⟩ := obd hf
  refine xs_S (As := [.int x0, .int x1]) (rest := []) S k_X3_handSet q309 q208 ⟨Nat.le_of_ble_eq_true rfl, Nat.le_of_ble_eq_true rfl⟩ ⟨rfl, rfl⟩ (c_X3_handSet l N x0 x1 r_7 h_8) hK rfl hl.1 rfl (Nat.le_of_ble_eq_true rfl) dX3_doable_2 ⟨Nat.zero_le _, Nat.zero_le _⟩ ?_
  refine lv_istore_n (lv' := [(3, .int r_7), (0, .int x0), (1, .int x1), (2, .int x2)]) hx hb dX3_doable_5 rfl hl (by decide) rfl (fun ls hl => ?_)
  refine lv_iload_n hx hb dX3_doable_6 rfl (lv_at hl 1 rfl) ?_
  refine lv_iload_n hx hb dX3_doable_7 rfl (lv_at hl 2 rfl) ?_
  obtain ⟨r_9, h_10, hf⟩ := obd hf
  refine xs_S (As := [.int x0, .int x1]) (rest := []) S k_X3_tableSet q310 q311 ⟨Nat.le_of_ble_eq_true rfl, Nat.le_of_ble_eq_true rfl⟩ ⟨rfl, rfl⟩ (c_X3_tableSet l N x0 x1 r_9 h_10) hK rfl hl.1 rfl (Nat.le_of_ble_eq_true rfl) dX3_doable_8 ⟨Nat.zero_le _, Nat.zero_le _⟩ ?_
  refine lv_istore (lv' := [(4, .int r_9), (3, .int r_7), (0, .int x0), (1, .int x1), (2, .int x2)]) hx hb dX3_doable_11 hl (by decide) rfl (fun ls hl => ?_)
  refine lv_iload_n hx hb dX3_doable_13 rfl (lv_at hl 2 rfl) ?_
  obtain ⟨r_11, h_12, hf⟩ := obd hf
  refine xs_S (As := [.int x0]) (rest := []) S k_X3_openSet q199 q200 ⟨Nat.le_of_ble_eq_true rfl, Nat.le_of_ble_eq_true rfl⟩ ⟨rfl, rfl⟩ (c_X3_openSet l x0 r_11 h_12) hK rfl hl.1 rfl (Nat.le_of_ble_eq_true rfl) dX3_doable_14 ⟨Nat.zero_le _, Nat.zero_le _⟩ ?_
  refine lv_istore (lv' := [(5, .int r_11), (4, .int r_9), (3, .int r_7), (0, .int x0), (1, .int x1), (2, .int x2)]) hx hb dX3_doable_17 hl (by decide) rfl (fun ls hl => ?_)
  refine lv_iload_n hx hb dX3_doable_19 rfl (lv_at hl 2 rfl) ?_
  refine lv_iload hx hb dX3_doable_20 (lv_at hl 0 rfl) ?_
  refine lv_iand hx hb dX3_doable_22 ?_
  refine lv_iload_n hx hb dX3_doable_23 rfl (lv_at hl 3 rfl) ?_
  refine lv_bipush (v := (15 : Int32)) hx hb dX3_doable_24 (by decide) ?_
  obtain ⟨r_13, h_14, hf⟩ := obd hf
  refine xs_S (As := [.int x0, .int (15 : Int32)]) (rest := [.int (r_7 &&& r_11)]) S k_X3_outersOf q313 q314 ⟨Nat.le_of_ble_eq_true rfl, Nat.le_of_ble_eq_true rfl⟩ ⟨rfl, rfl⟩ (c_X3_outersOf l N x0 (15 : Int32) r_13 h_14) hK rfl hl.1 rfl (Nat.le_of_ble_eq_true rfl) dX3_doable_26 ⟨Nat.zero_le _, Nat.zero_le _⟩ ?_
  refine lv_iconst (v := (-1 : Int32)) hx hb dX3_doable_29 (by decide) ?_
  refine lv_ixor hx hb dX3_doable_30 ?_
  refine lv_iand hx hb dX3_doable_31 ?_
  obtain ⟨x6_15, ex6_15, hf⟩ := onm hf
  refine lv_nm ex6_15 ?_
  refine lv_istore (lv' := [(6, .int x6_15), (5, .int r_11), (4, .int r_9), (3, .int r_7), (0, .int x0), (1, .int x1), (2, .int x2)]) hx hb dX3_doable_32 hl (by decide) rfl (fun ls hl => ?_)
  refine lv_iload_n hx hb dX3_doable_34 rfl (lv_at hl 3 rfl) ?_
  refine lv_iload hx hb dX3_doable_35 (lv_at hl 1 rfl) ?_
  refine lv_iconst (v := (-1 : Int32)) hx hb dX3_doable_37 (by decide) ?_
  refine lv_ixor hx hb dX3_doable_38 ?_
  refine lv_iand hx hb dX3_doable_39 ?_
  obtain ⟨x7_16, ex7_16, hf⟩ := onm hf
  refine lv_nm ex7_16 ?_
  refine lv_istore (lv' := [(7, .int x7_16), (6, .int x6_15), (5, .int r_11), (4, .int r_9), (3, .int r_7), (0, .int x0), (1, .int x1), (2, .int x2)]) hx hb dX3_doable_40 hl (by decide) rfl (fun ls hl => ?_)
  refine lv_iload hx hb dX3_doable_42 (lv_at hl 0 rfl) ?_
  refine lv_iload_n hx hb dX3_doable_44 rfl (lv_at hl 4 rfl) ?_
  refine lv_iload hx hb dX3_doable_45 (lv_at hl 2 rfl) ?_
  refine lv_iand hx hb dX3_doable_47 ?_
  refine lv_iload_n hx hb dX3_doable_48 rfl (lv_at hl 5 rfl) ?_
  refine lv_iload hx hb dX3_doable_49 (lv_at hl 2 rfl) ?_
  obtain ⟨r_17, h_18, hf⟩ := obd hf
  refine xs_S (As := [.int x0, .int r_11]) (rest := [.int (r_7 &&& r_11), .int x7_16]) S k_X3_outersOf q313 q314 ⟨Nat.le_of_ble_eq_true rfl, Nat.le_of_ble_eq_true rfl⟩ ⟨rfl, rfl⟩ (c_X3_outersOf l N x0 r_11 r_17 h_18) hK rfl hl.1 rfl (Nat.le_of_ble_eq_true rfl) dX3_doable_51 ⟨Nat.zero_le _, Nat.zero_le _⟩ ?_
  refine lv_iconst (v := (-1 : Int32)) hx hb dX3_doable_54 (by decide) ?_
  refine lv_ixor hx hb dX3_doable_55 ?_
  refine lv_iand hx hb dX3_doable_56 ?_
  refine lv_iconst (v := (4 : Int32)) hx hb dX3_doable_57 (by decide) ?_
  refine lv_ishl hx hb dX3_doable_58 ?_
  refine lv_ior hx hb dX3_doable_59 ?_
  obtain ⟨x7_19, ex7_19, hf⟩ := onm hf
  refine lv_nm ex7_19 ?_
  refine lv_istore (lv' := [(7, .int x7_19), (6, .int x6_15), (5, .int r_11), (4, .int r_9), (3, .int r_7), (0, .int x0), (1, .int x1), (2, .int x2)]) hx hb dX3_doable_60 hl (by decide) rfl (fun ls hl => ?_)
  refine lv_iload hx hb dX3_doable_62 (lv_at hl 0 rfl) ?_
  refine lv_iload_n hx hb dX3_doable_64 rfl (lv_at hl 4 rfl) ?_
  refine lv_iload hx hb dX3_doable_65 (lv_at hl 3 rfl) ?_
  refine lv_iconst (v := (-1 : Int32)) hx hb dX3_doable_67 (by decide) ?_
  refine lv_ixor hx hb dX3_doable_68 ?_
  refine lv_iand hx hb dX3_doable_69 ?_
  refine lv_bipush (v := (8 : Int32)) hx hb dX3_doable_70 (by decide) ?_
  refine lv_ishl hx hb dX3_doable_72 ?_
  refine lv_ior hx hb dX3_doable_73 ?_
  obtain ⟨x7_20, ex7_20, hf⟩ := onm hf
  refine lv_nm ex7_20 ?_
  refine lv_istore (lv' := [(7, .int x7_20), (6, .int x6_15), (5, .int r_11), (4, .int r_9), (3, .int r_7), (0, .int x0), (1, .int x1), (2, .int x2)]) hx hb dX3_doable_74 hl (by decide) rfl (fun ls hl => ?_)
  refine lv_iconst (v := (0 : Int32)) hx hb dX3_doable_76 (by decide) ?_
  refine lv_istore (lv' := [(8, .int (0 : Int32)), (7, .int x7_20), (6, .int x6_15), (5, .int r_11), (4, .int r_9), (3, .int r_7), (0, .int x0), (1, .int x1), (2, .int x2)]) hx hb dX3_doable_77 hl (by decide) rfl (fun ls hl => ?_)
  exact L79 x1 x2 r_9 r_11 x6_15 N x7_20 (0 : Int32) _ (lv_sub hl [7, 8, 4, 3, 2, 1, 0] rfl) hf
theorem dX5_isAct_0 : decode cX5_isAct 0 = .ok (.iload_n 0, 1) := by decide +kernel
theorem dX5_isAct_1 : decode cX5_isAct 1 = .ok (.ifCond .lt 13, 3) := by decide +kernel
theorem dX5_isAct_4 : decode cX5_isAct 4 = .ok (.iload_n 0, 1) := by decide +kernel
theorem dX5_isAct_5 : decode cX5_isAct 5 = .ok (.bipush 28, 2) := by decide +kernel
theorem dX5_isAct_7 : decode cX5_isAct 7 = .ok (.if_icmp .ge 7, 3) := by decide +kernel
theorem dX5_isAct_10 : decode cX5_isAct 10 = .ok (.iconst 1, 1) := by decide +kernel
theorem dX5_isAct_11 : decode cX5_isAct 11 = .ok (.goto 4, 3) := by decide +kernel
theorem dX5_isAct_14 : decode cX5_isAct 14 = .ok (.iconst 0, 1) := by decide +kernel
theorem dX5_isAct_15 : decode cX5_isAct 15 = .ok (.ireturn, 1) := by decide +kernel
def f_X5_isAct (x0 : Int32) : Option Int32 :=
  if x0 < 0 then (some (0 : Int32))
  else if (28 : Int32) ≤ x0 then (some (0 : Int32))
  else some (1 : Int32)
abbrev rmX5_isAct : Room := { frames := 0, cells := 0, slots := 0, locals := 0 }
set_option maxRecDepth 100000 in
set_option maxHeartbeats 4000000 in
theorem c_X5_isAct (l : Launch) (x0 : Int32) (r : Int32) (hf : f_X5_isAct x0 = some r) : MetS l yX5_isAct cX5_isAct 1 (some .boolean) rmX5_isAct [.int x0] r := by
  refine mkS (by decide) (Nat.le_of_ble_eq_true rfl) rfl ?_
  intro p e s m args below meth cd Q ls h0 hK hret hl
  obtain ⟨S, hr, hlk⟩ := h0
  obtain ⟨hx, hb, hml, hown, ht⟩ := id S
  have hl : lv_has ls 1 [(0, .int x0)] := hl
  have hf := obs hf
  have hf := oun (f_X5_isAct.eq_1 _) hf
  refine lv_iload_n hx hb dX5_isAct_0 rfl (lv_at hl 0 rfl) ?_
  refine lv_if_lt (tgt := 14) hx hb dX5_isAct_1 (by decide) (fun c_1 => ?_) (fun c_1 => ?_)
  · have hf := oit c_1 hf
    refine lv_iconst (v := (0 : Int32)) hx hb dX5_isAct_14 (by decide) ?_
    exact hret _ _ _ dX5_isAct_15 (by decide) (Option.some.inj hf)
  have hf := oif c_1 hf
  refine lv_iload_n hx hb dX5_isAct_4 rfl (lv_at hl 0 rfl) ?_
  refine lv_bipush (v := (28 : Int32)) hx hb dX5_isAct_5 (by decide) ?_
  refine lv_icmp_ge (tgt := 14) hx hb dX5_isAct_7 (by decide) (fun c_2 => ?_) (fun c_2 => ?_)
  · have hf := oit c_2 hf
    refine lv_iconst (v := (0 : Int32)) hx hb dX5_isAct_14 (by decide) ?_
    exact hret _ _ _ dX5_isAct_15 (by decide) (Option.some.inj hf)
  have hf := oif c_2 hf
  refine lv_iconst (v := (1 : Int32)) hx hb dX5_isAct_10 (by decide) ?_
  refine lv_goto (tgt := 15) hx hb dX5_isAct_11 (by decide) ?_
  exact hret _ _ _ dX5_isAct_15 (by decide) (Option.some.inj hf)
theorem dJ6_bitCount_0f7a4_0 : decode cJ6_bitCount_0f7a4 0 = .ok (.iload_n 0, 1) := by decide +kernel
theorem dJ6_bitCount_0f7a4_1 : decode cJ6_bitCount_0f7a4 1 = .ok (.iload_n 0, 1) := by decide +kernel
theorem dJ6_bitCount_0f7a4_2 : decode cJ6_bitCount_0f7a4 2 = .ok (.iconst 1, 1) := by decide +kernel
theorem dJ6_bitCount_0f7a4_3 : decode cJ6_bitCount_0f7a4 3 = .ok (.iushr, 1) := by decide +kernel
theorem dJ6_bitCount_0f7a4_4 : decode cJ6_bitCount_0f7a4 4 = .ok (.ldc_w 265, 3) := by decide +kernel
theorem dJ6_bitCount_0f7a4_7 : decode cJ6_bitCount_0f7a4 7 = .ok (.iand, 1) := by decide +kernel
theorem dJ6_bitCount_0f7a4_8 : decode cJ6_bitCount_0f7a4 8 = .ok (.isub, 1) := by decide +kernel
theorem dJ6_bitCount_0f7a4_9 : decode cJ6_bitCount_0f7a4 9 = .ok (.istore_n 0, 1) := by decide +kernel
theorem dJ6_bitCount_0f7a4_10 : decode cJ6_bitCount_0f7a4 10 = .ok (.iload_n 0, 1) := by decide +kernel
theorem dJ6_bitCount_0f7a4_11 : decode cJ6_bitCount_0f7a4 11 = .ok (.ldc_w 266, 3) := by decide +kernel
theorem dJ6_bitCount_0f7a4_14 : decode cJ6_bitCount_0f7a4 14 = .ok (.iand, 1) := by decide +kernel
theorem dJ6_bitCount_0f7a4_15 : decode cJ6_bitCount_0f7a4 15 = .ok (.iload_n 0, 1) := by decide +kernel
theorem dJ6_bitCount_0f7a4_16 : decode cJ6_bitCount_0f7a4 16 = .ok (.iconst 2, 1) := by decide +kernel
theorem dJ6_bitCount_0f7a4_17 : decode cJ6_bitCount_0f7a4 17 = .ok (.iushr, 1) := by decide +kernel
theorem dJ6_bitCount_0f7a4_18 : decode cJ6_bitCount_0f7a4 18 = .ok (.ldc_w 266, 3) := by decide +kernel
theorem dJ6_bitCount_0f7a4_21 : decode cJ6_bitCount_0f7a4 21 = .ok (.iand, 1) := by decide +kernel
theorem dJ6_bitCount_0f7a4_22 : decode cJ6_bitCount_0f7a4 22 = .ok (.iadd, 1) := by decide +kernel
theorem dJ6_bitCount_0f7a4_23 : decode cJ6_bitCount_0f7a4 23 = .ok (.istore_n 0, 1) := by decide +kernel
theorem dJ6_bitCount_0f7a4_24 : decode cJ6_bitCount_0f7a4 24 = .ok (.iload_n 0, 1) := by decide +kernel
theorem dJ6_bitCount_0f7a4_25 : decode cJ6_bitCount_0f7a4 25 = .ok (.iload_n 0, 1) := by decide +kernel
theorem dJ6_bitCount_0f7a4_26 : decode cJ6_bitCount_0f7a4 26 = .ok (.iconst 4, 1) := by decide +kernel
theorem dJ6_bitCount_0f7a4_27 : decode cJ6_bitCount_0f7a4 27 = .ok (.iushr, 1) := by decide +kernel
theorem dJ6_bitCount_0f7a4_28 : decode cJ6_bitCount_0f7a4 28 = .ok (.iadd, 1) := by decide +kernel
theorem dJ6_bitCount_0f7a4_29 : decode cJ6_bitCount_0f7a4 29 = .ok (.ldc_w 267, 3) := by decide +kernel
theorem dJ6_bitCount_0f7a4_32 : decode cJ6_bitCount_0f7a4 32 = .ok (.iand, 1) := by decide +kernel
theorem dJ6_bitCount_0f7a4_33 : decode cJ6_bitCount_0f7a4 33 = .ok (.istore_n 0, 1) := by decide +kernel
theorem dJ6_bitCount_0f7a4_34 : decode cJ6_bitCount_0f7a4 34 = .ok (.iload_n 0, 1) := by decide +kernel
theorem dJ6_bitCount_0f7a4_35 : decode cJ6_bitCount_0f7a4 35 = .ok (.iload_n 0, 1) := by decide +kernel
theorem dJ6_bitCount_0f7a4_36 : decode cJ6_bitCount_0f7a4 36 = .ok (.bipush 8, 2) := by decide +kernel
theorem dJ6_bitCount_0f7a4_38 : decode cJ6_bitCount_0f7a4 38 = .ok (.iushr, 1) := by decide +kernel
theorem dJ6_bitCount_0f7a4_39 : decode cJ6_bitCount_0f7a4 39 = .ok (.iadd, 1) := by decide +kernel
theorem dJ6_bitCount_0f7a4_40 : decode cJ6_bitCount_0f7a4 40 = .ok (.istore_n 0, 1) := by decide +kernel
theorem dJ6_bitCount_0f7a4_41 : decode cJ6_bitCount_0f7a4 41 = .ok (.iload_n 0, 1) := by decide +kernel
theorem dJ6_bitCount_0f7a4_42 : decode cJ6_bitCount_0f7a4 42 = .ok (.iload_n 0, 1) := by decide +kernel
theorem dJ6_bitCount_0f7a4_43 : decode cJ6_bitCount_0f7a4 43 = .ok (.bipush 16, 2) := by decide +kernel
theorem dJ6_bitCount_0f7a4_45 : decode cJ6_bitCount_0f7a4 45 = .ok (.iushr, 1) := by decide +kernel
theorem dJ6_bitCount_0f7a4_46 : decode cJ6_bitCount_0f7a4 46 = .ok (.iadd, 1) := by decide +kernel
theorem dJ6_bitCount_0f7a4_47 : decode cJ6_bitCount_0f7a4 47 = .ok (.istore_n 0, 1) := by decide +kernel
theorem dJ6_bitCount_0f7a4_48 : decode cJ6_bitCount_0f7a4 48 = .ok (.iload_n 0, 1) := by decide +kernel
theorem dJ6_bitCount_0f7a4_49 : decode cJ6_bitCount_0f7a4 49 = .ok (.bipush 63, 2) := by decide +kernel
theorem dJ6_bitCount_0f7a4_51 : decode cJ6_bitCount_0f7a4 51 = .ok (.iand, 1) := by decide +kernel
theorem dJ6_bitCount_0f7a4_52 : decode cJ6_bitCount_0f7a4 52 = .ok (.ireturn, 1) := by decide +kernel
def f_J6_bitCount_0f7a4 (x0 : Int32) : Option Int32 :=
  nm (x0 - ((Int32.toUInt32 x0 >>> (Int32.toUInt32 (1 : Int32) &&& Int32.toUInt32 31)).toInt32 &&& (1431655765 : Int32))) fun x0_1 =>
  nm ((x0_1 &&& (858993459 : Int32)) + ((Int32.toUInt32 x0_1 >>> (Int32.toUInt32 (2 : Int32) &&& Int32.toUInt32 31)).toInt32 &&& (858993459 : Int32))) fun x0_2 =>
  nm ((x0_2 + (Int32.toUInt32 x0_2 >>> (Int32.toUInt32 (4 : Int32) &&& Int32.toUInt32 31)).toInt32) &&& (252645135 : Int32)) fun x0_3 =>
  nm (x0_3 + (Int32.toUInt32 x0_3 >>> (Int32.toUInt32 (8 : Int32) &&& Int32.toUInt32 31)).toInt32) fun x0_4 =>
  nm (x0_4 + (Int32.toUInt32 x0_4 >>> (Int32.toUInt32 (16 : Int32) &&& Int32.toUInt32 31)).toInt32) fun x0_5 =>
  some (x0_5 &&& (63 : Int32))
abbrev rmJ6_bitCount_0f7a4 : Room := { frames := 0, cells := 0, slots := 0, locals := 0 }
set_option maxRecDepth 100000 in
set_option maxHeartbeats 4000000 in
theorem c_J6_bitCount_0f7a4 (l : Launch) (x0 : Int32) (r : Int32) (hf : f_J6_bitCount_0f7a4 x0 = some r) : MetS l yJ6_bitCount_0f7a4 cJ6_bitCount_0f7a4 1 (some .int) rmJ6_bitCount_0f7a4 [.int x0] r := by
  refine mkS (by decide) (Nat.le_of_ble_eq_true rfl) rfl ?_
  intro p e s m args below meth cd Q ls h0 hK hret hl
  obtain ⟨S, hr, hlk⟩ := h0
  obtain ⟨hx, hb, hml, hown, ht⟩ := id S
  have hl : lv_has ls 1 [(0, .int x0)] := hl
  have hf := obs hf
  have hf := oun (f_J6_bitCount_0f7a4.eq_1 _) hf
  refine lv_iload_n hx hb dJ6_bitCount_0f7a4_0 rfl (lv_at hl 0 rfl) ?_
  refine lv_iload_n hx hb dJ6_bitCount_0f7a4_1 rfl (lv_at hl 0 rfl) ?_
  refine lv_iconst (v := (1 : Int32)) hx hb dJ6_bitCount_0f7a4_2 (by decide) ?_
  refine lv_iushr (v := (Int32.toUInt32 x0 >>> (Int32.toUInt32 (1 : Int32) &&& Int32.toUInt32 31)).toInt32) hx hb dJ6_bitCount_0f7a4_3 rfl ?_
  refine lv_ldcw (v := (1431655765 : Int32)) hx hb hown (ht _ q331) dJ6_bitCount_0f7a4_4 ?_
  refine lv_iand hx hb dJ6_bitCount_0f7a4_7 ?_
  refine lv_isub hx hb dJ6_bitCount_0f7a4_8 ?_
  obtain ⟨x0_1, ex0_1, hf⟩ := onm hf
  refine lv_nm ex0_1 ?_
  refine lv_istore_n (lv' := [(0, .int x0_1)]) hx hb dJ6_bitCount_0f7a4_9 rfl hl (by decide) rfl (fun ls hl => ?_)
  refine lv_iload_n hx hb dJ6_bitCount_0f7a4_10 rfl (lv_at hl 0 rfl) ?_
  refine lv_ldcw (v := (858993459 : Int32)) hx hb hown (ht _ q332) dJ6_bitCount_0f7a4_11 ?_
  refine lv_iand hx hb dJ6_bitCount_0f7a4_14 ?_
  refine lv_iload_n hx hb dJ6_bitCount_0f7a4_15 rfl (lv_at hl 0 rfl) ?_
  refine lv_iconst (v := (2 : Int32)) hx hb dJ6_bitCount_0f7a4_16 (by decide) ?_
  refine lv_iushr (v := (Int32.toUInt32 x0_1 >>> (Int32.toUInt32 (2 : Int32) &&& Int32.toUInt32 31)).toInt32) hx hb dJ6_bitCount_0f7a4_17 rfl ?_
  refine lv_ldcw (v := (858993459 : Int32)) hx hb hown (ht _ q332) dJ6_bitCount_0f7a4_18 ?_
  refine lv_iand hx hb dJ6_bitCount_0f7a4_21 ?_
  refine lv_iadd hx hb dJ6_bitCount_0f7a4_22 ?_
  obtain ⟨x0_2, ex0_2, hf⟩ := onm hf
  refine lv_nm ex0_2 ?_
  refine lv_istore_n (lv' := [(0, .int x0_2)]) hx hb dJ6_bitCount_0f7a4_23 rfl hl (by decide) rfl (fun ls hl => ?_)
  refine lv_iload_n hx hb dJ6_bitCount_0f7a4_24 rfl (lv_at hl 0 rfl) ?_
  refine lv_iload_n hx hb dJ6_bitCount_0f7a4_25 rfl (lv_at hl 0 rfl) ?_
  refine lv_iconst (v := (4 : Int32)) hx hb dJ6_bitCount_0f7a4_26 (by decide) ?_
  refine lv_iushr (v := (Int32.toUInt32 x0_2 >>> (Int32.toUInt32 (4 : Int32) &&& Int32.toUInt32 31)).toInt32) hx hb dJ6_bitCount_0f7a4_27 rfl ?_
  refine lv_iadd hx hb dJ6_bitCount_0f7a4_28 ?_
  refine lv_ldcw (v := (252645135 : Int32)) hx hb hown (ht _ q333) dJ6_bitCount_0f7a4_29 ?_
  refine lv_iand hx hb dJ6_bitCount_0f7a4_32 ?_
  obtain ⟨x0_3, ex0_3, hf⟩ := onm hf
  refine lv_nm ex0_3 ?_
  refine lv_istore_n (lv' := [(0, .int x0_3)]) hx hb dJ6_bitCount_0f7a4_33 rfl hl (by decide) rfl (fun ls hl => ?_)
  refine lv_iload_n hx hb dJ6_bitCount_0f7a4_34 rfl (lv_at hl 0 rfl) ?_
  refine lv_iload_n hx hb dJ6_bitCount_0f7a4_35 rfl (lv_at hl 0 rfl) ?_
  refine lv_bipush (v := (8 : Int32)) hx hb dJ6_bitCount_0f7a4_36 (by decide) ?_
  refine lv_iushr (v := (Int32.toUInt32 x0_3 >>> (Int32.toUInt32 (8 : Int32) &&& Int32.toUInt32 31)).toInt32) hx hb dJ6_bitCount_0f7a4_38 rfl ?_
  refine lv_iadd hx hb dJ6_bitCount_0f7a4_39 ?_
  obtain ⟨x0_4, ex0_4, hf⟩ := onm hf
  refine lv_nm ex0_4 ?_
  refine lv_istore_n (lv' := [(0, .int x0_4)]) hx hb dJ6_bitCount_0f7a4_40 rfl hl (by decide) rfl (fun ls hl => ?_)
  refine lv_iload_n hx hb dJ6_bitCount_0f7a4_41 rfl (lv_at hl 0 rfl) ?_
  refine lv_iload_n hx hb dJ6_bitCount_0f7a4_42 rfl (lv_at hl 0 rfl) ?_
  refine lv_bipush (v := (16 : Int32)) hx hb dJ6_bitCount_0f7a4_43 (by decide) ?_
  refine lv_iushr (v := (Int32.toUInt32 x0_4 >>> (Int32.toUInt32 (16 : Int32) &&& Int32.toUInt32 31)).toInt32) hx hb dJ6_bitCount_0f7a4_45 rfl ?_
  refine lv_iadd hx hb dJ6_bitCount_0f7a4_46 ?_
  obtain ⟨x0_5, ex0_5, hf⟩ := onm hf
  refine lv_nm ex0_5 ?_
  refine lv_istore_n (lv' := [(0, .int x0_5)]) hx hb dJ6_bitCount_0f7a4_47 rfl hl (by decide) rfl (fun ls hl => ?_)
  refine lv_iload_n hx hb dJ6_bitCount_0f7a4_48 rfl (lv_at hl 0 rfl) ?_
  refine lv_bipush (v := (63 : Int32)) hx hb dJ6_bitCount_0f7a4_49 (by decide) ?_
  refine lv_iand hx hb dJ6_bitCount_0f7a4_51 ?_
  exact hret _ _ _ dJ6_bitCount_0f7a4_52 rfl (Option.some.inj hf)
theorem dX5_isAskedOfDay_0 : decode cX5_isAskedOfDay 0 = .ok (.iload_n 0, 1) := by decide +kernel
theorem dX5_isAskedOfDay_1 : decode cX5_isAskedOfDay 1 = .ok (.ifCond .lt 8, 3) := by decide +kernel
theorem dX5_isAskedOfDay_4 : decode cX5_isAskedOfDay 4 = .ok (.iload_n 0, 1) := by decide +kernel
theorem dX5_isAskedOfDay_5 : decode cX5_isAskedOfDay 5 = .ok (.iconst 4, 1) := by decide +kernel
theorem dX5_isAskedOfDay_6 : decode cX5_isAskedOfDay 6 = .ok (.if_icmp .le 15, 3) := by decide +kernel
theorem dX5_isAskedOfDay_9 : decode cX5_isAskedOfDay 9 = .ok (.iload_n 0, 1) := by decide +kernel
theorem dX5_isAskedOfDay_10 : decode cX5_isAskedOfDay 10 = .ok (.bipush 10, 2) := by decide +kernel
theorem dX5_isAskedOfDay_12 : decode cX5_isAskedOfDay 12 = .ok (.if_icmp .lt 13, 3) := by decide +kernel
theorem dX5_isAskedOfDay_15 : decode cX5_isAskedOfDay 15 = .ok (.iload_n 0, 1) := by decide +kernel
theorem dX5_isAskedOfDay_16 : decode cX5_isAskedOfDay 16 = .ok (.bipush 14, 2) := by decide +kernel
theorem dX5_isAskedOfDay_18 : decode cX5_isAskedOfDay 18 = .ok (.if_icmp .ge 7, 3) := by decide +kernel
theorem dX5_isAskedOfDay_21 : decode cX5_isAskedOfDay 21 = .ok (.iconst 1, 1) := by decide +kernel
theorem dX5_isAskedOfDay_22 : decode cX5_isAskedOfDay 22 = .ok (.goto 4, 3) := by decide +kernel
theorem dX5_isAskedOfDay_25 : decode cX5_isAskedOfDay 25 = .ok (.iconst 0, 1) := by decide +kernel
theorem dX5_isAskedOfDay_26 : decode cX5_isAskedOfDay 26 = .ok (.ireturn, 1) := by decide +kernel
def f_X5_isAskedOfDay_j21 : Option Int32 :=
  some (1 : Int32)
def f_X5_isAskedOfDay_j9 (x0 : Int32) : Option Int32 :=
  if x0 < (10 : Int32) then (some (0 : Int32))
  else if (14 : Int32) ≤ x0 then (some (0 : Int32))
  else f_X5_isAskedOfDay_j21
def f_X5_isAskedOfDay (x0 : Int32) : Option Int32 :=
  if x0 < 0 then (f_X5_isAskedOfDay_j9 x0)
  else if x0 ≤ (4 : Int32) then (f_X5_isAskedOfDay_j21)
  else f_X5_isAskedOfDay_j9 x0
abbrev rmX5_isAskedOfDay : Room := { frames := 0, cells := 0, slots := 0, locals := 0 }
set_option maxRecDepth 100000 in
set_option maxHeartbeats 4000000 in
theorem c_X5_isAskedOfDay (l : Launch) (x0 : Int32) (r : Int32) (hf : f_X5_isAskedOfDay x0 = some r) : MetS l yX5_isAskedOfDay cX5_isAskedOfDay 1 (some .boolean) rmX5_isAskedOfDay [.int x0] r := by
  refine mkS (by decide) (Nat.le_of_ble_eq_true rfl) rfl ?_
  intro p e s m args below meth cd Q ls h0 hK hret hl
  obtain ⟨S, hr, hlk⟩ := h0
  obtain ⟨hx, hb, hml, hown, ht⟩ := id S
  have hl : lv_has ls 1 [(0, .int x0)] := hl
  have hf := obs hf
  have j21 : ∀ (ls : Array Slot), lv_has ls 1 [] → Option.bind (f_X5_isAskedOfDay_j21) some = some r → W p l e rmX5_isAskedOfDay s m args below meth cd s.heap [] 0 0 Q (F0 m 21 ls []) := by
    intro ls hl hf
    have hf := oun (f_X5_isAskedOfDay_j21.eq_1) hf
    refine lv_iconst (v := (1 : Int32)) hx hb dX5_isAskedOfDay_21 (by decide) ?_
    refine lv_goto (tgt := 26) hx hb dX5_isAskedOfDay_22 (by decide) ?_
    exact hret _ _ _ dX5_isAskedOfDay_26 (by decide) (Option.some.inj hf)
  have j9 : ∀ (x0 : Int32) (ls : Array Slot), lv_has ls 1 [(0, .int x0)] → Option.bind (f_X5_isAskedOfDay_j9 x0) some = some r → W p l e rmX5_isAskedOfDay s m args below meth cd s.heap [] 0 0 Q (F0 m 9 ls []) := by
    intro x0 ls hl hf
    have hf := oun (f_X5_isAskedOfDay_j9.eq_1 _) hf
    refine lv_iload_n hx hb dX5_isAskedOfDay_9 rfl (lv_at hl 0 rfl) ?_
    refine lv_bipush (v := (10 : Int32)) hx hb dX5_isAskedOfDay_10 (by decide) ?_
    refine lv_icmp_lt (tgt := 25) hx hb dX5_isAskedOfDay_12 (by decide) (fun c_1 => ?_) (fun c_1 => ?_)
    · have hf := oit c_1 hf
      refine lv_iconst (v := (0 : Int32)) hx hb dX5_isAskedOfDay_25 (by decide) ?_
      exact hret _ _ _ dX5_isAskedOfDay_26 (by decide) (Option.some.inj hf)
    have hf := oif c_1 hf
    refine lv_iload_n hx hb dX5_isAskedOfDay_15 rfl (lv_at hl 0 rfl) ?_
    refine lv_bipush (v := (14 : Int32)) hx hb dX5_isAskedOfDay_16 (by decide) ?_
    refine lv_icmp_ge (tgt := 25) hx hb dX5_isAskedOfDay_18 (by decide) (fun c_2 => ?_) (fun c_2 => ?_)
    · have hf := oit c_2 hf
      refine lv_iconst (v := (0 : Int32)) hx hb dX5_isAskedOfDay_25 (by decide) ?_
      exact hret _ _ _ dX5_isAskedOfDay_26 (by decide) (Option.some.inj hf)
    have hf := oif c_2 hf
    exact j21 _ (lv_sub hl [] rfl) hf
  have hf := oun (f_X5_isAskedOfDay.eq_1 _) hf
  refine lv_iload_n hx hb dX5_isAskedOfDay_0 rfl (lv_at hl 0 rfl) ?_
  refine lv_if_lt (tgt := 9) hx hb dX5_isAskedOfDay_1 (by decide) (fun c_3 => ?_) (fun c_3 => ?_)
  · have hf := oit c_3 hf
    exact j9 x0 _ (lv_sub hl [0] rfl) hf
  have hf := oif c_3 hf
  refine lv_iload_n hx hb dX5_isAskedOfDay_4 rfl (lv_at hl 0 rfl) ?_
  refine lv_iconst (v := (4 : Int32)) hx hb dX5_isAskedOfDay_5 (by decide) ?_
  refine lv_icmp_le (tgt := 21) hx hb dX5_isAskedOfDay_6 (by decide) (fun c_4 => ?_) (fun c_4 => ?_)
  · have hf := oit c_4 hf
    exact j21 _ (lv_sub hl [] rfl) hf
  have hf := oif c_4 hf
  exact j9 x0 _ (lv_sub hl [0] rfl) hf
theorem dX3_mostWithin_0 : decode cX3_mostWithin 0 = .ok (.iconst 0, 1) := by decide +kernel
theorem dX3_mostWithin_1 : decode cX3_mostWithin 1 = .ok (.istore_n 2, 1) := by decide +kernel
theorem dX3_mostWithin_2 : decode cX3_mostWithin 2 = .ok (.iconst 0, 1) := by decide +kernel
theorem dX3_mostWithin_3 : decode cX3_mostWithin 3 = .ok (.istore_n 3, 1) := by decide +kernel
theorem dX3_mostWithin_4 : decode cX3_mostWithin 4 = .ok (.iload_n 3, 1) := by decide +kernel
theorem dX3_mostWithin_5 : decode cX3_mostWithin 5 = .ok (.iload_n 1, 1) := by decide +kernel
theorem dX3_mostWithin_6 : decode cX3_mostWithin 6 = .ok (.if_icmp .ge 20, 3) := by decide +kernel
theorem dX3_mostWithin_9 : decode cX3_mostWithin 9 = .ok (.iload_n 2, 1) := by decide +kernel
theorem dX3_mostWithin_10 : decode cX3_mostWithin 10 = .ok (.iload_n 0, 1) := by decide +kernel
theorem dX3_mostWithin_11 : decode cX3_mostWithin 11 = .ok (.iload_n 3, 1) := by decide +kernel
theorem dX3_mostWithin_12 : decode cX3_mostWithin 12 = .ok (.iload_n 1, 1) := by decide +kernel
theorem dX3_mostWithin_13 : decode cX3_mostWithin 13 = .ok (.invokestatic 30, 3) := by decide +kernel
theorem dX3_mostWithin_16 : decode cX3_mostWithin 16 = .ok (.invokestatic 33, 3) := by decide +kernel
theorem dX3_mostWithin_19 : decode cX3_mostWithin 19 = .ok (.istore_n 2, 1) := by decide +kernel
theorem dX3_mostWithin_20 : decode cX3_mostWithin 20 = .ok (.iinc 3 1, 3) := by decide +kernel
theorem dX3_mostWithin_23 : decode cX3_mostWithin 23 = .ok (.goto (-19), 3) := by decide +kernel
theorem dX3_mostWithin_26 : decode cX3_mostWithin 26 = .ok (.iload_n 2, 1) := by decide +kernel
theorem dX3_mostWithin_27 : decode cX3_mostWithin 27 = .ok (.ireturn, 1) := by decide +kernel
def f_X3_mostWithin_j26 (N : Nat) (x2 : Int32) : Option Int32 :=
  some x2
def f_X3_mostWithin_b4 (N : Nat) (x0 : Int32) (x1 : Int32) (x2 : Int32) (x3 : Int32) : Option ((Int32 × Int32) ⊕ ((Int32))) :=
  if x1 ≤ x3 then (some (.inr x2))
  else bd (f_X3_manyWithin N x0 x3 x1) fun r_2 =>
  nm (if x2 < r_2 then r_2 else x2) fun x2_4 =>
  nm (x3 + (1 : Int32)) fun x3_5 =>
  some (.inl (x2_4, x3_5))
def f_X3_mostWithin (N : Nat) (x0 : Int32) (x1 : Int32) : Option Int32 :=
  bd (lpF (fun s => f_X3_mostWithin_b4 N x0 x1 s.1 s.2) N ((0 : Int32), (0 : Int32))) (fun o => f_X3_mostWithin_j26 N o)
abbrev rmX3_mostWithin : Room := { frames := 3, cells := 0, slots := 0, locals := 69 }
set_option maxRecDepth 100000 in
set_option maxHeartbeats 4000000 in
theorem c_X3_mostWithin (l : Launch) (N : Nat) (x0 : Int32) (x1 : Int32) (r : Int32) (hf : f_X3_mostWithin N x0 x1 = some r) : MetS l yX3_mostWithin cX3_mostWithin 4 (some .int) rmX3_mostWithin [.int x0, .int x1] r := by
  refine mkS (by decide) (Nat.le_of_ble_eq_true rfl) rfl ?_
  intro p e s m args below meth cd Q ls h0 hK hret hl
  obtain ⟨S, hr, hlk⟩ := h0
  obtain ⟨hx, hb, hml, hown, ht⟩ := id S
  have hl : lv_has ls 4 [(0, .int x0), (1, .int x1)] := hl
  have hf := obs hf
  have j26 : ∀ (x2 : Int32) (ls : Array Slot), lv_has ls 4 [(2, .int x2)] → Option.bind (f_X3_mostWithin_j26 N x2) some = some r → W p l e rmX3_mostWithin s m args below meth cd s.heap [] 0 0 Q (F0 m 26 ls []) := by
    intro x2 ls hl hf
    have hf := oun (f_X3_mostWithin_j26.eq_1 _ _) hf
    refine lv_iload_n hx hb dX3_mostWithin_26 rfl (lv_at hl 0 rfl) ?_
    exact hret _ _ _ dX3_mostWithin_27 rfl (Option.some.inj hf)
  have L4 : ∀ (x0 : Int32) (x1 : Int32) (k : Nat) (x2 : Int32) (x3 : Int32) (ls : Array Slot), lv_has ls 4 [(0, .int x0), (1, .int x1), (2, .int x2), (3, .int x3)] → Option.bind (bd (lpF (fun s => f_X3_mostWithin_b4 N x0 x1 s.1 s.2) k (x2, x3)) (fun o => f_X3_mostWithin_j26 N o)) some = some r → W p l e rmX3_mostWithin s m args below meth cd s.heap [] 0 0 Q (F0 m 4 ls []) := by
    intro x0 x1 k
    induction k with
    | zero =>
      intro x2 x3 ls hl hf
      exact (ol0 hf).elim
    | succ k ih =>
      intro x2 x3 ls hl hf
      obtain ⟨K4, hf, hc4, hx4⟩ := ol1 hf
      have hf := oun (f_X3_mostWithin_b4.eq_1 N x0 x1 x2 x3) hf
      refine lv_iload_n hx hb dX3_mostWithin_4 rfl (lv_at hl 3 rfl) ?_
      refine lv_iload_n hx hb dX3_mostWithin_5 rfl (lv_at hl 1 rfl) ?_
      refine lv_icmp_ge (tgt := 26) hx hb dX3_mostWithin_6 (by decide) (fun c_1 => ?_) (fun c_1 => ?_)
      · have hf := oit c_1 hf
        exact j26 x2 _ (lv_sub hl [2] rfl) (okx hf (hx4 _))
      have hf := oif c_1 hf
      refine lv_iload_n hx hb dX3_mostWithin_9 rfl (lv_at hl 2 rfl) ?_
      refine lv_iload_n hx hb dX3_mostWithin_10 rfl (lv_at hl 0 rfl) ?_
      refine lv_iload_n hx hb dX3_mostWithin_11 rfl (lv_at hl 3 rfl) ?_
      refine lv_iload_n hx hb dX3_mostWithin_12 rfl (lv_at hl 1 rfl) ?_
      obtain ⟨r_2, h_3, hf⟩ := obd hf
      refine xs_S (As := [.int x0, .int x3, .int x1]) (rest := [.int x2]) S k_X3_manyWithin q398 q219 ⟨Nat.le_of_ble_eq_true rfl, Nat.le_of_ble_eq_true rfl⟩ ⟨rfl, rfl⟩ (c_X3_manyWithin l N x0 x3 x1 r_2 h_3) hK rfl hl.1 rfl (Nat.le_of_ble_eq_true rfl) dX3_mostWithin_13 ⟨Nat.zero_le _, Nat.zero_le _⟩ ?_
      refine va_mmax hx hb (hml.trans hl.1.symm) hown (ht _ q395) (ht _ q396) (ht _ q124) (ht _ q397) (by exact Nat.le_of_ble_eq_true rfl) (by exact Nat.le_of_ble_eq_true rfl) (Nat.zero_le _) (Nat.zero_le _) dX3_mostWithin_16 ?_
      obtain ⟨x2_4, ex2_4, hf⟩ := onm hf
      refine lv_nm ex2_4 ?_
      refine lv_istore_n (lv' := [(2, .int x2_4), (0, .int x0), (1, .int x1), (3, .int x3)]) hx hb dX3_mostWithin_19 rfl hl (by decide) rfl (fun ls hl => ?_)
      obtain ⟨x3_5, ex3_5, hf⟩ := onm hf
      refine lv_iinc (v := x3_5) (lv' := [(3, .int x3_5), (2, .int x2_4), (0, .int x0), (1, .int x1)]) hx hb dX3_mostWithin_20 hl (k := 3) rfl ex3_5 (by decide) rfl (fun ls hl => ?_)
      refine lv_goto (tgt := 4) hx hb dX3_mostWithin_23 (by decide) ?_
      exact ih x2_4 x3_5 _ (lv_sub hl [2, 3, 1, 0] rfl) (okx hf (hc4 _))
  have hf := oun (f_X3_mostWithin.eq_1 _ _ _) hf
  refine lv_iconst (v := (0 : Int32)) hx hb dX3_mostWithin_0 (by decide) ?_
  refine lv_istore_n (lv' := [(2, .int (0 : Int32)), (0, .int x0), (1, .int x1)]) hx hb dX3_mostWithin_1 rfl hl (by decide) rfl (fun ls hl => ?_)
  refine lv_iconst (v := (0 : Int32)) hx hb dX3_mostWithin_2 (by decide) ?_
  refine lv_istore_n (lv' := [(3, .int (0 : Int32)), (2, .int (0 : Int32)), (0, .int x0), (1, .int x1)]) hx hb dX3_mostWithin_3 rfl hl (by decide) rfl (fun ls hl => ?_)
  exact L4 x0 x1 N (0 : Int32) (0 : Int32) _ (lv_sub hl [2, 3, 1, 0] rfl) hf
theorem dX5_isFree_0 : decode cX5_isFree 0 = .ok (.iload_n 1, 1) := by decide +kernel
theorem dX5_isFree_1 : decode cX5_isFree 1 = .ok (.ifCond .eq 27, 3) := by decide +kernel
theorem dX5_isFree_4 : decode cX5_isFree 4 = .ok (.iload_n 2, 1) := by decide +kernel
theorem dX5_isFree_5 : decode cX5_isFree 5 = .ok (.iload_n 1, 1) := by decide +kernel
theorem dX5_isFree_6 : decode cX5_isFree 6 = .ok (.iconst 1, 1) := by decide +kernel
theorem dX5_isFree_7 : decode cX5_isFree 7 = .ok (.isub, 1) := by decide +kernel
theorem dX5_isFree_8 : decode cX5_isFree 8 = .ok (.invokestatic 124, 3) := by decide +kernel
theorem dX5_isFree_11 : decode cX5_isFree 11 = .ok (.ifCond .ne 21, 3) := by decide +kernel
theorem dX5_isFree_14 : decode cX5_isFree 14 = .ok (.iload_n 3, 1) := by decide +kernel
theorem dX5_isFree_15 : decode cX5_isFree 15 = .ok (.iconst 4, 1) := by decide +kernel
theorem dX5_isFree_16 : decode cX5_isFree 16 = .ok (.iload_n 0, 1) := by decide +kernel
theorem dX5_isFree_17 : decode cX5_isFree 17 = .ok (.imul, 1) := by decide +kernel
theorem dX5_isFree_18 : decode cX5_isFree 18 = .ok (.iload_n 1, 1) := by decide +kernel
theorem dX5_isFree_19 : decode cX5_isFree 19 = .ok (.iadd, 1) := by decide +kernel
theorem dX5_isFree_20 : decode cX5_isFree 20 = .ok (.iconst 1, 1) := by decide +kernel
theorem dX5_isFree_21 : decode cX5_isFree 21 = .ok (.isub, 1) := by decide +kernel
theorem dX5_isFree_22 : decode cX5_isFree 22 = .ok (.invokestatic 124, 3) := by decide +kernel
theorem dX5_isFree_25 : decode cX5_isFree 25 = .ok (.ifCond .eq 7, 3) := by decide +kernel
theorem dX5_isFree_28 : decode cX5_isFree 28 = .ok (.iconst 1, 1) := by decide +kernel
theorem dX5_isFree_29 : decode cX5_isFree 29 = .ok (.goto 4, 3) := by decide +kernel
theorem dX5_isFree_32 : decode cX5_isFree 32 = .ok (.iconst 0, 1) := by decide +kernel
theorem dX5_isFree_33 : decode cX5_isFree 33 = .ok (.ireturn, 1) := by decide +kernel
def f_X5_isFree_j28 : Option Int32 :=
  some (1 : Int32)
def f_X5_isFree (x0 : Int32) (x1 : Int32) (x2 : Int32) (x3 : Int32) : Option Int32 :=
  if x1 = 0 then (f_X5_isFree_j28)
  else bd (f_X5_has x2 (x1 - (1 : Int32))) fun r_2 =>
  if r_2 = 0 then (bd (f_X5_has x3 ((((4 : Int32) * x0) + x1) - (1 : Int32))) fun r_5 =>
    if r_5 = 0 then (some (0 : Int32))
    else f_X5_isFree_j28)
  else some (0 : Int32)
abbrev rmX5_isFree : Room := { frames := 1, cells := 0, slots := 0, locals := 21 }
set_option maxRecDepth 100000 in
set_option maxHeartbeats 4000000 in
theorem c_X5_isFree (l : Launch) (x0 : Int32) (x1 : Int32) (x2 : Int32) (x3 : Int32) (r : Int32) (hf : f_X5_isFree x0 x1 x2 x3 = some r) : MetS l yX5_isFree cX5_isFree 4 (some .boolean) rmX5_isFree [.int x0, .int x1, .int x2, .int x3] r := by
  refine mkS (by decide) (Nat.le_of_ble_eq_true rfl) rfl ?_
  intro p e s m args below meth cd Q ls h0 hK hret hl
  obtain ⟨S, hr, hlk⟩ := h0
  obtain ⟨hx, hb, hml, hown, ht⟩ := id S
  have hl : lv_has ls 4 [(0, .int x0), (1, .int x1), (2, .int x2), (3, .int x3)] := hl
  have hf := obs hf
  have j28 : ∀ (ls : Array Slot), lv_has ls 4 [] → Option.bind (f_X5_isFree_j28) some = some r → W p l e rmX5_isFree s m args below meth cd s.heap [] 0 0 Q (F0 m 28 ls []) := by
    intro ls hl hf
    have hf := oun (f_X5_isFree_j28.eq_1) hf
    refine lv_iconst (v := (1 : Int32)) hx hb dX5_isFree_28 (by decide) ?_
    refine lv_goto (tgt := 33) hx hb dX5_isFree_29 (by decide) ?_
    exact hret _ _ _ dX5_isFree_33 (by decide) (Option.some.inj hf)
  have hf := oun (f_X5_isFree.eq_1 _ _ _ _) hf
  refine lv_iload_n hx hb dX5_isFree_0 rfl (lv_at hl 1 rfl) ?_
  refine lv_if_eq (tgt := 28) hx hb dX5_isFree_1 (by decide) (fun c_1 => ?_) (fun c_1 => ?_)
  · have hf := oit c_1 hf
    exact j28 _ (lv_sub hl [] rfl) hf
  have hf := oif c_1 hf
  refine lv_iload_n hx hb dX5_isFree_4 rfl (lv_at hl 2 rfl) ?_
  refine lv_iload_n hx hb dX5_isFree_5 rfl (lv_at hl 1 rfl) ?_
  refine lv_iconst (v := (1 : Int32)) hx hb dX5_isFree_6 (by decide) ?_
  refine lv_isub hx hb dX5_isFree_7 ?_
  obtain ⟨r_2, h_3, hf⟩ := obd hf
  refine xs_S (As := [.int x2, .int (x1 - (1 : Int32))]) (rest := []) S k_X5_has q214 q202 ⟨Nat.le_of_ble_eq_true rfl, Nat.le_of_ble_eq_true rfl⟩ ⟨rfl, rfl⟩ (c_X5_has l x2 (x1 - (1 : Int32)) r_2 h_3) hK rfl hl.1 rfl (Nat.le_of_ble_eq_true rfl) dX5_isFree_8 ⟨Nat.zero_le _, Nat.zero_le _⟩ ?_
  refine lv_if_ne (tgt := 32) hx hb dX5_isFree_11 (by decide) (fun c_4 => ?_) (fun c_4 => ?_)
  · have hf := oif c_4 hf
    refine lv_iconst (v := (0 : Int32)) hx hb dX5_isFree_32 (by decide) ?_
    exact hret _ _ _ dX5_isFree_33 (by decide) (Option.some.inj hf)
  have hf := oit c_4 hf
  refine lv_iload_n hx hb dX5_isFree_14 rfl (lv_at hl 3 rfl) ?_
  refine lv_iconst (v := (4 : Int32)) hx hb dX5_isFree_15 (by decide) ?_
  refine lv_iload_n hx hb dX5_isFree_16 rfl (lv_at hl 0 rfl) ?_
  refine lv_imul hx hb dX5_isFree_17 ?_
  refine lv_iload_n hx hb dX5_isFree_18 rfl (lv_at hl 1 rfl) ?_
  refine lv_iadd hx hb dX5_isFree_19 ?_
  refine lv_iconst (v := (1 : Int32)) hx hb dX5_isFree_20 (by decide) ?_
  refine lv_isub hx hb dX5_isFree_21 ?_
  obtain ⟨r_5, h_6, hf⟩ := obd hf
  refine xs_S (As := [.int x3, .int ((((4 : Int32) * x0) + x1) - (1 : Int32))]) (rest := []) S k_X5_has q214 q202 ⟨Nat.le_of_ble_eq_true rfl, Nat.le_of_ble_eq_true rfl⟩ ⟨rfl, rfl⟩ (c_X5_has l x3 ((((4 : Int32) * x0) + x1) - (1 : Int32)) r_5 h_6) hK rfl hl.1 rfl (Nat.le_of_ble_eq_true rfl) dX5_isFree_22 ⟨Nat.zero_le _, Nat.zero_le _⟩ ?_
  refine lv_if_eq (tgt := 32) hx hb dX5_isFree_25 (by decide) (fun c_7 => ?_) (fun c_7 => ?_)
  · have hf := oit c_7 hf
    refine lv_iconst (v := (0 : Int32)) hx hb dX5_isFree_32 (by decide) ?_
    exact hret _ _ _ dX5_isFree_33 (by decide) (Option.some.inj hf)
  have hf := oif c_7 hf
  exact j28 _ (lv_sub hl [] rfl) hf
theorem dX5_leastWith_0 : decode cX5_leastWith 0 = .ok (.iload_n 1, 1) := by decide +kernel
theorem dX5_leastWith_1 : decode cX5_leastWith 1 = .ok (.ifCond .ne 16, 3) := by decide +kernel
theorem dX5_leastWith_4 : decode cX5_leastWith 4 = .ok (.iconst 1, 1) := by decide +kernel
theorem dX5_leastWith_5 : decode cX5_leastWith 5 = .ok (.iload_n 0, 1) := by decide +kernel
theorem dX5_leastWith_6 : decode cX5_leastWith 6 = .ok (.iconst 1, 1) := by decide +kernel
theorem dX5_leastWith_7 : decode cX5_leastWith 7 = .ok (.iadd, 1) := by decide +kernel
theorem dX5_leastWith_8 : decode cX5_leastWith 8 = .ok (.iload_n 2, 1) := by decide +kernel
theorem dX5_leastWith_9 : decode cX5_leastWith 9 = .ok (.iload_n 3, 1) := by decide +kernel
theorem dX5_leastWith_10 : decode cX5_leastWith 10 = .ok (.iload 4, 2) := by decide +kernel
theorem dX5_leastWith_12 : decode cX5_leastWith 12 = .ok (.invokestatic 214, 3) := by decide +kernel
theorem dX5_leastWith_15 : decode cX5_leastWith 15 = .ok (.iadd, 1) := by decide +kernel
theorem dX5_leastWith_16 : decode cX5_leastWith 16 = .ok (.ireturn, 1) := by decide +kernel
theorem dX5_leastWith_17 : decode cX5_leastWith 17 = .ok (.iload_n 0, 1) := by decide +kernel
theorem dX5_leastWith_18 : decode cX5_leastWith 18 = .ok (.iconst 1, 1) := by decide +kernel
theorem dX5_leastWith_19 : decode cX5_leastWith 19 = .ok (.iadd, 1) := by decide +kernel
theorem dX5_leastWith_20 : decode cX5_leastWith 20 = .ok (.iload_n 2, 1) := by decide +kernel
theorem dX5_leastWith_21 : decode cX5_leastWith 21 = .ok (.iconst 1, 1) := by decide +kernel
theorem dX5_leastWith_22 : decode cX5_leastWith 22 = .ok (.iload_n 1, 1) := by decide +kernel
theorem dX5_leastWith_23 : decode cX5_leastWith 23 = .ok (.iconst 1, 1) := by decide +kernel
theorem dX5_leastWith_24 : decode cX5_leastWith 24 = .ok (.isub, 1) := by decide +kernel
theorem dX5_leastWith_25 : decode cX5_leastWith 25 = .ok (.ishl, 1) := by decide +kernel
theorem dX5_leastWith_26 : decode cX5_leastWith 26 = .ok (.ior, 1) := by decide +kernel
theorem dX5_leastWith_27 : decode cX5_leastWith 27 = .ok (.iload_n 3, 1) := by decide +kernel
theorem dX5_leastWith_28 : decode cX5_leastWith 28 = .ok (.iload 4, 2) := by decide +kernel
theorem dX5_leastWith_30 : decode cX5_leastWith 30 = .ok (.invokestatic 214, 3) := by decide +kernel
theorem dX5_leastWith_33 : decode cX5_leastWith 33 = .ok (.ireturn, 1) := by decide +kernel
def f_X5_leastWith (N : Nat) (rc : Int32 → Int32 → Int32 → Int32 → Option Int32) (x0 : Int32) (x1 : Int32) (x2 : Int32) (x3 : Int32) (x4 : Int32) : Option Int32 :=
  if x1 = 0 then (bd (rc (x0 + (1 : Int32)) x2 x3 x4) fun r_4 =>
    some ((1 : Int32) + r_4))
  else bd (rc (x0 + (1 : Int32)) (x2 ||| ((1 : Int32) <<< ((x1 - (1 : Int32)) &&& 31))) x3 x4) fun r_2 =>
    some r_2
set_option maxRecDepth 100000 in
set_option maxHeartbeats 4000000 in
theorem c_X5_leastWith (l : Launch) (N : Nat) (dk : Nat) (rc : Int32 → Int32 → Int32 → Int32 → Option Int32) (hrc : ∀ (z0 : Int32) (z1 : Int32) (z2 : Int32) (z3 : Int32) (r : Int32), rc z0 z1 z2 z3 = some r → MetS l yX5_leastOnTable cX5_leastOnTable 6 (some .int) (rrF (2 * dk)) [.int z0, .int z1, .int z2, .int z3] r) (x0 : Int32) (x1 : Int32) (x2 : Int32) (x3 : Int32) (x4 : Int32) (r : Int32) (hf : f_X5_leastWith N rc x0 x1 x2 x3 x4 = some r) : MetS l yX5_leastWith cX5_leastWith 5 (some .int) (rrF (2 * dk + 1)) [.int x0, .int x1, .int x2, .int x3, .int x4] r := by
  refine mkS (by decide) (Nat.le_of_ble_eq_true rfl) rfl ?_
  intro p e s m args below meth cd Q ls h0 hK hret hl
  obtain ⟨S, hr, hlk⟩ := h0
  obtain ⟨hx, hb, hml, hown, ht⟩ := id S
  have hl : lv_has ls 5 [(0, .int x0), (1, .int x1), (2, .int x2), (3, .int x3), (4, .int x4)] := hl
  have hf := obs hf
  have hf := oun (f_X5_leastWith.eq_1 _ _ _ _ _ _ _) hf
  refine lv_iload_n hx hb dX5_leastWith_0 rfl (lv_at hl 1 rfl) ?_
  refine lv_if_ne (tgt := 17) hx hb dX5_leastWith_1 (by decide) (fun c_1 => ?_) (fun c_1 => ?_)
  · have hf := oif c_1 hf
    refine lv_iload_n hx hb dX5_leastWith_17 rfl (lv_at hl 0 rfl) ?_
    refine lv_iconst (v := (1 : Int32)) hx hb dX5_leastWith_18 (by decide) ?_
    refine lv_iadd hx hb dX5_leastWith_19 ?_
    refine lv_iload_n hx hb dX5_leastWith_20 rfl (lv_at hl 2 rfl) ?_
    refine lv_iconst (v := (1 : Int32)) hx hb dX5_leastWith_21 (by decide) ?_
    refine lv_iload_n hx hb dX5_leastWith_22 rfl (lv_at hl 1 rfl) ?_
    refine lv_iconst (v := (1 : Int32)) hx hb dX5_leastWith_23 (by decide) ?_
    refine lv_isub hx hb dX5_leastWith_24 ?_
    refine lv_ishl hx hb dX5_leastWith_25 ?_
    refine lv_ior hx hb dX5_leastWith_26 ?_
    refine lv_iload_n hx hb dX5_leastWith_27 rfl (lv_at hl 3 rfl) ?_
    refine lv_iload hx hb dX5_leastWith_28 (lv_at hl 4 rfl) ?_
    obtain ⟨r_2, h_3, hf⟩ := obd hf
    refine xs_S (As := [.int (x0 + (1 : Int32)), .int (x2 ||| ((1 : Int32) <<< ((x1 - (1 : Int32)) &&& 31))), .int x3, .int x4]) (rest := []) S k_X5_leastOnTable q507 q508 ⟨rr_a (f := 2 * dk) (by omega), rr_b (x := 8 + (6 + 11) + (60 * (2 * dk) + 60)) (by omega)⟩ ⟨rfl, rfl⟩ (hrc (x0 + (1 : Int32)) (x2 ||| ((1 : Int32) <<< ((x1 - (1 : Int32)) &&& 31))) x3 x4 r_2 h_3) hK rfl hl.1 rfl (Nat.le_of_ble_eq_true rfl) dX5_leastWith_30 ⟨Nat.zero_le _, Nat.zero_le _⟩ ?_
    exact hret _ _ _ dX5_leastWith_33 rfl (Option.some.inj hf)
  have hf := oit c_1 hf
  refine lv_iconst (v := (1 : Int32)) hx hb dX5_leastWith_4 (by decide) ?_
  refine lv_iload_n hx hb dX5_leastWith_5 rfl (lv_at hl 0 rfl) ?_
  refine lv_iconst (v := (1 : Int32)) hx hb dX5_leastWith_6 (by decide) ?_
  refine lv_iadd hx hb dX5_leastWith_7 ?_
  refine lv_iload_n hx hb dX5_leastWith_8 rfl (lv_at hl 2 rfl) ?_
  refine lv_iload_n hx hb dX5_leastWith_9 rfl (lv_at hl 3 rfl) ?_
  refine lv_iload hx hb dX5_leastWith_10 (lv_at hl 4 rfl) ?_
  obtain ⟨r_4, h_5, hf⟩ := obd hf
  refine xs_S (As := [.int (x0 + (1 : Int32)), .int x2, .int x3, .int x4]) (rest := [.int (1 : Int32)]) S k_X5_leastOnTable q507 q508 ⟨rr_a (f := 2 * dk) (by omega), rr_b (x := 8 + (6 + 11) + (60 * (2 * dk) + 60)) (by omega)⟩ ⟨rfl, rfl⟩ (hrc (x0 + (1 : Int32)) x2 x3 x4 r_4 h_5) hK rfl hl.1 rfl (Nat.le_of_ble_eq_true rfl) dX5_leastWith_12 ⟨Nat.zero_le _, Nat.zero_le _⟩ ?_
  refine lv_iadd hx hb dX5_leastWith_15 ?_
  exact hret _ _ _ dX5_leastWith_16 rfl (Option.some.inj hf)
theorem dX5_leastOnTable_0 : decode cX5_leastOnTable 0 = .ok (.iload_n 0, 1) := by decide +kernel
theorem dX5_leastOnTable_1 : decode cX5_leastOnTable 1 = .ok (.iload_n 2, 1) := by decide +kernel
theorem dX5_leastOnTable_2 : decode cX5_leastOnTable 2 = .ok (.if_icmp .lt 5, 3) := by decide +kernel
theorem dX5_leastOnTable_5 : decode cX5_leastOnTable 5 = .ok (.iconst 0, 1) := by decide +kernel
theorem dX5_leastOnTable_6 : decode cX5_leastOnTable 6 = .ok (.ireturn, 1) := by decide +kernel
theorem dX5_leastOnTable_7 : decode cX5_leastOnTable 7 = .ok (.iconst 4, 1) := by decide +kernel
theorem dX5_leastOnTable_8 : decode cX5_leastOnTable 8 = .ok (.istore 4, 2) := by decide +kernel
theorem dX5_leastOnTable_10 : decode cX5_leastOnTable 10 = .ok (.iconst 0, 1) := by decide +kernel
theorem dX5_leastOnTable_11 : decode cX5_leastOnTable 11 = .ok (.istore 5, 2) := by decide +kernel
theorem dX5_leastOnTable_13 : decode cX5_leastOnTable 13 = .ok (.iload 5, 2) := by decide +kernel
theorem dX5_leastOnTable_15 : decode cX5_leastOnTable 15 = .ok (.iload_n 2, 1) := by decide +kernel
theorem dX5_leastOnTable_16 : decode cX5_leastOnTable 16 = .ok (.if_icmp .gt 36, 3) := by decide +kernel
theorem dX5_leastOnTable_19 : decode cX5_leastOnTable 19 = .ok (.iload_n 0, 1) := by decide +kernel
theorem dX5_leastOnTable_20 : decode cX5_leastOnTable 20 = .ok (.iload 5, 2) := by decide +kernel
theorem dX5_leastOnTable_22 : decode cX5_leastOnTable 22 = .ok (.iload_n 1, 1) := by decide +kernel
theorem dX5_leastOnTable_23 : decode cX5_leastOnTable 23 = .ok (.iload_n 3, 1) := by decide +kernel
theorem dX5_leastOnTable_24 : decode cX5_leastOnTable 24 = .ok (.invokestatic 224, 3) := by decide +kernel
theorem dX5_leastOnTable_27 : decode cX5_leastOnTable 27 = .ok (.ifCond .eq 19, 3) := by decide +kernel
theorem dX5_leastOnTable_30 : decode cX5_leastOnTable 30 = .ok (.iload 4, 2) := by decide +kernel
theorem dX5_leastOnTable_32 : decode cX5_leastOnTable 32 = .ok (.iload_n 0, 1) := by decide +kernel
theorem dX5_leastOnTable_33 : decode cX5_leastOnTable 33 = .ok (.iload 5, 2) := by decide +kernel
theorem dX5_leastOnTable_35 : decode cX5_leastOnTable 35 = .ok (.iload_n 1, 1) := by decide +kernel
theorem dX5_leastOnTable_36 : decode cX5_leastOnTable 36 = .ok (.iload_n 2, 1) := by decide +kernel
theorem dX5_leastOnTable_37 : decode cX5_leastOnTable 37 = .ok (.iload_n 3, 1) := by decide +kernel
theorem dX5_leastOnTable_38 : decode cX5_leastOnTable 38 = .ok (.invokestatic 227, 3) := by decide +kernel
theorem dX5_leastOnTable_41 : decode cX5_leastOnTable 41 = .ok (.invokestatic 231, 3) := by decide +kernel
theorem dX5_leastOnTable_44 : decode cX5_leastOnTable 44 = .ok (.istore 4, 2) := by decide +kernel
theorem dX5_leastOnTable_46 : decode cX5_leastOnTable 46 = .ok (.iinc 5 1, 3) := by decide +kernel
theorem dX5_leastOnTable_49 : decode cX5_leastOnTable 49 = .ok (.goto (-36), 3) := by decide +kernel
theorem dX5_leastOnTable_52 : decode cX5_leastOnTable 52 = .ok (.iload 4, 2) := by decide +kernel
theorem dX5_leastOnTable_54 : decode cX5_leastOnTable 54 = .ok (.ireturn, 1) := by decide +kernel
def f_X5_leastOnTable_j52 (N : Nat) (rc : Int32 → Int32 → Int32 → Int32 → Option Int32) (x4 : Int32) : Option Int32 :=
  some x4
def f_X5_leastOnTable_j46 (N : Nat) (rc : Int32 → Int32 → Int32 → Int32 → Option Int32) (x0 : Int32) (x1 : Int32) (x2 : Int32) (x3 : Int32) (x4 : Int32) (x5 : Int32) : Option ((Int32 × Int32) ⊕ ((Int32))) :=
  nm (x5 + (1 : Int32)) fun x5_1 =>
  some (.inl (x4, x5_1))
def f_X5_leastOnTable_b13 (N : Nat) (rc : Int32 → Int32 → Int32 → Int32 → Option Int32) (x0 : Int32) (x1 : Int32) (x2 : Int32) (x3 : Int32) (x4 : Int32) (x5 : Int32) : Option ((Int32 × Int32) ⊕ ((Int32))) :=
  if x2 < x5 then (some (.inr x4))
  else bd (f_X5_isFree x0 x5 x1 x3) fun r_3 =>
  if r_3 = 0 then (f_X5_leastOnTable_j46 N rc x0 x1 x2 x3 x4 x5)
  else bd (f_X5_leastWith N rc x0 x5 x1 x2 x3) fun r_6 =>
  nm (if r_6 < x4 then r_6 else x4) fun x4_8 =>
  f_X5_leastOnTable_j46 N rc x0 x1 x2 x3 x4_8 x5
def f_X5_leastOnTable_g (N : Nat) (rc : Int32 → Int32 → Int32 → Int32 → Option Int32) (x0 : Int32) (x1 : Int32) (x2 : Int32) (x3 : Int32) : Option Int32 :=
  if x0 < x2 then (bd (lpF (fun s => f_X5_leastOnTable_b13 N rc x0 x1 x2 x3 s.1 s.2) N ((4 : Int32), (0 : Int32))) (fun o => f_X5_leastOnTable_j52 N rc o))
  else some (0 : Int32)
def f_X5_leastOnTable (N : Nat) : Nat → Int32 → Int32 → Int32 → Int32 → Option Int32
  | 0 => fun _ _ _ _ => none
  | k + 1 => f_X5_leastOnTable_g N (f_X5_leastOnTable N k)
set_option maxRecDepth 100000 in
set_option maxHeartbeats 4000000 in
theorem c_X5_leastOnTable (l : Launch) (N : Nat) : ∀ (dk : Nat) (x0 : Int32) (x1 : Int32) (x2 : Int32) (x3 : Int32) (r : Int32) (hf : f_X5_leastOnTable N dk x0 x1 x2 x3 = some r), MetS l yX5_leastOnTable cX5_leastOnTable 6 (some .int) (rrF (2 * dk)) [.int x0, .int x1, .int x2, .int x3] r := by
  intro dk
  induction dk with
  | zero => intro x0 x1 x2 x3 r hf; cases hf
  | succ dk hrc =>
  intro x0 x1 x2 x3 r hf
  have hf : f_X5_leastOnTable_g N (f_X5_leastOnTable N dk) x0 x1 x2 x3 = some r := hf
  generalize f_X5_leastOnTable N dk = rc at hf hrc
  refine mkS (by decide) (Nat.le_of_ble_eq_true rfl) rfl ?_
  intro p e s m args below meth cd Q ls h0 hK hret hl
  obtain ⟨S, hr, hlk⟩ := h0
  obtain ⟨hx, hb, hml, hown, ht⟩ := id S
  have hl : lv_has ls 6 [(0, .int x0), (1, .int x1), (2, .int x2), (3, .int x3)] := hl
  have hf := obs hf
  have j52 : ∀ (x4 : Int32) (ls : Array Slot), lv_has ls 6 [(4, .int x4)] → Option.bind (f_X5_leastOnTable_j52 N rc x4) some = some r → W p l e (rrF (2 * dk + 2)) s m args below meth cd s.heap [] 0 0 Q (F0 m 52 ls []) := by
    intro x4 ls hl hf
    have hf := oun (f_X5_leastOnTable_j52.eq_1 _ _ _) hf
    refine lv_iload hx hb dX5_leastOnTable_52 (lv_at hl 0 rfl) ?_
    exact hret _ _ _ dX5_leastOnTable_54 rfl (Option.some.inj hf)
  have L13 : ∀ (x0 : Int32) (x1 : Int32) (x2 : Int32) (x3 : Int32) (k : Nat) (x4 : Int32) (x5 : Int32) (ls : Array Slot), lv_has ls 6 [(0, .int x0), (1, .int x1), (2, .int x2), (3, .int x3), (4, .int x4), (5, .int x5)] → Option.bind (bd (lpF (fun s => f_X5_leastOnTable_b13 N rc x0 x1 x2 x3 s.1 s.2) k (x4, x5)) (fun o => f_X5_leastOnTable_j52 N rc o)) some = some r → W p l e (rrF (2 * dk + 2)) s m args below meth cd s.heap [] 0 0 Q (F0 m 13 ls []) := by
    intro x0 x1 x2 x3 k
    induction k with
    | zero =>
      intro x4 x5 ls hl hf
      exact (ol0 hf).elim
    | succ k ih =>
      intro x4 x5 ls hl hf
      obtain ⟨K13, hf, hc13, hx13⟩ := ol1 hf
      have j46 : ∀ (x4 : Int32) (x5 : Int32) (ls : Array Slot), lv_has ls 6 [(0, .int x0), (1, .int x1), (2, .int x2), (3, .int x3), (4, .int x4), (5, .int x5)] → Option.bind (f_X5_leastOnTable_j46 N rc x0 x1 x2 x3 x4 x5) K13 = some r → W p l e (rrF (2 * dk + 2)) s m args below meth cd s.heap [] 0 0 Q (F0 m 46 ls []) := by
        intro x4 x5 ls hl hf
        have hf := oun (f_X5_leastOnTable_j46.eq_1 _ _ _ _ _ _ _ _) hf
        obtain ⟨x5_1, ex5_1, hf⟩ := onm hf
        refine lv_iinc (v := x5_1) (lv' := [(5, .int x5_1), (0, .int x0), (1, .int x1), (2, .int x2), (3, .int x3), (4, .int x4)]) hx hb dX5_leastOnTable_46 hl (k := 5) rfl ex5_1 (by decide) rfl (fun ls hl => ?_)
        refine lv_goto (tgt := 13) hx hb dX5_leastOnTable_49 (by decide) ?_
        exact ih x4 x5_1 _ (lv_sub hl [1, 2, 3, 4, 5, 0] rfl) (okx hf (hc13 _))
      have hf := oun (f_X5_leastOnTable_b13.eq_1 N rc x0 x1 x2 x3 x4 x5) hf
      refine lv_iload hx hb dX5_leastOnTable_13 (lv_at hl 5 rfl) ?_
      refine lv_iload_n hx hb dX5_leastOnTable_15 rfl (lv_at hl 2 rfl) ?_
      refine lv_icmp_gt (tgt := 52) hx hb dX5_leastOnTable_16 (by decide) (fun c_2 => ?_) (fun c_2 => ?_)
      · have hf := oit c_2 hf
        exact j52 x4 _ (lv_sub hl [4] rfl) (okx hf (hx13 _))
      have hf := oif c_2 hf
      refine lv_iload_n hx hb dX5_leastOnTable_19 rfl (lv_at hl 0 rfl) ?_
      refine lv_iload hx hb dX5_leastOnTable_20 (lv_at hl 5 rfl) ?_
      refine lv_iload_n hx hb dX5_leastOnTable_22 rfl (lv_at hl 1 rfl) ?_
      refine lv_iload_n hx hb dX5_leastOnTable_23 rfl (lv_at hl 3 rfl) ?_
      obtain ⟨r_3, h_4, hf⟩ := obd hf
      refine xs_S (As := [.int x0, .int x5, .int x1, .int x3]) (rest := []) S k_X5_isFree q511 q512 ⟨rr_a (f := 1) (by omega), rr_b (x := 8 + (4 + 11) + (21)) (by omega)⟩ ⟨rfl, rfl⟩ (c_X5_isFree l x0 x5 x1 x3 r_3 h_4) hK rfl hl.1 rfl (Nat.le_of_ble_eq_true rfl) dX5_leastOnTable_24 ⟨Nat.zero_le _, Nat.zero_le _⟩ ?_
      refine lv_if_eq (tgt := 46) hx hb dX5_leastOnTable_27 (by decide) (fun c_5 => ?_) (fun c_5 => ?_)
      · have hf := oit c_5 hf
        exact j46 x4 x5 _ (lv_sub hl [0, 1, 2, 3, 4, 5] rfl) hf
      have hf := oif c_5 hf
      refine lv_iload hx hb dX5_leastOnTable_30 (lv_at hl 4 rfl) ?_
      refine lv_iload_n hx hb dX5_leastOnTable_32 rfl (lv_at hl 0 rfl) ?_
      refine lv_iload hx hb dX5_leastOnTable_33 (lv_at hl 5 rfl) ?_
      refine lv_iload_n hx hb dX5_leastOnTable_35 rfl (lv_at hl 1 rfl) ?_
      refine lv_iload_n hx hb dX5_leastOnTable_36 rfl (lv_at hl 2 rfl) ?_
      refine lv_iload_n hx hb dX5_leastOnTable_37 rfl (lv_at hl 3 rfl) ?_
      obtain ⟨r_6, h_7, hf⟩ := obd hf
      refine xs_S (As := [.int x0, .int x5, .int x1, .int x2, .int x3]) (rest := [.int x4]) S k_X5_leastWith q514 q515 ⟨rr_a (f := 2 * dk + 1) (by omega), rr_b (x := 8 + (5 + 11) + (60 * (2 * dk + 1) + 60)) (by omega)⟩ ⟨rfl, rfl⟩ (c_X5_leastWith l N dk rc hrc x0 x5 x1 x2 x3 r_6 h_7) hK rfl hl.1 rfl (Nat.le_of_ble_eq_true rfl) dX5_leastOnTable_38 ⟨Nat.zero_le _, Nat.zero_le _⟩ ?_
      refine va_mmin hx hb (hml.trans hl.1.symm) hown (ht _ q510) (ht _ q123) (ht _ q124) (ht _ q125) (by exact rr_a (f := 0) (by omega)) (by exact rr_b (x := 0 + 13) (by omega)) (Nat.zero_le _) (Nat.zero_le _) dX5_leastOnTable_41 ?_
      obtain ⟨x4_8, ex4_8, hf⟩ := onm hf
      refine lv_nm ex4_8 ?_
      refine lv_istore (lv' := [(4, .int x4_8), (0, .int x0), (1, .int x1), (2, .int x2), (3, .int x3), (5, .int x5)]) hx hb dX5_leastOnTable_44 hl (by decide) rfl (fun ls hl => ?_)
      exact j46 x4_8 x5 _ (lv_sub hl [1, 2, 3, 4, 0, 5] rfl) hf
  have hf := oun (f_X5_leastOnTable_g.eq_1 _ _ _ _ _ _) hf
  refine lv_iload_n hx hb dX5_leastOnTable_0 rfl (lv_at hl 0 rfl) ?_
  refine lv_iload_n hx hb dX5_leastOnTable_1 rfl (lv_at hl 2 rfl) ?_
  refine lv_icmp_lt (tgt := 7) hx hb dX5_leastOnTable_2 (by decide) (fun c_9 => ?_) (fun c_9 => ?_)
  · have hf := oit c_9 hf
    refine lv_iconst (v := (4 : Int32)) hx hb dX5_leastOnTable_7 (by decide) ?_
    refine lv_istore (lv' := [(4, .int (4 : Int32)), (0, .int x0), (1, .int x1), (2, .int x2), (3, .int x3)]) hx hb dX5_leastOnTable_8 hl (by decide) rfl (fun ls hl => ?_)
    refine lv_iconst (v := (0 : Int32)) hx hb dX5_leastOnTable_10 (by decide) ?_
    refine lv_istore (lv' := [(5, .int (0 : Int32)), (4, .int (4 : Int32)), (0, .int x0), (1, .int x1), (2, .int x2), (3, .int x3)]) hx hb dX5_leastOnTable_11 hl (by decide) rfl (fun ls hl => ?_)
    exact L13 x0 x1 x2 x3 N (4 : Int32) (0 : Int32) _ (lv_sub hl [2, 3, 4, 5, 1, 0] rfl) hf
  have hf := oif c_9 hf
  refine lv_iconst (v := (0 : Int32)) hx hb dX5_leastOnTable_5 (by decide) ?_
  exact hret _ _ _ dX5_leastOnTable_6 rfl (Option.some.inj hf)
theorem dX5_firstPlace_0 : decode cX5_firstPlace 0 = .ok (.iload_n 0, 1) := by decide +kernel
theorem dX5_firstPlace_1 : decode cX5_firstPlace 1 = .ok (.iload_n 1, 1) := by decide +kernel
theorem dX5_firstPlace_2 : decode cX5_firstPlace 2 = .ok (.iload_n 2, 1) := by decide +kernel
theorem dX5_firstPlace_3 : decode cX5_firstPlace 3 = .ok (.iload_n 3, 1) := by decide +kernel
theorem dX5_firstPlace_4 : decode cX5_firstPlace 4 = .ok (.invokestatic 214, 3) := by decide +kernel
theorem dX5_firstPlace_7 : decode cX5_firstPlace 7 = .ok (.istore 4, 2) := by decide +kernel
theorem dX5_firstPlace_9 : decode cX5_firstPlace 9 = .ok (.iconst 0, 1) := by decide +kernel
theorem dX5_firstPlace_10 : decode cX5_firstPlace 10 = .ok (.istore 5, 2) := by decide +kernel
theorem dX5_firstPlace_12 : decode cX5_firstPlace 12 = .ok (.iload 5, 2) := by decide +kernel
theorem dX5_firstPlace_14 : decode cX5_firstPlace 14 = .ok (.iload_n 2, 1) := by decide +kernel
theorem dX5_firstPlace_15 : decode cX5_firstPlace 15 = .ok (.if_icmp .gt 37, 3) := by decide +kernel
theorem dX5_firstPlace_18 : decode cX5_firstPlace 18 = .ok (.iload_n 0, 1) := by decide +kernel
theorem dX5_firstPlace_19 : decode cX5_firstPlace 19 = .ok (.iload 5, 2) := by decide +kernel
theorem dX5_firstPlace_21 : decode cX5_firstPlace 21 = .ok (.iload_n 1, 1) := by decide +kernel
theorem dX5_firstPlace_22 : decode cX5_firstPlace 22 = .ok (.iload_n 3, 1) := by decide +kernel
theorem dX5_firstPlace_23 : decode cX5_firstPlace 23 = .ok (.invokestatic 224, 3) := by decide +kernel
theorem dX5_firstPlace_26 : decode cX5_firstPlace 26 = .ok (.ifCond .eq 20, 3) := by decide +kernel
theorem dX5_firstPlace_29 : decode cX5_firstPlace 29 = .ok (.iload 4, 2) := by decide +kernel
theorem dX5_firstPlace_31 : decode cX5_firstPlace 31 = .ok (.iload_n 0, 1) := by decide +kernel
theorem dX5_firstPlace_32 : decode cX5_firstPlace 32 = .ok (.iload 5, 2) := by decide +kernel
theorem dX5_firstPlace_34 : decode cX5_firstPlace 34 = .ok (.iload_n 1, 1) := by decide +kernel
theorem dX5_firstPlace_35 : decode cX5_firstPlace 35 = .ok (.iload_n 2, 1) := by decide +kernel
theorem dX5_firstPlace_36 : decode cX5_firstPlace 36 = .ok (.iload_n 3, 1) := by decide +kernel
theorem dX5_firstPlace_37 : decode cX5_firstPlace 37 = .ok (.invokestatic 227, 3) := by decide +kernel
theorem dX5_firstPlace_40 : decode cX5_firstPlace 40 = .ok (.if_icmp .ne 6, 3) := by decide +kernel
theorem dX5_firstPlace_43 : decode cX5_firstPlace 43 = .ok (.iload 5, 2) := by decide +kernel
theorem dX5_firstPlace_45 : decode cX5_firstPlace 45 = .ok (.ireturn, 1) := by decide +kernel
theorem dX5_firstPlace_46 : decode cX5_firstPlace 46 = .ok (.iinc 5 1, 3) := by decide +kernel
theorem dX5_firstPlace_49 : decode cX5_firstPlace 49 = .ok (.goto (-37), 3) := by decide +kernel
theorem dX5_firstPlace_52 : decode cX5_firstPlace 52 = .ok (.iconst 0, 1) := by decide +kernel
theorem dX5_firstPlace_53 : decode cX5_firstPlace 53 = .ok (.ireturn, 1) := by decide +kernel
def f_X5_firstPlace_j52 (N : Nat) : Option Int32 :=
  some (0 : Int32)
def f_X5_firstPlace_j46 (N : Nat) (x0 : Int32) (x1 : Int32) (x2 : Int32) (x3 : Int32) (x4 : Int32) (x5 : Int32) : Option ((Int32) ⊕ (Int32 ⊕ (Unit))) :=
  nm (x5 + (1 : Int32)) fun x5_1 =>
  some (.inl x5_1)
def f_X5_firstPlace_b12 (N : Nat) (x0 : Int32) (x1 : Int32) (x2 : Int32) (x3 : Int32) (x4 : Int32) (x5 : Int32) : Option ((Int32) ⊕ (Int32 ⊕ (Unit))) :=
  if x2 < x5 then (some (.inr (.inr ())))
  else bd (f_X5_isFree x0 x5 x1 x3) fun r_3 =>
  if r_3 = 0 then (f_X5_firstPlace_j46 N x0 x1 x2 x3 x4 x5)
  else bd (f_X5_leastWith N (f_X5_leastOnTable N 6) x0 x5 x1 x2 x3) fun r_6 =>
  if x4 = r_6 then (some (.inr (.inl x5)))
  else f_X5_firstPlace_j46 N x0 x1 x2 x3 x4 x5
def f_X5_firstPlace (N : Nat) (x0 : Int32) (x1 : Int32) (x2 : Int32) (x3 : Int32) : Option Int32 :=
  bd (f_X5_leastOnTable N 6 x0 x1 x2 x3) fun r_9 =>
  bd (lpF (fun s => f_X5_firstPlace_b12 N x0 x1 x2 x3 r_9 s) N (0 : Int32)) (Sum.elim (fun v => some v) (fun o => f_X5_firstPlace_j52 N))
abbrev rmX5_firstPlace : Room := { frames := 15, cells := 0, slots := 0, locals := 925 }
set_option maxRecDepth 100000 in
set_option maxHeartbeats 4000000 in
theorem c_X5_firstPlace (l : Launch) (N : Nat) (x0 : Int32) (x1 : Int32) (x2 : Int32) (x3 : Int32) (r : Int32) (hf : f_X5_firstPlace N x0 x1 x2 x3 = some r) : MetS l yX5_firstPlace cX5_firstPlace 6 (some .int) rmX5_firstPlace [.int x0, .int x1, .int x2, .int x3] r := by
  refine mkS (by decide) (Nat.le_of_ble_eq_true rfl) rfl ?_
  intro p e s m args below meth cd Q ls h0 hK hret hl
  obtain ⟨S, hr, hlk⟩ := h0
  obtain ⟨hx, hb, hml, hown, ht⟩ := id S
  have hl : lv_has ls 6 [(0, .int x0), (1, .int x1), (2, .int x2), (3, .int x3)] := hl
  have hf := obs hf
  have j52 : ∀ (ls : Array Slot), lv_has ls 6 [] → Option.bind (f_X5_firstPlace_j52 N) some = some r → W p l e rmX5_firstPlace s m args below meth cd s.heap [] 0 0 Q (F0 m 52 ls []) := by
    intro ls hl hf
    have hf := oun (f_X5_firstPlace_j52.eq_1 _) hf
    refine lv_iconst (v := (0 : Int32)) hx hb dX5_firstPlace_52 (by decide) ?_
    exact hret _ _ _ dX5_firstPlace_53 rfl (Option.some.inj hf)
  have L12 : ∀ (x0 : Int32) (x1 : Int32) (x2 : Int32) (x3 : Int32) (x4 : Int32) (k : Nat) (x5 : Int32) (ls : Array Slot), lv_has ls 6 [(0, .int x0), (1, .int x1), (2, .int x2), (3, .int x3), (4, .int x4), (5, .int x5)] → Option.bind (bd (lpF (fun s => f_X5_firstPlace_b12 N x0 x1 x2 x3 x4 s) k x5) (Sum.elim (fun v => some v) (fun o => f_X5_firstPlace_j52 N))) some = some r → W p l e rmX5_firstPlace s m args below meth cd s.heap [] 0 0 Q (F0 m 12 ls []) := by
    intro x0 x1 x2 x3 x4 k
    induction k with
    | zero =>
      intro x5 ls hl hf
      exact (ol0 hf).elim
    | succ k ih =>
      intro x5 ls hl hf
      obtain ⟨K12, hf, hc12, hx12⟩ := ol1 hf
      have j46 : ∀ (x5 : Int32) (ls : Array Slot), lv_has ls 6 [(0, .int x0), (1, .int x1), (2, .int x2), (3, .int x3), (4, .int x4), (5, .int x5)] → Option.bind (f_X5_firstPlace_j46 N x0 x1 x2 x3 x4 x5) K12 = some r → W p l e rmX5_firstPlace s m args below meth cd s.heap [] 0 0 Q (F0 m 46 ls []) := by
        intro x5 ls hl hf
        have hf := oun (f_X5_firstPlace_j46.eq_1 _ _ _ _ _ _ _) hf
        obtain ⟨x5_1, ex5_1, hf⟩ := onm hf
        refine lv_iinc (v := x5_1) (lv' := [(5, .int x5_1), (0, .int x0), (1, .int x1), (2, .int x2), (3, .int x3), (4, .int x4)]) hx hb dX5_firstPlace_46 hl (k := 5) rfl ex5_1 (by decide) rfl (fun ls hl => ?_)
        refine lv_goto (tgt := 12) hx hb dX5_firstPlace_49 (by decide) ?_
        exact ih x5_1 _ (lv_sub hl [1, 2, 3, 4, 5, 0] rfl) (okx hf (hc12 _))
      have hf := oun (f_X5_firstPlace_b12.eq_1 N x0 x1 x2 x3 x4 x5) hf
      refine lv_iload hx hb dX5_firstPlace_12 (lv_at hl 5 rfl) ?_
      refine lv_iload_n hx hb dX5_firstPlace_14 rfl (lv_at hl 2 rfl) ?_
      refine lv_icmp_gt (tgt := 52) hx hb dX5_firstPlace_15 (by decide) (fun c_2 => ?_) (fun c_2 => ?_)
      · have hf := oit c_2 hf
        exact j52 _ (lv_sub hl [] rfl) (okx hf (hx12 _))
      have hf := oif c_2 hf
      refine lv_iload_n hx hb dX5_firstPlace_18 rfl (lv_at hl 0 rfl) ?_
      refine lv_iload hx hb dX5_firstPlace_19 (lv_at hl 5 rfl) ?_
      refine lv_iload_n hx hb dX5_firstPlace_21 rfl (lv_at hl 1 rfl) ?_
      refine lv_iload_n hx hb dX5_firstPlace_22 rfl (lv_at hl 3 rfl) ?_
      obtain ⟨r_3, h_4, hf⟩ := obd hf
      refine xs_S (As := [.int x0, .int x5, .int x1, .int x3]) (rest := []) S k_X5_isFree q511 q512 ⟨Nat.le_of_ble_eq_true rfl, Nat.le_of_ble_eq_true rfl⟩ ⟨rfl, rfl⟩ (c_X5_isFree l x0 x5 x1 x3 r_3 h_4) hK rfl hl.1 rfl (Nat.le_of_ble_eq_true rfl) dX5_firstPlace_23 ⟨Nat.zero_le _, Nat.zero_le _⟩ ?_
      refine lv_if_eq (tgt := 46) hx hb dX5_firstPlace_26 (by decide) (fun c_5 => ?_) (fun c_5 => ?_)
      · have hf := oit c_5 hf
        exact j46 x5 _ (lv_sub hl [0, 1, 2, 3, 4, 5] rfl) hf
      have hf := oif c_5 hf
      refine lv_iload hx hb dX5_firstPlace_29 (lv_at hl 4 rfl) ?_
      refine lv_iload_n hx hb dX5_firstPlace_31 rfl (lv_at hl 0 rfl) ?_
      refine lv_iload hx hb dX5_firstPlace_32 (lv_at hl 5 rfl) ?_
      refine lv_iload_n hx hb dX5_firstPlace_34 rfl (lv_at hl 1 rfl) ?_
      refine lv_iload_n hx hb dX5_firstPlace_35 rfl (lv_at hl 2 rfl) ?_
      refine lv_iload_n hx hb dX5_firstPlace_36 rfl (lv_at hl 3 rfl) ?_
      obtain ⟨r_6, h_7, hf⟩ := obd hf
      refine xs_S (As := [.int x0, .int x5, .int x1, .int x2, .int x3]) (rest := [.int x4]) S k_X5_leastWith q514 q515 ⟨Nat.le_of_ble_eq_true rfl, Nat.le_of_ble_eq_true rfl⟩ ⟨rfl, rfl⟩ (c_X5_leastWith l N 6 (f_X5_leastOnTable N 6) (c_X5_leastOnTable l N 6) x0 x5 x1 x2 x3 r_6 h_7) hK rfl hl.1 rfl (Nat.le_of_ble_eq_true rfl) dX5_firstPlace_37 ⟨Nat.zero_le _, Nat.zero_le _⟩ ?_
      refine lv_icmp_ne (tgt := 46) hx hb dX5_firstPlace_40 (by decide) (fun c_8 => ?_) (fun c_8 => ?_)
      · have hf := oif c_8 hf
        exact j46 x5 _ (lv_sub hl [0, 1, 2, 3, 4, 5] rfl) hf
      have hf := oit c_8 hf
      refine lv_iload hx hb dX5_firstPlace_43 (lv_at hl 5 rfl) ?_
      have hf := okx hf (hx12 _)
      exact hret _ _ _ dX5_firstPlace_45 rfl (Option.some.inj hf)
  have hf := oun (f_X5_firstPlace.eq_1 _ _ _ _ _) hf
  refine lv_iload_n hx hb dX5_firstPlace_0 rfl (lv_at hl 0 rfl) ?_
  refine lv_iload_n hx hb dX5_firstPlace_1 rfl (lv_at hl 1 rfl) ?_
  refine lv_iload_n hx hb dX5_firstPlace_2 rfl (lv_at hl 2 rfl) ?_
  refine lv_iload_n hx hb dX5_firstPlace_3 rfl (lv_at hl 3 rfl) ?_
  obtain ⟨r_9, h_10, hf⟩ := obd hf
  refine xs_S (As := [.int x0, .int x1, .int x2, .int x3]) (rest := []) S k_X5_leastOnTable q507 q508 ⟨Nat.le_of_ble_eq_true rfl, Nat.le_of_ble_eq_true rfl⟩ ⟨rfl, rfl⟩ (c_X5_leastOnTable l N 6 x0 x1 x2 x3 r_9 h_10) hK rfl hl.1 rfl (Nat.le_of_ble_eq_true rfl) dX5_firstPlace_4 ⟨Nat.zero_le _, Nat.zero_le _⟩ ?_
  refine lv_istore (lv' := [(4, .int r_9), (0, .int x0), (1, .int x1), (2, .int x2), (3, .int x3)]) hx hb dX5_firstPlace_7 hl (by decide) rfl (fun ls hl => ?_)
  refine lv_iconst (v := (0 : Int32)) hx hb dX5_firstPlace_9 (by decide) ?_
  refine lv_istore (lv' := [(5, .int (0 : Int32)), (4, .int r_9), (0, .int x0), (1, .int x1), (2, .int x2), (3, .int x3)]) hx hb dX5_firstPlace_10 hl (by decide) rfl (fun ls hl => ?_)
  exact L12 x0 x1 x2 x3 r_9 N (0 : Int32) _ (lv_sub hl [2, 3, 4, 5, 1, 0] rfl) hf
theorem dX5_longestFrom_0 : decode cX5_longestFrom 0 = .ok (.iload_n 1, 1) := by decide +kernel
theorem dX5_longestFrom_1 : decode cX5_longestFrom 1 = .ok (.istore 4, 2) := by decide +kernel
theorem dX5_longestFrom_3 : decode cX5_longestFrom 3 = .ok (.iconst 0, 1) := by decide +kernel
theorem dX5_longestFrom_4 : decode cX5_longestFrom 4 = .ok (.istore 5, 2) := by decide +kernel
theorem dX5_longestFrom_6 : decode cX5_longestFrom 6 = .ok (.iload 5, 2) := by decide +kernel
theorem dX5_longestFrom_8 : decode cX5_longestFrom 8 = .ok (.iload_n 2, 1) := by decide +kernel
theorem dX5_longestFrom_9 : decode cX5_longestFrom 9 = .ok (.if_icmp .ge 44, 3) := by decide +kernel
theorem dX5_longestFrom_12 : decode cX5_longestFrom 12 = .ok (.iload_n 1, 1) := by decide +kernel
theorem dX5_longestFrom_13 : decode cX5_longestFrom 13 = .ok (.iload_n 2, 1) := by decide +kernel
theorem dX5_longestFrom_14 : decode cX5_longestFrom 14 = .ok (.if_icmp .ge 39, 3) := by decide +kernel
theorem dX5_longestFrom_17 : decode cX5_longestFrom 17 = .ok (.iload_n 3, 1) := by decide +kernel
theorem dX5_longestFrom_18 : decode cX5_longestFrom 18 = .ok (.iconst 4, 1) := by decide +kernel
theorem dX5_longestFrom_19 : decode cX5_longestFrom 19 = .ok (.iload_n 0, 1) := by decide +kernel
theorem dX5_longestFrom_20 : decode cX5_longestFrom 20 = .ok (.imul, 1) := by decide +kernel
theorem dX5_longestFrom_21 : decode cX5_longestFrom 21 = .ok (.iload 5, 2) := by decide +kernel
theorem dX5_longestFrom_23 : decode cX5_longestFrom 23 = .ok (.iadd, 1) := by decide +kernel
theorem dX5_longestFrom_24 : decode cX5_longestFrom 24 = .ok (.invokestatic 124, 3) := by decide +kernel
theorem dX5_longestFrom_27 : decode cX5_longestFrom 27 = .ok (.ifCond .eq 20, 3) := by decide +kernel
theorem dX5_longestFrom_30 : decode cX5_longestFrom 30 = .ok (.iload 4, 2) := by decide +kernel
theorem dX5_longestFrom_32 : decode cX5_longestFrom 32 = .ok (.iload 5, 2) := by decide +kernel
theorem dX5_longestFrom_34 : decode cX5_longestFrom 34 = .ok (.iload_n 1, 1) := by decide +kernel
theorem dX5_longestFrom_35 : decode cX5_longestFrom 35 = .ok (.iconst 1, 1) := by decide +kernel
theorem dX5_longestFrom_36 : decode cX5_longestFrom 36 = .ok (.iadd, 1) := by decide +kernel
theorem dX5_longestFrom_37 : decode cX5_longestFrom 37 = .ok (.iload_n 2, 1) := by decide +kernel
theorem dX5_longestFrom_38 : decode cX5_longestFrom 38 = .ok (.iload_n 3, 1) := by decide +kernel
theorem dX5_longestFrom_39 : decode cX5_longestFrom 39 = .ok (.invokestatic 236, 3) := by decide +kernel
theorem dX5_longestFrom_42 : decode cX5_longestFrom 42 = .ok (.invokestatic 239, 3) := by decide +kernel
theorem dX5_longestFrom_45 : decode cX5_longestFrom 45 = .ok (.istore 4, 2) := by decide +kernel
theorem dX5_longestFrom_47 : decode cX5_longestFrom 47 = .ok (.iinc 5 1, 3) := by decide +kernel
theorem dX5_longestFrom_50 : decode cX5_longestFrom 50 = .ok (.goto (-44), 3) := by decide +kernel
theorem dX5_longestFrom_53 : decode cX5_longestFrom 53 = .ok (.iload 4, 2) := by decide +kernel
theorem dX5_longestFrom_55 : decode cX5_longestFrom 55 = .ok (.ireturn, 1) := by decide +kernel
def f_X5_longestFrom_j53 (N : Nat) (rc : Int32 → Int32 → Int32 → Int32 → Option Int32) (x4 : Int32) : Option Int32 :=
  some x4
def f_X5_longestFrom_j47 (N : Nat) (rc : Int32 → Int32 → Int32 → Int32 → Option Int32) (x0 : Int32) (x1 : Int32) (x2 : Int32) (x3 : Int32) (x4 : Int32) (x5 : Int32) : Option ((Int32 × Int32) ⊕ ((Int32))) :=
  nm (x5 + (1 : Int32)) fun x5_1 =>
  some (.inl (x4, x5_1))
def f_X5_longestFrom_b6 (N : Nat) (rc : Int32 → Int32 → Int32 → Int32 → Option Int32) (x0 : Int32) (x1 : Int32) (x2 : Int32) (x3 : Int32) (x4 : Int32) (x5 : Int32) : Option ((Int32 × Int32) ⊕ ((Int32))) :=
  if x2 ≤ x5 then (some (.inr x4))
  else if x2 ≤ x1 then (some (.inr x4))
  else bd (f_X5_has x3 (((4 : Int32) * x0) + x5)) fun r_4 =>
  if r_4 = 0 then (f_X5_longestFrom_j47 N rc x0 x1 x2 x3 x4 x5)
  else bd (rc x5 (x1 + (1 : Int32)) x2 x3) fun r_7 =>
  nm (if x4 < r_7 then r_7 else x4) fun x4_9 =>
  f_X5_longestFrom_j47 N rc x0 x1 x2 x3 x4_9 x5
def f_X5_longestFrom_g (N : Nat) (rc : Int32 → Int32 → Int32 → Int32 → Option Int32) (x0 : Int32) (x1 : Int32) (x2 : Int32) (x3 : Int32) : Option Int32 :=
  bd (lpF (fun s => f_X5_longestFrom_b6 N rc x0 x1 x2 x3 s.1 s.2) N (x1, (0 : Int32))) (fun o => f_X5_longestFrom_j53 N rc o)
def f_X5_longestFrom (N : Nat) : Nat → Int32 → Int32 → Int32 → Int32 → Option Int32
  | 0 => fun _ _ _ _ => none
  | k + 1 => f_X5_longestFrom_g N (f_X5_longestFrom N k)
set_option maxRecDepth 100000 in
set_option maxHeartbeats 4000000 in
theorem c_X5_longestFrom (l : Launch) (N : Nat) : ∀ (dk : Nat) (x0 : Int32) (x1 : Int32) (x2 : Int32) (x3 : Int32) (r : Int32) (hf : f_X5_longestFrom N dk x0 x1 x2 x3 = some r), MetS l yX5_longestFrom cX5_longestFrom 6 (some .int) (rrF dk) [.int x0, .int x1, .int x2, .int x3] r := by
  intro dk
  induction dk with
  | zero => intro x0 x1 x2 x3 r hf; cases hf
  | succ dk hrc =>
  intro x0 x1 x2 x3 r hf
  have hf : f_X5_longestFrom_g N (f_X5_longestFrom N dk) x0 x1 x2 x3 = some r := hf
  generalize f_X5_longestFrom N dk = rc at hf hrc
  refine mkS (by decide) (Nat.le_of_ble_eq_true rfl) rfl ?_
  intro p e s m args below meth cd Q ls h0 hK hret hl
  obtain ⟨S, hr, hlk⟩ := h0
  obtain ⟨hx, hb, hml, hown, ht⟩ := id S
  have hl : lv_has ls 6 [(0, .int x0), (1, .int x1), (2, .int x2), (3, .int x3)] := hl
  have hf := obs hf
  have j53 : ∀ (x4 : Int32) (ls : Array Slot), lv_has ls 6 [(4, .int x4)] → Option.bind (f_X5_longestFrom_j53 N rc x4) some = some r → W p l e (rrF (dk + 1)) s m args below meth cd s.heap [] 0 0 Q (F0 m 53 ls []) := by
    intro x4 ls hl hf
    have hf := oun (f_X5_longestFrom_j53.eq_1 _ _ _) hf
    refine lv_iload hx hb dX5_longestFrom_53 (lv_at hl 0 rfl) ?_
    exact hret _ _ _ dX5_longestFrom_55 rfl (Option.some.inj hf)
  have L6 : ∀ (x0 : Int32) (x1 : Int32) (x2 : Int32) (x3 : Int32) (k : Nat) (x4 : Int32) (x5 : Int32) (ls : Array Slot), lv_has ls 6 [(0, .int x0), (1, .int x1), (2, .int x2), (3, .int x3), (4, .int x4), (5, .int x5)] → Option.bind (bd (lpF (fun s => f_X5_longestFrom_b6 N rc x0 x1 x2 x3 s.1 s.2) k (x4, x5)) (fun o => f_X5_longestFrom_j53 N rc o)) some = some r → W p l e (rrF (dk + 1)) s m args below meth cd s.heap [] 0 0 Q (F0 m 6 ls []) := by
    intro x0 x1 x2 x3 k
    induction k with
    | zero =>
      intro x4 x5 ls hl hf
      exact (ol0 hf).elim
    | succ k ih =>
      intro x4 x5 ls hl hf
      obtain ⟨K6, hf, hc6, hx6⟩ := ol1 hf
      have j47 : ∀ (x4 : Int32) (x5 : Int32) (ls : Array Slot), lv_has ls 6 [(0, .int x0), (1, .int x1), (2, .int x2), (3, .int x3), (4, .int x4), (5, .int x5)] → Option.bind (f_X5_longestFrom_j47 N rc x0 x1 x2 x3 x4 x5) K6 = some r → W p l e (rrF (dk + 1)) s m args below meth cd s.heap [] 0 0 Q (F0 m 47 ls []) := by
        intro x4 x5 ls hl hf
        have hf := oun (f_X5_longestFrom_j47.eq_1 _ _ _ _ _ _ _ _) hf
        obtain ⟨x5_1, ex5_1, hf⟩ := onm hf
        refine lv_iinc (v := x5_1) (lv' := [(5, .int x5_1), (0, .int x0), (1, .int x1), (2, .int x2), (3, .int x3), (4, .int x4)]) hx hb dX5_longestFrom_47 hl (k := 5) rfl ex5_1 (by decide) rfl (fun ls hl => ?_)
        refine lv_goto (tgt := 6) hx hb dX5_longestFrom_50 (by decide) ?_
        exact ih x4 x5_1 _ (lv_sub hl [1, 2, 3, 4, 5, 0] rfl) (okx hf (hc6 _))
      have hf := oun (f_X5_longestFrom_b6.eq_1 N rc x0 x1 x2 x3 x4 x5) hf
      refine lv_iload hx hb dX5_longestFrom_6 (lv_at hl 5 rfl) ?_
      refine lv_iload_n hx hb dX5_longestFrom_8 rfl (lv_at hl 2 rfl) ?_
      refine lv_icmp_ge (tgt := 53) hx hb dX5_longestFrom_9 (by decide) (fun c_2 => ?_) (fun c_2 => ?_)
      · have hf := oit c_2 hf
        exact j53 x4 _ (lv_sub hl [4] rfl) (okx hf (hx6 _))
      have hf := oif c_2 hf
      refine lv_iload_n hx hb dX5_longestFrom_12 rfl (lv_at hl 1 rfl) ?_
      refine lv_iload_n hx hb dX5_longestFrom_13 rfl (lv_at hl 2 rfl) ?_
      refine lv_icmp_ge (tgt := 53) hx hb dX5_longestFrom_14 (by decide) (fun c_3 => ?_) (fun c_3 => ?_)
      · have hf := oit c_3 hf
        exact j53 x4 _ (lv_sub hl [4] rfl) (okx hf (hx6 _))
      have hf := oif c_3 hf
      refine lv_iload_n hx hb dX5_longestFrom_17 rfl (lv_at hl 3 rfl) ?_
      refine lv_iconst (v := (4 : Int32)) hx hb dX5_longestFrom_18 (by decide) ?_
      refine lv_iload_n hx hb dX5_longestFrom_19 rfl (lv_at hl 0 rfl) ?_
      refine lv_imul hx hb dX5_longestFrom_20 ?_
      refine lv_iload hx hb dX5_longestFrom_21 (lv_at hl 5 rfl) ?_
      refine lv_iadd hx hb dX5_longestFrom_23 ?_
      obtain ⟨r_4, h_5, hf⟩ := obd hf
      refine xs_S (As := [.int x3, .int (((4 : Int32) * x0) + x5)]) (rest := []) S k_X5_has q214 q202 ⟨rr_a (f := 0) (by omega), rr_b (x := 8 + (2 + 11) + (0)) (by omega)⟩ ⟨rfl, rfl⟩ (c_X5_has l x3 (((4 : Int32) * x0) + x5) r_4 h_5) hK rfl hl.1 rfl (Nat.le_of_ble_eq_true rfl) dX5_longestFrom_24 ⟨Nat.zero_le _, Nat.zero_le _⟩ ?_
      refine lv_if_eq (tgt := 47) hx hb dX5_longestFrom_27 (by decide) (fun c_6 => ?_) (fun c_6 => ?_)
      · have hf := oit c_6 hf
        exact j47 x4 x5 _ (lv_sub hl [0, 1, 2, 3, 4, 5] rfl) hf
      have hf := oif c_6 hf
      refine lv_iload hx hb dX5_longestFrom_30 (lv_at hl 4 rfl) ?_
      refine lv_iload hx hb dX5_longestFrom_32 (lv_at hl 5 rfl) ?_
      refine lv_iload_n hx hb dX5_longestFrom_34 rfl (lv_at hl 1 rfl) ?_
      refine lv_iconst (v := (1 : Int32)) hx hb dX5_longestFrom_35 (by decide) ?_
      refine lv_iadd hx hb dX5_longestFrom_36 ?_
      refine lv_iload_n hx hb dX5_longestFrom_37 rfl (lv_at hl 2 rfl) ?_
      refine lv_iload_n hx hb dX5_longestFrom_38 rfl (lv_at hl 3 rfl) ?_
      obtain ⟨r_7, h_8, hf⟩ := obd hf
      refine xs_S (As := [.int x5, .int (x1 + (1 : Int32)), .int x2, .int x3]) (rest := [.int x4]) S k_X5_longestFrom q537 q538 ⟨rr_a (f := dk) (by omega), rr_b (x := 8 + (6 + 11) + (60 * (dk) + 60)) (by omega)⟩ ⟨rfl, rfl⟩ (hrc x5 (x1 + (1 : Int32)) x2 x3 r_7 h_8) hK rfl hl.1 rfl (Nat.le_of_ble_eq_true rfl) dX5_longestFrom_39 ⟨Nat.zero_le _, Nat.zero_le _⟩ ?_
      refine va_mmax hx hb (hml.trans hl.1.symm) hown (ht _ q536) (ht _ q396) (ht _ q124) (ht _ q397) (by exact rr_a (f := 0) (by omega)) (by exact rr_b (x := 0 + 13) (by omega)) (Nat.zero_le _) (Nat.zero_le _) dX5_longestFrom_42 ?_
      obtain ⟨x4_9, ex4_9, hf⟩ := onm hf
      refine lv_nm ex4_9 ?_
      refine lv_istore (lv' := [(4, .int x4_9), (0, .int x0), (1, .int x1), (2, .int x2), (3, .int x3), (5, .int x5)]) hx hb dX5_longestFrom_45 hl (by decide) rfl (fun ls hl => ?_)
      exact j47 x4_9 x5 _ (lv_sub hl [1, 2, 3, 4, 0, 5] rfl) hf
  have hf := oun (f_X5_longestFrom_g.eq_1 _ _ _ _ _ _) hf
  refine lv_iload_n hx hb dX5_longestFrom_0 rfl (lv_at hl 1 rfl) ?_
  refine lv_istore (lv' := [(4, .int x1), (0, .int x0), (1, .int x1), (2, .int x2), (3, .int x3)]) hx hb dX5_longestFrom_1 hl (by decide) rfl (fun ls hl => ?_)
  refine lv_iconst (v := (0 : Int32)) hx hb dX5_longestFrom_3 (by decide) ?_
  refine lv_istore (lv' := [(5, .int (0 : Int32)), (4, .int x1), (0, .int x0), (1, .int x1), (2, .int x2), (3, .int x3)]) hx hb dX5_longestFrom_4 hl (by decide) rfl (fun ls hl => ?_)
  exact L6 x0 x1 x2 x3 N x1 (0 : Int32) _ (lv_sub hl [2, 3, 4, 5, 1, 0] rfl) hf
theorem dX5_commonDivisor_0 : decode cX5_commonDivisor 0 = .ok (.iload_n 1, 1) := by decide +kernel
theorem dX5_commonDivisor_1 : decode cX5_commonDivisor 1 = .ok (.istore_n 2, 1) := by decide +kernel
theorem dX5_commonDivisor_2 : decode cX5_commonDivisor 2 = .ok (.iload_n 2, 1) := by decide +kernel
theorem dX5_commonDivisor_3 : decode cX5_commonDivisor 3 = .ok (.iconst 1, 1) := by decide +kernel
theorem dX5_commonDivisor_4 : decode cX5_commonDivisor 4 = .ok (.if_icmp .le 23, 3) := by decide +kernel
theorem dX5_commonDivisor_7 : decode cX5_commonDivisor 7 = .ok (.iload_n 0, 1) := by decide +kernel
theorem dX5_commonDivisor_8 : decode cX5_commonDivisor 8 = .ok (.iload_n 2, 1) := by decide +kernel
theorem dX5_commonDivisor_9 : decode cX5_commonDivisor 9 = .ok (.irem, 1) := by decide +kernel
theorem dX5_commonDivisor_10 : decode cX5_commonDivisor 10 = .ok (.ifCond .ne 11, 3) := by decide +kernel
theorem dX5_commonDivisor_13 : decode cX5_commonDivisor 13 = .ok (.iload_n 1, 1) := by decide +kernel
theorem dX5_commonDivisor_14 : decode cX5_commonDivisor 14 = .ok (.iload_n 2, 1) := by decide +kernel
theorem dX5_commonDivisor_15 : decode cX5_commonDivisor 15 = .ok (.irem, 1) := by decide +kernel
theorem dX5_commonDivisor_16 : decode cX5_commonDivisor 16 = .ok (.ifCond .ne 5, 3) := by decide +kernel
theorem dX5_commonDivisor_19 : decode cX5_commonDivisor 19 = .ok (.iload_n 2, 1) := by decide +kernel
theorem dX5_commonDivisor_20 : decode cX5_commonDivisor 20 = .ok (.ireturn, 1) := by decide +kernel
theorem dX5_commonDivisor_21 : decode cX5_commonDivisor 21 = .ok (.iinc 2 (-1), 3) := by decide +kernel
theorem dX5_commonDivisor_24 : decode cX5_commonDivisor 24 = .ok (.goto (-22), 3) := by decide +kernel
theorem dX5_commonDivisor_27 : decode cX5_commonDivisor 27 = .ok (.iconst 1, 1) := by decide +kernel
theorem dX5_commonDivisor_28 : decode cX5_commonDivisor 28 = .ok (.ireturn, 1) := by decide +kernel
def f_X5_commonDivisor_j27 (N : Nat) : Option Int32 :=
  some (1 : Int32)
def f_X5_commonDivisor_j21 (N : Nat) (x0 : Int32) (x1 : Int32) (x2 : Int32) : Option ((Int32) ⊕ (Int32 ⊕ (Unit))) :=
  nm (x2 + (-1 : Int32)) fun x2_1 =>
  some (.inl x2_1)
def f_X5_commonDivisor_b2 (N : Nat) (x0 : Int32) (x1 : Int32) (x2 : Int32) : Option ((Int32) ⊕ (Int32 ⊕ (Unit))) :=
  if x2 ≤ (1 : Int32) then (some (.inr (.inr ())))
  else gd (decide (¬ x2 = 0)) <|
  if (x0 - x0 / x2 * x2) = 0 then (gd (decide (¬ x2 = 0)) <|
    if (x1 - x1 / x2 * x2) = 0 then (some (.inr (.inl x2)))
    else f_X5_commonDivisor_j21 N x0 x1 x2)
  else f_X5_commonDivisor_j21 N x0 x1 x2
def f_X5_commonDivisor (N : Nat) (x0 : Int32) (x1 : Int32) : Option Int32 :=
  bd (lpF (fun s => f_X5_commonDivisor_b2 N x0 x1 s) N x1) (Sum.elim (fun v => some v) (fun o => f_X5_commonDivisor_j27 N))
abbrev rmX5_commonDivisor : Room := { frames := 0, cells := 0, slots := 0, locals := 0 }
set_option maxRecDepth 100000 in
set_option maxHeartbeats 4000000 in
theorem c_X5_commonDivisor (l : Launch) (N : Nat) (x0 : Int32) (x1 : Int32) (r : Int32) (hf : f_X5_commonDivisor N x0 x1 = some r) : MetS l yX5_commonDivisor cX5_commonDivisor 3 (some .int) rmX5_commonDivisor [.int x0, .int x1] r := by
  refine mkS (by decide) (Nat.le_of_ble_eq_true rfl) rfl ?_
  intro p e s m args below meth cd Q ls h0 hK hret hl
  obtain ⟨S, hr, hlk⟩ := h0
  obtain ⟨hx, hb, hml, hown, ht⟩ := id S
  have hl : lv_has ls 3 [(0, .int x0), (1, .int x1)] := hl
  have hf := obs hf
  have j27 : ∀ (ls : Array Slot), lv_has ls 3 [] → Option.bind (f_X5_commonDivisor_j27 N) some = some r → W p l e rmX5_commonDivisor s m args below meth cd s.heap [] 0 0 Q (F0 m 27 ls []) := by
    intro ls hl hf
    have hf := oun (f_X5_commonDivisor_j27.eq_1 _) hf
    refine lv_iconst (v := (1 : Int32)) hx hb dX5_commonDivisor_27 (by decide) ?_
    exact hret _ _ _ dX5_commonDivisor_28 rfl (Option.some.inj hf)
  have L2 : ∀ (x0 : Int32) (x1 : Int32) (k : Nat) (x2 : Int32) (ls : Array Slot), lv_has ls 3 [(0, .int x0), (1, .int x1), (2, .int x2)] → Option.bind (bd (lpF (fun s => f_X5_commonDivisor_b2 N x0 x1 s) k x2) (Sum.elim (fun v => some v) (fun o => f_X5_commonDivisor_j27 N))) some = some r → W p l e rmX5_commonDivisor s m args below meth cd s.heap [] 0 0 Q (F0 m 2 ls []) := by
    intro x0 x1 k
    induction k with
    | zero =>
      intro x2 ls hl hf
      exact (ol0 hf).elim
    | succ k ih =>
      intro x2 ls hl hf
      obtain ⟨K2, hf, hc2, hx2⟩ := ol1 hf
      have j21 : ∀ (x2 : Int32) (ls : Array Slot), lv_has ls 3 [(0, .int x0), (1, .int x1), (2, .int x2)] → Option.bind (f_X5_commonDivisor_j21 N x0 x1 x2) K2 = some r → W p l e rmX5_commonDivisor s m args below meth cd s.heap [] 0 0 Q (F0 m 21 ls []) := by
        intro x2 ls hl hf
        have hf := oun (f_X5_commonDivisor_j21.eq_1 _ _ _ _) hf
        obtain ⟨x2_1, ex2_1, hf⟩ := onm hf
        refine lv_iinc (v := x2_1) (lv' := [(2, .int x2_1), (0, .int x0), (1, .int x1)]) hx hb dX5_commonDivisor_21 hl (k := 2) rfl ex2_1 (by decide) rfl (fun ls hl => ?_)
        refine lv_goto (tgt := 2) hx hb dX5_commonDivisor_24 (by decide) ?_
        exact ih x2_1 _ (lv_sub hl [1, 2, 0] rfl) (okx hf (hc2 _))
      have hf := oun (f_X5_commonDivisor_b2.eq_1 N x0 x1 x2) hf
      refine lv_iload_n hx hb dX5_commonDivisor_2 rfl (lv_at hl 2 rfl) ?_
      refine lv_iconst (v := (1 : Int32)) hx hb dX5_commonDivisor_3 (by decide) ?_
      refine lv_icmp_le (tgt := 27) hx hb dX5_commonDivisor_4 (by decide) (fun c_2 => ?_) (fun c_2 => ?_)
      · have hf := oit c_2 hf
        exact j27 _ (lv_sub hl [] rfl) (okx hf (hx2 _))
      have hf := oif c_2 hf
      refine lv_iload_n hx hb dX5_commonDivisor_7 rfl (lv_at hl 0 rfl) ?_
      refine lv_iload_n hx hb dX5_commonDivisor_8 rfl (lv_at hl 2 rfl) ?_
      obtain ⟨g_3, hf⟩ := ogd hf
      refine lv_irem hx hb dX5_commonDivisor_9 (of_decide_eq_true g_3) ?_
      refine lv_if_ne (tgt := 21) hx hb dX5_commonDivisor_10 (by decide) (fun c_4 => ?_) (fun c_4 => ?_)
      · have hf := oif c_4 hf
        exact j21 x2 _ (lv_sub hl [0, 1, 2] rfl) hf
      have hf := oit c_4 hf
      refine lv_iload_n hx hb dX5_commonDivisor_13 rfl (lv_at hl 1 rfl) ?_
      refine lv_iload_n hx hb dX5_commonDivisor_14 rfl (lv_at hl 2 rfl) ?_
      obtain ⟨g_5, hf⟩ := ogd hf
      refine lv_irem hx hb dX5_commonDivisor_15 (of_decide_eq_true g_5) ?_
      refine lv_if_ne (tgt := 21) hx hb dX5_commonDivisor_16 (by decide) (fun c_6 => ?_) (fun c_6 => ?_)
      · have hf := oif c_6 hf
        exact j21 x2 _ (lv_sub hl [0, 1, 2] rfl) hf
      have hf := oit c_6 hf
      refine lv_iload_n hx hb dX5_commonDivisor_19 rfl (lv_at hl 2 rfl) ?_
      have hf := okx hf (hx2 _)
      exact hret _ _ _ dX5_commonDivisor_20 rfl (Option.some.inj hf)
  have hf := oun (f_X5_commonDivisor.eq_1 _ _ _) hf
  refine lv_iload_n hx hb dX5_commonDivisor_0 rfl (lv_at hl 1 rfl) ?_
  refine lv_istore_n (lv' := [(2, .int x1), (0, .int x0), (1, .int x1)]) hx hb dX5_commonDivisor_1 rfl hl (by decide) rfl (fun ls hl => ?_)
  exact L2 x0 x1 N x1 _ (lv_sub hl [1, 2, 0] rfl) hf
theorem dX6_inLeastTerms_0 : decode cX6_inLeastTerms 0 = .ok (.lload_n 0, 1) := by decide +kernel
theorem dX6_inLeastTerms_1 : decode cX6_inLeastTerms 1 = .ok (.lstore 5, 2) := by decide +kernel
theorem dX6_inLeastTerms_3 : decode cX6_inLeastTerms 3 = .ok (.lload_n 2, 1) := by decide +kernel
theorem dX6_inLeastTerms_4 : decode cX6_inLeastTerms 4 = .ok (.lstore 7, 2) := by decide +kernel
theorem dX6_inLeastTerms_6 : decode cX6_inLeastTerms 6 = .ok (.lload 7, 2) := by decide +kernel
theorem dX6_inLeastTerms_8 : decode cX6_inLeastTerms 8 = .ok (.lconst 0, 1) := by decide +kernel
theorem dX6_inLeastTerms_9 : decode cX6_inLeastTerms 9 = .ok (.lcmp, 1) := by decide +kernel
theorem dX6_inLeastTerms_10 : decode cX6_inLeastTerms 10 = .ok (.ifCond .eq 21, 3) := by decide +kernel
theorem dX6_inLeastTerms_13 : decode cX6_inLeastTerms 13 = .ok (.lload 5, 2) := by decide +kernel
theorem dX6_inLeastTerms_15 : decode cX6_inLeastTerms 15 = .ok (.lload 7, 2) := by decide +kernel
theorem dX6_inLeastTerms_17 : decode cX6_inLeastTerms 17 = .ok (.lrem, 1) := by decide +kernel
theorem dX6_inLeastTerms_18 : decode cX6_inLeastTerms 18 = .ok (.lstore 9, 2) := by decide +kernel
theorem dX6_inLeastTerms_20 : decode cX6_inLeastTerms 20 = .ok (.lload 7, 2) := by decide +kernel
theorem dX6_inLeastTerms_22 : decode cX6_inLeastTerms 22 = .ok (.lstore 5, 2) := by decide +kernel
theorem dX6_inLeastTerms_24 : decode cX6_inLeastTerms 24 = .ok (.lload 9, 2) := by decide +kernel
theorem dX6_inLeastTerms_26 : decode cX6_inLeastTerms 26 = .ok (.lstore 7, 2) := by decide +kernel
theorem dX6_inLeastTerms_28 : decode cX6_inLeastTerms 28 = .ok (.goto (-22), 3) := by decide +kernel
theorem dX6_inLeastTerms_31 : decode cX6_inLeastTerms 31 = .ok (.iload 4, 2) := by decide +kernel
theorem dX6_inLeastTerms_33 : decode cX6_inLeastTerms 33 = .ok (.ifCond .ne 10, 3) := by decide +kernel
theorem dX6_inLeastTerms_36 : decode cX6_inLeastTerms 36 = .ok (.lload_n 0, 1) := by decide +kernel
theorem dX6_inLeastTerms_37 : decode cX6_inLeastTerms 37 = .ok (.lload 5, 2) := by decide +kernel
theorem dX6_inLeastTerms_39 : decode cX6_inLeastTerms 39 = .ok (.ldiv, 1) := by decide +kernel
theorem dX6_inLeastTerms_40 : decode cX6_inLeastTerms 40 = .ok (.goto 7, 3) := by decide +kernel
theorem dX6_inLeastTerms_43 : decode cX6_inLeastTerms 43 = .ok (.lload_n 2, 1) := by decide +kernel
theorem dX6_inLeastTerms_44 : decode cX6_inLeastTerms 44 = .ok (.lload 5, 2) := by decide +kernel
theorem dX6_inLeastTerms_46 : decode cX6_inLeastTerms 46 = .ok (.ldiv, 1) := by decide +kernel
theorem dX6_inLeastTerms_47 : decode cX6_inLeastTerms 47 = .ok (.lreturn, 1) := by decide +kernel
def f_X6_inLeastTerms_j31 (N : Nat) (x0 : Int64) (x2 : Int64) (x4 : Int32) (x5 : Int64) : Option Int64 :=
  if x4 = 0 then (gd (decide (¬ x5 = 0)) <|
    some (x0 / x5))
  else gd (decide (¬ x5 = 0)) <|
    some (x2 / x5)
def f_X6_inLeastTerms_b6 (N : Nat) (x0 : Int64) (x2 : Int64) (x4 : Int32) (x5 : Int64) (x7 : Int64) : Option ((Int64 × Int64) ⊕ ((Int64))) :=
  if (lg_cmp x7 (0 : Int64)) = 0 then (some (.inr x5))
  else gd (decide (¬ x7 = 0)) <|
  nm (x5 - x5 / x7 * x7) fun x9_6 =>
  some (.inl (x7, x9_6))
def f_X6_inLeastTerms (N : Nat) (x0 : Int64) (x2 : Int64) (x4 : Int32) : Option Int64 :=
  bd (lpF (fun s => f_X6_inLeastTerms_b6 N x0 x2 x4 s.1 s.2) N (x0, x2)) (fun o => f_X6_inLeastTerms_j31 N x0 x2 x4 o)
abbrev rmX6_inLeastTerms : Room := { frames := 0, cells := 0, slots := 0, locals := 0 }
set_option maxRecDepth 100000 in
set_option maxHeartbeats 4000000 in
theorem c_X6_inLeastTerms (l : Launch) (N : Nat) (x0 : Int64) (x2 : Int64) (x4 : Int32) (r : Int64) (hf : f_X6_inLeastTerms N x0 x2 x4 = some r) : MetSl l yX6_inLeastTerms cX6_inLeastTerms 11 (some .long) rmX6_inLeastTerms [.long x0, .long x2, .int x4] r := by
  refine mkSl (by decide) (Nat.le_of_ble_eq_true rfl) rfl ?_
  intro p e s m args below meth cd Q ls h0 hK hret hl
  obtain ⟨S, hr, hlk⟩ := h0
  obtain ⟨hx, hb, hml, hown, ht⟩ := id S
  have hl : lv_has ls 11 [(0, .long x0), (2, .long x2), (4, .int x4)] := hl
  have hf := obs hf
  have j31 : ∀ (x0 : Int64) (x2 : Int64) (x4 : Int32) (x5 : Int64) (ls : Array Slot), lv_has ls 11 [(0, .long x0), (2, .long x2), (4, .int x4), (5, .long x5)] → Option.bind (f_X6_inLeastTerms_j31 N x0 x2 x4 x5) some = some r → W p l e rmX6_inLeastTerms s m args below meth cd s.heap [] 0 0 Q (F0 m 31 ls []) := by
    intro x0 x2 x4 x5 ls hl hf
    have hf := oun (f_X6_inLeastTerms_j31.eq_1 _ _ _ _ _) hf
    refine lv_iload hx hb dX6_inLeastTerms_31 (lv_at hl 2 rfl) ?_
    refine lv_if_ne (tgt := 43) hx hb dX6_inLeastTerms_33 (by decide) (fun c_1 => ?_) (fun c_1 => ?_)
    · have hf := oif c_1 hf
      refine lv_lload_n hx hb dX6_inLeastTerms_43 rfl (lv_at hl 1 rfl) ?_
      refine lv_lload hx hb dX6_inLeastTerms_44 (lv_at hl 3 rfl) ?_
      obtain ⟨g_2, hf⟩ := ogd hf
      refine lv_ldiv hx hb dX6_inLeastTerms_46 (of_decide_eq_true g_2) ?_
      exact hret _ _ _ dX6_inLeastTerms_47 (Option.some.inj hf)
    have hf := oit c_1 hf
    refine lv_lload_n hx hb dX6_inLeastTerms_36 rfl (lv_at hl 0 rfl) ?_
    refine lv_lload hx hb dX6_inLeastTerms_37 (lv_at hl 3 rfl) ?_
    obtain ⟨g_3, hf⟩ := ogd hf
    refine lv_ldiv hx hb dX6_inLeastTerms_39 (of_decide_eq_true g_3) ?_
    refine lv_goto (tgt := 47) hx hb dX6_inLeastTerms_40 (by decide) ?_
    exact hret _ _ _ dX6_inLeastTerms_47 (Option.some.inj hf)
  have L6 : ∀ (x0 : Int64) (x2 : Int64) (x4 : Int32) (k : Nat) (x5 : Int64) (x7 : Int64) (ls : Array Slot), lv_has ls 11 [(0, .long x0), (2, .long x2), (4, .int x4), (5, .long x5), (7, .long x7)] → Option.bind (bd (lpF (fun s => f_X6_inLeastTerms_b6 N x0 x2 x4 s.1 s.2) k (x5, x7)) (fun o => f_X6_inLeastTerms_j31 N x0 x2 x4 o)) some = some r → W p l e rmX6_inLeastTerms s m args below meth cd s.heap [] 0 0 Q (F0 m 6 ls []) := by
    intro x0 x2 x4 k
    induction k with
    | zero =>
      intro x5 x7 ls hl hf
      exact (ol0 hf).elim
    | succ k ih =>
      intro x5 x7 ls hl hf
      obtain ⟨K6, hf, hc6, hx6⟩ := ol1 hf
      have hf := oun (f_X6_inLeastTerms_b6.eq_1 N x0 x2 x4 x5 x7) hf
      refine lv_lload hx hb dX6_inLeastTerms_6 (lv_at hl 4 rfl) ?_
      refine lv_lconst (v := (0 : Int64)) hx hb dX6_inLeastTerms_8 (by decide) ?_
      refine W.lcmp hx hb dX6_inLeastTerms_9 ?_
      refine lv_if_eq (tgt := 31) hx hb dX6_inLeastTerms_10 (by decide) (fun c_4 => ?_) (fun c_4 => ?_)
      · have hf := oit c_4 hf
        exact j31 x0 x2 x4 x5 _ (lv_sub hl [0, 1, 2, 3] rfl) (okx hf (hx6 _))
      have hf := oif c_4 hf
      refine lv_lload hx hb dX6_inLeastTerms_13 (lv_at hl 3 rfl) ?_
      refine lv_lload hx hb dX6_inLeastTerms_15 (lv_at hl 4 rfl) ?_
      obtain ⟨g_5, hf⟩ := ogd hf
      refine lv_lrem hx hb dX6_inLeastTerms_17 (of_decide_eq_true g_5) ?_
      obtain ⟨x9_6, ex9_6, hf⟩ := onm hf
      refine lv_nml ex9_6 ?_
      refine lv_lstore (lv' := [(9, .long x9_6), (0, .long x0), (2, .long x2), (4, .int x4), (5, .long x5), (7, .long x7)]) hx hb dX6_inLeastTerms_18 hl (by decide) rfl (fun ls hl => ?_)
      refine lv_lload hx hb dX6_inLeastTerms_20 (lv_at hl 5 rfl) ?_
      refine lv_lstore (lv' := [(5, .long x7), (9, .long x9_6), (0, .long x0), (2, .long x2), (4, .int x4), (7, .long x7)]) hx hb dX6_inLeastTerms_22 hl (by decide) rfl (fun ls hl => ?_)
      refine lv_lload hx hb dX6_inLeastTerms_24 (lv_at hl 1 rfl) ?_
      refine lv_lstore (lv' := [(7, .long x9_6), (5, .long x7), (9, .long x9_6), (0, .long x0), (2, .long x2), (4, .int x4)]) hx hb dX6_inLeastTerms_26 hl (by decide) rfl (fun ls hl => ?_)
      refine lv_goto (tgt := 6) hx hb dX6_inLeastTerms_28 (by decide) ?_
      exact ih x7 x9_6 _ (lv_sub hl [3, 4, 5, 1, 0] rfl) (okx hf (hc6 _))
  have hf := oun (f_X6_inLeastTerms.eq_1 _ _ _ _) hf
  refine lv_lload_n hx hb dX6_inLeastTerms_0 rfl (lv_at hl 0 rfl) ?_
  refine lv_lstore (lv' := [(5, .long x0), (0, .long x0), (2, .long x2), (4, .int x4)]) hx hb dX6_inLeastTerms_1 hl (by decide) rfl (fun ls hl => ?_)
  refine lv_lload_n hx hb dX6_inLeastTerms_3 rfl (lv_at hl 2 rfl) ?_
  refine lv_lstore (lv' := [(7, .long x2), (5, .long x0), (0, .long x0), (2, .long x2), (4, .int x4)]) hx hb dX6_inLeastTerms_4 hl (by decide) rfl (fun ls hl => ?_)
  exact L6 x0 x2 x4 N x0 x2 _ (lv_sub hl [2, 3, 4, 1, 0] rfl) hf
end
section
theorem dJ7_fill_53178_0 : decode cJ7_fill_53178 0 = .ok (.iconst 0, 1) := by decide +kernel
theorem dJ7_fill_53178_1 : decode cJ7_fill_53178 1 = .ok (.istore_n 2, 1) := by decide +kernel
theorem dJ7_fill_53178_2 : decode cJ7_fill_53178 2 = .ok (.aload_n 0, 1) := by decide +kernel
theorem dJ7_fill_53178_3 : decode cJ7_fill_53178 3 = .ok (.arraylength, 1) := by decide +kernel
theorem dJ7_fill_53178_4 : decode cJ7_fill_53178 4 = .ok (.istore_n 3, 1) := by decide +kernel
theorem dJ7_fill_53178_5 : decode cJ7_fill_53178 5 = .ok (.iload_n 2, 1) := by decide +kernel
theorem dJ7_fill_53178_6 : decode cJ7_fill_53178 6 = .ok (.iload_n 3, 1) := by decide +kernel
theorem dJ7_fill_53178_7 : decode cJ7_fill_53178 7 = .ok (.if_icmp .ge 13, 3) := by decide +kernel
theorem dJ7_fill_53178_10 : decode cJ7_fill_53178 10 = .ok (.aload_n 0, 1) := by decide +kernel
theorem dJ7_fill_53178_11 : decode cJ7_fill_53178 11 = .ok (.iload_n 2, 1) := by decide +kernel
theorem dJ7_fill_53178_12 : decode cJ7_fill_53178 12 = .ok (.iload_n 1, 1) := by decide +kernel
theorem dJ7_fill_53178_13 : decode cJ7_fill_53178 13 = .ok (.iastore, 1) := by decide +kernel
theorem dJ7_fill_53178_14 : decode cJ7_fill_53178 14 = .ok (.iinc 2 1, 3) := by decide +kernel
theorem dJ7_fill_53178_17 : decode cJ7_fill_53178 17 = .ok (.goto (-12), 3) := by decide +kernel
theorem dJ7_fill_53178_20 : decode cJ7_fill_53178 20 = .ok (.return_, 1) := by decide +kernel
theorem dJ7_fill_d0a16_0 : decode cJ7_fill_d0a16 0 = .ok (.iconst 0, 1) := by decide +kernel
theorem dJ7_fill_d0a16_1 : decode cJ7_fill_d0a16 1 = .ok (.istore_n 3, 1) := by decide +kernel
theorem dJ7_fill_d0a16_2 : decode cJ7_fill_d0a16 2 = .ok (.aload_n 0, 1) := by decide +kernel
theorem dJ7_fill_d0a16_3 : decode cJ7_fill_d0a16 3 = .ok (.arraylength, 1) := by decide +kernel
theorem dJ7_fill_d0a16_4 : decode cJ7_fill_d0a16 4 = .ok (.istore 4, 2) := by decide +kernel
theorem dJ7_fill_d0a16_6 : decode cJ7_fill_d0a16 6 = .ok (.iload_n 3, 1) := by decide +kernel
theorem dJ7_fill_d0a16_7 : decode cJ7_fill_d0a16 7 = .ok (.iload 4, 2) := by decide +kernel
theorem dJ7_fill_d0a16_9 : decode cJ7_fill_d0a16 9 = .ok (.if_icmp .ge 13, 3) := by decide +kernel
theorem dJ7_fill_d0a16_12 : decode cJ7_fill_d0a16 12 = .ok (.aload_n 0, 1) := by decide +kernel
theorem dJ7_fill_d0a16_13 : decode cJ7_fill_d0a16 13 = .ok (.iload_n 3, 1) := by decide +kernel
theorem dJ7_fill_d0a16_14 : decode cJ7_fill_d0a16 14 = .ok (.lload_n 1, 1) := by decide +kernel
theorem dJ7_fill_d0a16_15 : decode cJ7_fill_d0a16 15 = .ok (.lastore, 1) := by decide +kernel
theorem dJ7_fill_d0a16_16 : decode cJ7_fill_d0a16 16 = .ok (.iinc 3 1, 3) := by decide +kernel
theorem dJ7_fill_d0a16_19 : decode cJ7_fill_d0a16 19 = .ok (.goto (-13), 3) := by decide +kernel
theorem dJ7_fill_d0a16_22 : decode cJ7_fill_d0a16 22 = .ok (.return_, 1) := by decide +kernel
theorem upd_is (f : Nat → Int32) (k : Nat) (v : Int32) : upd f k v = va_up f k v := rfl
theorem wG_same (σ : St) (g : Nat) : wG σ g (σ.1 g) = σ := by
  obtain ⟨s1, s2⟩ := σ
  show (va_up s1 g (s1 g), s2) = (s1, s2)
  congr 1
  funext j
  by_cases h : j = g
  · rw [h, va_up_self]
  · rw [va_up_ne _ _ h]
theorem wS_wG (σ : St) (g : Nat) (f : Nat → Int32) (j : Nat) (v : Int32) : wS (wG σ g f) g j v = wG σ g (upd f j v) := by
  show (va_up (va_up σ.1 g f) g (upd (va_up σ.1 g f g) j v), σ.2) = (va_up σ.1 g (upd f j v), σ.2)
  rw [va_up_self]
  congr 1
  funext i
  by_cases h : i = g
  · rw [h, va_up_self, va_up_self]
  · rw [va_up_ne _ _ h, va_up_ne _ _ h, va_up_ne _ _ h]
theorem fl_step (f : Nat → Int32) (n : Nat) (v : Int32) : upd (fun j => if j < n then v else f j) n v = fun j => if j < n + 1 then v else f j := by
  funext j
  unfold upd
  by_cases h : j = n
  · rw [if_pos h, if_pos (by omega)]
  · rw [if_neg h]
    show (if j < n then v else f j) = _
    by_cases h2 : j < n
    · rw [if_pos h2, if_pos (by omega)]
    · rw [if_neg h2, if_neg (by omega)]
theorem fl_stepL (f : Nat → Int64) (n : Nat) (v : Int64) : vp_updL (fun j => if j < n then v else f j) n v = fun j => if j < n + 1 then v else f j := by
  funext j
  unfold vp_updL
  by_cases h : j = n
  · rw [if_pos h, if_pos (by omega)]
  · rw [if_neg h]
    show (if j < n then v else f j) = _
    by_cases h2 : j < n
    · rw [if_pos h2, if_pos (by omega)]
    · rw [if_neg h2, if_neg (by omega)]
abbrev rmZ : Room := { frames := 0, cells := 0, slots := 0, locals := 0 }
set_option maxRecDepth 100000 in
set_option maxHeartbeats 4000000 in
theorem c_fillI (l : Launch) (D : va_G) (a : Nat → Nat) (c : Nat → ClassId) (A : Nat → Prop) (hD : ∀ σ, va_D A (cW a c σ)) (σ : St) (d : Nat) (hd : d < 4) (v : Int32) : MetV l yJ7_fill_53178 cJ7_fill_53178 4 none rmZ (cW a c) D c A [.ref (a (19 + d)), .int v] σ (wG σ (12 + d) (fun j => if j < 60 then v else σ.1 (12 + d) j)) := by
  refine mkV (by decide) (Nat.le_of_ble_eq_true rfl) rfl ?_
  intro p e s m args below meth cd Q ls h0 hK hP hret hl
  obtain ⟨S, hr, hlk⟩ := h0
  obtain ⟨hx, hb, hml, hown, ht⟩ := id S
  have hS : va_S A s.heap s.heap [] := va_S.rf
  have hl : lv_has ls 4 [(0, .ref (a (19 + d))), (1, .int v)] := hl
  have LP : ∀ (k n : Nat) (H : Heap) (locs : List Loc) (ls : Array Slot), n + k = 60 → lv_has ls 4 [(3, .int (60 : Int32)), (2, .int (nI n)), (0, .ref (a (19 + d))), (1, .int v)] → va_P D vwCl (cW a c (wG σ (12 + d) (fun j => if j < n then v else σ.1 (12 + d) j))) H → va_S A s.heap H locs → W p l e rmZ s m args below meth cd H locs 0 0 Q (F0 m 5 ls []) := by
    intro k
    induction k with
    | zero =>
      intro n H locs ls hn hl hP hS
      have hn : n = 60 := hn
      subst hn
      refine lv_iload_n hx hb dJ7_fill_53178_5 rfl (lv_at hl 1 rfl) ?_
      refine lv_iload_n hx hb dJ7_fill_53178_6 rfl (lv_at hl 0 rfl) ?_
      refine lv_icmp_ge (tgt := 20) hx hb dJ7_fill_53178_7 (by decide) (fun c1 => ?_) (fun c1 => ?_)
      · exact hret _ _ _ _ _ dJ7_fill_53178_20 hP hS rfl
      · exact absurd (by decide) c1
    | succ k ih =>
      intro n H locs ls hn hl hP hS
      refine lv_iload_n hx hb dJ7_fill_53178_5 rfl (lv_at hl 1 rfl) ?_
      refine lv_iload_n hx hb dJ7_fill_53178_6 rfl (lv_at hl 0 rfl) ?_
      refine lv_icmp_ge (tgt := 20) hx hb dJ7_fill_53178_7 (by decide) (fun c1 => ?_) (fun c1 => ?_)
      · exact absurd c1 (nI_ge (a := n) (b := 60) (by omega) (by omega))
      · refine lv_aload_n hx hb dJ7_fill_53178_10 rfl (lv_at hl 2 rfl) ?_
        refine lv_iload_n hx hb dJ7_fill_53178_11 rfl (lv_at hl 1 rfl) ?_
        refine lv_iload_n hx hb dJ7_fill_53178_12 rfl (lv_at hl 3 rfl) ?_
        refine va_iast hx hb hK.1 hP (hD _) hS (19 + d) 0 (cwcells a c _ d hd) rfl (vp_in_nI (by omega) (by omega)) dJ7_fill_53178_13 (fun H locs hP _ hS => ?_)
        have hP := vP_eq (cpA_cells a c _ d hd _ _) hP
        rw [wS_wG, nI_clamp (by omega)] at hP
        have e1 : (wG σ (12 + d) (fun j => if j < n then v else σ.1 (12 + d) j)).1 (12 + d) = fun j => if j < n then v else σ.1 (12 + d) j := va_up_self _ _ _
        rw [fl_step] at hP
        refine lv_iinc (v := nI (n + 1)) (lv' := [(2, .int (nI (n + 1))), (3, .int (60 : Int32)), (0, .ref (a (19 + d))), (1, .int v)]) hx hb dJ7_fill_53178_14 hl (k := 1) rfl (nI_1 n) (by decide) rfl (fun ls hl => ?_)
        refine lv_goto (tgt := 5) hx hb dJ7_fill_53178_17 (by decide) ?_
        exact ih (n + 1) _ _ _ (by omega) (lv_sub hl [1, 0, 2, 3] rfl) hP hS
  refine lv_iconst (v := (0 : Int32)) hx hb dJ7_fill_53178_0 (by decide) ?_
  refine lv_istore_n (lv' := [(2, .int (0 : Int32)), (0, .ref (a (19 + d))), (1, .int v)]) hx hb dJ7_fill_53178_1 rfl hl (by decide) rfl (fun ls hl => ?_)
  refine lv_aload_n hx hb dJ7_fill_53178_2 rfl (lv_at hl 1 rfl) ?_
  refine va_alen (v := (60 : Int32)) hx hb hK.1 hP (19 + d) 0 (cwcells a c _ d hd) rfl rfl dJ7_fill_53178_3 ?_
  refine lv_istore_n (lv' := [(3, .int (60 : Int32)), (2, .int (0 : Int32)), (0, .ref (a (19 + d))), (1, .int v)]) hx hb dJ7_fill_53178_4 rfl hl (by decide) rfl (fun ls hl => ?_)
  have hP : va_P D vwCl (cW a c (wG σ (12 + d) (fun j => if j < 0 then v else σ.1 (12 + d) j))) s.heap := by
    have e0 : (fun j => if j < 0 then v else σ.1 (12 + d) j) = σ.1 (12 + d) := by funext j; rw [if_neg (by omega)]
    rw [e0, wG_same]
    exact hP
  exact LP 60 0 _ _ _ rfl hl hP hS
set_option maxRecDepth 100000 in
set_option maxHeartbeats 4000000 in
theorem c_fillL (l : Launch) (D : va_G) (a : Nat → Nat) (c : Nat → ClassId) (A : Nat → Prop) (hD : ∀ σ, va_D A (cW a c σ)) (σ : St) (v : Int64) : MetV l yJ7_fill_d0a16 cJ7_fill_d0a16 5 none rmZ (cW a c) D c A [.ref (a 10), .long v] σ (wLs σ (fun j => if j < 1024 then v else σ.2 j)) := by
  refine mkV (by decide) (Nat.le_of_ble_eq_true rfl) rfl ?_
  intro p e s m args below meth cd Q ls h0 hK hP hret hl
  obtain ⟨S, hr, hlk⟩ := h0
  obtain ⟨hx, hb, hml, hown, ht⟩ := id S
  have hS : va_S A s.heap s.heap [] := va_S.rf
  have hl : lv_has ls 5 [(0, .ref (a 10)), (1, .long v)] := hl
  have LP : ∀ (k n : Nat) (H : Heap) (locs : List Loc) (ls : Array Slot), n + k = 1024 → lv_has ls 5 [(4, .int (1024 : Int32)), (3, .int (nI n)), (0, .ref (a 10)), (1, .long v)] → va_P D vwCl (cW a c (wLs σ (fun j => if j < n then v else σ.2 j))) H → va_S A s.heap H locs → W p l e rmZ s m args below meth cd H locs 0 0 Q (F0 m 6 ls []) := by
    intro k
    induction k with
    | zero =>
      intro n H locs ls hn hl hP hS
      have hn : n = 1024 := hn
      subst hn
      refine lv_iload_n hx hb dJ7_fill_d0a16_6 rfl (lv_at hl 1 rfl) ?_
      refine lv_iload hx hb dJ7_fill_d0a16_7 (lv_at hl 0 rfl) ?_
      refine lv_icmp_ge (tgt := 22) hx hb dJ7_fill_d0a16_9 (by decide) (fun c1 => ?_) (fun c1 => ?_)
      · exact hret _ _ _ _ _ dJ7_fill_d0a16_22 hP hS rfl
      · exact absurd (by decide) c1
    | succ k ih =>
      intro n H locs ls hn hl hP hS
      refine lv_iload_n hx hb dJ7_fill_d0a16_6 rfl (lv_at hl 1 rfl) ?_
      refine lv_iload hx hb dJ7_fill_d0a16_7 (lv_at hl 0 rfl) ?_
      refine lv_icmp_ge (tgt := 22) hx hb dJ7_fill_d0a16_9 (by decide) (fun c1 => ?_) (fun c1 => ?_)
      · exact absurd c1 (nI_ge (a := n) (b := 1024) (by omega) (by omega))
      · refine lv_aload_n hx hb dJ7_fill_d0a16_12 rfl (lv_at hl 2 rfl) ?_
        refine lv_iload_n hx hb dJ7_fill_d0a16_13 rfl (lv_at hl 1 rfl) ?_
        refine lv_lload_n hx hb dJ7_fill_d0a16_14 rfl (lv_at hl 3 rfl) ?_
        refine va_last hx hb hK.1 hP (hD _) hS 10 1 (cw10 a c _) rfl (vp_in_nI (by omega) (by omega)) dJ7_fill_d0a16_15 (fun H locs hP _ hS => ?_)
        have hP := vP_eq (cpA_seen a c _ _ _) hP
        have e2 : wL (wLs σ (fun j => if j < n then v else σ.2 j)) (nI n).toNatClampNeg v = wLs σ (fun j => if j < n + 1 then v else σ.2 j) := by
          rw [nI_clamp (by omega), ← fl_stepL]
          rfl
        rw [e2] at hP
        refine lv_iinc (v := nI (n + 1)) (lv' := [(3, .int (nI (n + 1))), (4, .int (1024 : Int32)), (0, .ref (a 10)), (1, .long v)]) hx hb dJ7_fill_d0a16_16 hl (k := 1) rfl (nI_1 n) (by decide) rfl (fun ls hl => ?_)
        refine lv_goto (tgt := 6) hx hb dJ7_fill_d0a16_19 (by decide) ?_
        exact ih (n + 1) _ _ _ (by omega) (lv_sub hl [1, 0, 2, 3] rfl) hP hS
  refine lv_iconst (v := (0 : Int32)) hx hb dJ7_fill_d0a16_0 (by decide) ?_
  refine lv_istore_n (lv' := [(3, .int (0 : Int32)), (0, .ref (a 10)), (1, .long v)]) hx hb dJ7_fill_d0a16_1 rfl hl (by decide) rfl (fun ls hl => ?_)
  refine lv_aload_n hx hb dJ7_fill_d0a16_2 rfl (lv_at hl 1 rfl) ?_
  refine va_alen (v := (1024 : Int32)) hx hb hK.1 hP 10 1 (cw10 a c _) rfl rfl dJ7_fill_d0a16_3 ?_
  refine lv_istore (lv' := [(4, .int (1024 : Int32)), (3, .int (0 : Int32)), (0, .ref (a 10)), (1, .long v)]) hx hb dJ7_fill_d0a16_4 hl (by decide) rfl (fun ls hl => ?_)
  have hP : va_P D vwCl (cW a c (wLs σ (fun j => if j < 0 then v else σ.2 j))) s.heap := by
    have e0 : (fun j => if j < 0 then v else σ.2 j) = σ.2 := by funext j; rw [if_neg (by omega)]
    rw [e0]
    exact hP
  exact LP 1024 0 _ _ _ rfl hl hP hS
end
section
theorem dX2_hasCells_0 : decode cX2_hasCells 0 = .ok (.iload_n 2, 1) := by decide +kernel
theorem dX2_hasCells_1 : decode cX2_hasCells 1 = .ok (.ifCond .lt 29, 3) := by decide +kernel
theorem dX2_hasCells_4 : decode cX2_hasCells 4 = .ok (.iload_n 1, 1) := by decide +kernel
theorem dX2_hasCells_5 : decode cX2_hasCells 5 = .ok (.ifCond .lt 25, 3) := by decide +kernel
theorem dX2_hasCells_8 : decode cX2_hasCells 8 = .ok (.iload_n 1, 1) := by decide +kernel
theorem dX2_hasCells_9 : decode cX2_hasCells 9 = .ok (.aload_n 0, 1) := by decide +kernel
theorem dX2_hasCells_10 : decode cX2_hasCells 10 = .ok (.getfield 28, 3) := by decide +kernel
theorem dX2_hasCells_13 : decode cX2_hasCells 13 = .ok (.if_icmp .gt 17, 3) := by decide +kernel
theorem dX2_hasCells_16 : decode cX2_hasCells 16 = .ok (.iload_n 2, 1) := by decide +kernel
theorem dX2_hasCells_17 : decode cX2_hasCells 17 = .ok (.aload_n 0, 1) := by decide +kernel
theorem dX2_hasCells_18 : decode cX2_hasCells 18 = .ok (.getfield 28, 3) := by decide +kernel
theorem dX2_hasCells_21 : decode cX2_hasCells 21 = .ok (.iload_n 1, 1) := by decide +kernel
theorem dX2_hasCells_22 : decode cX2_hasCells 22 = .ok (.isub, 1) := by decide +kernel
theorem dX2_hasCells_23 : decode cX2_hasCells 23 = .ok (.if_icmp .gt 7, 3) := by decide +kernel
theorem dX2_hasCells_26 : decode cX2_hasCells 26 = .ok (.iconst 1, 1) := by decide +kernel
theorem dX2_hasCells_27 : decode cX2_hasCells 27 = .ok (.goto 4, 3) := by decide +kernel
theorem dX2_hasCells_30 : decode cX2_hasCells 30 = .ok (.iconst 0, 1) := by decide +kernel
theorem dX2_hasCells_31 : decode cX2_hasCells 31 = .ok (.ireturn, 1) := by decide +kernel
def f_X2_hasCells (x0 : Nat) (x1 : Int32) (x2 : Int32) (σ : St) : Option Int32 :=
  if x2 < 0 then (some (0 : Int32))
  else if x1 < 0 then (some (0 : Int32))
  else if (σ.1 5 x0) < x1 then (some (0 : Int32))
  else if ((σ.1 5 x0) - x1) < x2 then (some (0 : Int32))
  else some (1 : Int32)
abbrev rmX2_hasCells : Room := { frames := 0, cells := 0, slots := 0, locals := 0 }
set_option maxRecDepth 100000 in
set_option maxHeartbeats 4000000 in
theorem c_X2_hasCells (l : Launch) (D : va_G) (a : Nat → Nat) (c : Nat → ClassId) (A : Nat → Prop) (hD : ∀ σ, va_D A (cW a c σ)) (x0 : Nat) (x1 : Int32) (x2 : Int32) (σ : St) (hx0 : x0 < 4) (r : Int32) (hf : f_X2_hasCells x0 x1 x2 σ = some r) : MetI l yX2_hasCells cX2_hasCells 3 (some .boolean) rmX2_hasCells (cW a c) D c A [.ref (a (15 + x0)), .int x1, .int x2] σ r σ := by
  refine mkI (by decide) (Nat.le_of_ble_eq_true rfl) rfl ?_
  intro p e s m args below meth cd Q ls h0 hK hP hret hl
  obtain ⟨S, hr, hlk⟩ := h0
  obtain ⟨hx, hb, hml, hown, ht⟩ := id S
  have hS : va_S A s.heap s.heap [] := va_S.rf
  have hl : lv_has ls 3 [(0, .ref (a (15 + x0))), (1, .int x1), (2, .int x2)] := hl
  have hf := obs hf
  have hf := oun (f_X2_hasCells.eq_1 _ _ _ _) hf
  refine lv_iload_n hx hb dX2_hasCells_0 rfl (lv_at hl 2 rfl) ?_
  refine lv_if_lt (tgt := 30) hx hb dX2_hasCells_1 (by decide) (fun c_1 => ?_) (fun c_1 => ?_)
  · have hf := oit c_1 hf
    refine lv_iconst (v := (0 : Int32)) hx hb dX2_hasCells_30 (by decide) ?_
    exact hret _ _ _ _ _ _ dX2_hasCells_31 (by decide) hP hS ⟨Option.some.inj hf, rfl⟩
  have hf := oif c_1 hf
  refine lv_iload_n hx hb dX2_hasCells_4 rfl (lv_at hl 1 rfl) ?_
  refine lv_if_lt (tgt := 30) hx hb dX2_hasCells_5 (by decide) (fun c_2 => ?_) (fun c_2 => ?_)
  · have hf := oit c_2 hf
    refine lv_iconst (v := (0 : Int32)) hx hb dX2_hasCells_30 (by decide) ?_
    exact hret _ _ _ _ _ _ dX2_hasCells_31 (by decide) hP hS ⟨Option.some.inj hf, rfl⟩
  have hf := oif c_2 hf
  refine lv_iload_n hx hb dX2_hasCells_8 rfl (lv_at hl 1 rfl) ?_
  refine lv_aload_n hx hb dX2_hasCells_9 rfl (lv_at hl 0 rfl) ?_
  refine va_get (D := D) (ci := 2) (v := .int (σ.1 5 x0)) (C := RX2) (T := TX2) (N := 3) hx hb ht gX2 hown hK.1 hP (15 + x0) (cwX2 a c σ x0 hx0) rfl 2 (by decide) (ht _ q93) (fun _ h9 => h9) rfl dX2_hasCells_10 ?_
  refine lv_icmp_gt (tgt := 30) hx hb dX2_hasCells_13 (by decide) (fun c_3 => ?_) (fun c_3 => ?_)
  · have hf := oit c_3 hf
    refine lv_iconst (v := (0 : Int32)) hx hb dX2_hasCells_30 (by decide) ?_
    exact hret _ _ _ _ _ _ dX2_hasCells_31 (by decide) hP hS ⟨Option.some.inj hf, rfl⟩
  have hf := oif c_3 hf
  refine lv_iload_n hx hb dX2_hasCells_16 rfl (lv_at hl 2 rfl) ?_
  refine lv_aload_n hx hb dX2_hasCells_17 rfl (lv_at hl 0 rfl) ?_
  refine va_get (D := D) (ci := 2) (v := .int (σ.1 5 x0)) (C := RX2) (T := TX2) (N := 3) hx hb ht gX2 hown hK.1 hP (15 + x0) (cwX2 a c σ x0 hx0) rfl 2 (by decide) (ht _ q93) (fun _ h9 => h9) rfl dX2_hasCells_18 ?_
  refine lv_iload_n hx hb dX2_hasCells_21 rfl (lv_at hl 1 rfl) ?_
  refine lv_isub hx hb dX2_hasCells_22 ?_
  refine lv_icmp_gt (tgt := 30) hx hb dX2_hasCells_23 (by decide) (fun c_4 => ?_) (fun c_4 => ?_)
  · have hf := oit c_4 hf
    refine lv_iconst (v := (0 : Int32)) hx hb dX2_hasCells_30 (by decide) ?_
    exact hret _ _ _ _ _ _ dX2_hasCells_31 (by decide) hP hS ⟨Option.some.inj hf, rfl⟩
  have hf := oif c_4 hf
  refine lv_iconst (v := (1 : Int32)) hx hb dX2_hasCells_26 (by decide) ?_
  refine lv_goto (tgt := 31) hx hb dX2_hasCells_27 (by decide) ?_
  exact hret _ _ _ _ _ _ dX2_hasCells_31 (by decide) hP hS ⟨Option.some.inj hf, rfl⟩
theorem dX2_hasNothing_0 : decode cX2_hasNothing 0 = .ok (.aload_n 0, 1) := by decide +kernel
theorem dX2_hasNothing_1 : decode cX2_hasNothing 1 = .ok (.getfield 15, 3) := by decide +kernel
theorem dX2_hasNothing_4 : decode cX2_hasNothing 4 = .ok (.iconst (-1), 1) := by decide +kernel
theorem dX2_hasNothing_5 : decode cX2_hasNothing 5 = .ok (.if_icmp .ne 7, 3) := by decide +kernel
theorem dX2_hasNothing_8 : decode cX2_hasNothing 8 = .ok (.iconst 1, 1) := by decide +kernel
theorem dX2_hasNothing_9 : decode cX2_hasNothing 9 = .ok (.goto 4, 3) := by decide +kernel
theorem dX2_hasNothing_12 : decode cX2_hasNothing 12 = .ok (.iconst 0, 1) := by decide +kernel
theorem dX2_hasNothing_13 : decode cX2_hasNothing 13 = .ok (.ireturn, 1) := by decide +kernel
def f_X2_hasNothing (x0 : Nat) (σ : St) : Option Int32 :=
  if (σ.1 4 x0) = (-1 : Int32) then (some (1 : Int32))
  else some (0 : Int32)
abbrev rmX2_hasNothing : Room := { frames := 0, cells := 0, slots := 0, locals := 0 }
set_option maxRecDepth 100000 in
set_option maxHeartbeats 4000000 in
theorem c_X2_hasNothing (l : Launch) (D : va_G) (a : Nat → Nat) (c : Nat → ClassId) (A : Nat → Prop) (hD : ∀ σ, va_D A (cW a c σ)) (x0 : Nat) (σ : St) (hx0 : x0 < 4) (r : Int32) (hf : f_X2_hasNothing x0 σ = some r) : MetI l yX2_hasNothing cX2_hasNothing 1 (some .boolean) rmX2_hasNothing (cW a c) D c A [.ref (a (15 + x0))] σ r σ := by
  refine mkI (by decide) (Nat.le_of_ble_eq_true rfl) rfl ?_
  intro p e s m args below meth cd Q ls h0 hK hP hret hl
  obtain ⟨S, hr, hlk⟩ := h0
  obtain ⟨hx, hb, hml, hown, ht⟩ := id S
  have hS : va_S A s.heap s.heap [] := va_S.rf
  have hl : lv_has ls 1 [(0, .ref (a (15 + x0)))] := hl
  have hf := obs hf
  have hf := oun (f_X2_hasNothing.eq_1 _ _) hf
  refine lv_aload_n hx hb dX2_hasNothing_0 rfl (lv_at hl 0 rfl) ?_
  refine va_get (D := D) (ci := 2) (v := .int (σ.1 4 x0)) (C := RX2) (T := TX2) (N := 3) hx hb ht gX2 hown hK.1 hP (15 + x0) (cwX2 a c σ x0 hx0) rfl 1 (by decide) (ht _ q45) (fun _ h9 => h9) rfl dX2_hasNothing_1 ?_
  refine lv_iconst (v := (-1 : Int32)) hx hb dX2_hasNothing_4 (by decide) ?_
  refine lv_icmp_ne (tgt := 12) hx hb dX2_hasNothing_5 (by decide) (fun c_1 => ?_) (fun c_1 => ?_)
  · have hf := oif c_1 hf
    refine lv_iconst (v := (0 : Int32)) hx hb dX2_hasNothing_12 (by decide) ?_
    exact hret _ _ _ _ _ _ dX2_hasNothing_13 (by decide) hP hS ⟨Option.some.inj hf, rfl⟩
  have hf := oit c_1 hf
  refine lv_iconst (v := (1 : Int32)) hx hb dX2_hasNothing_8 (by decide) ?_
  refine lv_goto (tgt := 13) hx hb dX2_hasNothing_9 (by decide) ?_
  exact hret _ _ _ _ _ _ dX2_hasNothing_13 (by decide) hP hS ⟨Option.some.inj hf, rfl⟩
theorem dX2_faultOf_0 : decode cX2_faultOf 0 = .ok (.aload_n 0, 1) := by decide +kernel
theorem dX2_faultOf_1 : decode cX2_faultOf 1 = .ok (.invokevirtual 41, 3) := by decide +kernel
theorem dX2_faultOf_4 : decode cX2_faultOf 4 = .ok (.ifCond .eq 5, 3) := by decide +kernel
theorem dX2_faultOf_7 : decode cX2_faultOf 7 = .ok (.iconst 1, 1) := by decide +kernel
theorem dX2_faultOf_8 : decode cX2_faultOf 8 = .ok (.ireturn, 1) := by decide +kernel
theorem dX2_faultOf_9 : decode cX2_faultOf 9 = .ok (.aload_n 0, 1) := by decide +kernel
theorem dX2_faultOf_10 : decode cX2_faultOf 10 = .ok (.getfield 15, 3) := by decide +kernel
theorem dX2_faultOf_13 : decode cX2_faultOf 13 = .ok (.iload_n 1, 1) := by decide +kernel
theorem dX2_faultOf_14 : decode cX2_faultOf 14 = .ok (.if_icmp .eq 5, 3) := by decide +kernel
theorem dX2_faultOf_17 : decode cX2_faultOf 17 = .ok (.iconst 2, 1) := by decide +kernel
theorem dX2_faultOf_18 : decode cX2_faultOf 18 = .ok (.ireturn, 1) := by decide +kernel
theorem dX2_faultOf_19 : decode cX2_faultOf 19 = .ok (.iload_n 3, 1) := by decide +kernel
theorem dX2_faultOf_20 : decode cX2_faultOf 20 = .ok (.ifCond .ge 5, 3) := by decide +kernel
theorem dX2_faultOf_23 : decode cX2_faultOf 23 = .ok (.iconst 4, 1) := by decide +kernel
theorem dX2_faultOf_24 : decode cX2_faultOf 24 = .ok (.ireturn, 1) := by decide +kernel
theorem dX2_faultOf_25 : decode cX2_faultOf 25 = .ok (.aload_n 0, 1) := by decide +kernel
theorem dX2_faultOf_26 : decode cX2_faultOf 26 = .ok (.iload_n 2, 1) := by decide +kernel
theorem dX2_faultOf_27 : decode cX2_faultOf 27 = .ok (.iload_n 3, 1) := by decide +kernel
theorem dX2_faultOf_28 : decode cX2_faultOf 28 = .ok (.invokevirtual 45, 3) := by decide +kernel
theorem dX2_faultOf_31 : decode cX2_faultOf 31 = .ok (.ifCond .eq 7, 3) := by decide +kernel
theorem dX2_faultOf_34 : decode cX2_faultOf 34 = .ok (.iconst 0, 1) := by decide +kernel
theorem dX2_faultOf_35 : decode cX2_faultOf 35 = .ok (.goto 4, 3) := by decide +kernel
theorem dX2_faultOf_38 : decode cX2_faultOf 38 = .ok (.iconst 3, 1) := by decide +kernel
theorem dX2_faultOf_39 : decode cX2_faultOf 39 = .ok (.ireturn, 1) := by decide +kernel
def f_X2_faultOf (x0 : Nat) (x1 : Int32) (x2 : Int32) (x3 : Int32) (σ : St) : Option Int32 :=
  bd (f_X2_hasNothing x0 σ) fun r_1 =>
  if r_1 = 0 then (if (σ.1 4 x0) = x1 then (if 0 ≤ x3 then (bd (f_X2_hasCells x0 x2 x3 σ) fun r_6 =>
        if r_6 = 0 then (some (3 : Int32))
        else some (0 : Int32))
      else some (4 : Int32))
    else some (2 : Int32))
  else some (1 : Int32)
abbrev rmX2_faultOf : Room := { frames := 1, cells := 0, slots := 0, locals := 22 }
set_option maxRecDepth 100000 in
set_option maxHeartbeats 4000000 in
theorem c_X2_faultOf (l : Launch) (D : va_G) (a : Nat → Nat) (c : Nat → ClassId) (A : Nat → Prop) (hD : ∀ σ, va_D A (cW a c σ)) (x0 : Nat) (x1 : Int32) (x2 : Int32) (x3 : Int32) (σ : St) (hx0 : x0 < 4) (r : Int32) (hf : f_X2_faultOf x0 x1 x2 x3 σ = some r) : MetI l yX2_faultOf cX2_faultOf 4 (some .int) rmX2_faultOf (cW a c) D c A [.ref (a (15 + x0)), .int x1, .int x2, .int x3] σ r σ := by
  refine mkI (by decide) (Nat.le_of_ble_eq_true rfl) rfl ?_
  intro p e s m args below meth cd Q ls h0 hK hP hret hl
  obtain ⟨S, hr, hlk⟩ := h0
  obtain ⟨hx, hb, hml, hown, ht⟩ := id S
  have hS : va_S A s.heap s.heap [] := va_S.rf
  have hl : lv_has ls 4 [(0, .ref (a (15 + x0))), (1, .int x1), (2, .int x2), (3, .int x3)] := hl
  have hf := obs hf
  have hf := oun (f_X2_faultOf.eq_1 _ _ _ _ _) hf
  refine lv_aload_n hx hb dX2_faultOf_0 rfl (lv_at hl 0 rfl) ?_
  obtain ⟨r_1, h_2, hf⟩ := obd hf
  refine xv_I (As := []) (rest := []) S k_X2_hasNothing q85 q86 q87 ⟨Nat.le_of_ble_eq_true rfl, Nat.le_of_ble_eq_true rfl⟩ ⟨rfl, rfl⟩ (c_X2_hasNothing l D a c A hD x0 σ hx0 r_1 h_2) hK hP hS (va_recv hK.1 hP (rfl : vwCl[2]? = some (RX2, TX2, 3)) (cwX2 a c σ x0 hx0)) rfl hl.1 rfl (Nat.le_of_ble_eq_true rfl) dX2_faultOf_1 ⟨Nat.zero_le _, Nat.zero_le _⟩ (fun H locs hP hS => ?_)
  refine lv_if_eq (tgt := 9) hx hb dX2_faultOf_4 (by decide) (fun c_3 => ?_) (fun c_3 => ?_)
  · have hf := oit c_3 hf
    refine lv_aload_n hx hb dX2_faultOf_9 rfl (lv_at hl 0 rfl) ?_
    refine va_get (D := D) (ci := 2) (v := .int (σ.1 4 x0)) (C := RX2) (T := TX2) (N := 3) hx hb ht gX2 hown hK.1 hP (15 + x0) (cwX2 a c σ x0 hx0) rfl 1 (by decide) (ht _ q45) (fun _ h9 => h9) rfl dX2_faultOf_10 ?_
    refine lv_iload_n hx hb dX2_faultOf_13 rfl (lv_at hl 1 rfl) ?_
    refine lv_icmp_eq (tgt := 19) hx hb dX2_faultOf_14 (by decide) (fun c_4 => ?_) (fun c_4 => ?_)
    · have hf := oit c_4 hf
      refine lv_iload_n hx hb dX2_faultOf_19 rfl (lv_at hl 3 rfl) ?_
      refine lv_if_ge (tgt := 25) hx hb dX2_faultOf_20 (by decide) (fun c_5 => ?_) (fun c_5 => ?_)
      · have hf := oit c_5 hf
        refine lv_aload_n hx hb dX2_faultOf_25 rfl (lv_at hl 0 rfl) ?_
        refine lv_iload_n hx hb dX2_faultOf_26 rfl (lv_at hl 2 rfl) ?_
        refine lv_iload_n hx hb dX2_faultOf_27 rfl (lv_at hl 3 rfl) ?_
        obtain ⟨r_6, h_7, hf⟩ := obd hf
        refine xv_I (As := [.int x2, .int x3]) (rest := []) S k_X2_hasCells q89 q90 q91 ⟨Nat.le_of_ble_eq_true rfl, Nat.le_of_ble_eq_true rfl⟩ ⟨rfl, rfl⟩ (c_X2_hasCells l D a c A hD x0 x2 x3 σ hx0 r_6 h_7) hK hP hS (va_recv hK.1 hP (rfl : vwCl[2]? = some (RX2, TX2, 3)) (cwX2 a c σ x0 hx0)) rfl hl.1 rfl (Nat.le_of_ble_eq_true rfl) dX2_faultOf_28 ⟨Nat.zero_le _, Nat.zero_le _⟩ (fun H locs hP hS => ?_)
        refine lv_if_eq (tgt := 38) hx hb dX2_faultOf_31 (by decide) (fun c_8 => ?_) (fun c_8 => ?_)
        · have hf := oit c_8 hf
          refine lv_iconst (v := (3 : Int32)) hx hb dX2_faultOf_38 (by decide) ?_
          exact hret _ _ _ _ _ _ dX2_faultOf_39 rfl hP hS ⟨Option.some.inj hf, rfl⟩
        have hf := oif c_8 hf
        refine lv_iconst (v := (0 : Int32)) hx hb dX2_faultOf_34 (by decide) ?_
        refine lv_goto (tgt := 39) hx hb dX2_faultOf_35 (by decide) ?_
        exact hret _ _ _ _ _ _ dX2_faultOf_39 rfl hP hS ⟨Option.some.inj hf, rfl⟩
      have hf := oif c_5 hf
      refine lv_iconst (v := (4 : Int32)) hx hb dX2_faultOf_23 (by decide) ?_
      exact hret _ _ _ _ _ _ dX2_faultOf_24 rfl hP hS ⟨Option.some.inj hf, rfl⟩
    have hf := oif c_4 hf
    refine lv_iconst (v := (2 : Int32)) hx hb dX2_faultOf_17 (by decide) ?_
    exact hret _ _ _ _ _ _ dX2_faultOf_18 rfl hP hS ⟨Option.some.inj hf, rfl⟩
  have hf := oif c_3 hf
  refine lv_iconst (v := (1 : Int32)) hx hb dX2_faultOf_7 (by decide) ?_
  exact hret _ _ _ _ _ _ dX2_faultOf_8 rfl hP hS ⟨Option.some.inj hf, rfl⟩
theorem dX2_at_0 : decode cX2_at 0 = .ok (.iload_n 1, 1) := by decide +kernel
theorem dX2_at_1 : decode cX2_at 1 = .ok (.ifCond .lt 20, 3) := by decide +kernel
theorem dX2_at_4 : decode cX2_at 4 = .ok (.iload_n 1, 1) := by decide +kernel
theorem dX2_at_5 : decode cX2_at 5 = .ok (.aload_n 0, 1) := by decide +kernel
theorem dX2_at_6 : decode cX2_at 6 = .ok (.getfield 28, 3) := by decide +kernel
theorem dX2_at_9 : decode cX2_at 9 = .ok (.if_icmp .ge 12, 3) := by decide +kernel
theorem dX2_at_12 : decode cX2_at 12 = .ok (.aload_n 0, 1) := by decide +kernel
theorem dX2_at_13 : decode cX2_at 13 = .ok (.getfield 9, 3) := by decide +kernel
theorem dX2_at_16 : decode cX2_at 16 = .ok (.iload_n 1, 1) := by decide +kernel
theorem dX2_at_17 : decode cX2_at 17 = .ok (.iaload, 1) := by decide +kernel
theorem dX2_at_18 : decode cX2_at 18 = .ok (.goto 4, 3) := by decide +kernel
theorem dX2_at_21 : decode cX2_at 21 = .ok (.iconst 0, 1) := by decide +kernel
theorem dX2_at_22 : decode cX2_at 22 = .ok (.ireturn, 1) := by decide +kernel
def f_X2_at (x0 : Nat) (x1 : Int32) (σ : St) : Option Int32 :=
  if x1 < 0 then (some (0 : Int32))
  else if (σ.1 5 x0) ≤ x1 then (some (0 : Int32))
  else gd (ck x1 60) <|
  some (σ.1 (12 + x0) x1.toNatClampNeg)
abbrev rmX2_at : Room := { frames := 0, cells := 0, slots := 0, locals := 0 }
set_option maxRecDepth 100000 in
set_option maxHeartbeats 4000000 in
theorem c_X2_at (l : Launch) (D : va_G) (a : Nat → Nat) (c : Nat → ClassId) (A : Nat → Prop) (hD : ∀ σ, va_D A (cW a c σ)) (x0 : Nat) (x1 : Int32) (σ : St) (hx0 : x0 < 4) (r : Int32) (hf : f_X2_at x0 x1 σ = some r) : MetI l yX2_at cX2_at 2 (some .int) rmX2_at (cW a c) D c A [.ref (a (15 + x0)), .int x1] σ r σ := by
  refine mkI (by decide) (Nat.le_of_ble_eq_true rfl) rfl ?_
  intro p e s m args below meth cd Q ls h0 hK hP hret hl
  obtain ⟨S, hr, hlk⟩ := h0
  obtain ⟨hx, hb, hml, hown, ht⟩ := id S
  have hS : va_S A s.heap s.heap [] := va_S.rf
  have hl : lv_has ls 2 [(0, .ref (a (15 + x0))), (1, .int x1)] := hl
  have hf := obs hf
  have hf := oun (f_X2_at.eq_1 _ _ _) hf
  refine lv_iload_n hx hb dX2_at_0 rfl (lv_at hl 1 rfl) ?_
  refine lv_if_lt (tgt := 21) hx hb dX2_at_1 (by decide) (fun c_1 => ?_) (fun c_1 => ?_)
  · have hf := oit c_1 hf
    refine lv_iconst (v := (0 : Int32)) hx hb dX2_at_21 (by decide) ?_
    exact hret _ _ _ _ _ _ dX2_at_22 rfl hP hS ⟨Option.some.inj hf, rfl⟩
  have hf := oif c_1 hf
  refine lv_iload_n hx hb dX2_at_4 rfl (lv_at hl 1 rfl) ?_
  refine lv_aload_n hx hb dX2_at_5 rfl (lv_at hl 0 rfl) ?_
  refine va_get (D := D) (ci := 2) (v := .int (σ.1 5 x0)) (C := RX2) (T := TX2) (N := 3) hx hb ht gX2 hown hK.1 hP (15 + x0) (cwX2 a c σ x0 hx0) rfl 2 (by decide) (ht _ q93) (fun _ h9 => h9) rfl dX2_at_6 ?_
  refine lv_icmp_ge (tgt := 21) hx hb dX2_at_9 (by decide) (fun c_2 => ?_) (fun c_2 => ?_)
  · have hf := oit c_2 hf
    refine lv_iconst (v := (0 : Int32)) hx hb dX2_at_21 (by decide) ?_
    exact hret _ _ _ _ _ _ dX2_at_22 rfl hP hS ⟨Option.some.inj hf, rfl⟩
  have hf := oif c_2 hf
  refine lv_aload_n hx hb dX2_at_12 rfl (lv_at hl 0 rfl) ?_
  refine va_get (D := D) (ci := 2) (v := .ref (a (19 + x0))) (C := RX2) (T := TX2) (N := 3) hx hb ht gX2 hown hK.1 hP (15 + x0) (cwX2 a c σ x0 hx0) rfl 0 (by decide) (ht _ q44) (fun _ h9 => h9) rfl dX2_at_13 ?_
  refine lv_iload_n hx hb dX2_at_16 rfl (lv_at hl 1 rfl) ?_
  obtain ⟨g_3, hf⟩ := ogd hf
  refine va_iald hx hb hK.1 hP (19 + x0) 0 (cwcells a c σ x0 hx0) rfl (ck_in g_3) dX2_at_17 ?_
  refine lv_goto (tgt := 22) hx hb dX2_at_18 (by decide) ?_
  exact hret _ _ _ _ _ _ dX2_at_22 rfl hP hS ⟨Option.some.inj hf, rfl⟩
theorem dX4_firstFault_0 : decode cX4_firstFault 0 = .ok (.iconst 0, 1) := by decide +kernel
theorem dX4_firstFault_1 : decode cX4_firstFault 1 = .ok (.istore_n 3, 1) := by decide +kernel
theorem dX4_firstFault_2 : decode cX4_firstFault 2 = .ok (.iload_n 3, 1) := by decide +kernel
theorem dX4_firstFault_3 : decode cX4_firstFault 3 = .ok (.iload_n 2, 1) := by decide +kernel
theorem dX4_firstFault_4 : decode cX4_firstFault 4 = .ok (.if_icmp .ge 34, 3) := by decide +kernel
theorem dX4_firstFault_7 : decode cX4_firstFault 7 = .ok (.iload_n 3, 1) := by decide +kernel
theorem dX4_firstFault_8 : decode cX4_firstFault 8 = .ok (.aload_n 0, 1) := by decide +kernel
theorem dX4_firstFault_9 : decode cX4_firstFault 9 = .ok (.iload_n 1, 1) := by decide +kernel
theorem dX4_firstFault_10 : decode cX4_firstFault 10 = .ok (.iload_n 3, 1) := by decide +kernel
theorem dX4_firstFault_11 : decode cX4_firstFault 11 = .ok (.iadd, 1) := by decide +kernel
theorem dX4_firstFault_12 : decode cX4_firstFault 12 = .ok (.invokevirtual 11, 3) := by decide +kernel
theorem dX4_firstFault_15 : decode cX4_firstFault 15 = .ok (.aload_n 0, 1) := by decide +kernel
theorem dX4_firstFault_16 : decode cX4_firstFault 16 = .ok (.iload_n 1, 1) := by decide +kernel
theorem dX4_firstFault_17 : decode cX4_firstFault 17 = .ok (.iload_n 3, 1) := by decide +kernel
theorem dX4_firstFault_18 : decode cX4_firstFault 18 = .ok (.iadd, 1) := by decide +kernel
theorem dX4_firstFault_19 : decode cX4_firstFault 19 = .ok (.iconst 1, 1) := by decide +kernel
theorem dX4_firstFault_20 : decode cX4_firstFault 20 = .ok (.isub, 1) := by decide +kernel
theorem dX4_firstFault_21 : decode cX4_firstFault 21 = .ok (.invokevirtual 11, 3) := by decide +kernel
theorem dX4_firstFault_24 : decode cX4_firstFault 24 = .ok (.invokestatic 17, 3) := by decide +kernel
theorem dX4_firstFault_27 : decode cX4_firstFault 27 = .ok (.ifCond .ne 5, 3) := by decide +kernel
theorem dX4_firstFault_30 : decode cX4_firstFault 30 = .ok (.iload_n 3, 1) := by decide +kernel
theorem dX4_firstFault_31 : decode cX4_firstFault 31 = .ok (.ireturn, 1) := by decide +kernel
theorem dX4_firstFault_32 : decode cX4_firstFault 32 = .ok (.iinc 3 1, 3) := by decide +kernel
theorem dX4_firstFault_35 : decode cX4_firstFault 35 = .ok (.goto (-33), 3) := by decide +kernel
theorem dX4_firstFault_38 : decode cX4_firstFault 38 = .ok (.iload_n 2, 1) := by decide +kernel
theorem dX4_firstFault_39 : decode cX4_firstFault 39 = .ok (.iconst 1, 1) := by decide +kernel
theorem dX4_firstFault_40 : decode cX4_firstFault 40 = .ok (.if_icmp .le 15, 3) := by decide +kernel
theorem dX4_firstFault_43 : decode cX4_firstFault 43 = .ok (.iload_n 2, 1) := by decide +kernel
theorem dX4_firstFault_44 : decode cX4_firstFault 44 = .ok (.iconst 4, 1) := by decide +kernel
theorem dX4_firstFault_45 : decode cX4_firstFault 45 = .ok (.irem, 1) := by decide +kernel
theorem dX4_firstFault_46 : decode cX4_firstFault 46 = .ok (.iconst 1, 1) := by decide +kernel
theorem dX4_firstFault_47 : decode cX4_firstFault 47 = .ok (.if_icmp .ne 8, 3) := by decide +kernel
theorem dX4_firstFault_50 : decode cX4_firstFault 50 = .ok (.bipush (-9), 2) := by decide +kernel
theorem dX4_firstFault_52 : decode cX4_firstFault 52 = .ok (.goto 4, 3) := by decide +kernel
theorem dX4_firstFault_55 : decode cX4_firstFault 55 = .ok (.iload_n 2, 1) := by decide +kernel
theorem dX4_firstFault_56 : decode cX4_firstFault 56 = .ok (.ireturn, 1) := by decide +kernel
def f_X4_firstFault_j55 (N : Nat) (x2 : Int32) (σ : St) : Option Int32 :=
  some x2
def f_X4_firstFault_j38 (N : Nat) (x2 : Int32) (σ : St) : Option Int32 :=
  if x2 ≤ (1 : Int32) then (f_X4_firstFault_j55 N x2 σ)
  else if (x2 - x2 / (4 : Int32) * (4 : Int32)) = (1 : Int32) then (some (-9 : Int32))
  else f_X4_firstFault_j55 N x2 σ
def f_X4_firstFault_b2 (N : Nat) (x0 : Nat) (x1 : Int32) (x2 : Int32) (x3 : Int32) (σ : St) : Option ((Int32) ⊕ (Int32 ⊕ (Unit))) :=
  if x2 ≤ x3 then (some (.inr (.inr ())))
  else bd (f_X2_at x0 (x1 + x3) σ) fun r_4 =>
  bd (f_X2_at x0 ((x1 + x3) - (1 : Int32)) σ) fun r_6 =>
  bd (f_X4_goesOn x3 r_4 r_6) fun r_8 =>
  if r_8 = 0 then (some (.inr (.inl x3)))
  else nm (x3 + (1 : Int32)) fun x3_11 =>
    some (.inl x3_11)
def f_X4_firstFault (N : Nat) (x0 : Nat) (x1 : Int32) (x2 : Int32) (σ : St) : Option Int32 :=
  bd (lpF (fun s => f_X4_firstFault_b2 N x0 x1 x2 s σ) N (0 : Int32)) (Sum.elim (fun v => some v) (fun o => f_X4_firstFault_j38 N x2 σ))
abbrev rmX4_firstFault : Room := { frames := 2, cells := 0, slots := 0, locals := 42 }
set_option maxRecDepth 100000 in
set_option maxHeartbeats 4000000 in
theorem c_X4_firstFault (l : Launch) (D : va_G) (a : Nat → Nat) (c : Nat → ClassId) (A : Nat → Prop) (hD : ∀ σ, va_D A (cW a c σ)) (N : Nat) (x0 : Nat) (x1 : Int32) (x2 : Int32) (σ : St) (hx0 : x0 < 4) (r : Int32) (hf : f_X4_firstFault N x0 x1 x2 σ = some r) : MetI l yX4_firstFault cX4_firstFault 4 (some .int) rmX4_firstFault (cW a c) D c A [.ref (a (15 + x0)), .int x1, .int x2] σ r σ := by
  refine mkI (by decide) (Nat.le_of_ble_eq_true rfl) rfl ?_
  intro p e s m args below meth cd Q ls h0 hK hP hret hl
  obtain ⟨S, hr, hlk⟩ := h0
  obtain ⟨hx, hb, hml, hown, ht⟩ := id S
  have hS : va_S A s.heap s.heap [] := va_S.rf
  have hl : lv_has ls 4 [(0, .ref (a (15 + x0))), (1, .int x1), (2, .int x2)] := hl
  have hf := obs hf
  have j55 : ∀ (x2 : Int32) (H : Heap) (locs : List Loc) (ls : Array Slot), lv_has ls 4 [(2, .int x2)] → va_P D vwCl (cW a c σ) H → va_S A s.heap H locs → Option.bind (f_X4_firstFault_j55 N x2 σ) some = some r → W p l e rmX4_firstFault s m args below meth cd H locs 0 0 Q (F0 m 55 ls []) := by
    intro x2 H locs ls hl hP hS hf
    have hf := oun (f_X4_firstFault_j55.eq_1 _ _ _) hf
    refine lv_iload_n hx hb dX4_firstFault_55 rfl (lv_at hl 0 rfl) ?_
    exact hret _ _ _ _ _ _ dX4_firstFault_56 rfl hP hS ⟨Option.some.inj hf, rfl⟩
  have j38 : ∀ (x2 : Int32) (H : Heap) (locs : List Loc) (ls : Array Slot), lv_has ls 4 [(2, .int x2)] → va_P D vwCl (cW a c σ) H → va_S A s.heap H locs → Option.bind (f_X4_firstFault_j38 N x2 σ) some = some r → W p l e rmX4_firstFault s m args below meth cd H locs 0 0 Q (F0 m 38 ls []) := by
    intro x2 H locs ls hl hP hS hf
    have hf := oun (f_X4_firstFault_j38.eq_1 _ _ _) hf
    refine lv_iload_n hx hb dX4_firstFault_38 rfl (lv_at hl 0 rfl) ?_
    refine lv_iconst (v := (1 : Int32)) hx hb dX4_firstFault_39 (by decide) ?_
    refine lv_icmp_le (tgt := 55) hx hb dX4_firstFault_40 (by decide) (fun c_1 => ?_) (fun c_1 => ?_)
    · have hf := oit c_1 hf
      exact j55 x2 _ _ _ (lv_sub hl [0] rfl) hP hS hf
    have hf := oif c_1 hf
    refine lv_iload_n hx hb dX4_firstFault_43 rfl (lv_at hl 0 rfl) ?_
    refine lv_iconst (v := (4 : Int32)) hx hb dX4_firstFault_44 (by decide) ?_
    refine lv_irem hx hb dX4_firstFault_45 (by decide) ?_
    refine lv_iconst (v := (1 : Int32)) hx hb dX4_firstFault_46 (by decide) ?_
    refine lv_icmp_ne (tgt := 55) hx hb dX4_firstFault_47 (by decide) (fun c_2 => ?_) (fun c_2 => ?_)
    · have hf := oif c_2 hf
      exact j55 x2 _ _ _ (lv_sub hl [0] rfl) hP hS hf
    have hf := oit c_2 hf
    refine lv_bipush (v := (-9 : Int32)) hx hb dX4_firstFault_50 (by decide) ?_
    refine lv_goto (tgt := 56) hx hb dX4_firstFault_52 (by decide) ?_
    exact hret _ _ _ _ _ _ dX4_firstFault_56 rfl hP hS ⟨Option.some.inj hf, rfl⟩
  have L2 : ∀ (x0 : Nat) (x1 : Int32) (x2 : Int32) (hx0 : x0 < 4) (k : Nat) (x3 : Int32) (H : Heap) (locs : List Loc) (ls : Array Slot), lv_has ls 4 [(0, .ref (a (15 + x0))), (1, .int x1), (2, .int x2), (3, .int x3)] → va_P D vwCl (cW a c σ) H → va_S A s.heap H locs → Option.bind (bd (lpF (fun s => f_X4_firstFault_b2 N x0 x1 x2 s σ) k x3) (Sum.elim (fun v => some v) (fun o => f_X4_firstFault_j38 N x2 σ))) some = some r → W p l e rmX4_firstFault s m args below meth cd H locs 0 0 Q (F0 m 2 ls []) := by
    intro x0 x1 x2 hx0 k
    induction k with
    | zero =>
      intro x3 H locs ls hl hP hS hf
      exact (ol0 hf).elim
    | succ k ih =>
      intro x3 H locs ls hl hP hS hf
      obtain ⟨K2, hf, hc2, hx2⟩ := ol1 hf
      have hf := oun (f_X4_firstFault_b2.eq_1 N x0 x1 x2 x3 σ) hf
      refine lv_iload_n hx hb dX4_firstFault_2 rfl (lv_at hl 3 rfl) ?_
      refine lv_iload_n hx hb dX4_firstFault_3 rfl (lv_at hl 2 rfl) ?_
      refine lv_icmp_ge (tgt := 38) hx hb dX4_firstFault_4 (by decide) (fun c_3 => ?_) (fun c_3 => ?_)
      · have hf := oit c_3 hf
        exact j38 x2 _ _ _ (lv_sub hl [2] rfl) hP hS (okx hf (hx2 _))
      have hf := oif c_3 hf
      refine lv_iload_n hx hb dX4_firstFault_7 rfl (lv_at hl 3 rfl) ?_
      refine lv_aload_n hx hb dX4_firstFault_8 rfl (lv_at hl 0 rfl) ?_
      refine lv_iload_n hx hb dX4_firstFault_9 rfl (lv_at hl 1 rfl) ?_
      refine lv_iload_n hx hb dX4_firstFault_10 rfl (lv_at hl 3 rfl) ?_
      refine lv_iadd hx hb dX4_firstFault_11 ?_
      obtain ⟨r_4, h_5, hf⟩ := obd hf
      refine xv_I (As := [.int (x1 + x3)]) (rest := [.int x3]) S k_X2_at q102 q103 q104 ⟨Nat.le_of_ble_eq_true rfl, Nat.le_of_ble_eq_true rfl⟩ ⟨rfl, rfl⟩ (c_X2_at l D a c A hD x0 (x1 + x3) σ hx0 r_4 h_5) hK hP hS (va_recv hK.1 hP (rfl : vwCl[2]? = some (RX2, TX2, 3)) (cwX2 a c σ x0 hx0)) rfl hl.1 rfl (Nat.le_of_ble_eq_true rfl) dX4_firstFault_12 ⟨Nat.zero_le _, Nat.zero_le _⟩ (fun H locs hP hS => ?_)
      refine lv_aload_n hx hb dX4_firstFault_15 rfl (lv_at hl 0 rfl) ?_
      refine lv_iload_n hx hb dX4_firstFault_16 rfl (lv_at hl 1 rfl) ?_
      refine lv_iload_n hx hb dX4_firstFault_17 rfl (lv_at hl 3 rfl) ?_
      refine lv_iadd hx hb dX4_firstFault_18 ?_
      refine lv_iconst (v := (1 : Int32)) hx hb dX4_firstFault_19 (by decide) ?_
      refine lv_isub hx hb dX4_firstFault_20 ?_
      obtain ⟨r_6, h_7, hf⟩ := obd hf
      refine xv_I (As := [.int ((x1 + x3) - (1 : Int32))]) (rest := [.int r_4, .int x3]) S k_X2_at q102 q103 q104 ⟨Nat.le_of_ble_eq_true rfl, Nat.le_of_ble_eq_true rfl⟩ ⟨rfl, rfl⟩ (c_X2_at l D a c A hD x0 ((x1 + x3) - (1 : Int32)) σ hx0 r_6 h_7) hK hP hS (va_recv hK.1 hP (rfl : vwCl[2]? = some (RX2, TX2, 3)) (cwX2 a c σ x0 hx0)) rfl hl.1 rfl (Nat.le_of_ble_eq_true rfl) dX4_firstFault_21 ⟨Nat.zero_le _, Nat.zero_le _⟩ (fun H locs hP hS => ?_)
      obtain ⟨r_8, h_9, hf⟩ := obd hf
      refine xs_S (As := [.int x3, .int r_4, .int r_6]) (rest := []) S k_X4_goesOn q106 q107 ⟨Nat.le_of_ble_eq_true rfl, Nat.le_of_ble_eq_true rfl⟩ ⟨rfl, rfl⟩ (c_X4_goesOn l x3 r_4 r_6 r_8 h_9) hK.2 rfl hl.1 rfl (Nat.le_of_ble_eq_true rfl) dX4_firstFault_24 ⟨Nat.zero_le _, Nat.zero_le _⟩ ?_
      refine lv_if_ne (tgt := 32) hx hb dX4_firstFault_27 (by decide) (fun c_10 => ?_) (fun c_10 => ?_)
      · have hf := oif c_10 hf
        obtain ⟨x3_11, ex3_11, hf⟩ := onm hf
        refine lv_iinc (v := x3_11) (lv' := [(3, .int x3_11), (0, .ref (a (15 + x0))), (1, .int x1), (2, .int x2)]) hx hb dX4_firstFault_32 hl (k := 3) rfl ex3_11 (by decide) rfl (fun ls hl => ?_)
        refine lv_goto (tgt := 2) hx hb dX4_firstFault_35 (by decide) ?_
        exact ih x3_11 _ _ _ (lv_sub hl [1, 2, 3, 0] rfl) hP hS (okx hf (hc2 _))
      have hf := oit c_10 hf
      refine lv_iload_n hx hb dX4_firstFault_30 rfl (lv_at hl 3 rfl) ?_
      have hf := okx hf (hx2 _)
      exact hret _ _ _ _ _ _ dX4_firstFault_31 rfl hP hS ⟨Option.some.inj hf, rfl⟩
  have hf := oun (f_X4_firstFault.eq_1 _ _ _ _ _) hf
  refine lv_iconst (v := (0 : Int32)) hx hb dX4_firstFault_0 (by decide) ?_
  refine lv_istore_n (lv' := [(3, .int (0 : Int32)), (0, .ref (a (15 + x0))), (1, .int x1), (2, .int x2)]) hx hb dX4_firstFault_1 rfl hl (by decide) rfl (fun ls hl => ?_)
  exact L2 x0 x1 x2 hx0 N (0 : Int32) _ _ _ (lv_sub hl [1, 2, 3, 0] rfl) hP hS hf
theorem dX4_tellDoll_0 : decode cX4_tellDoll 0 = .ok (.iload_n 1, 1) := by decide +kernel
theorem dX4_tellDoll_1 : decode cX4_tellDoll 1 = .ok (.iconst 1, 1) := by decide +kernel
theorem dX4_tellDoll_2 : decode cX4_tellDoll 2 = .ok (.iadd, 1) := by decide +kernel
theorem dX4_tellDoll_3 : decode cX4_tellDoll 3 = .ok (.iconst 4, 1) := by decide +kernel
theorem dX4_tellDoll_4 : decode cX4_tellDoll 4 = .ok (.iload_n 2, 1) := by decide +kernel
theorem dX4_tellDoll_5 : decode cX4_tellDoll 5 = .ok (.imul, 1) := by decide +kernel
theorem dX4_tellDoll_6 : decode cX4_tellDoll 6 = .ok (.iadd, 1) := by decide +kernel
theorem dX4_tellDoll_7 : decode cX4_tellDoll 7 = .ok (.iconst 1, 1) := by decide +kernel
theorem dX4_tellDoll_8 : decode cX4_tellDoll 8 = .ok (.iadd, 1) := by decide +kernel
theorem dX4_tellDoll_9 : decode cX4_tellDoll 9 = .ok (.istore 4, 2) := by decide +kernel
theorem dX4_tellDoll_11 : decode cX4_tellDoll 11 = .ok (.aload_n 3, 1) := by decide +kernel
theorem dX4_tellDoll_12 : decode cX4_tellDoll 12 = .ok (.aload_n 0, 1) := by decide +kernel
theorem dX4_tellDoll_13 : decode cX4_tellDoll 13 = .ok (.iload 4, 2) := by decide +kernel
theorem dX4_tellDoll_15 : decode cX4_tellDoll 15 = .ok (.invokevirtual 11, 3) := by decide +kernel
theorem dX4_tellDoll_18 : decode cX4_tellDoll 18 = .ok (.invokestatic 21, 3) := by decide +kernel
theorem dX4_tellDoll_21 : decode cX4_tellDoll 21 = .ok (.putfield 30, 3) := by decide +kernel
theorem dX4_tellDoll_24 : decode cX4_tellDoll 24 = .ok (.aload_n 3, 1) := by decide +kernel
theorem dX4_tellDoll_25 : decode cX4_tellDoll 25 = .ok (.aload_n 0, 1) := by decide +kernel
theorem dX4_tellDoll_26 : decode cX4_tellDoll 26 = .ok (.iload 4, 2) := by decide +kernel
theorem dX4_tellDoll_28 : decode cX4_tellDoll 28 = .ok (.iconst 1, 1) := by decide +kernel
theorem dX4_tellDoll_29 : decode cX4_tellDoll 29 = .ok (.iadd, 1) := by decide +kernel
theorem dX4_tellDoll_30 : decode cX4_tellDoll 30 = .ok (.invokevirtual 11, 3) := by decide +kernel
theorem dX4_tellDoll_33 : decode cX4_tellDoll 33 = .ok (.bipush 48, 2) := by decide +kernel
theorem dX4_tellDoll_35 : decode cX4_tellDoll 35 = .ok (.isub, 1) := by decide +kernel
theorem dX4_tellDoll_36 : decode cX4_tellDoll 36 = .ok (.putfield 36, 3) := by decide +kernel
theorem dX4_tellDoll_39 : decode cX4_tellDoll 39 = .ok (.aload_n 3, 1) := by decide +kernel
theorem dX4_tellDoll_40 : decode cX4_tellDoll 40 = .ok (.aload_n 0, 1) := by decide +kernel
theorem dX4_tellDoll_41 : decode cX4_tellDoll 41 = .ok (.iload 4, 2) := by decide +kernel
theorem dX4_tellDoll_43 : decode cX4_tellDoll 43 = .ok (.iconst 2, 1) := by decide +kernel
theorem dX4_tellDoll_44 : decode cX4_tellDoll 44 = .ok (.iadd, 1) := by decide +kernel
theorem dX4_tellDoll_45 : decode cX4_tellDoll 45 = .ok (.invokevirtual 11, 3) := by decide +kernel
theorem dX4_tellDoll_48 : decode cX4_tellDoll 48 = .ok (.bipush 48, 2) := by decide +kernel
theorem dX4_tellDoll_50 : decode cX4_tellDoll 50 = .ok (.isub, 1) := by decide +kernel
theorem dX4_tellDoll_51 : decode cX4_tellDoll 51 = .ok (.putfield 39, 3) := by decide +kernel
theorem dX4_tellDoll_54 : decode cX4_tellDoll 54 = .ok (.return_, 1) := by decide +kernel
def f_X4_tellDoll (x0 : Nat) (x1 : Int32) (x2 : Int32) (x3 : Nat) (σ : St) : Option St :=
  nm (((x1 + (1 : Int32)) + ((4 : Int32) * x2)) + (1 : Int32)) fun x4_1 =>
  bd (f_X2_at x0 x4_1 σ) fun r_2 =>
  bd (f_X4_kindOf r_2) fun r_4 =>
  nm (wS σ 1 x3 r_4) fun σ_6 =>
  bd (f_X2_at x0 (x4_1 + (1 : Int32)) σ_6) fun r_7 =>
  nm (wS σ_6 2 x3 (r_7 - (48 : Int32))) fun σ_9 =>
  bd (f_X2_at x0 (x4_1 + (2 : Int32)) σ_9) fun r_10 =>
  nm (wS σ_9 3 x3 (r_10 - (48 : Int32))) fun σ_12 =>
  some σ_12
abbrev rmX4_tellDoll : Room := { frames := 1, cells := 0, slots := 0, locals := 21 }
set_option maxRecDepth 100000 in
set_option maxHeartbeats 4000000 in
theorem c_X4_tellDoll (l : Launch) (D : va_G) (a : Nat → Nat) (c : Nat → ClassId) (A : Nat → Prop) (hD : ∀ σ, va_D A (cW a c σ)) (x0 : Nat) (x1 : Int32) (x2 : Int32) (x3 : Nat) (σ : St) (hx0 : x0 < 4) (hx3 : x3 < 4) (u : St) (hf : f_X4_tellDoll x0 x1 x2 x3 σ = some u) : MetV l yX4_tellDoll cX4_tellDoll 5 (none) rmX4_tellDoll (cW a c) D c A [.ref (a (15 + x0)), .int x1, .int x2, .ref (a (11 + x3))] σ u := by
  refine mkV (by decide) (Nat.le_of_ble_eq_true rfl) rfl ?_
  intro p e s m args below meth cd Q ls h0 hK hP hret hl
  obtain ⟨S, hr, hlk⟩ := h0
  obtain ⟨hx, hb, hml, hown, ht⟩ := id S
  have hS : va_S A s.heap s.heap [] := va_S.rf
  have hl : lv_has ls 5 [(0, .ref (a (15 + x0))), (1, .int x1), (2, .int x2), (3, .ref (a (11 + x3)))] := hl
  have hf := obs hf
  have hf := oun (f_X4_tellDoll.eq_1 _ _ _ _ _) hf
  refine lv_iload_n hx hb dX4_tellDoll_0 rfl (lv_at hl 1 rfl) ?_
  refine lv_iconst (v := (1 : Int32)) hx hb dX4_tellDoll_1 (by decide) ?_
  refine lv_iadd hx hb dX4_tellDoll_2 ?_
  refine lv_iconst (v := (4 : Int32)) hx hb dX4_tellDoll_3 (by decide) ?_
  refine lv_iload_n hx hb dX4_tellDoll_4 rfl (lv_at hl 2 rfl) ?_
  refine lv_imul hx hb dX4_tellDoll_5 ?_
  refine lv_iadd hx hb dX4_tellDoll_6 ?_
  refine lv_iconst (v := (1 : Int32)) hx hb dX4_tellDoll_7 (by decide) ?_
  refine lv_iadd hx hb dX4_tellDoll_8 ?_
  obtain ⟨x4_1, ex4_1, hf⟩ := onm hf
  refine lv_nm ex4_1 ?_
  refine lv_istore (lv' := [(4, .int x4_1), (0, .ref (a (15 + x0))), (1, .int x1), (2, .int x2), (3, .ref (a (11 + x3)))]) hx hb dX4_tellDoll_9 hl (by decide) rfl (fun ls hl => ?_)
  refine lv_aload_n hx hb dX4_tellDoll_11 rfl (lv_at hl 4 rfl) ?_
  refine lv_aload_n hx hb dX4_tellDoll_12 rfl (lv_at hl 1 rfl) ?_
  refine lv_iload hx hb dX4_tellDoll_13 (lv_at hl 0 rfl) ?_
  obtain ⟨r_2, h_3, hf⟩ := obd hf
  refine xv_I (As := [.int x4_1]) (rest := [.ref (a (11 + x3))]) S k_X2_at q102 q103 q104 ⟨Nat.le_of_ble_eq_true rfl, Nat.le_of_ble_eq_true rfl⟩ ⟨rfl, rfl⟩ (c_X2_at l D a c A hD x0 x4_1 σ hx0 r_2 h_3) hK hP hS (va_recv hK.1 hP (rfl : vwCl[2]? = some (RX2, TX2, 3)) (cwX2 a c σ x0 hx0)) rfl hl.1 rfl (Nat.le_of_ble_eq_true rfl) dX4_tellDoll_15 ⟨Nat.zero_le _, Nat.zero_le _⟩ (fun H locs hP hS => ?_)
  obtain ⟨r_4, h_5, hf⟩ := obd hf
  refine xs_S (As := [.int r_2]) (rest := [.ref (a (11 + x3))]) S k_X4_kindOf q109 q110 ⟨Nat.le_of_ble_eq_true rfl, Nat.le_of_ble_eq_true rfl⟩ ⟨rfl, rfl⟩ (c_X4_kindOf l r_2 r_4 h_5) hK.2 rfl hl.1 rfl (Nat.le_of_ble_eq_true rfl) dX4_tellDoll_18 ⟨Nat.zero_le _, Nat.zero_le _⟩ ?_
  refine va_put (D := D) (ci := 0) (v := .int r_4) (ty := .int) (C := RX0) (T := TX0) (N := 3) hx hb ht gX0 tyX0 tyX0_ok nmX0 hown hK.1 hP (hD σ) hS (11 + x3) (cwX0 a c σ x3 hx3) rfl 0 (by decide) (ht _ q129) (fun _ h9 => h9) rfl (by decide +kernel) rfl rfl (Nat.le_of_ble_eq_true rfl) dX4_tellDoll_21 (fun H locs hP _ hS => ?_)
  have hP := vP_eq (cpX0_kind a c σ x3 hx3 r_4) hP
  obtain ⟨σ_6, eσ_6, hf⟩ := onm hf
  rw [eσ_6] at hP
  refine lv_aload_n hx hb dX4_tellDoll_24 rfl (lv_at hl 4 rfl) ?_
  refine lv_aload_n hx hb dX4_tellDoll_25 rfl (lv_at hl 1 rfl) ?_
  refine lv_iload hx hb dX4_tellDoll_26 (lv_at hl 0 rfl) ?_
  refine lv_iconst (v := (1 : Int32)) hx hb dX4_tellDoll_28 (by decide) ?_
  refine lv_iadd hx hb dX4_tellDoll_29 ?_
  obtain ⟨r_7, h_8, hf⟩ := obd hf
  refine xv_I (As := [.int (x4_1 + (1 : Int32))]) (rest := [.ref (a (11 + x3))]) S k_X2_at q102 q103 q104 ⟨Nat.le_of_ble_eq_true rfl, Nat.le_of_ble_eq_true rfl⟩ ⟨rfl, rfl⟩ (c_X2_at l D a c A hD x0 (x4_1 + (1 : Int32)) σ_6 hx0 r_7 h_8) hK hP hS (va_recv hK.1 hP (rfl : vwCl[2]? = some (RX2, TX2, 3)) (cwX2 a c σ_6 x0 hx0)) rfl hl.1 rfl (Nat.le_of_ble_eq_true rfl) dX4_tellDoll_30 ⟨Nat.zero_le _, Nat.zero_le _⟩ (fun H locs hP hS => ?_)
  refine lv_bipush (v := (48 : Int32)) hx hb dX4_tellDoll_33 (by decide) ?_
  refine lv_isub hx hb dX4_tellDoll_35 ?_
  refine va_put (D := D) (ci := 0) (v := .int (r_7 - (48 : Int32))) (ty := .int) (C := RX0) (T := TX0) (N := 3) hx hb ht gX0 tyX0 tyX0_ok nmX0 hown hK.1 hP (hD σ_6) hS (11 + x3) (cwX0 a c σ_6 x3 hx3) rfl 1 (by decide) (ht _ q130) (fun _ h9 => h9) rfl (by decide +kernel) rfl rfl (Nat.le_of_ble_eq_true rfl) dX4_tellDoll_36 (fun H locs hP _ hS => ?_)
  have hP := vP_eq (cpX0_girth a c σ_6 x3 hx3 (r_7 - (48 : Int32))) hP
  obtain ⟨σ_9, eσ_9, hf⟩ := onm hf
  rw [eσ_9] at hP
  refine lv_aload_n hx hb dX4_tellDoll_39 rfl (lv_at hl 4 rfl) ?_
  refine lv_aload_n hx hb dX4_tellDoll_40 rfl (lv_at hl 1 rfl) ?_
  refine lv_iload hx hb dX4_tellDoll_41 (lv_at hl 0 rfl) ?_
  refine lv_iconst (v := (2 : Int32)) hx hb dX4_tellDoll_43 (by decide) ?_
  refine lv_iadd hx hb dX4_tellDoll_44 ?_
  obtain ⟨r_10, h_11, hf⟩ := obd hf
  refine xv_I (As := [.int (x4_1 + (2 : Int32))]) (rest := [.ref (a (11 + x3))]) S k_X2_at q102 q103 q104 ⟨Nat.le_of_ble_eq_true rfl, Nat.le_of_ble_eq_true rfl⟩ ⟨rfl, rfl⟩ (c_X2_at l D a c A hD x0 (x4_1 + (2 : Int32)) σ_9 hx0 r_10 h_11) hK hP hS (va_recv hK.1 hP (rfl : vwCl[2]? = some (RX2, TX2, 3)) (cwX2 a c σ_9 x0 hx0)) rfl hl.1 rfl (Nat.le_of_ble_eq_true rfl) dX4_tellDoll_45 ⟨Nat.zero_le _, Nat.zero_le _⟩ (fun H locs hP hS => ?_)
  refine lv_bipush (v := (48 : Int32)) hx hb dX4_tellDoll_48 (by decide) ?_
  refine lv_isub hx hb dX4_tellDoll_50 ?_
  refine va_put (D := D) (ci := 0) (v := .int (r_10 - (48 : Int32))) (ty := .int) (C := RX0) (T := TX0) (N := 3) hx hb ht gX0 tyX0 tyX0_ok nmX0 hown hK.1 hP (hD σ_9) hS (11 + x3) (cwX0 a c σ_9 x3 hx3) rfl 2 (by decide) (ht _ q131) (fun _ h9 => h9) rfl (by decide +kernel) rfl rfl (Nat.le_of_ble_eq_true rfl) dX4_tellDoll_51 (fun H locs hP _ hS => ?_)
  have hP := vP_eq (cpX0_room a c σ_9 x3 hx3 (r_10 - (48 : Int32))) hP
  obtain ⟨σ_12, eσ_12, hf⟩ := onm hf
  rw [eσ_12] at hP
  exact hret _ _ _ _ _ dX4_tellDoll_54 hP hS (Option.some.inj hf)
theorem dX0_wide_0 : decode cX0_wide 0 = .ok (.aload_n 0, 1) := by decide +kernel
theorem dX0_wide_1 : decode cX0_wide 1 = .ok (.getfield 15, 3) := by decide +kernel
theorem dX0_wide_4 : decode cX0_wide 4 = .ok (.iconst 1, 1) := by decide +kernel
theorem dX0_wide_5 : decode cX0_wide 5 = .ok (.if_icmp .ne 10, 3) := by decide +kernel
theorem dX0_wide_8 : decode cX0_wide 8 = .ok (.aload_n 0, 1) := by decide +kernel
theorem dX0_wide_9 : decode cX0_wide 9 = .ok (.getfield 9, 3) := by decide +kernel
theorem dX0_wide_12 : decode cX0_wide 12 = .ok (.iconst 1, 1) := by decide +kernel
theorem dX0_wide_13 : decode cX0_wide 13 = .ok (.iadd, 1) := by decide +kernel
theorem dX0_wide_14 : decode cX0_wide 14 = .ok (.ireturn, 1) := by decide +kernel
theorem dX0_wide_15 : decode cX0_wide 15 = .ok (.aload_n 0, 1) := by decide +kernel
theorem dX0_wide_16 : decode cX0_wide 16 = .ok (.getfield 15, 3) := by decide +kernel
theorem dX0_wide_19 : decode cX0_wide 19 = .ok (.iconst 2, 1) := by decide +kernel
theorem dX0_wide_20 : decode cX0_wide 20 = .ok (.if_icmp .ne 12, 3) := by decide +kernel
theorem dX0_wide_23 : decode cX0_wide 23 = .ok (.iconst 2, 1) := by decide +kernel
theorem dX0_wide_24 : decode cX0_wide 24 = .ok (.aload_n 0, 1) := by decide +kernel
theorem dX0_wide_25 : decode cX0_wide 25 = .ok (.getfield 9, 3) := by decide +kernel
theorem dX0_wide_28 : decode cX0_wide 28 = .ok (.imul, 1) := by decide +kernel
theorem dX0_wide_29 : decode cX0_wide 29 = .ok (.goto 7, 3) := by decide +kernel
theorem dX0_wide_32 : decode cX0_wide 32 = .ok (.aload_n 0, 1) := by decide +kernel
theorem dX0_wide_33 : decode cX0_wide 33 = .ok (.getfield 9, 3) := by decide +kernel
theorem dX0_wide_36 : decode cX0_wide 36 = .ok (.ireturn, 1) := by decide +kernel
def f_X0_wide (x0 : Nat) (σ : St) : Option Int32 :=
  if (σ.1 1 x0) = (1 : Int32) then (some ((σ.1 2 x0) + (1 : Int32)))
  else if (σ.1 1 x0) = (2 : Int32) then (some ((2 : Int32) * (σ.1 2 x0)))
    else some (σ.1 2 x0)
abbrev rmX0_wide : Room := { frames := 0, cells := 0, slots := 0, locals := 0 }
set_option maxRecDepth 100000 in
set_option maxHeartbeats 4000000 in
theorem c_X0_wide (l : Launch) (D : va_G) (a : Nat → Nat) (c : Nat → ClassId) (A : Nat → Prop) (hD : ∀ σ, va_D A (cW a c σ)) (x0 : Nat) (σ : St) (hx0 : x0 < 4) (r : Int32) (hf : f_X0_wide x0 σ = some r) : MetI l yX0_wide cX0_wide 1 (some .int) rmX0_wide (cW a c) D c A [.ref (a (11 + x0))] σ r σ := by
  refine mkI (by decide) (Nat.le_of_ble_eq_true rfl) rfl ?_
  intro p e s m args below meth cd Q ls h0 hK hP hret hl
  obtain ⟨S, hr, hlk⟩ := h0
  obtain ⟨hx, hb, hml, hown, ht⟩ := id S
  have hS : va_S A s.heap s.heap [] := va_S.rf
  have hl : lv_has ls 1 [(0, .ref (a (11 + x0)))] := hl
  have hf := obs hf
  have hf := oun (f_X0_wide.eq_1 _ _) hf
  refine lv_aload_n hx hb dX0_wide_0 rfl (lv_at hl 0 rfl) ?_
  refine va_get (D := D) (ci := 0) (v := .int (σ.1 1 x0)) (C := RX0) (T := TX0) (N := 3) hx hb ht gX0 hown hK.1 hP (11 + x0) (cwX0 a c σ x0 hx0) rfl 0 (by decide) (ht _ q191) (fun _ h9 => h9) rfl dX0_wide_1 ?_
  refine lv_iconst (v := (1 : Int32)) hx hb dX0_wide_4 (by decide) ?_
  refine lv_icmp_ne (tgt := 15) hx hb dX0_wide_5 (by decide) (fun c_1 => ?_) (fun c_1 => ?_)
  · have hf := oif c_1 hf
    refine lv_aload_n hx hb dX0_wide_15 rfl (lv_at hl 0 rfl) ?_
    refine va_get (D := D) (ci := 0) (v := .int (σ.1 1 x0)) (C := RX0) (T := TX0) (N := 3) hx hb ht gX0 hown hK.1 hP (11 + x0) (cwX0 a c σ x0 hx0) rfl 0 (by decide) (ht _ q191) (fun _ h9 => h9) rfl dX0_wide_16 ?_
    refine lv_iconst (v := (2 : Int32)) hx hb dX0_wide_19 (by decide) ?_
    refine lv_icmp_ne (tgt := 32) hx hb dX0_wide_20 (by decide) (fun c_2 => ?_) (fun c_2 => ?_)
    · have hf := oif c_2 hf
      refine lv_aload_n hx hb dX0_wide_32 rfl (lv_at hl 0 rfl) ?_
      refine va_get (D := D) (ci := 0) (v := .int (σ.1 2 x0)) (C := RX0) (T := TX0) (N := 3) hx hb ht gX0 hown hK.1 hP (11 + x0) (cwX0 a c σ x0 hx0) rfl 1 (by decide) (ht _ q40) (fun _ h9 => h9) rfl dX0_wide_33 ?_
      exact hret _ _ _ _ _ _ dX0_wide_36 rfl hP hS ⟨Option.some.inj hf, rfl⟩
    have hf := oit c_2 hf
    refine lv_iconst (v := (2 : Int32)) hx hb dX0_wide_23 (by decide) ?_
    refine lv_aload_n hx hb dX0_wide_24 rfl (lv_at hl 0 rfl) ?_
    refine va_get (D := D) (ci := 0) (v := .int (σ.1 2 x0)) (C := RX0) (T := TX0) (N := 3) hx hb ht gX0 hown hK.1 hP (11 + x0) (cwX0 a c σ x0 hx0) rfl 1 (by decide) (ht _ q40) (fun _ h9 => h9) rfl dX0_wide_25 ?_
    refine lv_imul hx hb dX0_wide_28 ?_
    refine lv_goto (tgt := 36) hx hb dX0_wide_29 (by decide) ?_
    exact hret _ _ _ _ _ _ dX0_wide_36 rfl hP hS ⟨Option.some.inj hf, rfl⟩
  have hf := oit c_1 hf
  refine lv_aload_n hx hb dX0_wide_8 rfl (lv_at hl 0 rfl) ?_
  refine va_get (D := D) (ci := 0) (v := .int (σ.1 2 x0)) (C := RX0) (T := TX0) (N := 3) hx hb ht gX0 hown hK.1 hP (11 + x0) (cwX0 a c σ x0 hx0) rfl 1 (by decide) (ht _ q40) (fun _ h9 => h9) rfl dX0_wide_9 ?_
  refine lv_iconst (v := (1 : Int32)) hx hb dX0_wide_12 (by decide) ?_
  refine lv_iadd hx hb dX0_wide_13 ?_
  exact hret _ _ _ _ _ _ dX0_wide_14 rfl hP hS ⟨Option.some.inj hf, rfl⟩
theorem dX0_goesInto_0 : decode cX0_goesInto 0 = .ok (.aload_n 0, 1) := by decide +kernel
theorem dX0_goesInto_1 : decode cX0_goesInto 1 = .ok (.invokevirtual 18, 3) := by decide +kernel
theorem dX0_goesInto_4 : decode cX0_goesInto 4 = .ok (.aload_n 1, 1) := by decide +kernel
theorem dX0_goesInto_5 : decode cX0_goesInto 5 = .ok (.getfield 22, 3) := by decide +kernel
theorem dX0_goesInto_8 : decode cX0_goesInto 8 = .ok (.if_icmp .gt 7, 3) := by decide +kernel
theorem dX0_goesInto_11 : decode cX0_goesInto 11 = .ok (.iconst 1, 1) := by decide +kernel
theorem dX0_goesInto_12 : decode cX0_goesInto 12 = .ok (.goto 4, 3) := by decide +kernel
theorem dX0_goesInto_15 : decode cX0_goesInto 15 = .ok (.iconst 0, 1) := by decide +kernel
theorem dX0_goesInto_16 : decode cX0_goesInto 16 = .ok (.ireturn, 1) := by decide +kernel
def f_X0_goesInto (x0 : Nat) (x1 : Nat) (σ : St) : Option Int32 :=
  bd (f_X0_wide x0 σ) fun r_1 =>
  if (σ.1 3 x1) < r_1 then (some (0 : Int32))
  else some (1 : Int32)
abbrev rmX0_goesInto : Room := { frames := 1, cells := 0, slots := 0, locals := 20 }
set_option maxRecDepth 100000 in
set_option maxHeartbeats 4000000 in
theorem c_X0_goesInto (l : Launch) (D : va_G) (a : Nat → Nat) (c : Nat → ClassId) (A : Nat → Prop) (hD : ∀ σ, va_D A (cW a c σ)) (x0 : Nat) (x1 : Nat) (σ : St) (hx0 : x0 < 4) (hx1 : x1 < 4) (r : Int32) (hf : f_X0_goesInto x0 x1 σ = some r) : MetI l yX0_goesInto cX0_goesInto 2 (some .boolean) rmX0_goesInto (cW a c) D c A [.ref (a (11 + x0)), .ref (a (11 + x1))] σ r σ := by
  refine mkI (by decide) (Nat.le_of_ble_eq_true rfl) rfl ?_
  intro p e s m args below meth cd Q ls h0 hK hP hret hl
  obtain ⟨S, hr, hlk⟩ := h0
  obtain ⟨hx, hb, hml, hown, ht⟩ := id S
  have hS : va_S A s.heap s.heap [] := va_S.rf
  have hl : lv_has ls 2 [(0, .ref (a (11 + x0))), (1, .ref (a (11 + x1)))] := hl
  have hf := obs hf
  have hf := oun (f_X0_goesInto.eq_1 _ _ _) hf
  refine lv_aload_n hx hb dX0_goesInto_0 rfl (lv_at hl 0 rfl) ?_
  obtain ⟨r_1, h_2, hf⟩ := obd hf
  refine xv_I (As := []) (rest := []) S k_X0_wide q278 q188 q189 ⟨Nat.le_of_ble_eq_true rfl, Nat.le_of_ble_eq_true rfl⟩ ⟨rfl, rfl⟩ (c_X0_wide l D a c A hD x0 σ hx0 r_1 h_2) hK hP hS (va_recv hK.1 hP (rfl : vwCl[0]? = some (RX0, TX0, 3)) (cwX0 a c σ x0 hx0)) rfl hl.1 rfl (Nat.le_of_ble_eq_true rfl) dX0_goesInto_1 ⟨Nat.zero_le _, Nat.zero_le _⟩ (fun H locs hP hS => ?_)
  refine lv_aload_n hx hb dX0_goesInto_4 rfl (lv_at hl 1 rfl) ?_
  refine va_get (D := D) (ci := 0) (v := .int (σ.1 3 x1)) (C := RX0) (T := TX0) (N := 3) hx hb ht gX0 hown hK.1 hP (11 + x1) (cwX0 a c σ x1 hx1) rfl 2 (by decide) (ht _ q277) (fun _ h9 => h9) rfl dX0_goesInto_5 ?_
  refine lv_icmp_gt (tgt := 15) hx hb dX0_goesInto_8 (by decide) (fun c_3 => ?_) (fun c_3 => ?_)
  · have hf := oit c_3 hf
    refine lv_iconst (v := (0 : Int32)) hx hb dX0_goesInto_15 (by decide) ?_
    exact hret _ _ _ _ _ _ dX0_goesInto_16 (by decide) hP hS ⟨Option.some.inj hf, rfl⟩
  have hf := oif c_3 hf
  refine lv_iconst (v := (1 : Int32)) hx hb dX0_goesInto_11 (by decide) ?_
  refine lv_goto (tgt := 16) hx hb dX0_goesInto_12 (by decide) ?_
  exact hret _ _ _ _ _ _ dX0_goesInto_16 (by decide) hP hS ⟨Option.some.inj hf, rfl⟩
theorem dX2_isWithin_0 : decode cX2_isWithin 0 = .ok (.iconst 0, 1) := by decide +kernel
theorem dX2_isWithin_1 : decode cX2_isWithin 1 = .ok (.istore 5, 2) := by decide +kernel
theorem dX2_isWithin_3 : decode cX2_isWithin 3 = .ok (.iload 5, 2) := by decide +kernel
theorem dX2_isWithin_5 : decode cX2_isWithin 5 = .ok (.iload_n 2, 1) := by decide +kernel
theorem dX2_isWithin_6 : decode cX2_isWithin 6 = .ok (.if_icmp .ge 34, 3) := by decide +kernel
theorem dX2_isWithin_9 : decode cX2_isWithin 9 = .ok (.aload_n 0, 1) := by decide +kernel
theorem dX2_isWithin_10 : decode cX2_isWithin 10 = .ok (.iload_n 1, 1) := by decide +kernel
theorem dX2_isWithin_11 : decode cX2_isWithin 11 = .ok (.iload 5, 2) := by decide +kernel
theorem dX2_isWithin_13 : decode cX2_isWithin 13 = .ok (.iadd, 1) := by decide +kernel
theorem dX2_isWithin_14 : decode cX2_isWithin 14 = .ok (.invokevirtual 49, 3) := by decide +kernel
theorem dX2_isWithin_17 : decode cX2_isWithin 17 = .ok (.istore 6, 2) := by decide +kernel
theorem dX2_isWithin_19 : decode cX2_isWithin 19 = .ok (.iload 6, 2) := by decide +kernel
theorem dX2_isWithin_21 : decode cX2_isWithin 21 = .ok (.iload_n 3, 1) := by decide +kernel
theorem dX2_isWithin_22 : decode cX2_isWithin 22 = .ok (.if_icmp .lt 10, 3) := by decide +kernel
theorem dX2_isWithin_25 : decode cX2_isWithin 25 = .ok (.iload 6, 2) := by decide +kernel
theorem dX2_isWithin_27 : decode cX2_isWithin 27 = .ok (.iload 4, 2) := by decide +kernel
theorem dX2_isWithin_29 : decode cX2_isWithin 29 = .ok (.if_icmp .le 5, 3) := by decide +kernel
theorem dX2_isWithin_32 : decode cX2_isWithin 32 = .ok (.iconst 0, 1) := by decide +kernel
theorem dX2_isWithin_33 : decode cX2_isWithin 33 = .ok (.ireturn, 1) := by decide +kernel
theorem dX2_isWithin_34 : decode cX2_isWithin 34 = .ok (.iinc 5 1, 3) := by decide +kernel
theorem dX2_isWithin_37 : decode cX2_isWithin 37 = .ok (.goto (-34), 3) := by decide +kernel
theorem dX2_isWithin_40 : decode cX2_isWithin 40 = .ok (.iconst 1, 1) := by decide +kernel
theorem dX2_isWithin_41 : decode cX2_isWithin 41 = .ok (.ireturn, 1) := by decide +kernel
def f_X2_isWithin_j40 (N : Nat) (σ : St) : Option Int32 :=
  some (1 : Int32)
def f_X2_isWithin_b3 (N : Nat) (x0 : Nat) (x1 : Int32) (x2 : Int32) (x3 : Int32) (x4 : Int32) (x5 : Int32) (σ : St) : Option ((Int32) ⊕ (Int32 ⊕ (Unit))) :=
  if x2 ≤ x5 then (some (.inr (.inr ())))
  else bd (f_X2_at x0 (x1 + x5) σ) fun r_2 =>
  if r_2 < x3 then (some (.inr (.inl (0 : Int32))))
  else if r_2 ≤ x4 then (nm (x5 + (1 : Int32)) fun x5_6 =>
    some (.inl x5_6))
  else some (.inr (.inl (0 : Int32)))
def f_X2_isWithin (N : Nat) (x0 : Nat) (x1 : Int32) (x2 : Int32) (x3 : Int32) (x4 : Int32) (σ : St) : Option Int32 :=
  bd (lpF (fun s => f_X2_isWithin_b3 N x0 x1 x2 x3 x4 s σ) N (0 : Int32)) (Sum.elim (fun v => some v) (fun o => f_X2_isWithin_j40 N σ))
abbrev rmX2_isWithin : Room := { frames := 1, cells := 0, slots := 0, locals := 21 }
set_option maxRecDepth 100000 in
set_option maxHeartbeats 4000000 in
theorem c_X2_isWithin (l : Launch) (D : va_G) (a : Nat → Nat) (c : Nat → ClassId) (A : Nat → Prop) (hD : ∀ σ, va_D A (cW a c σ)) (N : Nat) (x0 : Nat) (x1 : Int32) (x2 : Int32) (x3 : Int32) (x4 : Int32) (σ : St) (hx0 : x0 < 4) (r : Int32) (hf : f_X2_isWithin N x0 x1 x2 x3 x4 σ = some r) : MetI l yX2_isWithin cX2_isWithin 7 (some .boolean) rmX2_isWithin (cW a c) D c A [.ref (a (15 + x0)), .int x1, .int x2, .int x3, .int x4] σ r σ := by
  refine mkI (by decide) (Nat.le_of_ble_eq_true rfl) rfl ?_
  intro p e s m args below meth cd Q ls h0 hK hP hret hl
  obtain ⟨S, hr, hlk⟩ := h0
  obtain ⟨hx, hb, hml, hown, ht⟩ := id S
  have hS : va_S A s.heap s.heap [] := va_S.rf
  have hl : lv_has ls 7 [(0, .ref (a (15 + x0))), (1, .int x1), (2, .int x2), (3, .int x3), (4, .int x4)] := hl
  have hf := obs hf
  have j40 : ∀ (H : Heap) (locs : List Loc) (ls : Array Slot), lv_has ls 7 [] → va_P D vwCl (cW a c σ) H → va_S A s.heap H locs → Option.bind (f_X2_isWithin_j40 N σ) some = some r → W p l e rmX2_isWithin s m args below meth cd H locs 0 0 Q (F0 m 40 ls []) := by
    intro H locs ls hl hP hS hf
    have hf := oun (f_X2_isWithin_j40.eq_1 _ _) hf
    refine lv_iconst (v := (1 : Int32)) hx hb dX2_isWithin_40 (by decide) ?_
    exact hret _ _ _ _ _ _ dX2_isWithin_41 (by decide) hP hS ⟨Option.some.inj hf, rfl⟩
  have L3 : ∀ (x0 : Nat) (x1 : Int32) (x2 : Int32) (x3 : Int32) (x4 : Int32) (hx0 : x0 < 4) (k : Nat) (x5 : Int32) (H : Heap) (locs : List Loc) (ls : Array Slot), lv_has ls 7 [(0, .ref (a (15 + x0))), (1, .int x1), (2, .int x2), (3, .int x3), (4, .int x4), (5, .int x5)] → va_P D vwCl (cW a c σ) H → va_S A s.heap H locs → Option.bind (bd (lpF (fun s => f_X2_isWithin_b3 N x0 x1 x2 x3 x4 s σ) k x5) (Sum.elim (fun v => some v) (fun o => f_X2_isWithin_j40 N σ))) some = some r → W p l e rmX2_isWithin s m args below meth cd H locs 0 0 Q (F0 m 3 ls []) := by
    intro x0 x1 x2 x3 x4 hx0 k
    induction k with
    | zero =>
      intro x5 H locs ls hl hP hS hf
      exact (ol0 hf).elim
    | succ k ih =>
      intro x5 H locs ls hl hP hS hf
      obtain ⟨K3, hf, hc3, hx3⟩ := ol1 hf
      have hf := oun (f_X2_isWithin_b3.eq_1 N x0 x1 x2 x3 x4 x5 σ) hf
      refine lv_iload hx hb dX2_isWithin_3 (lv_at hl 5 rfl) ?_
      refine lv_iload_n hx hb dX2_isWithin_5 rfl (lv_at hl 2 rfl) ?_
      refine lv_icmp_ge (tgt := 40) hx hb dX2_isWithin_6 (by decide) (fun c_1 => ?_) (fun c_1 => ?_)
      · have hf := oit c_1 hf
        exact j40 _ _ _ (lv_sub hl [] rfl) hP hS (okx hf (hx3 _))
      have hf := oif c_1 hf
      refine lv_aload_n hx hb dX2_isWithin_9 rfl (lv_at hl 0 rfl) ?_
      refine lv_iload_n hx hb dX2_isWithin_10 rfl (lv_at hl 1 rfl) ?_
      refine lv_iload hx hb dX2_isWithin_11 (lv_at hl 5 rfl) ?_
      refine lv_iadd hx hb dX2_isWithin_13 ?_
      obtain ⟨r_2, h_3, hf⟩ := obd hf
      refine xv_I (As := [.int (x1 + x5)]) (rest := []) S k_X2_at q377 q103 q104 ⟨Nat.le_of_ble_eq_true rfl, Nat.le_of_ble_eq_true rfl⟩ ⟨rfl, rfl⟩ (c_X2_at l D a c A hD x0 (x1 + x5) σ hx0 r_2 h_3) hK hP hS (va_recv hK.1 hP (rfl : vwCl[2]? = some (RX2, TX2, 3)) (cwX2 a c σ x0 hx0)) rfl hl.1 rfl (Nat.le_of_ble_eq_true rfl) dX2_isWithin_14 ⟨Nat.zero_le _, Nat.zero_le _⟩ (fun H locs hP hS => ?_)
      refine lv_istore (lv' := [(6, .int r_2), (0, .ref (a (15 + x0))), (1, .int x1), (2, .int x2), (3, .int x3), (4, .int x4), (5, .int x5)]) hx hb dX2_isWithin_17 hl (by decide) rfl (fun ls hl => ?_)
      refine lv_iload hx hb dX2_isWithin_19 (lv_at hl 0 rfl) ?_
      refine lv_iload_n hx hb dX2_isWithin_21 rfl (lv_at hl 4 rfl) ?_
      refine lv_icmp_lt (tgt := 32) hx hb dX2_isWithin_22 (by decide) (fun c_4 => ?_) (fun c_4 => ?_)
      · have hf := oit c_4 hf
        refine lv_iconst (v := (0 : Int32)) hx hb dX2_isWithin_32 (by decide) ?_
        have hf := okx hf (hx3 _)
        exact hret _ _ _ _ _ _ dX2_isWithin_33 (by decide) hP hS ⟨Option.some.inj hf, rfl⟩
      have hf := oif c_4 hf
      refine lv_iload hx hb dX2_isWithin_25 (lv_at hl 0 rfl) ?_
      refine lv_iload hx hb dX2_isWithin_27 (lv_at hl 5 rfl) ?_
      refine lv_icmp_le (tgt := 34) hx hb dX2_isWithin_29 (by decide) (fun c_5 => ?_) (fun c_5 => ?_)
      · have hf := oit c_5 hf
        obtain ⟨x5_6, ex5_6, hf⟩ := onm hf
        refine lv_iinc (v := x5_6) (lv' := [(5, .int x5_6), (6, .int r_2), (0, .ref (a (15 + x0))), (1, .int x1), (2, .int x2), (3, .int x3), (4, .int x4)]) hx hb dX2_isWithin_34 hl (k := 6) rfl ex5_6 (by decide) rfl (fun ls hl => ?_)
        refine lv_goto (tgt := 3) hx hb dX2_isWithin_37 (by decide) ?_
        exact ih x5_6 _ _ _ (lv_sub hl [2, 3, 4, 5, 6, 0] rfl) hP hS (okx hf (hc3 _))
      have hf := oif c_5 hf
      refine lv_iconst (v := (0 : Int32)) hx hb dX2_isWithin_32 (by decide) ?_
      have hf := okx hf (hx3 _)
      exact hret _ _ _ _ _ _ dX2_isWithin_33 (by decide) hP hS ⟨Option.some.inj hf, rfl⟩
  have hf := oun (f_X2_isWithin.eq_1 _ _ _ _ _ _ _) hf
  refine lv_iconst (v := (0 : Int32)) hx hb dX2_isWithin_0 (by decide) ?_
  refine lv_istore (lv' := [(5, .int (0 : Int32)), (0, .ref (a (15 + x0))), (1, .int x1), (2, .int x2), (3, .int x3), (4, .int x4)]) hx hb dX2_isWithin_1 hl (by decide) rfl (fun ls hl => ?_)
  exact L3 x0 x1 x2 x3 x4 hx0 N (0 : Int32) _ _ _ (lv_sub hl [1, 2, 3, 4, 5, 0] rfl) hP hS hf
theorem dX2_renew_0 : decode cX2_renew 0 = .ok (.aload_n 0, 1) := by decide +kernel
theorem dX2_renew_1 : decode cX2_renew 1 = .ok (.iload_n 1, 1) := by decide +kernel
theorem dX2_renew_2 : decode cX2_renew 2 = .ok (.putfield 15, 3) := by decide +kernel
theorem dX2_renew_5 : decode cX2_renew 5 = .ok (.aload_n 0, 1) := by decide +kernel
theorem dX2_renew_6 : decode cX2_renew 6 = .ok (.iconst 0, 1) := by decide +kernel
theorem dX2_renew_7 : decode cX2_renew 7 = .ok (.iload_n 2, 1) := by decide +kernel
theorem dX2_renew_8 : decode cX2_renew 8 = .ok (.bipush 60, 2) := by decide +kernel
theorem dX2_renew_10 : decode cX2_renew 10 = .ok (.invokestatic 19, 3) := by decide +kernel
theorem dX2_renew_13 : decode cX2_renew 13 = .ok (.invokestatic 25, 3) := by decide +kernel
theorem dX2_renew_16 : decode cX2_renew 16 = .ok (.putfield 28, 3) := by decide +kernel
theorem dX2_renew_19 : decode cX2_renew 19 = .ok (.aload_n 0, 1) := by decide +kernel
theorem dX2_renew_20 : decode cX2_renew 20 = .ok (.getfield 9, 3) := by decide +kernel
theorem dX2_renew_23 : decode cX2_renew 23 = .ok (.iconst 0, 1) := by decide +kernel
theorem dX2_renew_24 : decode cX2_renew 24 = .ok (.invokestatic 31, 3) := by decide +kernel
theorem dX2_renew_27 : decode cX2_renew 27 = .ok (.return_, 1) := by decide +kernel
def f_X2_renew (x0 : Nat) (x1 : Int32) (x2 : Int32) (σ : St) : Option St :=
  nm (wS σ 4 x0 x1) fun σ_1 =>
  nm (wS σ_1 5 x0 (if (0 : Int32) < (if (60 : Int32) < x2 then (60 : Int32) else x2) then (if (60 : Int32) < x2 then (60 : Int32) else x2) else (0 : Int32))) fun σ_2 =>
  nm (wG σ_2 (12 + x0) (fun j => if j < 60 then (0 : Int32) else σ_2.1 (12 + x0) j)) fun σ_3 =>
  some σ_3
abbrev rmX2_renew : Room := { frames := 1, cells := 0, slots := 0, locals := 24 }
set_option maxRecDepth 100000 in
set_option maxHeartbeats 4000000 in
theorem c_X2_renew (l : Launch) (D : va_G) (a : Nat → Nat) (c : Nat → ClassId) (A : Nat → Prop) (hD : ∀ σ, va_D A (cW a c σ)) (x0 : Nat) (x1 : Int32) (x2 : Int32) (σ : St) (hx0 : x0 < 4) (u : St) (hf : f_X2_renew x0 x1 x2 σ = some u) : MetV l yX2_renew cX2_renew 3 (none) rmX2_renew (cW a c) D c A [.ref (a (15 + x0)), .int x1, .int x2] σ u := by
  refine mkV (by decide) (Nat.le_of_ble_eq_true rfl) rfl ?_
  intro p e s m args below meth cd Q ls h0 hK hP hret hl
  obtain ⟨S, hr, hlk⟩ := h0
  obtain ⟨hx, hb, hml, hown, ht⟩ := id S
  have hS : va_S A s.heap s.heap [] := va_S.rf
  have hl : lv_has ls 3 [(0, .ref (a (15 + x0))), (1, .int x1), (2, .int x2)] := hl
  have hf := obs hf
  have hf := oun (f_X2_renew.eq_1 _ _ _ _) hf
  refine lv_aload_n hx hb dX2_renew_0 rfl (lv_at hl 0 rfl) ?_
  refine lv_iload_n hx hb dX2_renew_1 rfl (lv_at hl 1 rfl) ?_
  refine va_put (D := D) (ci := 2) (v := .int x1) (ty := .int) (C := RX2) (T := TX2) (N := 3) hx hb ht gX2 tyX2 tyX2_ok nmX2 hown hK.1 hP (hD σ) hS (15 + x0) (cwX2 a c σ x0 hx0) rfl 1 (by decide) (ht _ q45) (fun _ h9 => h9) rfl (by decide +kernel) rfl rfl (Nat.le_of_ble_eq_true rfl) dX2_renew_2 (fun H locs hP _ hS => ?_)
  have hP := vP_eq (cpX2_laneOfRow a c σ x0 hx0 x1) hP
  obtain ⟨σ_1, eσ_1, hf⟩ := onm hf
  rw [eσ_1] at hP
  refine lv_aload_n hx hb dX2_renew_5 rfl (lv_at hl 0 rfl) ?_
  refine lv_iconst (v := (0 : Int32)) hx hb dX2_renew_6 (by decide) ?_
  refine lv_iload_n hx hb dX2_renew_7 rfl (lv_at hl 2 rfl) ?_
  refine lv_bipush (v := (60 : Int32)) hx hb dX2_renew_8 (by decide) ?_
  refine va_mmin hx hb (hml.trans hl.1.symm) hown (ht _ q616) (ht _ q123) (ht _ q124) (ht _ q125) (by exact Nat.le_of_ble_eq_true rfl) (by exact Nat.le_of_ble_eq_true rfl) (Nat.zero_le _) (Nat.zero_le _) dX2_renew_10 ?_
  refine va_mmax hx hb (hml.trans hl.1.symm) hown (ht _ q617) (ht _ q396) (ht _ q124) (ht _ q397) (by exact Nat.le_of_ble_eq_true rfl) (by exact Nat.le_of_ble_eq_true rfl) (Nat.zero_le _) (Nat.zero_le _) dX2_renew_13 ?_
  refine va_put (D := D) (ci := 2) (v := .int (if (0 : Int32) < (if (60 : Int32) < x2 then (60 : Int32) else x2) then (if (60 : Int32) < x2 then (60 : Int32) else x2) else (0 : Int32))) (ty := .int) (C := RX2) (T := TX2) (N := 3) hx hb ht gX2 tyX2 tyX2_ok nmX2 hown hK.1 hP (hD σ_1) hS (15 + x0) (cwX2 a c σ_1 x0 hx0) rfl 2 (by decide) (ht _ q93) (fun _ h9 => h9) rfl (by decide +kernel) rfl rfl (Nat.le_of_ble_eq_true rfl) dX2_renew_16 (fun H locs hP _ hS => ?_)
  have hP := vP_eq (cpX2_size a c σ_1 x0 hx0 (if (0 : Int32) < (if (60 : Int32) < x2 then (60 : Int32) else x2) then (if (60 : Int32) < x2 then (60 : Int32) else x2) else (0 : Int32))) hP
  obtain ⟨σ_2, eσ_2, hf⟩ := onm hf
  rw [eσ_2] at hP
  refine lv_aload_n hx hb dX2_renew_19 rfl (lv_at hl 0 rfl) ?_
  refine va_get (D := D) (ci := 2) (v := .ref (a (19 + x0))) (C := RX2) (T := TX2) (N := 3) hx hb ht gX2 hown hK.1 hP (15 + x0) (cwX2 a c σ_2 x0 hx0) rfl 0 (by decide) (ht _ q44) (fun _ h9 => h9) rfl dX2_renew_20 ?_
  refine lv_iconst (v := (0 : Int32)) hx hb dX2_renew_23 (by decide) ?_
  refine xs_V (As := [.ref (a (19 + x0)), .int (0 : Int32)]) (rest := []) S k_J7_fill_53178 q618 q619 ⟨Nat.le_of_ble_eq_true rfl, Nat.le_of_ble_eq_true rfl⟩ ⟨rfl, rfl⟩ (c_fillI l D a c A hD σ_2 x0 hx0 (0 : Int32)) hK hP hS rfl hl.1 rfl (Nat.le_of_ble_eq_true rfl) dX2_renew_24 ⟨Nat.zero_le _, Nat.zero_le _⟩ (fun H locs hP hS => ?_)
  obtain ⟨σ_3, eσ_3, hf⟩ := onm hf
  rw [eσ_3] at hP
  exact hret _ _ _ _ _ dX2_renew_27 hP hS (Option.some.inj hf)
theorem dX2_clear_0 : decode cX2_clear 0 = .ok (.aload_n 0, 1) := by decide +kernel
theorem dX2_clear_1 : decode cX2_clear 1 = .ok (.iconst (-1), 1) := by decide +kernel
theorem dX2_clear_2 : decode cX2_clear 2 = .ok (.putfield 15, 3) := by decide +kernel
theorem dX2_clear_5 : decode cX2_clear 5 = .ok (.aload_n 0, 1) := by decide +kernel
theorem dX2_clear_6 : decode cX2_clear 6 = .ok (.iconst 0, 1) := by decide +kernel
theorem dX2_clear_7 : decode cX2_clear 7 = .ok (.putfield 28, 3) := by decide +kernel
theorem dX2_clear_10 : decode cX2_clear 10 = .ok (.return_, 1) := by decide +kernel
def f_X2_clear (x0 : Nat) (σ : St) : Option St :=
  nm (wS σ 4 x0 (-1 : Int32)) fun σ_1 =>
  nm (wS σ_1 5 x0 (0 : Int32)) fun σ_2 =>
  some σ_2
abbrev rmX2_clear : Room := { frames := 0, cells := 0, slots := 0, locals := 0 }
set_option maxRecDepth 100000 in
set_option maxHeartbeats 4000000 in
theorem c_X2_clear (l : Launch) (D : va_G) (a : Nat → Nat) (c : Nat → ClassId) (A : Nat → Prop) (hD : ∀ σ, va_D A (cW a c σ)) (x0 : Nat) (σ : St) (hx0 : x0 < 4) (u : St) (hf : f_X2_clear x0 σ = some u) : MetV l yX2_clear cX2_clear 1 (none) rmX2_clear (cW a c) D c A [.ref (a (15 + x0))] σ u := by
  refine mkV (by decide) (Nat.le_of_ble_eq_true rfl) rfl ?_
  intro p e s m args below meth cd Q ls h0 hK hP hret hl
  obtain ⟨S, hr, hlk⟩ := h0
  obtain ⟨hx, hb, hml, hown, ht⟩ := id S
  have hS : va_S A s.heap s.heap [] := va_S.rf
  have hl : lv_has ls 1 [(0, .ref (a (15 + x0)))] := hl
  have hf := obs hf
  have hf := oun (f_X2_clear.eq_1 _ _) hf
  refine lv_aload_n hx hb dX2_clear_0 rfl (lv_at hl 0 rfl) ?_
  refine lv_iconst (v := (-1 : Int32)) hx hb dX2_clear_1 (by decide) ?_
  refine va_put (D := D) (ci := 2) (v := .int (-1 : Int32)) (ty := .int) (C := RX2) (T := TX2) (N := 3) hx hb ht gX2 tyX2 tyX2_ok nmX2 hown hK.1 hP (hD σ) hS (15 + x0) (cwX2 a c σ x0 hx0) rfl 1 (by decide) (ht _ q45) (fun _ h9 => h9) rfl (by decide +kernel) rfl rfl (Nat.le_of_ble_eq_true rfl) dX2_clear_2 (fun H locs hP _ hS => ?_)
  have hP := vP_eq (cpX2_laneOfRow a c σ x0 hx0 (-1 : Int32)) hP
  obtain ⟨σ_1, eσ_1, hf⟩ := onm hf
  rw [eσ_1] at hP
  refine lv_aload_n hx hb dX2_clear_5 rfl (lv_at hl 0 rfl) ?_
  refine lv_iconst (v := (0 : Int32)) hx hb dX2_clear_6 (by decide) ?_
  refine va_put (D := D) (ci := 2) (v := .int (0 : Int32)) (ty := .int) (C := RX2) (T := TX2) (N := 3) hx hb ht gX2 tyX2 tyX2_ok nmX2 hown hK.1 hP (hD σ_1) hS (15 + x0) (cwX2 a c σ_1 x0 hx0) rfl 2 (by decide) (ht _ q93) (fun _ h9 => h9) rfl (by decide +kernel) rfl rfl (Nat.le_of_ble_eq_true rfl) dX2_clear_7 (fun H locs hP _ hS => ?_)
  have hP := vP_eq (cpX2_size a c σ_1 x0 hx0 (0 : Int32)) hP
  obtain ⟨σ_2, eσ_2, hf⟩ := onm hf
  rw [eσ_2] at hP
  exact hret _ _ _ _ _ dX2_clear_10 hP hS (Option.some.inj hf)
theorem dX2_cut_0 : decode cX2_cut 0 = .ok (.aload_n 0, 1) := by decide +kernel
theorem dX2_cut_1 : decode cX2_cut 1 = .ok (.getfield 15, 3) := by decide +kernel
theorem dX2_cut_4 : decode cX2_cut 4 = .ok (.ifCond .ne 6, 3) := by decide +kernel
theorem dX2_cut_7 : decode cX2_cut 7 = .ok (.iload_n 1, 1) := by decide +kernel
theorem dX2_cut_8 : decode cX2_cut 8 = .ok (.i2b, 1) := by decide +kernel
theorem dX2_cut_9 : decode cX2_cut 9 = .ok (.ireturn, 1) := by decide +kernel
theorem dX2_cut_10 : decode cX2_cut 10 = .ok (.aload_n 0, 1) := by decide +kernel
theorem dX2_cut_11 : decode cX2_cut 11 = .ok (.getfield 15, 3) := by decide +kernel
theorem dX2_cut_14 : decode cX2_cut 14 = .ok (.iconst 1, 1) := by decide +kernel
theorem dX2_cut_15 : decode cX2_cut 15 = .ok (.if_icmp .ne 8, 3) := by decide +kernel
theorem dX2_cut_18 : decode cX2_cut 18 = .ok (.iload_n 1, 1) := by decide +kernel
theorem dX2_cut_19 : decode cX2_cut 19 = .ok (.i2s, 1) := by decide +kernel
theorem dX2_cut_20 : decode cX2_cut 20 = .ok (.goto 4, 3) := by decide +kernel
theorem dX2_cut_23 : decode cX2_cut 23 = .ok (.iload_n 1, 1) := by decide +kernel
theorem dX2_cut_24 : decode cX2_cut 24 = .ok (.ireturn, 1) := by decide +kernel
def f_X2_cut (x0 : Nat) (x1 : Int32) (σ : St) : Option Int32 :=
  if (σ.1 4 x0) = 0 then (some (Int8.toInt32 (Int32.toInt8 x1)))
  else if (σ.1 4 x0) = (1 : Int32) then (some (Int16.toInt32 (Int32.toInt16 x1)))
    else some x1
abbrev rmX2_cut : Room := { frames := 0, cells := 0, slots := 0, locals := 0 }
set_option maxRecDepth 100000 in
set_option maxHeartbeats 4000000 in
theorem c_X2_cut (l : Launch) (D : va_G) (a : Nat → Nat) (c : Nat → ClassId) (A : Nat → Prop) (hD : ∀ σ, va_D A (cW a c σ)) (x0 : Nat) (x1 : Int32) (σ : St) (hx0 : x0 < 4) (r : Int32) (hf : f_X2_cut x0 x1 σ = some r) : MetI l yX2_cut cX2_cut 2 (some .int) rmX2_cut (cW a c) D c A [.ref (a (15 + x0)), .int x1] σ r σ := by
  refine mkI (by decide) (Nat.le_of_ble_eq_true rfl) rfl ?_
  intro p e s m args below meth cd Q ls h0 hK hP hret hl
  obtain ⟨S, hr, hlk⟩ := h0
  obtain ⟨hx, hb, hml, hown, ht⟩ := id S
  have hS : va_S A s.heap s.heap [] := va_S.rf
  have hl : lv_has ls 2 [(0, .ref (a (15 + x0))), (1, .int x1)] := hl
  have hf := obs hf
  have hf := oun (f_X2_cut.eq_1 _ _ _) hf
  refine lv_aload_n hx hb dX2_cut_0 rfl (lv_at hl 0 rfl) ?_
  refine va_get (D := D) (ci := 2) (v := .int (σ.1 4 x0)) (C := RX2) (T := TX2) (N := 3) hx hb ht gX2 hown hK.1 hP (15 + x0) (cwX2 a c σ x0 hx0) rfl 1 (by decide) (ht _ q45) (fun _ h9 => h9) rfl dX2_cut_1 ?_
  refine lv_if_ne (tgt := 10) hx hb dX2_cut_4 (by decide) (fun c_1 => ?_) (fun c_1 => ?_)
  · have hf := oif c_1 hf
    refine lv_aload_n hx hb dX2_cut_10 rfl (lv_at hl 0 rfl) ?_
    refine va_get (D := D) (ci := 2) (v := .int (σ.1 4 x0)) (C := RX2) (T := TX2) (N := 3) hx hb ht gX2 hown hK.1 hP (15 + x0) (cwX2 a c σ x0 hx0) rfl 1 (by decide) (ht _ q45) (fun _ h9 => h9) rfl dX2_cut_11 ?_
    refine lv_iconst (v := (1 : Int32)) hx hb dX2_cut_14 (by decide) ?_
    refine lv_icmp_ne (tgt := 23) hx hb dX2_cut_15 (by decide) (fun c_2 => ?_) (fun c_2 => ?_)
    · have hf := oif c_2 hf
      refine lv_iload_n hx hb dX2_cut_23 rfl (lv_at hl 1 rfl) ?_
      exact hret _ _ _ _ _ _ dX2_cut_24 rfl hP hS ⟨Option.some.inj hf, rfl⟩
    have hf := oit c_2 hf
    refine lv_iload_n hx hb dX2_cut_18 rfl (lv_at hl 1 rfl) ?_
    refine lv_i2s (v := (Int16.toInt32 (Int32.toInt16 x1))) hx hb dX2_cut_19 rfl ?_
    refine lv_goto (tgt := 24) hx hb dX2_cut_20 (by decide) ?_
    exact hret _ _ _ _ _ _ dX2_cut_24 rfl hP hS ⟨Option.some.inj hf, rfl⟩
  have hf := oit c_1 hf
  refine lv_iload_n hx hb dX2_cut_7 rfl (lv_at hl 1 rfl) ?_
  refine lv_i2b (v := (Int8.toInt32 (Int32.toInt8 x1))) hx hb dX2_cut_8 rfl ?_
  exact hret _ _ _ _ _ _ dX2_cut_9 rfl hP hS ⟨Option.some.inj hf, rfl⟩
theorem dX2_write_0 : decode cX2_write 0 = .ok (.iload_n 1, 1) := by decide +kernel
theorem dX2_write_1 : decode cX2_write 1 = .ok (.ifCond .lt 22, 3) := by decide +kernel
theorem dX2_write_4 : decode cX2_write 4 = .ok (.iload_n 1, 1) := by decide +kernel
theorem dX2_write_5 : decode cX2_write 5 = .ok (.aload_n 0, 1) := by decide +kernel
theorem dX2_write_6 : decode cX2_write 6 = .ok (.getfield 28, 3) := by decide +kernel
theorem dX2_write_9 : decode cX2_write 9 = .ok (.if_icmp .ge 14, 3) := by decide +kernel
theorem dX2_write_12 : decode cX2_write 12 = .ok (.aload_n 0, 1) := by decide +kernel
theorem dX2_write_13 : decode cX2_write 13 = .ok (.getfield 9, 3) := by decide +kernel
theorem dX2_write_16 : decode cX2_write 16 = .ok (.iload_n 1, 1) := by decide +kernel
theorem dX2_write_17 : decode cX2_write 17 = .ok (.aload_n 0, 1) := by decide +kernel
theorem dX2_write_18 : decode cX2_write 18 = .ok (.iload_n 2, 1) := by decide +kernel
theorem dX2_write_19 : decode cX2_write 19 = .ok (.invokevirtual 37, 3) := by decide +kernel
theorem dX2_write_22 : decode cX2_write 22 = .ok (.iastore, 1) := by decide +kernel
theorem dX2_write_23 : decode cX2_write 23 = .ok (.return_, 1) := by decide +kernel
def f_X2_write (x0 : Nat) (x1 : Int32) (x2 : Int32) (σ : St) : Option St :=
  if x1 < 0 then (some σ)
  else if (σ.1 5 x0) ≤ x1 then (some σ)
  else bd (f_X2_cut x0 x2 σ) fun r_3 =>
  gd (ck x1 60) <|
  nm (wS σ (12 + x0) (Int32.toNatClampNeg x1) r_3) fun σ_6 =>
  some σ_6
abbrev rmX2_write : Room := { frames := 1, cells := 0, slots := 0, locals := 21 }
set_option maxRecDepth 100000 in
set_option maxHeartbeats 4000000 in
theorem c_X2_write (l : Launch) (D : va_G) (a : Nat → Nat) (c : Nat → ClassId) (A : Nat → Prop) (hD : ∀ σ, va_D A (cW a c σ)) (x0 : Nat) (x1 : Int32) (x2 : Int32) (σ : St) (hx0 : x0 < 4) (u : St) (hf : f_X2_write x0 x1 x2 σ = some u) : MetV l yX2_write cX2_write 3 (none) rmX2_write (cW a c) D c A [.ref (a (15 + x0)), .int x1, .int x2] σ u := by
  refine mkV (by decide) (Nat.le_of_ble_eq_true rfl) rfl ?_
  intro p e s m args below meth cd Q ls h0 hK hP hret hl
  obtain ⟨S, hr, hlk⟩ := h0
  obtain ⟨hx, hb, hml, hown, ht⟩ := id S
  have hS : va_S A s.heap s.heap [] := va_S.rf
  have hl : lv_has ls 3 [(0, .ref (a (15 + x0))), (1, .int x1), (2, .int x2)] := hl
  have hf := obs hf
  have hf := oun (f_X2_write.eq_1 _ _ _ _) hf
  refine lv_iload_n hx hb dX2_write_0 rfl (lv_at hl 1 rfl) ?_
  refine lv_if_lt (tgt := 23) hx hb dX2_write_1 (by decide) (fun c_1 => ?_) (fun c_1 => ?_)
  · have hf := oit c_1 hf
    exact hret _ _ _ _ _ dX2_write_23 hP hS (Option.some.inj hf)
  have hf := oif c_1 hf
  refine lv_iload_n hx hb dX2_write_4 rfl (lv_at hl 1 rfl) ?_
  refine lv_aload_n hx hb dX2_write_5 rfl (lv_at hl 0 rfl) ?_
  refine va_get (D := D) (ci := 2) (v := .int (σ.1 5 x0)) (C := RX2) (T := TX2) (N := 3) hx hb ht gX2 hown hK.1 hP (15 + x0) (cwX2 a c σ x0 hx0) rfl 2 (by decide) (ht _ q93) (fun _ h9 => h9) rfl dX2_write_6 ?_
  refine lv_icmp_ge (tgt := 23) hx hb dX2_write_9 (by decide) (fun c_2 => ?_) (fun c_2 => ?_)
  · have hf := oit c_2 hf
    exact hret _ _ _ _ _ dX2_write_23 hP hS (Option.some.inj hf)
  have hf := oif c_2 hf
  refine lv_aload_n hx hb dX2_write_12 rfl (lv_at hl 0 rfl) ?_
  refine va_get (D := D) (ci := 2) (v := .ref (a (19 + x0))) (C := RX2) (T := TX2) (N := 3) hx hb ht gX2 hown hK.1 hP (15 + x0) (cwX2 a c σ x0 hx0) rfl 0 (by decide) (ht _ q44) (fun _ h9 => h9) rfl dX2_write_13 ?_
  refine lv_iload_n hx hb dX2_write_16 rfl (lv_at hl 1 rfl) ?_
  refine lv_aload_n hx hb dX2_write_17 rfl (lv_at hl 0 rfl) ?_
  refine lv_iload_n hx hb dX2_write_18 rfl (lv_at hl 2 rfl) ?_
  obtain ⟨r_3, h_4, hf⟩ := obd hf
  refine xv_I (As := [.int x2]) (rest := [.int x1, .ref (a (19 + x0))]) S k_X2_cut q647 q648 q649 ⟨Nat.le_of_ble_eq_true rfl, Nat.le_of_ble_eq_true rfl⟩ ⟨rfl, rfl⟩ (c_X2_cut l D a c A hD x0 x2 σ hx0 r_3 h_4) hK hP hS (va_recv hK.1 hP (rfl : vwCl[2]? = some (RX2, TX2, 3)) (cwX2 a c σ x0 hx0)) rfl hl.1 rfl (Nat.le_of_ble_eq_true rfl) dX2_write_19 ⟨Nat.zero_le _, Nat.zero_le _⟩ (fun H locs hP hS => ?_)
  obtain ⟨g_5, hf⟩ := ogd hf
  refine va_iast hx hb hK.1 hP (hD σ) hS (19 + x0) 0 (cwcells a c σ x0 hx0) rfl (ck_in g_5) dX2_write_22 (fun H locs hP _ hS => ?_)
  have hP := vP_eq (cpA_cells a c σ x0 hx0 (Int32.toNatClampNeg x1) r_3) hP
  obtain ⟨σ_6, eσ_6, hf⟩ := onm hf
  rw [eσ_6] at hP
  exact hret _ _ _ _ _ dX2_write_23 hP hS (Option.some.inj hf)
theorem dX2_isLike_0 : decode cX2_isLike 0 = .ok (.aload_n 0, 1) := by decide +kernel
theorem dX2_isLike_1 : decode cX2_isLike 1 = .ok (.getfield 15, 3) := by decide +kernel
theorem dX2_isLike_4 : decode cX2_isLike 4 = .ok (.aload_n 1, 1) := by decide +kernel
theorem dX2_isLike_5 : decode cX2_isLike 5 = .ok (.getfield 15, 3) := by decide +kernel
theorem dX2_isLike_8 : decode cX2_isLike 8 = .ok (.if_icmp .ne 7, 3) := by decide +kernel
theorem dX2_isLike_11 : decode cX2_isLike 11 = .ok (.iconst 1, 1) := by decide +kernel
theorem dX2_isLike_12 : decode cX2_isLike 12 = .ok (.goto 4, 3) := by decide +kernel
theorem dX2_isLike_15 : decode cX2_isLike 15 = .ok (.iconst 0, 1) := by decide +kernel
theorem dX2_isLike_16 : decode cX2_isLike 16 = .ok (.ireturn, 1) := by decide +kernel
def f_X2_isLike (x0 : Nat) (x1 : Nat) (σ : St) : Option Int32 :=
  if (σ.1 4 x0) = (σ.1 4 x1) then (some (1 : Int32))
  else some (0 : Int32)
abbrev rmX2_isLike : Room := { frames := 0, cells := 0, slots := 0, locals := 0 }
set_option maxRecDepth 100000 in
set_option maxHeartbeats 4000000 in
theorem c_X2_isLike (l : Launch) (D : va_G) (a : Nat → Nat) (c : Nat → ClassId) (A : Nat → Prop) (hD : ∀ σ, va_D A (cW a c σ)) (x0 : Nat) (x1 : Nat) (σ : St) (hx0 : x0 < 4) (hx1 : x1 < 4) (r : Int32) (hf : f_X2_isLike x0 x1 σ = some r) : MetI l yX2_isLike cX2_isLike 2 (some .boolean) rmX2_isLike (cW a c) D c A [.ref (a (15 + x0)), .ref (a (15 + x1))] σ r σ := by
  refine mkI (by decide) (Nat.le_of_ble_eq_true rfl) rfl ?_
  intro p e s m args below meth cd Q ls h0 hK hP hret hl
  obtain ⟨S, hr, hlk⟩ := h0
  obtain ⟨hx, hb, hml, hown, ht⟩ := id S
  have hS : va_S A s.heap s.heap [] := va_S.rf
  have hl : lv_has ls 2 [(0, .ref (a (15 + x0))), (1, .ref (a (15 + x1)))] := hl
  have hf := obs hf
  have hf := oun (f_X2_isLike.eq_1 _ _ _) hf
  refine lv_aload_n hx hb dX2_isLike_0 rfl (lv_at hl 0 rfl) ?_
  refine va_get (D := D) (ci := 2) (v := .int (σ.1 4 x0)) (C := RX2) (T := TX2) (N := 3) hx hb ht gX2 hown hK.1 hP (15 + x0) (cwX2 a c σ x0 hx0) rfl 1 (by decide) (ht _ q45) (fun _ h9 => h9) rfl dX2_isLike_1 ?_
  refine lv_aload_n hx hb dX2_isLike_4 rfl (lv_at hl 1 rfl) ?_
  refine va_get (D := D) (ci := 2) (v := .int (σ.1 4 x1)) (C := RX2) (T := TX2) (N := 3) hx hb ht gX2 hown hK.1 hP (15 + x1) (cwX2 a c σ x1 hx1) rfl 1 (by decide) (ht _ q45) (fun _ h9 => h9) rfl dX2_isLike_5 ?_
  refine lv_icmp_ne (tgt := 15) hx hb dX2_isLike_8 (by decide) (fun c_1 => ?_) (fun c_1 => ?_)
  · have hf := oif c_1 hf
    refine lv_iconst (v := (0 : Int32)) hx hb dX2_isLike_15 (by decide) ?_
    exact hret _ _ _ _ _ _ dX2_isLike_16 (by decide) hP hS ⟨Option.some.inj hf, rfl⟩
  have hf := oit c_1 hf
  refine lv_iconst (v := (1 : Int32)) hx hb dX2_isLike_11 (by decide) ?_
  refine lv_goto (tgt := 16) hx hb dX2_isLike_12 (by decide) ?_
  exact hret _ _ _ _ _ _ dX2_isLike_16 (by decide) hP hS ⟨Option.some.inj hf, rfl⟩
theorem dX2_send_0 : decode cX2_send 0 = .ok (.aload_n 0, 1) := by decide +kernel
theorem dX2_send_1 : decode cX2_send 1 = .ok (.iload_n 1, 1) := by decide +kernel
theorem dX2_send_2 : decode cX2_send 2 = .ok (.iload 4, 2) := by decide +kernel
theorem dX2_send_4 : decode cX2_send 4 = .ok (.invokevirtual 45, 3) := by decide +kernel
theorem dX2_send_7 : decode cX2_send 7 = .ok (.ifCond .eq 28, 3) := by decide +kernel
theorem dX2_send_10 : decode cX2_send 10 = .ok (.aload_n 2, 1) := by decide +kernel
theorem dX2_send_11 : decode cX2_send 11 = .ok (.iload_n 3, 1) := by decide +kernel
theorem dX2_send_12 : decode cX2_send 12 = .ok (.iload 4, 2) := by decide +kernel
theorem dX2_send_14 : decode cX2_send 14 = .ok (.invokevirtual 45, 3) := by decide +kernel
theorem dX2_send_17 : decode cX2_send 17 = .ok (.ifCond .eq 18, 3) := by decide +kernel
theorem dX2_send_20 : decode cX2_send 20 = .ok (.aload_n 0, 1) := by decide +kernel
theorem dX2_send_21 : decode cX2_send 21 = .ok (.getfield 9, 3) := by decide +kernel
theorem dX2_send_24 : decode cX2_send 24 = .ok (.iload_n 1, 1) := by decide +kernel
theorem dX2_send_25 : decode cX2_send 25 = .ok (.aload_n 2, 1) := by decide +kernel
theorem dX2_send_26 : decode cX2_send 26 = .ok (.getfield 9, 3) := by decide +kernel
theorem dX2_send_29 : decode cX2_send 29 = .ok (.iload_n 3, 1) := by decide +kernel
theorem dX2_send_30 : decode cX2_send 30 = .ok (.iload 4, 2) := by decide +kernel
theorem dX2_send_32 : decode cX2_send 32 = .ok (.invokestatic 52, 3) := by decide +kernel
theorem dX2_send_35 : decode cX2_send 35 = .ok (.return_, 1) := by decide +kernel
def f_X2_send (x0 : Nat) (x1 : Int32) (x2 : Nat) (x3 : Int32) (x4 : Int32) (σ : St) : Option St :=
  bd (f_X2_hasCells x0 x1 x4 σ) fun r_1 =>
  if r_1 = 0 then (some σ)
  else bd (f_X2_hasCells x2 x3 x4 σ) fun r_4 =>
  if r_4 = 0 then (some σ)
  else gd (decide (¬ x1 < 0)) <|
  gd (decide (¬ x3 < 0)) <|
  gd (decide (¬ x4 < 0)) <|
  gd (decide (Int32.toNatClampNeg x1 + Int32.toNatClampNeg x4 ≤ 60)) <|
  gd (decide (Int32.toNatClampNeg x3 + Int32.toNatClampNeg x4 ≤ 60)) <|
  nm (wG σ (12 + x2) (va_cpy (σ.1 (12 + x0)) (σ.1 (12 + x2)) (Int32.toNatClampNeg x1) (Int32.toNatClampNeg x3) (Int32.toNatClampNeg x4))) fun σ_12 =>
  some σ_12
abbrev rmX2_send : Room := { frames := 1, cells := 0, slots := 0, locals := 80 }
set_option maxRecDepth 100000 in
set_option maxHeartbeats 4000000 in
theorem c_X2_send (l : Launch) (D : va_G) (a : Nat → Nat) (c : Nat → ClassId) (A : Nat → Prop) (hD : ∀ σ, va_D A (cW a c σ)) (x0 : Nat) (x1 : Int32) (x2 : Nat) (x3 : Int32) (x4 : Int32) (σ : St) (hx0 : x0 < 4) (hx2 : x2 < 4) (u : St) (hf : f_X2_send x0 x1 x2 x3 x4 σ = some u) : MetV l yX2_send cX2_send 5 (none) rmX2_send (cW a c) D c A [.ref (a (15 + x0)), .int x1, .ref (a (15 + x2)), .int x3, .int x4] σ u := by
  refine mkV (by decide) (Nat.le_of_ble_eq_true rfl) rfl ?_
  intro p e s m args below meth cd Q ls h0 hK hP hret hl
  obtain ⟨S, hr, hlk⟩ := h0
  obtain ⟨hx, hb, hml, hown, ht⟩ := id S
  have hS : va_S A s.heap s.heap [] := va_S.rf
  have hl : lv_has ls 5 [(0, .ref (a (15 + x0))), (1, .int x1), (2, .ref (a (15 + x2))), (3, .int x3), (4, .int x4)] := hl
  have hf := obs hf
  have hf := oun (f_X2_send.eq_1 _ _ _ _ _ _) hf
  refine lv_aload_n hx hb dX2_send_0 rfl (lv_at hl 0 rfl) ?_
  refine lv_iload_n hx hb dX2_send_1 rfl (lv_at hl 1 rfl) ?_
  refine lv_iload hx hb dX2_send_2 (lv_at hl 4 rfl) ?_
  obtain ⟨r_1, h_2, hf⟩ := obd hf
  refine xv_I (As := [.int x1, .int x4]) (rest := []) S k_X2_hasCells q89 q90 q91 ⟨Nat.le_of_ble_eq_true rfl, Nat.le_of_ble_eq_true rfl⟩ ⟨rfl, rfl⟩ (c_X2_hasCells l D a c A hD x0 x1 x4 σ hx0 r_1 h_2) hK hP hS (va_recv hK.1 hP (rfl : vwCl[2]? = some (RX2, TX2, 3)) (cwX2 a c σ x0 hx0)) rfl hl.1 rfl (Nat.le_of_ble_eq_true rfl) dX2_send_4 ⟨Nat.zero_le _, Nat.zero_le _⟩ (fun H locs hP hS => ?_)
  refine lv_if_eq (tgt := 35) hx hb dX2_send_7 (by decide) (fun c_3 => ?_) (fun c_3 => ?_)
  · have hf := oit c_3 hf
    exact hret _ _ _ _ _ dX2_send_35 hP hS (Option.some.inj hf)
  have hf := oif c_3 hf
  refine lv_aload_n hx hb dX2_send_10 rfl (lv_at hl 2 rfl) ?_
  refine lv_iload_n hx hb dX2_send_11 rfl (lv_at hl 3 rfl) ?_
  refine lv_iload hx hb dX2_send_12 (lv_at hl 4 rfl) ?_
  obtain ⟨r_4, h_5, hf⟩ := obd hf
  refine xv_I (As := [.int x3, .int x4]) (rest := []) S k_X2_hasCells q89 q90 q91 ⟨Nat.le_of_ble_eq_true rfl, Nat.le_of_ble_eq_true rfl⟩ ⟨rfl, rfl⟩ (c_X2_hasCells l D a c A hD x2 x3 x4 σ hx2 r_4 h_5) hK hP hS (va_recv hK.1 hP (rfl : vwCl[2]? = some (RX2, TX2, 3)) (cwX2 a c σ x2 hx2)) rfl hl.1 rfl (Nat.le_of_ble_eq_true rfl) dX2_send_14 ⟨Nat.zero_le _, Nat.zero_le _⟩ (fun H locs hP hS => ?_)
  refine lv_if_eq (tgt := 35) hx hb dX2_send_17 (by decide) (fun c_6 => ?_) (fun c_6 => ?_)
  · have hf := oit c_6 hf
    exact hret _ _ _ _ _ dX2_send_35 hP hS (Option.some.inj hf)
  have hf := oif c_6 hf
  refine lv_aload_n hx hb dX2_send_20 rfl (lv_at hl 0 rfl) ?_
  refine va_get (D := D) (ci := 2) (v := .ref (a (19 + x0))) (C := RX2) (T := TX2) (N := 3) hx hb ht gX2 hown hK.1 hP (15 + x0) (cwX2 a c σ x0 hx0) rfl 0 (by decide) (ht _ q44) (fun _ h9 => h9) rfl dX2_send_21 ?_
  refine lv_iload_n hx hb dX2_send_24 rfl (lv_at hl 1 rfl) ?_
  refine lv_aload_n hx hb dX2_send_25 rfl (lv_at hl 2 rfl) ?_
  refine va_get (D := D) (ci := 2) (v := .ref (a (19 + x2))) (C := RX2) (T := TX2) (N := 3) hx hb ht gX2 hown hK.1 hP (15 + x2) (cwX2 a c σ x2 hx2) rfl 0 (by decide) (ht _ q44) (fun _ h9 => h9) rfl dX2_send_26 ?_
  refine lv_iload_n hx hb dX2_send_29 rfl (lv_at hl 3 rfl) ?_
  refine lv_iload hx hb dX2_send_30 (lv_at hl 4 rfl) ?_
  obtain ⟨g_7, hf⟩ := ogd hf
  obtain ⟨g_8, hf⟩ := ogd hf
  obtain ⟨g_9, hf⟩ := ogd hf
  obtain ⟨g_10, hf⟩ := ogd hf
  obtain ⟨g_11, hf⟩ := ogd hf
  refine va_copyi hx hb (hml.trans hl.1.symm) hown (ht _ q679) (ht _ q680) (ht _ q681) (ht _ q682) hK.1 hP (hD σ) hS (19 + x0) (19 + x2) 0 0 (cwcells a c σ x0 hx0) (cwcells a c σ x2 hx2) rfl rfl rfl (of_decide_eq_true g_7) (of_decide_eq_true g_8) (of_decide_eq_true g_9) (of_decide_eq_true g_10) (of_decide_eq_true g_11) (fun _ _ => rfl) (Nat.le_of_ble_eq_true rfl) (by decide +kernel) dX2_send_32 (fun H locs hP _ hS => ?_)
  have hP := vP_eq (cpG_cells a c σ x2 hx2 (va_cpy (σ.1 (12 + x0)) (σ.1 (12 + x2)) (Int32.toNatClampNeg x1) (Int32.toNatClampNeg x3) (Int32.toNatClampNeg x4))) hP
  obtain ⟨σ_12, eσ_12, hf⟩ := onm hf
  rw [eσ_12] at hP
  exact hret _ _ _ _ _ dX2_send_35 hP hS (Option.some.inj hf)
end
section
theorem dX1_lengthTo_0 : decode cX1_lengthTo 0 = .ok (.iconst 0, 1) := by decide +kernel
theorem dX1_lengthTo_1 : decode cX1_lengthTo 1 = .ok (.istore_n 2, 1) := by decide +kernel
theorem dX1_lengthTo_2 : decode cX1_lengthTo 2 = .ok (.iload_n 1, 1) := by decide +kernel
theorem dX1_lengthTo_3 : decode cX1_lengthTo 3 = .ok (.istore_n 3, 1) := by decide +kernel
theorem dX1_lengthTo_4 : decode cX1_lengthTo 4 = .ok (.iload_n 3, 1) := by decide +kernel
theorem dX1_lengthTo_5 : decode cX1_lengthTo 5 = .ok (.ifCond .le 31, 3) := by decide +kernel
theorem dX1_lengthTo_8 : decode cX1_lengthTo 8 = .ok (.iload_n 3, 1) := by decide +kernel
theorem dX1_lengthTo_9 : decode cX1_lengthTo 9 = .ok (.aload_n 0, 1) := by decide +kernel
theorem dX1_lengthTo_10 : decode cX1_lengthTo 10 = .ok (.getfield 27, 3) := by decide +kernel
theorem dX1_lengthTo_13 : decode cX1_lengthTo 13 = .ok (.if_icmp .ge 23, 3) := by decide +kernel
theorem dX1_lengthTo_16 : decode cX1_lengthTo 16 = .ok (.iload_n 2, 1) := by decide +kernel
theorem dX1_lengthTo_17 : decode cX1_lengthTo 17 = .ok (.sipush 580, 3) := by decide +kernel
theorem dX1_lengthTo_20 : decode cX1_lengthTo 20 = .ok (.if_icmp .ge 16, 3) := by decide +kernel
theorem dX1_lengthTo_23 : decode cX1_lengthTo 23 = .ok (.iinc 2 1, 3) := by decide +kernel
theorem dX1_lengthTo_26 : decode cX1_lengthTo 26 = .ok (.aload_n 0, 1) := by decide +kernel
theorem dX1_lengthTo_27 : decode cX1_lengthTo 27 = .ok (.getfield 15, 3) := by decide +kernel
theorem dX1_lengthTo_30 : decode cX1_lengthTo 30 = .ok (.iload_n 3, 1) := by decide +kernel
theorem dX1_lengthTo_31 : decode cX1_lengthTo 31 = .ok (.iaload, 1) := by decide +kernel
theorem dX1_lengthTo_32 : decode cX1_lengthTo 32 = .ok (.istore_n 3, 1) := by decide +kernel
theorem dX1_lengthTo_33 : decode cX1_lengthTo 33 = .ok (.goto (-29), 3) := by decide +kernel
theorem dX1_lengthTo_36 : decode cX1_lengthTo 36 = .ok (.iload_n 2, 1) := by decide +kernel
theorem dX1_lengthTo_37 : decode cX1_lengthTo 37 = .ok (.ireturn, 1) := by decide +kernel
def f_X1_lengthTo_j36 (N : Nat) (x2 : Int32) (σ : St) : Option Int32 :=
  some x2
def f_X1_lengthTo_b4 (N : Nat) (x2 : Int32) (x3 : Int32) (σ : St) : Option ((Int32 × Int32) ⊕ ((Int32))) :=
  if x3 ≤ 0 then (some (.inr x2))
  else if (σ.1 0 6) ≤ x3 then (some (.inr x2))
  else if (580 : Int32) ≤ x2 then (some (.inr x2))
  else nm (x2 + (1 : Int32)) fun x2_4 =>
  gd (ck x3 580) <|
  nm (σ.1 10 x3.toNatClampNeg) fun x3_6 =>
  some (.inl (x2_4, x3_6))
def f_X1_lengthTo (N : Nat) (x1 : Int32) (σ : St) : Option Int32 :=
  bd (lpF (fun s => f_X1_lengthTo_b4 N s.1 s.2 σ) N ((0 : Int32), x1)) (fun o => f_X1_lengthTo_j36 N o σ)
abbrev rmX1_lengthTo : Room := { frames := 0, cells := 0, slots := 0, locals := 0 }
set_option maxRecDepth 100000 in
set_option maxHeartbeats 4000000 in
theorem c_X1_lengthTo (l : Launch) (D : va_G) (a : Nat → Nat) (c : Nat → ClassId) (A : Nat → Prop) (hD : ∀ σ, va_D A (cW a c σ)) (N : Nat) (x1 : Int32) (σ : St) (r : Int32) (hf : f_X1_lengthTo N x1 σ = some r) : MetI l yX1_lengthTo cX1_lengthTo 4 (some .int) rmX1_lengthTo (cW a c) D c A [.ref (a 6), .int x1] σ r σ := by
  refine mkI (by decide) (Nat.le_of_ble_eq_true rfl) rfl ?_
  intro p e s m args below meth cd Q ls h0 hK hP hret hl
  obtain ⟨S, hr, hlk⟩ := h0
  obtain ⟨hx, hb, hml, hown, ht⟩ := id S
  have hS : va_S A s.heap s.heap [] := va_S.rf
  have hl : lv_has ls 4 [(0, .ref (a 6)), (1, .int x1)] := hl
  have hf := obs hf
  have j36 : ∀ (x2 : Int32) (H : Heap) (locs : List Loc) (ls : Array Slot), lv_has ls 4 [(2, .int x2)] → va_P D vwCl (cW a c σ) H → va_S A s.heap H locs → Option.bind (f_X1_lengthTo_j36 N x2 σ) some = some r → W p l e rmX1_lengthTo s m args below meth cd H locs 0 0 Q (F0 m 36 ls []) := by
    intro x2 H locs ls hl hP hS hf
    have hf := oun (f_X1_lengthTo_j36.eq_1 _ _ _) hf
    refine lv_iload_n hx hb dX1_lengthTo_36 rfl (lv_at hl 0 rfl) ?_
    exact hret _ _ _ _ _ _ dX1_lengthTo_37 rfl hP hS ⟨Option.some.inj hf, rfl⟩
  have L4 : ∀ (k : Nat) (x2 : Int32) (x3 : Int32) (H : Heap) (locs : List Loc) (ls : Array Slot), lv_has ls 4 [(0, .ref (a 6)), (2, .int x2), (3, .int x3)] → va_P D vwCl (cW a c σ) H → va_S A s.heap H locs → Option.bind (bd (lpF (fun s => f_X1_lengthTo_b4 N s.1 s.2 σ) k (x2, x3)) (fun o => f_X1_lengthTo_j36 N o σ)) some = some r → W p l e rmX1_lengthTo s m args below meth cd H locs 0 0 Q (F0 m 4 ls []) := by
    intro k
    induction k with
    | zero =>
      intro x2 x3 H locs ls hl hP hS hf
      exact (ol0 hf).elim
    | succ k ih =>
      intro x2 x3 H locs ls hl hP hS hf
      obtain ⟨K4, hf, hc4, hx4⟩ := ol1 hf
      have hf := oun (f_X1_lengthTo_b4.eq_1 N x2 x3 σ) hf
      refine lv_iload_n hx hb dX1_lengthTo_4 rfl (lv_at hl 2 rfl) ?_
      refine lv_if_le (tgt := 36) hx hb dX1_lengthTo_5 (by decide) (fun c_1 => ?_) (fun c_1 => ?_)
      · have hf := oit c_1 hf
        exact j36 x2 _ _ _ (lv_sub hl [1] rfl) hP hS (okx hf (hx4 _))
      have hf := oif c_1 hf
      refine lv_iload_n hx hb dX1_lengthTo_8 rfl (lv_at hl 2 rfl) ?_
      refine lv_aload_n hx hb dX1_lengthTo_9 rfl (lv_at hl 0 rfl) ?_
      refine va_get (D := D) (ci := 1) (v := .int (σ.1 0 6)) (C := RX1) (T := TX1) (N := 7) hx hb ht gX1 hown hK.1 hP 6 (cw6 a c σ) rfl 4 (by decide) (ht _ q431) (fun _ h9 => h9) rfl dX1_lengthTo_10 ?_
      refine lv_icmp_ge (tgt := 36) hx hb dX1_lengthTo_13 (by decide) (fun c_2 => ?_) (fun c_2 => ?_)
      · have hf := oit c_2 hf
        exact j36 x2 _ _ _ (lv_sub hl [1] rfl) hP hS (okx hf (hx4 _))
      have hf := oif c_2 hf
      refine lv_iload_n hx hb dX1_lengthTo_16 rfl (lv_at hl 1 rfl) ?_
      refine lv_sipush (v := (580 : Int32)) hx hb dX1_lengthTo_17 (by decide) ?_
      refine lv_icmp_ge (tgt := 36) hx hb dX1_lengthTo_20 (by decide) (fun c_3 => ?_) (fun c_3 => ?_)
      · have hf := oit c_3 hf
        exact j36 x2 _ _ _ (lv_sub hl [1] rfl) hP hS (okx hf (hx4 _))
      have hf := oif c_3 hf
      obtain ⟨x2_4, ex2_4, hf⟩ := onm hf
      refine lv_iinc (v := x2_4) (lv' := [(2, .int x2_4), (0, .ref (a 6)), (3, .int x3)]) hx hb dX1_lengthTo_23 hl (k := 1) rfl ex2_4 (by decide) rfl (fun ls hl => ?_)
      refine lv_aload_n hx hb dX1_lengthTo_26 rfl (lv_at hl 1 rfl) ?_
      refine va_get (D := D) (ci := 1) (v := .ref (a 8)) (C := RX1) (T := TX1) (N := 7) hx hb ht gX1 hown hK.1 hP 6 (cw6 a c σ) rfl 1 (by decide) (ht _ q33) (fun _ h9 => h9) rfl dX1_lengthTo_27 ?_
      refine lv_iload_n hx hb dX1_lengthTo_30 rfl (lv_at hl 2 rfl) ?_
      obtain ⟨g_5, hf⟩ := ogd hf
      refine va_iald hx hb hK.1 hP 8 0 (cw8 a c σ) rfl (ck_in g_5) dX1_lengthTo_31 ?_
      obtain ⟨x3_6, ex3_6, hf⟩ := onm hf
      refine lv_nm ex3_6 ?_
      refine lv_istore_n (lv' := [(3, .int x3_6), (2, .int x2_4), (0, .ref (a 6))]) hx hb dX1_lengthTo_32 rfl hl (by decide) rfl (fun ls hl => ?_)
      refine lv_goto (tgt := 4) hx hb dX1_lengthTo_33 (by decide) ?_
      exact ih x2_4 x3_6 _ _ _ (lv_sub hl [2, 1, 0] rfl) hP hS (okx hf (hc4 _))
  have hf := oun (f_X1_lengthTo.eq_1 _ _ _) hf
  refine lv_iconst (v := (0 : Int32)) hx hb dX1_lengthTo_0 (by decide) ?_
  refine lv_istore_n (lv' := [(2, .int (0 : Int32)), (0, .ref (a 6)), (1, .int x1)]) hx hb dX1_lengthTo_1 rfl hl (by decide) rfl (fun ls hl => ?_)
  refine lv_iload_n hx hb dX1_lengthTo_2 rfl (lv_at hl 2 rfl) ?_
  refine lv_istore_n (lv' := [(3, .int x1), (2, .int (0 : Int32)), (0, .ref (a 6)), (1, .int x1)]) hx hb dX1_lengthTo_3 rfl hl (by decide) rfl (fun ls hl => ?_)
  exact L4 N (0 : Int32) x1 _ _ _ (lv_sub hl [2, 1, 0] rfl) hP hS hf
theorem dX1_actTo_0 : decode cX1_actTo 0 = .ok (.aload_n 0, 1) := by decide +kernel
theorem dX1_actTo_1 : decode cX1_actTo 1 = .ok (.iload_n 1, 1) := by decide +kernel
theorem dX1_actTo_2 : decode cX1_actTo 2 = .ok (.invokevirtual 81, 3) := by decide +kernel
theorem dX1_actTo_5 : decode cX1_actTo 5 = .ok (.iconst 1, 1) := by decide +kernel
theorem dX1_actTo_6 : decode cX1_actTo 6 = .ok (.isub, 1) := by decide +kernel
theorem dX1_actTo_7 : decode cX1_actTo 7 = .ok (.istore_n 3, 1) := by decide +kernel
theorem dX1_actTo_8 : decode cX1_actTo 8 = .ok (.iload_n 1, 1) := by decide +kernel
theorem dX1_actTo_9 : decode cX1_actTo 9 = .ok (.istore 4, 2) := by decide +kernel
theorem dX1_actTo_11 : decode cX1_actTo 11 = .ok (.iload 4, 2) := by decide +kernel
theorem dX1_actTo_13 : decode cX1_actTo 13 = .ok (.ifCond .le 45, 3) := by decide +kernel
theorem dX1_actTo_16 : decode cX1_actTo 16 = .ok (.iload 4, 2) := by decide +kernel
theorem dX1_actTo_18 : decode cX1_actTo 18 = .ok (.aload_n 0, 1) := by decide +kernel
theorem dX1_actTo_19 : decode cX1_actTo 19 = .ok (.getfield 27, 3) := by decide +kernel
theorem dX1_actTo_22 : decode cX1_actTo 22 = .ok (.if_icmp .ge 36, 3) := by decide +kernel
theorem dX1_actTo_25 : decode cX1_actTo 25 = .ok (.iload_n 3, 1) := by decide +kernel
theorem dX1_actTo_26 : decode cX1_actTo 26 = .ok (.iload_n 2, 1) := by decide +kernel
theorem dX1_actTo_27 : decode cX1_actTo 27 = .ok (.if_icmp .lt 31, 3) := by decide +kernel
theorem dX1_actTo_30 : decode cX1_actTo 30 = .ok (.iload_n 3, 1) := by decide +kernel
theorem dX1_actTo_31 : decode cX1_actTo 31 = .ok (.iload_n 2, 1) := by decide +kernel
theorem dX1_actTo_32 : decode cX1_actTo 32 = .ok (.if_icmp .ne 11, 3) := by decide +kernel
theorem dX1_actTo_35 : decode cX1_actTo 35 = .ok (.aload_n 0, 1) := by decide +kernel
theorem dX1_actTo_36 : decode cX1_actTo 36 = .ok (.getfield 18, 3) := by decide +kernel
theorem dX1_actTo_39 : decode cX1_actTo 39 = .ok (.iload 4, 2) := by decide +kernel
theorem dX1_actTo_41 : decode cX1_actTo 41 = .ok (.iaload, 1) := by decide +kernel
theorem dX1_actTo_42 : decode cX1_actTo 42 = .ok (.ireturn, 1) := by decide +kernel
theorem dX1_actTo_43 : decode cX1_actTo 43 = .ok (.iinc 3 (-1), 3) := by decide +kernel
theorem dX1_actTo_46 : decode cX1_actTo 46 = .ok (.aload_n 0, 1) := by decide +kernel
theorem dX1_actTo_47 : decode cX1_actTo 47 = .ok (.getfield 15, 3) := by decide +kernel
theorem dX1_actTo_50 : decode cX1_actTo 50 = .ok (.iload 4, 2) := by decide +kernel
theorem dX1_actTo_52 : decode cX1_actTo 52 = .ok (.iaload, 1) := by decide +kernel
theorem dX1_actTo_53 : decode cX1_actTo 53 = .ok (.istore 4, 2) := by decide +kernel
theorem dX1_actTo_55 : decode cX1_actTo 55 = .ok (.goto (-44), 3) := by decide +kernel
theorem dX1_actTo_58 : decode cX1_actTo 58 = .ok (.bipush (-9), 2) := by decide +kernel
theorem dX1_actTo_60 : decode cX1_actTo 60 = .ok (.ireturn, 1) := by decide +kernel
def f_X1_actTo_j58 (N : Nat) (σ : St) : Option Int32 :=
  some (-9 : Int32)
def f_X1_actTo_b11 (N : Nat) (x2 : Int32) (x3 : Int32) (x4 : Int32) (σ : St) : Option ((Int32 × Int32) ⊕ (Int32 ⊕ (Unit))) :=
  if x4 ≤ 0 then (some (.inr (.inr ())))
  else if (σ.1 0 6) ≤ x4 then (some (.inr (.inr ())))
  else if x3 < x2 then (some (.inr (.inr ())))
  else if x3 = x2 then (gd (ck x4 580) <|
    some (.inr (.inl (σ.1 11 x4.toNatClampNeg))))
  else nm (x3 + (-1 : Int32)) fun x3_5 =>
    gd (ck x4 580) <|
    nm (σ.1 10 x4.toNatClampNeg) fun x4_7 =>
    some (.inl (x3_5, x4_7))
def f_X1_actTo (N : Nat) (x1 : Int32) (x2 : Int32) (σ : St) : Option Int32 :=
  bd (f_X1_lengthTo N x1 σ) fun r_9 =>
  nm (r_9 - (1 : Int32)) fun x3_11 =>
  bd (lpF (fun s => f_X1_actTo_b11 N x2 s.1 s.2 σ) N (x3_11, x1)) (Sum.elim (fun v => some v) (fun o => f_X1_actTo_j58 N σ))
abbrev rmX1_actTo : Room := { frames := 1, cells := 0, slots := 0, locals := 23 }
set_option maxRecDepth 100000 in
set_option maxHeartbeats 4000000 in
theorem c_X1_actTo (l : Launch) (D : va_G) (a : Nat → Nat) (c : Nat → ClassId) (A : Nat → Prop) (hD : ∀ σ, va_D A (cW a c σ)) (N : Nat) (x1 : Int32) (x2 : Int32) (σ : St) (r : Int32) (hf : f_X1_actTo N x1 x2 σ = some r) : MetI l yX1_actTo cX1_actTo 5 (some .int) rmX1_actTo (cW a c) D c A [.ref (a 6), .int x1, .int x2] σ r σ := by
  refine mkI (by decide) (Nat.le_of_ble_eq_true rfl) rfl ?_
  intro p e s m args below meth cd Q ls h0 hK hP hret hl
  obtain ⟨S, hr, hlk⟩ := h0
  obtain ⟨hx, hb, hml, hown, ht⟩ := id S
  have hS : va_S A s.heap s.heap [] := va_S.rf
  have hl : lv_has ls 5 [(0, .ref (a 6)), (1, .int x1), (2, .int x2)] := hl
  have hf := obs hf
  have j58 : ∀ (H : Heap) (locs : List Loc) (ls : Array Slot), lv_has ls 5 [] → va_P D vwCl (cW a c σ) H → va_S A s.heap H locs → Option.bind (f_X1_actTo_j58 N σ) some = some r → W p l e rmX1_actTo s m args below meth cd H locs 0 0 Q (F0 m 58 ls []) := by
    intro H locs ls hl hP hS hf
    have hf := oun (f_X1_actTo_j58.eq_1 _ _) hf
    refine lv_bipush (v := (-9 : Int32)) hx hb dX1_actTo_58 (by decide) ?_
    exact hret _ _ _ _ _ _ dX1_actTo_60 rfl hP hS ⟨Option.some.inj hf, rfl⟩
  have L11 : ∀ (x2 : Int32) (k : Nat) (x3 : Int32) (x4 : Int32) (H : Heap) (locs : List Loc) (ls : Array Slot), lv_has ls 5 [(0, .ref (a 6)), (2, .int x2), (3, .int x3), (4, .int x4)] → va_P D vwCl (cW a c σ) H → va_S A s.heap H locs → Option.bind (bd (lpF (fun s => f_X1_actTo_b11 N x2 s.1 s.2 σ) k (x3, x4)) (Sum.elim (fun v => some v) (fun o => f_X1_actTo_j58 N σ))) some = some r → W p l e rmX1_actTo s m args below meth cd H locs 0 0 Q (F0 m 11 ls []) := by
    intro x2 k
    induction k with
    | zero =>
      intro x3 x4 H locs ls hl hP hS hf
      exact (ol0 hf).elim
    | succ k ih =>
      intro x3 x4 H locs ls hl hP hS hf
      obtain ⟨K11, hf, hc11, hx11⟩ := ol1 hf
      have hf := oun (f_X1_actTo_b11.eq_1 N x2 x3 x4 σ) hf
      refine lv_iload hx hb dX1_actTo_11 (lv_at hl 3 rfl) ?_
      refine lv_if_le (tgt := 58) hx hb dX1_actTo_13 (by decide) (fun c_1 => ?_) (fun c_1 => ?_)
      · have hf := oit c_1 hf
        exact j58 _ _ _ (lv_sub hl [] rfl) hP hS (okx hf (hx11 _))
      have hf := oif c_1 hf
      refine lv_iload hx hb dX1_actTo_16 (lv_at hl 3 rfl) ?_
      refine lv_aload_n hx hb dX1_actTo_18 rfl (lv_at hl 0 rfl) ?_
      refine va_get (D := D) (ci := 1) (v := .int (σ.1 0 6)) (C := RX1) (T := TX1) (N := 7) hx hb ht gX1 hown hK.1 hP 6 (cw6 a c σ) rfl 4 (by decide) (ht _ q431) (fun _ h9 => h9) rfl dX1_actTo_19 ?_
      refine lv_icmp_ge (tgt := 58) hx hb dX1_actTo_22 (by decide) (fun c_2 => ?_) (fun c_2 => ?_)
      · have hf := oit c_2 hf
        exact j58 _ _ _ (lv_sub hl [] rfl) hP hS (okx hf (hx11 _))
      have hf := oif c_2 hf
      refine lv_iload_n hx hb dX1_actTo_25 rfl (lv_at hl 2 rfl) ?_
      refine lv_iload_n hx hb dX1_actTo_26 rfl (lv_at hl 1 rfl) ?_
      refine lv_icmp_lt (tgt := 58) hx hb dX1_actTo_27 (by decide) (fun c_3 => ?_) (fun c_3 => ?_)
      · have hf := oit c_3 hf
        exact j58 _ _ _ (lv_sub hl [] rfl) hP hS (okx hf (hx11 _))
      have hf := oif c_3 hf
      refine lv_iload_n hx hb dX1_actTo_30 rfl (lv_at hl 2 rfl) ?_
      refine lv_iload_n hx hb dX1_actTo_31 rfl (lv_at hl 1 rfl) ?_
      refine lv_icmp_ne (tgt := 43) hx hb dX1_actTo_32 (by decide) (fun c_4 => ?_) (fun c_4 => ?_)
      · have hf := oif c_4 hf
        obtain ⟨x3_5, ex3_5, hf⟩ := onm hf
        refine lv_iinc (v := x3_5) (lv' := [(3, .int x3_5), (0, .ref (a 6)), (2, .int x2), (4, .int x4)]) hx hb dX1_actTo_43 hl (k := 2) rfl ex3_5 (by decide) rfl (fun ls hl => ?_)
        refine lv_aload_n hx hb dX1_actTo_46 rfl (lv_at hl 1 rfl) ?_
        refine va_get (D := D) (ci := 1) (v := .ref (a 8)) (C := RX1) (T := TX1) (N := 7) hx hb ht gX1 hown hK.1 hP 6 (cw6 a c σ) rfl 1 (by decide) (ht _ q33) (fun _ h9 => h9) rfl dX1_actTo_47 ?_
        refine lv_iload hx hb dX1_actTo_50 (lv_at hl 3 rfl) ?_
        obtain ⟨g_6, hf⟩ := ogd hf
        refine va_iald hx hb hK.1 hP 8 0 (cw8 a c σ) rfl (ck_in g_6) dX1_actTo_52 ?_
        obtain ⟨x4_7, ex4_7, hf⟩ := onm hf
        refine lv_nm ex4_7 ?_
        refine lv_istore (lv' := [(4, .int x4_7), (3, .int x3_5), (0, .ref (a 6)), (2, .int x2)]) hx hb dX1_actTo_53 hl (by decide) rfl (fun ls hl => ?_)
        refine lv_goto (tgt := 11) hx hb dX1_actTo_55 (by decide) ?_
        exact ih x3_5 x4_7 _ _ _ (lv_sub hl [2, 3, 1, 0] rfl) hP hS (okx hf (hc11 _))
      have hf := oit c_4 hf
      refine lv_aload_n hx hb dX1_actTo_35 rfl (lv_at hl 0 rfl) ?_
      refine va_get (D := D) (ci := 1) (v := .ref (a 9)) (C := RX1) (T := TX1) (N := 7) hx hb ht gX1 hown hK.1 hP 6 (cw6 a c σ) rfl 2 (by decide) (ht _ q34) (fun _ h9 => h9) rfl dX1_actTo_36 ?_
      refine lv_iload hx hb dX1_actTo_39 (lv_at hl 3 rfl) ?_
      obtain ⟨g_8, hf⟩ := ogd hf
      refine va_iald hx hb hK.1 hP 9 0 (cw9 a c σ) rfl (ck_in g_8) dX1_actTo_41 ?_
      have hf := okx hf (hx11 _)
      exact hret _ _ _ _ _ _ dX1_actTo_42 rfl hP hS ⟨Option.some.inj hf, rfl⟩
  have hf := oun (f_X1_actTo.eq_1 _ _ _ _) hf
  refine lv_aload_n hx hb dX1_actTo_0 rfl (lv_at hl 0 rfl) ?_
  refine lv_iload_n hx hb dX1_actTo_1 rfl (lv_at hl 1 rfl) ?_
  obtain ⟨r_9, h_10, hf⟩ := obd hf
  refine xv_I (As := [.int x1]) (rest := []) S k_X1_lengthTo q465 q458 q459 ⟨Nat.le_of_ble_eq_true rfl, Nat.le_of_ble_eq_true rfl⟩ ⟨rfl, rfl⟩ (c_X1_lengthTo l D a c A hD N x1 σ r_9 h_10) hK hP hS (va_recv hK.1 hP (rfl : vwCl[1]? = some (RX1, TX1, 7)) (cw6 a c σ)) rfl hl.1 rfl (Nat.le_of_ble_eq_true rfl) dX1_actTo_2 ⟨Nat.zero_le _, Nat.zero_le _⟩ (fun H locs hP hS => ?_)
  refine lv_iconst (v := (1 : Int32)) hx hb dX1_actTo_5 (by decide) ?_
  refine lv_isub hx hb dX1_actTo_6 ?_
  obtain ⟨x3_11, ex3_11, hf⟩ := onm hf
  refine lv_nm ex3_11 ?_
  refine lv_istore_n (lv' := [(3, .int x3_11), (0, .ref (a 6)), (1, .int x1), (2, .int x2)]) hx hb dX1_actTo_7 rfl hl (by decide) rfl (fun ls hl => ?_)
  refine lv_iload_n hx hb dX1_actTo_8 rfl (lv_at hl 2 rfl) ?_
  refine lv_istore (lv' := [(4, .int x1), (3, .int x3_11), (0, .ref (a 6)), (1, .int x1), (2, .int x2)]) hx hb dX1_actTo_9 hl (by decide) rfl (fun ls hl => ?_)
  exact L11 x2 N x3_11 x1 _ _ _ (lv_sub hl [2, 4, 1, 0] rfl) hP hS hf
theorem dX1_find_0 : decode cX1_find 0 = .ok (.iconst 0, 1) := by decide +kernel
theorem dX1_find_1 : decode cX1_find 1 = .ok (.istore_n 2, 1) := by decide +kernel
theorem dX1_find_2 : decode cX1_find 2 = .ok (.iload_n 2, 1) := by decide +kernel
theorem dX1_find_3 : decode cX1_find 3 = .ok (.aload_n 0, 1) := by decide +kernel
theorem dX1_find_4 : decode cX1_find 4 = .ok (.getfield 27, 3) := by decide +kernel
theorem dX1_find_7 : decode cX1_find 7 = .ok (.if_icmp .ge 21, 3) := by decide +kernel
theorem dX1_find_10 : decode cX1_find 10 = .ok (.aload_n 0, 1) := by decide +kernel
theorem dX1_find_11 : decode cX1_find 11 = .ok (.getfield 11, 3) := by decide +kernel
theorem dX1_find_14 : decode cX1_find 14 = .ok (.iload_n 2, 1) := by decide +kernel
theorem dX1_find_15 : decode cX1_find 15 = .ok (.iaload, 1) := by decide +kernel
theorem dX1_find_16 : decode cX1_find 16 = .ok (.iload_n 1, 1) := by decide +kernel
theorem dX1_find_17 : decode cX1_find 17 = .ok (.if_icmp .ne 5, 3) := by decide +kernel
theorem dX1_find_20 : decode cX1_find 20 = .ok (.iload_n 2, 1) := by decide +kernel
theorem dX1_find_21 : decode cX1_find 21 = .ok (.ireturn, 1) := by decide +kernel
theorem dX1_find_22 : decode cX1_find 22 = .ok (.iinc 2 1, 3) := by decide +kernel
theorem dX1_find_25 : decode cX1_find 25 = .ok (.goto (-23), 3) := by decide +kernel
theorem dX1_find_28 : decode cX1_find 28 = .ok (.bipush (-9), 2) := by decide +kernel
theorem dX1_find_30 : decode cX1_find 30 = .ok (.ireturn, 1) := by decide +kernel
def f_X1_find_j28 (N : Nat) (σ : St) : Option Int32 :=
  some (-9 : Int32)
def f_X1_find_b2 (N : Nat) (x1 : Int32) (x2 : Int32) (σ : St) : Option ((Int32) ⊕ (Int32 ⊕ (Unit))) :=
  if (σ.1 0 6) ≤ x2 then (some (.inr (.inr ())))
  else gd (ck x2 580) <|
  if (σ.1 9 x2.toNatClampNeg) = x1 then (some (.inr (.inl x2)))
  else nm (x2 + (1 : Int32)) fun x2_4 =>
    some (.inl x2_4)
def f_X1_find (N : Nat) (x1 : Int32) (σ : St) : Option Int32 :=
  bd (lpF (fun s => f_X1_find_b2 N x1 s σ) N (0 : Int32)) (Sum.elim (fun v => some v) (fun o => f_X1_find_j28 N σ))
abbrev rmX1_find : Room := { frames := 0, cells := 0, slots := 0, locals := 0 }
set_option maxRecDepth 100000 in
set_option maxHeartbeats 4000000 in
theorem c_X1_find (l : Launch) (D : va_G) (a : Nat → Nat) (c : Nat → ClassId) (A : Nat → Prop) (hD : ∀ σ, va_D A (cW a c σ)) (N : Nat) (x1 : Int32) (σ : St) (r : Int32) (hf : f_X1_find N x1 σ = some r) : MetI l yX1_find cX1_find 3 (some .int) rmX1_find (cW a c) D c A [.ref (a 6), .int x1] σ r σ := by
  refine mkI (by decide) (Nat.le_of_ble_eq_true rfl) rfl ?_
  intro p e s m args below meth cd Q ls h0 hK hP hret hl
  obtain ⟨S, hr, hlk⟩ := h0
  obtain ⟨hx, hb, hml, hown, ht⟩ := id S
  have hS : va_S A s.heap s.heap [] := va_S.rf
  have hl : lv_has ls 3 [(0, .ref (a 6)), (1, .int x1)] := hl
  have hf := obs hf
  have j28 : ∀ (H : Heap) (locs : List Loc) (ls : Array Slot), lv_has ls 3 [] → va_P D vwCl (cW a c σ) H → va_S A s.heap H locs → Option.bind (f_X1_find_j28 N σ) some = some r → W p l e rmX1_find s m args below meth cd H locs 0 0 Q (F0 m 28 ls []) := by
    intro H locs ls hl hP hS hf
    have hf := oun (f_X1_find_j28.eq_1 _ _) hf
    refine lv_bipush (v := (-9 : Int32)) hx hb dX1_find_28 (by decide) ?_
    exact hret _ _ _ _ _ _ dX1_find_30 rfl hP hS ⟨Option.some.inj hf, rfl⟩
  have L2 : ∀ (x1 : Int32) (k : Nat) (x2 : Int32) (H : Heap) (locs : List Loc) (ls : Array Slot), lv_has ls 3 [(0, .ref (a 6)), (1, .int x1), (2, .int x2)] → va_P D vwCl (cW a c σ) H → va_S A s.heap H locs → Option.bind (bd (lpF (fun s => f_X1_find_b2 N x1 s σ) k x2) (Sum.elim (fun v => some v) (fun o => f_X1_find_j28 N σ))) some = some r → W p l e rmX1_find s m args below meth cd H locs 0 0 Q (F0 m 2 ls []) := by
    intro x1 k
    induction k with
    | zero =>
      intro x2 H locs ls hl hP hS hf
      exact (ol0 hf).elim
    | succ k ih =>
      intro x2 H locs ls hl hP hS hf
      obtain ⟨K2, hf, hc2, hx2⟩ := ol1 hf
      have hf := oun (f_X1_find_b2.eq_1 N x1 x2 σ) hf
      refine lv_iload_n hx hb dX1_find_2 rfl (lv_at hl 2 rfl) ?_
      refine lv_aload_n hx hb dX1_find_3 rfl (lv_at hl 0 rfl) ?_
      refine va_get (D := D) (ci := 1) (v := .int (σ.1 0 6)) (C := RX1) (T := TX1) (N := 7) hx hb ht gX1 hown hK.1 hP 6 (cw6 a c σ) rfl 4 (by decide) (ht _ q431) (fun _ h9 => h9) rfl dX1_find_4 ?_
      refine lv_icmp_ge (tgt := 28) hx hb dX1_find_7 (by decide) (fun c_1 => ?_) (fun c_1 => ?_)
      · have hf := oit c_1 hf
        exact j28 _ _ _ (lv_sub hl [] rfl) hP hS (okx hf (hx2 _))
      have hf := oif c_1 hf
      refine lv_aload_n hx hb dX1_find_10 rfl (lv_at hl 0 rfl) ?_
      refine va_get (D := D) (ci := 1) (v := .ref (a 7)) (C := RX1) (T := TX1) (N := 7) hx hb ht gX1 hown hK.1 hP 6 (cw6 a c σ) rfl 0 (by decide) (ht _ q32) (fun _ h9 => h9) rfl dX1_find_11 ?_
      refine lv_iload_n hx hb dX1_find_14 rfl (lv_at hl 2 rfl) ?_
      obtain ⟨g_2, hf⟩ := ogd hf
      refine va_iald hx hb hK.1 hP 7 0 (cw7 a c σ) rfl (ck_in g_2) dX1_find_15 ?_
      refine lv_iload_n hx hb dX1_find_16 rfl (lv_at hl 1 rfl) ?_
      refine lv_icmp_ne (tgt := 22) hx hb dX1_find_17 (by decide) (fun c_3 => ?_) (fun c_3 => ?_)
      · have hf := oif c_3 hf
        obtain ⟨x2_4, ex2_4, hf⟩ := onm hf
        refine lv_iinc (v := x2_4) (lv' := [(2, .int x2_4), (0, .ref (a 6)), (1, .int x1)]) hx hb dX1_find_22 hl (k := 2) rfl ex2_4 (by decide) rfl (fun ls hl => ?_)
        refine lv_goto (tgt := 2) hx hb dX1_find_25 (by decide) ?_
        exact ih x2_4 _ _ _ (lv_sub hl [1, 2, 0] rfl) hP hS (okx hf (hc2 _))
      have hf := oit c_3 hf
      refine lv_iload_n hx hb dX1_find_20 rfl (lv_at hl 2 rfl) ?_
      have hf := okx hf (hx2 _)
      exact hret _ _ _ _ _ _ dX1_find_21 rfl hP hS ⟨Option.some.inj hf, rfl⟩
  have hf := oun (f_X1_find.eq_1 _ _ _) hf
  refine lv_iconst (v := (0 : Int32)) hx hb dX1_find_0 (by decide) ?_
  refine lv_istore_n (lv' := [(2, .int (0 : Int32)), (0, .ref (a 6)), (1, .int x1)]) hx hb dX1_find_1 rfl hl (by decide) rfl (fun ls hl => ?_)
  exact L2 x1 N (0 : Int32) _ _ _ (lv_sub hl [1, 2, 0] rfl) hP hS hf
theorem dX1_reach_0 : decode cX1_reach 0 = .ok (.iload_n 1, 1) := by decide +kernel
theorem dX1_reach_1 : decode cX1_reach 1 = .ok (.bipush 6, 2) := by decide +kernel
theorem dX1_reach_3 : decode cX1_reach 3 = .ok (.ishr, 1) := by decide +kernel
theorem dX1_reach_4 : decode cX1_reach 4 = .ok (.aload_n 0, 1) := by decide +kernel
theorem dX1_reach_5 : decode cX1_reach 5 = .ok (.getfield 23, 3) := by decide +kernel
theorem dX1_reach_8 : decode cX1_reach 8 = .ok (.arraylength, 1) := by decide +kernel
theorem dX1_reach_9 : decode cX1_reach 9 = .ok (.iconst 1, 1) := by decide +kernel
theorem dX1_reach_10 : decode cX1_reach 10 = .ok (.isub, 1) := by decide +kernel
theorem dX1_reach_11 : decode cX1_reach 11 = .ok (.iand, 1) := by decide +kernel
theorem dX1_reach_12 : decode cX1_reach 12 = .ok (.istore 4, 2) := by decide +kernel
theorem dX1_reach_14 : decode cX1_reach 14 = .ok (.lconst 1, 1) := by decide +kernel
theorem dX1_reach_15 : decode cX1_reach 15 = .ok (.iload_n 1, 1) := by decide +kernel
theorem dX1_reach_16 : decode cX1_reach 16 = .ok (.bipush 63, 2) := by decide +kernel
theorem dX1_reach_18 : decode cX1_reach 18 = .ok (.iand, 1) := by decide +kernel
theorem dX1_reach_19 : decode cX1_reach 19 = .ok (.lshl, 1) := by decide +kernel
theorem dX1_reach_20 : decode cX1_reach 20 = .ok (.lstore 5, 2) := by decide +kernel
theorem dX1_reach_22 : decode cX1_reach 22 = .ok (.aload_n 0, 1) := by decide +kernel
theorem dX1_reach_23 : decode cX1_reach 23 = .ok (.getfield 23, 3) := by decide +kernel
theorem dX1_reach_26 : decode cX1_reach 26 = .ok (.iload 4, 2) := by decide +kernel
theorem dX1_reach_28 : decode cX1_reach 28 = .ok (.laload, 1) := by decide +kernel
theorem dX1_reach_29 : decode cX1_reach 29 = .ok (.lload 5, 2) := by decide +kernel
theorem dX1_reach_31 : decode cX1_reach 31 = .ok (.land, 1) := by decide +kernel
theorem dX1_reach_32 : decode cX1_reach 32 = .ok (.lconst 0, 1) := by decide +kernel
theorem dX1_reach_33 : decode cX1_reach 33 = .ok (.lcmp, 1) := by decide +kernel
theorem dX1_reach_34 : decode cX1_reach 34 = .ok (.ifCond .ne 13, 3) := by decide +kernel
theorem dX1_reach_37 : decode cX1_reach 37 = .ok (.aload_n 0, 1) := by decide +kernel
theorem dX1_reach_38 : decode cX1_reach 38 = .ok (.getfield 27, 3) := by decide +kernel
theorem dX1_reach_41 : decode cX1_reach 41 = .ok (.sipush 580, 3) := by decide +kernel
theorem dX1_reach_44 : decode cX1_reach 44 = .ok (.if_icmp .lt 4, 3) := by decide +kernel
theorem dX1_reach_47 : decode cX1_reach 47 = .ok (.return_, 1) := by decide +kernel
theorem dX1_reach_48 : decode cX1_reach 48 = .ok (.aload_n 0, 1) := by decide +kernel
theorem dX1_reach_49 : decode cX1_reach 49 = .ok (.getfield 23, 3) := by decide +kernel
theorem dX1_reach_52 : decode cX1_reach 52 = .ok (.iload 4, 2) := by decide +kernel
theorem dX1_reach_54 : decode cX1_reach 54 = .ok (.dup2, 1) := by decide +kernel
theorem dX1_reach_55 : decode cX1_reach 55 = .ok (.laload, 1) := by decide +kernel
theorem dX1_reach_56 : decode cX1_reach 56 = .ok (.lload 5, 2) := by decide +kernel
theorem dX1_reach_58 : decode cX1_reach 58 = .ok (.lor, 1) := by decide +kernel
theorem dX1_reach_59 : decode cX1_reach 59 = .ok (.lastore, 1) := by decide +kernel
theorem dX1_reach_60 : decode cX1_reach 60 = .ok (.aload_n 0, 1) := by decide +kernel
theorem dX1_reach_61 : decode cX1_reach 61 = .ok (.getfield 11, 3) := by decide +kernel
theorem dX1_reach_64 : decode cX1_reach 64 = .ok (.aload_n 0, 1) := by decide +kernel
theorem dX1_reach_65 : decode cX1_reach 65 = .ok (.getfield 27, 3) := by decide +kernel
theorem dX1_reach_68 : decode cX1_reach 68 = .ok (.iload_n 1, 1) := by decide +kernel
theorem dX1_reach_69 : decode cX1_reach 69 = .ok (.iastore, 1) := by decide +kernel
theorem dX1_reach_70 : decode cX1_reach 70 = .ok (.aload_n 0, 1) := by decide +kernel
theorem dX1_reach_71 : decode cX1_reach 71 = .ok (.getfield 15, 3) := by decide +kernel
theorem dX1_reach_74 : decode cX1_reach 74 = .ok (.aload_n 0, 1) := by decide +kernel
theorem dX1_reach_75 : decode cX1_reach 75 = .ok (.getfield 27, 3) := by decide +kernel
theorem dX1_reach_78 : decode cX1_reach 78 = .ok (.iload_n 2, 1) := by decide +kernel
theorem dX1_reach_79 : decode cX1_reach 79 = .ok (.iastore, 1) := by decide +kernel
theorem dX1_reach_80 : decode cX1_reach 80 = .ok (.aload_n 0, 1) := by decide +kernel
theorem dX1_reach_81 : decode cX1_reach 81 = .ok (.getfield 18, 3) := by decide +kernel
theorem dX1_reach_84 : decode cX1_reach 84 = .ok (.aload_n 0, 1) := by decide +kernel
theorem dX1_reach_85 : decode cX1_reach 85 = .ok (.getfield 27, 3) := by decide +kernel
theorem dX1_reach_88 : decode cX1_reach 88 = .ok (.iload_n 3, 1) := by decide +kernel
theorem dX1_reach_89 : decode cX1_reach 89 = .ok (.iastore, 1) := by decide +kernel
theorem dX1_reach_90 : decode cX1_reach 90 = .ok (.aload_n 0, 1) := by decide +kernel
theorem dX1_reach_91 : decode cX1_reach 91 = .ok (.dup, 1) := by decide +kernel
theorem dX1_reach_92 : decode cX1_reach 92 = .ok (.getfield 27, 3) := by decide +kernel
theorem dX1_reach_95 : decode cX1_reach 95 = .ok (.iconst 1, 1) := by decide +kernel
theorem dX1_reach_96 : decode cX1_reach 96 = .ok (.iadd, 1) := by decide +kernel
theorem dX1_reach_97 : decode cX1_reach 97 = .ok (.putfield 27, 3) := by decide +kernel
theorem dX1_reach_100 : decode cX1_reach 100 = .ok (.return_, 1) := by decide +kernel
def f_X1_reach (x1 : Int32) (x2 : Int32) (x3 : Int32) (σ : St) : Option St :=
  nm ((x1 >>> ((6 : Int32) &&& 31)) &&& ((1024 : Int32) - (1 : Int32))) fun x4_1 =>
  nm ((1 : Int64) <<< (Int32.toInt64 (x1 &&& (63 : Int32)) &&& 63)) fun x5_2 =>
  gd (ck x4_1 1024) <|
  if (lg_cmp ((σ.2 x4_1.toNatClampNeg) &&& x5_2) (0 : Int64)) = 0 then (if (σ.1 0 6) < (580 : Int32) then (gd (ck x4_1 1024) <|
      gd (ck x4_1 1024) <|
      nm (wL σ (Int32.toNatClampNeg x4_1) ((σ.2 x4_1.toNatClampNeg) ||| x5_2)) fun σ_8 =>
      gd (ck (σ_8.1 0 6) 580) <|
      nm (wS σ_8 9 (Int32.toNatClampNeg (σ_8.1 0 6)) x1) fun σ_10 =>
      gd (ck (σ_10.1 0 6) 580) <|
      nm (wS σ_10 10 (Int32.toNatClampNeg (σ_10.1 0 6)) x2) fun σ_12 =>
      gd (ck (σ_12.1 0 6) 580) <|
      nm (wS σ_12 11 (Int32.toNatClampNeg (σ_12.1 0 6)) x3) fun σ_14 =>
      nm (wS σ_14 0 6 ((σ_14.1 0 6) + (1 : Int32))) fun σ_15 =>
      some σ_15)
    else some σ)
  else some σ
abbrev rmX1_reach : Room := { frames := 0, cells := 0, slots := 0, locals := 0 }
set_option maxRecDepth 100000 in
set_option maxHeartbeats 4000000 in
theorem c_X1_reach (l : Launch) (D : va_G) (a : Nat → Nat) (c : Nat → ClassId) (A : Nat → Prop) (hD : ∀ σ, va_D A (cW a c σ)) (x1 : Int32) (x2 : Int32) (x3 : Int32) (σ : St) (u : St) (hf : f_X1_reach x1 x2 x3 σ = some u) : MetV l yX1_reach cX1_reach 7 (none) rmX1_reach (cW a c) D c A [.ref (a 6), .int x1, .int x2, .int x3] σ u := by
  refine mkV (by decide) (Nat.le_of_ble_eq_true rfl) rfl ?_
  intro p e s m args below meth cd Q ls h0 hK hP hret hl
  obtain ⟨S, hr, hlk⟩ := h0
  obtain ⟨hx, hb, hml, hown, ht⟩ := id S
  have hS : va_S A s.heap s.heap [] := va_S.rf
  have hl : lv_has ls 7 [(0, .ref (a 6)), (1, .int x1), (2, .int x2), (3, .int x3)] := hl
  have hf := obs hf
  have hf := oun (f_X1_reach.eq_1 _ _ _ _) hf
  refine lv_iload_n hx hb dX1_reach_0 rfl (lv_at hl 1 rfl) ?_
  refine lv_bipush (v := (6 : Int32)) hx hb dX1_reach_1 (by decide) ?_
  refine lv_ishr hx hb dX1_reach_3 ?_
  refine lv_aload_n hx hb dX1_reach_4 rfl (lv_at hl 0 rfl) ?_
  refine va_get (D := D) (ci := 1) (v := .ref (a 10)) (C := RX1) (T := TX1) (N := 7) hx hb ht gX1 hown hK.1 hP 6 (cw6 a c σ) rfl 3 (by decide) (ht _ q36) (fun _ h9 => h9) rfl dX1_reach_5 ?_
  refine va_alen (v := (1024 : Int32)) hx hb hK.1 hP 10 1 (cw10 a c σ) rfl rfl dX1_reach_8 ?_
  refine lv_iconst (v := (1 : Int32)) hx hb dX1_reach_9 (by decide) ?_
  refine lv_isub hx hb dX1_reach_10 ?_
  refine lv_iand hx hb dX1_reach_11 ?_
  obtain ⟨x4_1, ex4_1, hf⟩ := onm hf
  refine lv_nm ex4_1 ?_
  refine lv_istore (lv' := [(4, .int x4_1), (0, .ref (a 6)), (1, .int x1), (2, .int x2), (3, .int x3)]) hx hb dX1_reach_12 hl (by decide) rfl (fun ls hl => ?_)
  refine lv_lconst (v := (1 : Int64)) hx hb dX1_reach_14 (by decide) ?_
  refine lv_iload_n hx hb dX1_reach_15 rfl (lv_at hl 2 rfl) ?_
  refine lv_bipush (v := (63 : Int32)) hx hb dX1_reach_16 (by decide) ?_
  refine lv_iand hx hb dX1_reach_18 ?_
  refine lv_lshl (v := ((1 : Int64) <<< (Int32.toInt64 (x1 &&& (63 : Int32)) &&& 63))) hx hb dX1_reach_19 rfl ?_
  obtain ⟨x5_2, ex5_2, hf⟩ := onm hf
  refine lv_nml ex5_2 ?_
  refine lv_lstore (lv' := [(5, .long x5_2), (4, .int x4_1), (0, .ref (a 6)), (1, .int x1), (2, .int x2), (3, .int x3)]) hx hb dX1_reach_20 hl (by decide) rfl (fun ls hl => ?_)
  refine lv_aload_n hx hb dX1_reach_22 rfl (lv_at hl 2 rfl) ?_
  refine va_get (D := D) (ci := 1) (v := .ref (a 10)) (C := RX1) (T := TX1) (N := 7) hx hb ht gX1 hown hK.1 hP 6 (cw6 a c σ) rfl 3 (by decide) (ht _ q36) (fun _ h9 => h9) rfl dX1_reach_23 ?_
  refine lv_iload hx hb dX1_reach_26 (lv_at hl 1 rfl) ?_
  obtain ⟨g_3, hf⟩ := ogd hf
  refine va_lald hx hb hK.1 hP 10 1 (cw10 a c σ) rfl (ck_in g_3) dX1_reach_28 ?_
  refine lv_lload hx hb dX1_reach_29 (lv_at hl 0 rfl) ?_
  refine lv_land hx hb dX1_reach_31 ?_
  refine lv_lconst (v := (0 : Int64)) hx hb dX1_reach_32 (by decide) ?_
  refine W.lcmp hx hb dX1_reach_33 ?_
  refine lv_if_ne (tgt := 47) hx hb dX1_reach_34 (by decide) (fun c_4 => ?_) (fun c_4 => ?_)
  · have hf := oif c_4 hf
    exact hret _ _ _ _ _ dX1_reach_47 hP hS (Option.some.inj hf)
  have hf := oit c_4 hf
  refine lv_aload_n hx hb dX1_reach_37 rfl (lv_at hl 2 rfl) ?_
  refine va_get (D := D) (ci := 1) (v := .int (σ.1 0 6)) (C := RX1) (T := TX1) (N := 7) hx hb ht gX1 hown hK.1 hP 6 (cw6 a c σ) rfl 4 (by decide) (ht _ q431) (fun _ h9 => h9) rfl dX1_reach_38 ?_
  refine lv_sipush (v := (580 : Int32)) hx hb dX1_reach_41 (by decide) ?_
  refine lv_icmp_lt (tgt := 48) hx hb dX1_reach_44 (by decide) (fun c_5 => ?_) (fun c_5 => ?_)
  · have hf := oit c_5 hf
    refine lv_aload_n hx hb dX1_reach_48 rfl (lv_at hl 2 rfl) ?_
    refine va_get (D := D) (ci := 1) (v := .ref (a 10)) (C := RX1) (T := TX1) (N := 7) hx hb ht gX1 hown hK.1 hP 6 (cw6 a c σ) rfl 3 (by decide) (ht _ q36) (fun _ h9 => h9) rfl dX1_reach_49 ?_
    refine lv_iload hx hb dX1_reach_52 (lv_at hl 1 rfl) ?_
    refine lv_dup2_11 hx hb dX1_reach_54 rfl rfl ?_
    obtain ⟨g_6, hf⟩ := ogd hf
    refine va_lald hx hb hK.1 hP 10 1 (cw10 a c σ) rfl (ck_in g_6) dX1_reach_55 ?_
    refine lv_lload hx hb dX1_reach_56 (lv_at hl 0 rfl) ?_
    refine lv_lor hx hb dX1_reach_58 ?_
    obtain ⟨g_7, hf⟩ := ogd hf
    refine va_last hx hb hK.1 hP (hD σ) hS 10 1 (cw10 a c σ) rfl (ck_in g_7) dX1_reach_59 (fun H locs hP _ hS => ?_)
    have hP := vP_eq (cpA_seen a c σ (Int32.toNatClampNeg x4_1) ((σ.2 x4_1.toNatClampNeg) ||| x5_2)) hP
    obtain ⟨σ_8, eσ_8, hf⟩ := onm hf
    rw [eσ_8] at hP
    refine lv_aload_n hx hb dX1_reach_60 rfl (lv_at hl 2 rfl) ?_
    refine va_get (D := D) (ci := 1) (v := .ref (a 7)) (C := RX1) (T := TX1) (N := 7) hx hb ht gX1 hown hK.1 hP 6 (cw6 a c σ_8) rfl 0 (by decide) (ht _ q32) (fun _ h9 => h9) rfl dX1_reach_61 ?_
    refine lv_aload_n hx hb dX1_reach_64 rfl (lv_at hl 2 rfl) ?_
    refine va_get (D := D) (ci := 1) (v := .int (σ_8.1 0 6)) (C := RX1) (T := TX1) (N := 7) hx hb ht gX1 hown hK.1 hP 6 (cw6 a c σ_8) rfl 4 (by decide) (ht _ q431) (fun _ h9 => h9) rfl dX1_reach_65 ?_
    refine lv_iload_n hx hb dX1_reach_68 rfl (lv_at hl 3 rfl) ?_
    obtain ⟨g_9, hf⟩ := ogd hf
    refine va_iast hx hb hK.1 hP (hD σ_8) hS 7 0 (cw7 a c σ_8) rfl (ck_in g_9) dX1_reach_69 (fun H locs hP _ hS => ?_)
    have hP := vP_eq (cpA_reached a c σ_8 (Int32.toNatClampNeg (σ_8.1 0 6)) x1) hP
    obtain ⟨σ_10, eσ_10, hf⟩ := onm hf
    rw [eσ_10] at hP
    refine lv_aload_n hx hb dX1_reach_70 rfl (lv_at hl 2 rfl) ?_
    refine va_get (D := D) (ci := 1) (v := .ref (a 8)) (C := RX1) (T := TX1) (N := 7) hx hb ht gX1 hown hK.1 hP 6 (cw6 a c σ_10) rfl 1 (by decide) (ht _ q33) (fun _ h9 => h9) rfl dX1_reach_71 ?_
    refine lv_aload_n hx hb dX1_reach_74 rfl (lv_at hl 2 rfl) ?_
    refine va_get (D := D) (ci := 1) (v := .int (σ_10.1 0 6)) (C := RX1) (T := TX1) (N := 7) hx hb ht gX1 hown hK.1 hP 6 (cw6 a c σ_10) rfl 4 (by decide) (ht _ q431) (fun _ h9 => h9) rfl dX1_reach_75 ?_
    refine lv_iload_n hx hb dX1_reach_78 rfl (lv_at hl 4 rfl) ?_
    obtain ⟨g_11, hf⟩ := ogd hf
    refine va_iast hx hb hK.1 hP (hD σ_10) hS 8 0 (cw8 a c σ_10) rfl (ck_in g_11) dX1_reach_79 (fun H locs hP _ hS => ?_)
    have hP := vP_eq (cpA_from a c σ_10 (Int32.toNatClampNeg (σ_10.1 0 6)) x2) hP
    obtain ⟨σ_12, eσ_12, hf⟩ := onm hf
    rw [eσ_12] at hP
    refine lv_aload_n hx hb dX1_reach_80 rfl (lv_at hl 2 rfl) ?_
    refine va_get (D := D) (ci := 1) (v := .ref (a 9)) (C := RX1) (T := TX1) (N := 7) hx hb ht gX1 hown hK.1 hP 6 (cw6 a c σ_12) rfl 2 (by decide) (ht _ q34) (fun _ h9 => h9) rfl dX1_reach_81 ?_
    refine lv_aload_n hx hb dX1_reach_84 rfl (lv_at hl 2 rfl) ?_
    refine va_get (D := D) (ci := 1) (v := .int (σ_12.1 0 6)) (C := RX1) (T := TX1) (N := 7) hx hb ht gX1 hown hK.1 hP 6 (cw6 a c σ_12) rfl 4 (by decide) (ht _ q431) (fun _ h9 => h9) rfl dX1_reach_85 ?_
    refine lv_iload_n hx hb dX1_reach_88 rfl (lv_at hl 5 rfl) ?_
    obtain ⟨g_13, hf⟩ := ogd hf
    refine va_iast hx hb hK.1 hP (hD σ_12) hS 9 0 (cw9 a c σ_12) rfl (ck_in g_13) dX1_reach_89 (fun H locs hP _ hS => ?_)
    have hP := vP_eq (cpA_by a c σ_12 (Int32.toNatClampNeg (σ_12.1 0 6)) x3) hP
    obtain ⟨σ_14, eσ_14, hf⟩ := onm hf
    rw [eσ_14] at hP
    refine lv_aload_n hx hb dX1_reach_90 rfl (lv_at hl 2 rfl) ?_
    refine lv_dup hx hb dX1_reach_91 rfl ?_
    refine va_get (D := D) (ci := 1) (v := .int (σ_14.1 0 6)) (C := RX1) (T := TX1) (N := 7) hx hb ht gX1 hown hK.1 hP 6 (cw6 a c σ_14) rfl 4 (by decide) (ht _ q431) (fun _ h9 => h9) rfl dX1_reach_92 ?_
    refine lv_iconst (v := (1 : Int32)) hx hb dX1_reach_95 (by decide) ?_
    refine lv_iadd hx hb dX1_reach_96 ?_
    refine va_put (D := D) (ci := 1) (v := .int ((σ_14.1 0 6) + (1 : Int32))) (ty := .int) (C := RX1) (T := TX1) (N := 7) hx hb ht gX1 tyX1 tyX1_ok nmX1 hown hK.1 hP (hD σ_14) hS 6 (cw6 a c σ_14) rfl 4 (by decide) (ht _ q431) (fun _ h9 => h9) rfl (by decide +kernel) rfl rfl (Nat.le_of_ble_eq_true rfl) dX1_reach_97 (fun H locs hP _ hS => ?_)
    have hP := vP_eq (cpX1_many a c σ_14 ((σ_14.1 0 6) + (1 : Int32))) hP
    obtain ⟨σ_15, eσ_15, hf⟩ := onm hf
    rw [eσ_15] at hP
    exact hret _ _ _ _ _ dX1_reach_100 hP hS (Option.some.inj hf)
  have hf := oif c_5 hf
  exact hret _ _ _ _ _ dX1_reach_47 hP hS (Option.some.inj hf)
theorem dX1_goOn_0 : decode cX1_goOn 0 = .ok (.aload_n 0, 1) := by decide +kernel
theorem dX1_goOn_1 : decode cX1_goOn 1 = .ok (.getfield 11, 3) := by decide +kernel
theorem dX1_goOn_4 : decode cX1_goOn 4 = .ok (.iload_n 1, 1) := by decide +kernel
theorem dX1_goOn_5 : decode cX1_goOn 5 = .ok (.iaload, 1) := by decide +kernel
theorem dX1_goOn_6 : decode cX1_goOn 6 = .ok (.aload_n 0, 1) := by decide +kernel
theorem dX1_goOn_7 : decode cX1_goOn 7 = .ok (.getfield 31, 3) := by decide +kernel
theorem dX1_goOn_10 : decode cX1_goOn 10 = .ok (.aload_n 0, 1) := by decide +kernel
theorem dX1_goOn_11 : decode cX1_goOn 11 = .ok (.getfield 34, 3) := by decide +kernel
theorem dX1_goOn_14 : decode cX1_goOn 14 = .ok (.invokestatic 51, 3) := by decide +kernel
theorem dX1_goOn_17 : decode cX1_goOn 17 = .ok (.istore_n 2, 1) := by decide +kernel
theorem dX1_goOn_18 : decode cX1_goOn 18 = .ok (.iconst 0, 1) := by decide +kernel
theorem dX1_goOn_19 : decode cX1_goOn 19 = .ok (.istore_n 3, 1) := by decide +kernel
theorem dX1_goOn_20 : decode cX1_goOn 20 = .ok (.iload_n 3, 1) := by decide +kernel
theorem dX1_goOn_21 : decode cX1_goOn 21 = .ok (.bipush 28, 2) := by decide +kernel
theorem dX1_goOn_23 : decode cX1_goOn 23 = .ok (.if_icmp .ge 33, 3) := by decide +kernel
theorem dX1_goOn_26 : decode cX1_goOn 26 = .ok (.iload_n 2, 1) := by decide +kernel
theorem dX1_goOn_27 : decode cX1_goOn 27 = .ok (.iload_n 3, 1) := by decide +kernel
theorem dX1_goOn_28 : decode cX1_goOn 28 = .ok (.invokestatic 55, 3) := by decide +kernel
theorem dX1_goOn_31 : decode cX1_goOn 31 = .ok (.ifCond .eq 19, 3) := by decide +kernel
theorem dX1_goOn_34 : decode cX1_goOn 34 = .ok (.aload_n 0, 1) := by decide +kernel
theorem dX1_goOn_35 : decode cX1_goOn 35 = .ok (.aload_n 0, 1) := by decide +kernel
theorem dX1_goOn_36 : decode cX1_goOn 36 = .ok (.getfield 11, 3) := by decide +kernel
theorem dX1_goOn_39 : decode cX1_goOn 39 = .ok (.iload_n 1, 1) := by decide +kernel
theorem dX1_goOn_40 : decode cX1_goOn 40 = .ok (.iaload, 1) := by decide +kernel
theorem dX1_goOn_41 : decode cX1_goOn 41 = .ok (.iload_n 3, 1) := by decide +kernel
theorem dX1_goOn_42 : decode cX1_goOn 42 = .ok (.invokestatic 59, 3) := by decide +kernel
theorem dX1_goOn_45 : decode cX1_goOn 45 = .ok (.iload_n 1, 1) := by decide +kernel
theorem dX1_goOn_46 : decode cX1_goOn 46 = .ok (.iload_n 3, 1) := by decide +kernel
theorem dX1_goOn_47 : decode cX1_goOn 47 = .ok (.invokevirtual 43, 3) := by decide +kernel
theorem dX1_goOn_50 : decode cX1_goOn 50 = .ok (.iinc 3 1, 3) := by decide +kernel
theorem dX1_goOn_53 : decode cX1_goOn 53 = .ok (.goto (-33), 3) := by decide +kernel
theorem dX1_goOn_56 : decode cX1_goOn 56 = .ok (.return_, 1) := by decide +kernel
def f_X1_goOn_j56 (N : Nat) (σ : St) : Option St :=
  some σ
def f_X1_goOn_j50 (N : Nat) (x1 : Int32) (x2 : Int32) (x3 : Int32) (σ : St) : Option ((Int32 × St) ⊕ ((St))) :=
  nm (x3 + (1 : Int32)) fun x3_1 =>
  some (.inl (x3_1, σ))
def f_X1_goOn_b20 (N : Nat) (x1 : Int32) (x2 : Int32) (x3 : Int32) (σ : St) : Option ((Int32 × St) ⊕ ((St))) :=
  if (28 : Int32) ≤ x3 then (some (.inr σ))
  else bd (f_X5_has x2 x3) fun r_3 =>
  if r_3 = 0 then (f_X1_goOn_j50 N x1 x2 x3 σ)
  else gd (ck x1 580) <|
  bd (f_X3_after (σ.1 9 x1.toNatClampNeg) x3) fun r_7 =>
  bd (f_X1_reach r_7 x1 x3 σ) fun σ_9 =>
  f_X1_goOn_j50 N x1 x2 x3 σ_9
def f_X1_goOn (N : Nat) (x1 : Int32) (σ : St) : Option St :=
  gd (ck x1 580) <|
  bd (f_X3_doable N (σ.1 9 x1.toNatClampNeg) (σ.1 0 7) (σ.1 0 8)) fun r_12 =>
  bd (lpF (fun s => f_X1_goOn_b20 N x1 r_12 s.1 s.2) N ((0 : Int32), σ)) (fun o => f_X1_goOn_j56 N o)
abbrev rmX1_goOn : Room := { frames := 4, cells := 0, slots := 0, locals := 96 }
set_option maxRecDepth 100000 in
set_option maxHeartbeats 4000000 in
theorem c_X1_goOn (l : Launch) (D : va_G) (a : Nat → Nat) (c : Nat → ClassId) (A : Nat → Prop) (hD : ∀ σ, va_D A (cW a c σ)) (N : Nat) (x1 : Int32) (σ : St) (u : St) (hf : f_X1_goOn N x1 σ = some u) : MetV l yX1_goOn cX1_goOn 4 (none) rmX1_goOn (cW a c) D c A [.ref (a 6), .int x1] σ u := by
  refine mkV (by decide) (Nat.le_of_ble_eq_true rfl) rfl ?_
  intro p e s m args below meth cd Q ls h0 hK hP hret hl
  obtain ⟨S, hr, hlk⟩ := h0
  obtain ⟨hx, hb, hml, hown, ht⟩ := id S
  have hS : va_S A s.heap s.heap [] := va_S.rf
  have hl : lv_has ls 4 [(0, .ref (a 6)), (1, .int x1)] := hl
  have hf := obs hf
  have j56 : ∀ (σ : St) (H : Heap) (locs : List Loc) (ls : Array Slot), lv_has ls 4 [] → va_P D vwCl (cW a c σ) H → va_S A s.heap H locs → Option.bind (f_X1_goOn_j56 N σ) some = some u → W p l e rmX1_goOn s m args below meth cd H locs 0 0 Q (F0 m 56 ls []) := by
    intro σ H locs ls hl hP hS hf
    have hf := oun (f_X1_goOn_j56.eq_1 _ _) hf
    exact hret _ _ _ _ _ dX1_goOn_56 hP hS (Option.some.inj hf)
  have L20 : ∀ (x1 : Int32) (x2 : Int32) (k : Nat) (x3 : Int32) (σ : St) (H : Heap) (locs : List Loc) (ls : Array Slot), lv_has ls 4 [(0, .ref (a 6)), (1, .int x1), (2, .int x2), (3, .int x3)] → va_P D vwCl (cW a c σ) H → va_S A s.heap H locs → Option.bind (bd (lpF (fun s => f_X1_goOn_b20 N x1 x2 s.1 s.2) k (x3, σ)) (fun o => f_X1_goOn_j56 N o)) some = some u → W p l e rmX1_goOn s m args below meth cd H locs 0 0 Q (F0 m 20 ls []) := by
    intro x1 x2 k
    induction k with
    | zero =>
      intro x3 σ H locs ls hl hP hS hf
      exact (ol0 hf).elim
    | succ k ih =>
      intro x3 σ H locs ls hl hP hS hf
      obtain ⟨K20, hf, hc20, hx20⟩ := ol1 hf
      have j50 : ∀ (x3 : Int32) (σ : St) (H : Heap) (locs : List Loc) (ls : Array Slot), lv_has ls 4 [(0, .ref (a 6)), (1, .int x1), (2, .int x2), (3, .int x3)] → va_P D vwCl (cW a c σ) H → va_S A s.heap H locs → Option.bind (f_X1_goOn_j50 N x1 x2 x3 σ) K20 = some u → W p l e rmX1_goOn s m args below meth cd H locs 0 0 Q (F0 m 50 ls []) := by
        intro x3 σ H locs ls hl hP hS hf
        have hf := oun (f_X1_goOn_j50.eq_1 _ _ _ _ _) hf
        obtain ⟨x3_1, ex3_1, hf⟩ := onm hf
        refine lv_iinc (v := x3_1) (lv' := [(3, .int x3_1), (0, .ref (a 6)), (1, .int x1), (2, .int x2)]) hx hb dX1_goOn_50 hl (k := 3) rfl ex3_1 (by decide) rfl (fun ls hl => ?_)
        refine lv_goto (tgt := 20) hx hb dX1_goOn_53 (by decide) ?_
        exact ih x3_1 σ _ _ _ (lv_sub hl [1, 2, 3, 0] rfl) hP hS (okx hf (hc20 _))
      have hf := oun (f_X1_goOn_b20.eq_1 N x1 x2 x3 σ) hf
      refine lv_iload_n hx hb dX1_goOn_20 rfl (lv_at hl 3 rfl) ?_
      refine lv_bipush (v := (28 : Int32)) hx hb dX1_goOn_21 (by decide) ?_
      refine lv_icmp_ge (tgt := 56) hx hb dX1_goOn_23 (by decide) (fun c_2 => ?_) (fun c_2 => ?_)
      · have hf := oit c_2 hf
        exact j56 σ _ _ _ (lv_sub hl [] rfl) hP hS (okx hf (hx20 _))
      have hf := oif c_2 hf
      refine lv_iload_n hx hb dX1_goOn_26 rfl (lv_at hl 2 rfl) ?_
      refine lv_iload_n hx hb dX1_goOn_27 rfl (lv_at hl 3 rfl) ?_
      obtain ⟨r_3, h_4, hf⟩ := obd hf
      refine xn_S (As := [.int x2, .int x3]) (rest := []) S k_X5_has hK.2.2 q202 ⟨Nat.le_of_ble_eq_true rfl, Nat.le_of_ble_eq_true rfl⟩ ⟨rfl, rfl⟩ (c_X5_has l x2 x3 r_3 h_4) hK.2 rfl hl.1 rfl (Nat.le_of_ble_eq_true rfl) dX1_goOn_28 ⟨Nat.zero_le _, Nat.zero_le _⟩ ?_
      refine lv_if_eq (tgt := 50) hx hb dX1_goOn_31 (by decide) (fun c_5 => ?_) (fun c_5 => ?_)
      · have hf := oit c_5 hf
        exact j50 x3 σ _ _ _ (lv_sub hl [0, 1, 2, 3] rfl) hP hS hf
      have hf := oif c_5 hf
      refine lv_aload_n hx hb dX1_goOn_34 rfl (lv_at hl 0 rfl) ?_
      refine lv_aload_n hx hb dX1_goOn_35 rfl (lv_at hl 0 rfl) ?_
      refine va_get (D := D) (ci := 1) (v := .ref (a 7)) (C := RX1) (T := TX1) (N := 7) hx hb ht gX1 hown hK.1 hP 6 (cw6 a c σ) rfl 0 (by decide) (ht _ q32) (fun _ h9 => h9) rfl dX1_goOn_36 ?_
      refine lv_iload_n hx hb dX1_goOn_39 rfl (lv_at hl 1 rfl) ?_
      obtain ⟨g_6, hf⟩ := ogd hf
      refine va_iald hx hb hK.1 hP 7 0 (cw7 a c σ) rfl (ck_in g_6) dX1_goOn_40 ?_
      refine lv_iload_n hx hb dX1_goOn_41 rfl (lv_at hl 3 rfl) ?_
      obtain ⟨r_7, h_8, hf⟩ := obd hf
      refine xs_S (As := [.int (σ.1 9 x1.toNatClampNeg), .int x3]) (rest := [.ref (a 6)]) S k_X3_after q447 q317 ⟨Nat.le_of_ble_eq_true rfl, Nat.le_of_ble_eq_true rfl⟩ ⟨rfl, rfl⟩ (c_X3_after l (σ.1 9 x1.toNatClampNeg) x3 r_7 h_8) hK.2 rfl hl.1 rfl (Nat.le_of_ble_eq_true rfl) dX1_goOn_42 ⟨Nat.zero_le _, Nat.zero_le _⟩ ?_
      refine lv_iload_n hx hb dX1_goOn_45 rfl (lv_at hl 1 rfl) ?_
      refine lv_iload_n hx hb dX1_goOn_46 rfl (lv_at hl 3 rfl) ?_
      obtain ⟨σ_9, h_10, hf⟩ := obd hf
      refine xv_V (As := [.int r_7, .int x1, .int x3]) (rest := []) S k_X1_reach q438 q439 q440 ⟨Nat.le_of_ble_eq_true rfl, Nat.le_of_ble_eq_true rfl⟩ ⟨rfl, rfl⟩ (c_X1_reach l D a c A hD r_7 x1 x3 σ σ_9 h_10) hK hP hS (va_recv hK.1 hP (rfl : vwCl[1]? = some (RX1, TX1, 7)) (cw6 a c σ)) rfl hl.1 rfl (Nat.le_of_ble_eq_true rfl) dX1_goOn_47 ⟨Nat.zero_le _, Nat.zero_le _⟩ (fun H locs hP hS => ?_)
      exact j50 x3 σ_9 _ _ _ (lv_sub hl [0, 1, 2, 3] rfl) hP hS hf
  have hf := oun (f_X1_goOn.eq_1 _ _ _) hf
  refine lv_aload_n hx hb dX1_goOn_0 rfl (lv_at hl 0 rfl) ?_
  refine va_get (D := D) (ci := 1) (v := .ref (a 7)) (C := RX1) (T := TX1) (N := 7) hx hb ht gX1 hown hK.1 hP 6 (cw6 a c σ) rfl 0 (by decide) (ht _ q32) (fun _ h9 => h9) rfl dX1_goOn_1 ?_
  refine lv_iload_n hx hb dX1_goOn_4 rfl (lv_at hl 1 rfl) ?_
  obtain ⟨g_11, hf⟩ := ogd hf
  refine va_iald hx hb hK.1 hP 7 0 (cw7 a c σ) rfl (ck_in g_11) dX1_goOn_5 ?_
  refine lv_aload_n hx hb dX1_goOn_6 rfl (lv_at hl 0 rfl) ?_
  refine va_get (D := D) (ci := 1) (v := .int (σ.1 0 7)) (C := RX1) (T := TX1) (N := 7) hx hb ht gX1 hown hK.1 hP 6 (cw6 a c σ) rfl 5 (by decide) (ht _ q432) (fun _ h9 => h9) rfl dX1_goOn_7 ?_
  refine lv_aload_n hx hb dX1_goOn_10 rfl (lv_at hl 0 rfl) ?_
  refine va_get (D := D) (ci := 1) (v := .int (σ.1 0 8)) (C := RX1) (T := TX1) (N := 7) hx hb ht gX1 hown hK.1 hP 6 (cw6 a c σ) rfl 6 (by decide) (ht _ q433) (fun _ h9 => h9) rfl dX1_goOn_11 ?_
  obtain ⟨r_12, h_13, hf⟩ := obd hf
  refine xs_S (As := [.int (σ.1 9 x1.toNatClampNeg), .int (σ.1 0 7), .int (σ.1 0 8)]) (rest := []) S k_X3_doable q446 q307 ⟨Nat.le_of_ble_eq_true rfl, Nat.le_of_ble_eq_true rfl⟩ ⟨rfl, rfl⟩ (c_X3_doable l N (σ.1 9 x1.toNatClampNeg) (σ.1 0 7) (σ.1 0 8) r_12 h_13) hK.2 rfl hl.1 rfl (Nat.le_of_ble_eq_true rfl) dX1_goOn_14 ⟨Nat.zero_le _, Nat.zero_le _⟩ ?_
  refine lv_istore_n (lv' := [(2, .int r_12), (0, .ref (a 6)), (1, .int x1)]) hx hb dX1_goOn_17 rfl hl (by decide) rfl (fun ls hl => ?_)
  refine lv_iconst (v := (0 : Int32)) hx hb dX1_goOn_18 (by decide) ?_
  refine lv_istore_n (lv' := [(3, .int (0 : Int32)), (2, .int r_12), (0, .ref (a 6)), (1, .int x1)]) hx hb dX1_goOn_19 rfl hl (by decide) rfl (fun ls hl => ?_)
  exact L20 x1 r_12 N (0 : Int32) σ _ _ _ (lv_sub hl [2, 3, 1, 0] rfl) hP hS hf
theorem dX1_go_0 : decode cX1_go 0 = .ok (.aload_n 0, 1) := by decide +kernel
theorem dX1_go_1 : decode cX1_go 1 = .ok (.getfield 27, 3) := by decide +kernel
theorem dX1_go_4 : decode cX1_go 4 = .ok (.ifCond .le 30, 3) := by decide +kernel
theorem dX1_go_7 : decode cX1_go 7 = .ok (.aload_n 0, 1) := by decide +kernel
theorem dX1_go_8 : decode cX1_go 8 = .ok (.getfield 11, 3) := by decide +kernel
theorem dX1_go_11 : decode cX1_go 11 = .ok (.iconst 0, 1) := by decide +kernel
theorem dX1_go_12 : decode cX1_go 12 = .ok (.iaload, 1) := by decide +kernel
theorem dX1_go_13 : decode cX1_go 13 = .ok (.iload_n 1, 1) := by decide +kernel
theorem dX1_go_14 : decode cX1_go 14 = .ok (.if_icmp .ne 20, 3) := by decide +kernel
theorem dX1_go_17 : decode cX1_go 17 = .ok (.aload_n 0, 1) := by decide +kernel
theorem dX1_go_18 : decode cX1_go 18 = .ok (.getfield 31, 3) := by decide +kernel
theorem dX1_go_21 : decode cX1_go 21 = .ok (.iload_n 2, 1) := by decide +kernel
theorem dX1_go_22 : decode cX1_go 22 = .ok (.if_icmp .ne 12, 3) := by decide +kernel
theorem dX1_go_25 : decode cX1_go 25 = .ok (.aload_n 0, 1) := by decide +kernel
theorem dX1_go_26 : decode cX1_go 26 = .ok (.getfield 34, 3) := by decide +kernel
theorem dX1_go_29 : decode cX1_go 29 = .ok (.iload_n 3, 1) := by decide +kernel
theorem dX1_go_30 : decode cX1_go 30 = .ok (.if_icmp .ne 4, 3) := by decide +kernel
theorem dX1_go_33 : decode cX1_go 33 = .ok (.return_, 1) := by decide +kernel
theorem dX1_go_34 : decode cX1_go 34 = .ok (.aload_n 0, 1) := by decide +kernel
theorem dX1_go_35 : decode cX1_go 35 = .ok (.getfield 23, 3) := by decide +kernel
theorem dX1_go_38 : decode cX1_go 38 = .ok (.lconst 0, 1) := by decide +kernel
theorem dX1_go_39 : decode cX1_go 39 = .ok (.invokestatic 37, 3) := by decide +kernel
theorem dX1_go_42 : decode cX1_go 42 = .ok (.aload_n 0, 1) := by decide +kernel
theorem dX1_go_43 : decode cX1_go 43 = .ok (.iconst 0, 1) := by decide +kernel
theorem dX1_go_44 : decode cX1_go 44 = .ok (.putfield 27, 3) := by decide +kernel
theorem dX1_go_47 : decode cX1_go 47 = .ok (.aload_n 0, 1) := by decide +kernel
theorem dX1_go_48 : decode cX1_go 48 = .ok (.iload_n 2, 1) := by decide +kernel
theorem dX1_go_49 : decode cX1_go 49 = .ok (.putfield 31, 3) := by decide +kernel
theorem dX1_go_52 : decode cX1_go 52 = .ok (.aload_n 0, 1) := by decide +kernel
theorem dX1_go_53 : decode cX1_go 53 = .ok (.iload_n 3, 1) := by decide +kernel
theorem dX1_go_54 : decode cX1_go 54 = .ok (.putfield 34, 3) := by decide +kernel
theorem dX1_go_57 : decode cX1_go 57 = .ok (.aload_n 0, 1) := by decide +kernel
theorem dX1_go_58 : decode cX1_go 58 = .ok (.iload_n 1, 1) := by decide +kernel
theorem dX1_go_59 : decode cX1_go 59 = .ok (.iconst 0, 1) := by decide +kernel
theorem dX1_go_60 : decode cX1_go 60 = .ok (.iconst 0, 1) := by decide +kernel
theorem dX1_go_61 : decode cX1_go 61 = .ok (.invokevirtual 43, 3) := by decide +kernel
theorem dX1_go_64 : decode cX1_go 64 = .ok (.iconst 0, 1) := by decide +kernel
theorem dX1_go_65 : decode cX1_go 65 = .ok (.istore 4, 2) := by decide +kernel
theorem dX1_go_67 : decode cX1_go 67 = .ok (.iload 4, 2) := by decide +kernel
theorem dX1_go_69 : decode cX1_go 69 = .ok (.aload_n 0, 1) := by decide +kernel
theorem dX1_go_70 : decode cX1_go 70 = .ok (.getfield 27, 3) := by decide +kernel
theorem dX1_go_73 : decode cX1_go 73 = .ok (.if_icmp .ge 23, 3) := by decide +kernel
theorem dX1_go_76 : decode cX1_go 76 = .ok (.iload 4, 2) := by decide +kernel
theorem dX1_go_78 : decode cX1_go 78 = .ok (.sipush 580, 3) := by decide +kernel
theorem dX1_go_81 : decode cX1_go 81 = .ok (.if_icmp .ge 15, 3) := by decide +kernel
theorem dX1_go_84 : decode cX1_go 84 = .ok (.aload_n 0, 1) := by decide +kernel
theorem dX1_go_85 : decode cX1_go 85 = .ok (.iload 4, 2) := by decide +kernel
theorem dX1_go_87 : decode cX1_go 87 = .ok (.invokevirtual 47, 3) := by decide +kernel
theorem dX1_go_90 : decode cX1_go 90 = .ok (.iinc 4 1, 3) := by decide +kernel
theorem dX1_go_93 : decode cX1_go 93 = .ok (.goto (-26), 3) := by decide +kernel
theorem dX1_go_96 : decode cX1_go 96 = .ok (.return_, 1) := by decide +kernel
def f_X1_go_j96 (N : Nat) (σ : St) : Option St :=
  some σ
def f_X1_go_b67 (N : Nat) (x4 : Int32) (σ : St) : Option ((Int32 × St) ⊕ ((St))) :=
  if (σ.1 0 6) ≤ x4 then (some (.inr σ))
  else if (580 : Int32) ≤ x4 then (some (.inr σ))
  else bd (f_X1_goOn N x4 σ) fun σ_3 =>
  nm (x4 + (1 : Int32)) fun x4_5 =>
  some (.inl (x4_5, σ_3))
def f_X1_go_j34 (N : Nat) (x1 : Int32) (x2 : Int32) (x3 : Int32) (σ : St) : Option St :=
  nm (wLs σ (fun j => if j < 1024 then (0 : Int64) else σ.2 j)) fun σ_6 =>
  nm (wS σ_6 0 6 (0 : Int32)) fun σ_7 =>
  nm (wS σ_7 0 7 x2) fun σ_8 =>
  nm (wS σ_8 0 8 x3) fun σ_9 =>
  bd (f_X1_reach x1 (0 : Int32) (0 : Int32) σ_9) fun σ_10 =>
  bd (lpF (fun s => f_X1_go_b67 N s.1 s.2) N ((0 : Int32), σ_10)) (fun o => f_X1_go_j96 N o)
def f_X1_go (N : Nat) (x1 : Int32) (x2 : Int32) (x3 : Int32) (σ : St) : Option St :=
  if (σ.1 0 6) ≤ 0 then (f_X1_go_j34 N x1 x2 x3 σ)
  else gd (ck (0 : Int32) 580) <|
  if (σ.1 9 (0 : Int32).toNatClampNeg) = x1 then (if (σ.1 0 7) = x2 then (if (σ.1 0 8) = x3 then (some σ)
      else f_X1_go_j34 N x1 x2 x3 σ)
    else f_X1_go_j34 N x1 x2 x3 σ)
  else f_X1_go_j34 N x1 x2 x3 σ
abbrev rmX1_go : Room := { frames := 5, cells := 0, slots := 0, locals := 119 }
set_option maxRecDepth 100000 in
set_option maxHeartbeats 4000000 in
theorem c_X1_go (l : Launch) (D : va_G) (a : Nat → Nat) (c : Nat → ClassId) (A : Nat → Prop) (hD : ∀ σ, va_D A (cW a c σ)) (N : Nat) (x1 : Int32) (x2 : Int32) (x3 : Int32) (σ : St) (u : St) (hf : f_X1_go N x1 x2 x3 σ = some u) : MetV l yX1_go cX1_go 5 (none) rmX1_go (cW a c) D c A [.ref (a 6), .int x1, .int x2, .int x3] σ u := by
  refine mkV (by decide) (Nat.le_of_ble_eq_true rfl) rfl ?_
  intro p e s m args below meth cd Q ls h0 hK hP hret hl
  obtain ⟨S, hr, hlk⟩ := h0
  obtain ⟨hx, hb, hml, hown, ht⟩ := id S
  have hS : va_S A s.heap s.heap [] := va_S.rf
  have hl : lv_has ls 5 [(0, .ref (a 6)), (1, .int x1), (2, .int x2), (3, .int x3)] := hl
  have hf := obs hf
  have j96 : ∀ (σ : St) (H : Heap) (locs : List Loc) (ls : Array Slot), lv_has ls 5 [] → va_P D vwCl (cW a c σ) H → va_S A s.heap H locs → Option.bind (f_X1_go_j96 N σ) some = some u → W p l e rmX1_go s m args below meth cd H locs 0 0 Q (F0 m 96 ls []) := by
    intro σ H locs ls hl hP hS hf
    have hf := oun (f_X1_go_j96.eq_1 _ _) hf
    exact hret _ _ _ _ _ dX1_go_96 hP hS (Option.some.inj hf)
  have L67 : ∀ (k : Nat) (x4 : Int32) (σ : St) (H : Heap) (locs : List Loc) (ls : Array Slot), lv_has ls 5 [(0, .ref (a 6)), (4, .int x4)] → va_P D vwCl (cW a c σ) H → va_S A s.heap H locs → Option.bind (bd (lpF (fun s => f_X1_go_b67 N s.1 s.2) k (x4, σ)) (fun o => f_X1_go_j96 N o)) some = some u → W p l e rmX1_go s m args below meth cd H locs 0 0 Q (F0 m 67 ls []) := by
    intro k
    induction k with
    | zero =>
      intro x4 σ H locs ls hl hP hS hf
      exact (ol0 hf).elim
    | succ k ih =>
      intro x4 σ H locs ls hl hP hS hf
      obtain ⟨K67, hf, hc67, hx67⟩ := ol1 hf
      have hf := oun (f_X1_go_b67.eq_1 N x4 σ) hf
      refine lv_iload hx hb dX1_go_67 (lv_at hl 1 rfl) ?_
      refine lv_aload_n hx hb dX1_go_69 rfl (lv_at hl 0 rfl) ?_
      refine va_get (D := D) (ci := 1) (v := .int (σ.1 0 6)) (C := RX1) (T := TX1) (N := 7) hx hb ht gX1 hown hK.1 hP 6 (cw6 a c σ) rfl 4 (by decide) (ht _ q431) (fun _ h9 => h9) rfl dX1_go_70 ?_
      refine lv_icmp_ge (tgt := 96) hx hb dX1_go_73 (by decide) (fun c_1 => ?_) (fun c_1 => ?_)
      · have hf := oit c_1 hf
        exact j96 σ _ _ _ (lv_sub hl [] rfl) hP hS (okx hf (hx67 _))
      have hf := oif c_1 hf
      refine lv_iload hx hb dX1_go_76 (lv_at hl 1 rfl) ?_
      refine lv_sipush (v := (580 : Int32)) hx hb dX1_go_78 (by decide) ?_
      refine lv_icmp_ge (tgt := 96) hx hb dX1_go_81 (by decide) (fun c_2 => ?_) (fun c_2 => ?_)
      · have hf := oit c_2 hf
        exact j96 σ _ _ _ (lv_sub hl [] rfl) hP hS (okx hf (hx67 _))
      have hf := oif c_2 hf
      refine lv_aload_n hx hb dX1_go_84 rfl (lv_at hl 0 rfl) ?_
      refine lv_iload hx hb dX1_go_85 (lv_at hl 1 rfl) ?_
      obtain ⟨σ_3, h_4, hf⟩ := obd hf
      refine xv_V (As := [.int x4]) (rest := []) S k_X1_goOn q442 q443 q444 ⟨Nat.le_of_ble_eq_true rfl, Nat.le_of_ble_eq_true rfl⟩ ⟨rfl, rfl⟩ (c_X1_goOn l D a c A hD N x4 σ σ_3 h_4) hK hP hS (va_recv hK.1 hP (rfl : vwCl[1]? = some (RX1, TX1, 7)) (cw6 a c σ)) rfl hl.1 rfl (Nat.le_of_ble_eq_true rfl) dX1_go_87 ⟨Nat.zero_le _, Nat.zero_le _⟩ (fun H locs hP hS => ?_)
      obtain ⟨x4_5, ex4_5, hf⟩ := onm hf
      refine lv_iinc (v := x4_5) (lv' := [(4, .int x4_5), (0, .ref (a 6))]) hx hb dX1_go_90 hl (k := 1) rfl ex4_5 (by decide) rfl (fun ls hl => ?_)
      refine lv_goto (tgt := 67) hx hb dX1_go_93 (by decide) ?_
      exact ih x4_5 σ_3 _ _ _ (lv_sub hl [1, 0] rfl) hP hS (okx hf (hc67 _))
  have j34 : ∀ (x1 : Int32) (x2 : Int32) (x3 : Int32) (σ : St) (H : Heap) (locs : List Loc) (ls : Array Slot), lv_has ls 5 [(0, .ref (a 6)), (1, .int x1), (2, .int x2), (3, .int x3)] → va_P D vwCl (cW a c σ) H → va_S A s.heap H locs → Option.bind (f_X1_go_j34 N x1 x2 x3 σ) some = some u → W p l e rmX1_go s m args below meth cd H locs 0 0 Q (F0 m 34 ls []) := by
    intro x1 x2 x3 σ H locs ls hl hP hS hf
    have hf := oun (f_X1_go_j34.eq_1 _ _ _ _ _) hf
    refine lv_aload_n hx hb dX1_go_34 rfl (lv_at hl 0 rfl) ?_
    refine va_get (D := D) (ci := 1) (v := .ref (a 10)) (C := RX1) (T := TX1) (N := 7) hx hb ht gX1 hown hK.1 hP 6 (cw6 a c σ) rfl 3 (by decide) (ht _ q36) (fun _ h9 => h9) rfl dX1_go_35 ?_
    refine lv_lconst (v := (0 : Int64)) hx hb dX1_go_38 (by decide) ?_
    refine xs_V (As := [.ref (a 10), .long (0 : Int64)]) (rest := []) S k_J7_fill_d0a16 q434 q435 ⟨Nat.le_of_ble_eq_true rfl, Nat.le_of_ble_eq_true rfl⟩ ⟨rfl, rfl⟩ (c_fillL l D a c A hD σ (0 : Int64)) hK hP hS rfl hl.1 rfl (Nat.le_of_ble_eq_true rfl) dX1_go_39 ⟨Nat.zero_le _, Nat.zero_le _⟩ (fun H locs hP hS => ?_)
    obtain ⟨σ_6, eσ_6, hf⟩ := onm hf
    rw [eσ_6] at hP
    refine lv_aload_n hx hb dX1_go_42 rfl (lv_at hl 0 rfl) ?_
    refine lv_iconst (v := (0 : Int32)) hx hb dX1_go_43 (by decide) ?_
    refine va_put (D := D) (ci := 1) (v := .int (0 : Int32)) (ty := .int) (C := RX1) (T := TX1) (N := 7) hx hb ht gX1 tyX1 tyX1_ok nmX1 hown hK.1 hP (hD σ_6) hS 6 (cw6 a c σ_6) rfl 4 (by decide) (ht _ q431) (fun _ h9 => h9) rfl (by decide +kernel) rfl rfl (Nat.le_of_ble_eq_true rfl) dX1_go_44 (fun H locs hP _ hS => ?_)
    have hP := vP_eq (cpX1_many a c σ_6 (0 : Int32)) hP
    obtain ⟨σ_7, eσ_7, hf⟩ := onm hf
    rw [eσ_7] at hP
    refine lv_aload_n hx hb dX1_go_47 rfl (lv_at hl 0 rfl) ?_
    refine lv_iload_n hx hb dX1_go_48 rfl (lv_at hl 2 rfl) ?_
    refine va_put (D := D) (ci := 1) (v := .int x2) (ty := .int) (C := RX1) (T := TX1) (N := 7) hx hb ht gX1 tyX1 tyX1_ok nmX1 hown hK.1 hP (hD σ_7) hS 6 (cw6 a c σ_7) rfl 5 (by decide) (ht _ q432) (fun _ h9 => h9) rfl (by decide +kernel) rfl rfl (Nat.le_of_ble_eq_true rfl) dX1_go_49 (fun H locs hP _ hS => ?_)
    have hP := vP_eq (cpX1_count a c σ_7 x2) hP
    obtain ⟨σ_8, eσ_8, hf⟩ := onm hf
    rw [eσ_8] at hP
    refine lv_aload_n hx hb dX1_go_52 rfl (lv_at hl 0 rfl) ?_
    refine lv_iload_n hx hb dX1_go_53 rfl (lv_at hl 3 rfl) ?_
    refine va_put (D := D) (ci := 1) (v := .int x3) (ty := .int) (C := RX1) (T := TX1) (N := 7) hx hb ht gX1 tyX1 tyX1_ok nmX1 hown hK.1 hP (hD σ_8) hS 6 (cw6 a c σ_8) rfl 6 (by decide) (ht _ q433) (fun _ h9 => h9) rfl (by decide +kernel) rfl rfl (Nat.le_of_ble_eq_true rfl) dX1_go_54 (fun H locs hP _ hS => ?_)
    have hP := vP_eq (cpX1_fitting a c σ_8 x3) hP
    obtain ⟨σ_9, eσ_9, hf⟩ := onm hf
    rw [eσ_9] at hP
    refine lv_aload_n hx hb dX1_go_57 rfl (lv_at hl 0 rfl) ?_
    refine lv_iload_n hx hb dX1_go_58 rfl (lv_at hl 1 rfl) ?_
    refine lv_iconst (v := (0 : Int32)) hx hb dX1_go_59 (by decide) ?_
    refine lv_iconst (v := (0 : Int32)) hx hb dX1_go_60 (by decide) ?_
    obtain ⟨σ_10, h_11, hf⟩ := obd hf
    refine xv_V (As := [.int x1, .int (0 : Int32), .int (0 : Int32)]) (rest := []) S k_X1_reach q438 q439 q440 ⟨Nat.le_of_ble_eq_true rfl, Nat.le_of_ble_eq_true rfl⟩ ⟨rfl, rfl⟩ (c_X1_reach l D a c A hD x1 (0 : Int32) (0 : Int32) σ_9 σ_10 h_11) hK hP hS (va_recv hK.1 hP (rfl : vwCl[1]? = some (RX1, TX1, 7)) (cw6 a c σ_9)) rfl hl.1 rfl (Nat.le_of_ble_eq_true rfl) dX1_go_61 ⟨Nat.zero_le _, Nat.zero_le _⟩ (fun H locs hP hS => ?_)
    refine lv_iconst (v := (0 : Int32)) hx hb dX1_go_64 (by decide) ?_
    refine lv_istore (lv' := [(4, .int (0 : Int32)), (0, .ref (a 6)), (1, .int x1), (2, .int x2), (3, .int x3)]) hx hb dX1_go_65 hl (by decide) rfl (fun ls hl => ?_)
    exact L67 N (0 : Int32) σ_10 _ _ _ (lv_sub hl [1, 0] rfl) hP hS hf
  have hf := oun (f_X1_go.eq_1 _ _ _ _ _) hf
  refine lv_aload_n hx hb dX1_go_0 rfl (lv_at hl 0 rfl) ?_
  refine va_get (D := D) (ci := 1) (v := .int (σ.1 0 6)) (C := RX1) (T := TX1) (N := 7) hx hb ht gX1 hown hK.1 hP 6 (cw6 a c σ) rfl 4 (by decide) (ht _ q431) (fun _ h9 => h9) rfl dX1_go_1 ?_
  refine lv_if_le (tgt := 34) hx hb dX1_go_4 (by decide) (fun c_12 => ?_) (fun c_12 => ?_)
  · have hf := oit c_12 hf
    exact j34 x1 x2 x3 σ _ _ _ (lv_sub hl [0, 1, 2, 3] rfl) hP hS hf
  have hf := oif c_12 hf
  refine lv_aload_n hx hb dX1_go_7 rfl (lv_at hl 0 rfl) ?_
  refine va_get (D := D) (ci := 1) (v := .ref (a 7)) (C := RX1) (T := TX1) (N := 7) hx hb ht gX1 hown hK.1 hP 6 (cw6 a c σ) rfl 0 (by decide) (ht _ q32) (fun _ h9 => h9) rfl dX1_go_8 ?_
  refine lv_iconst (v := (0 : Int32)) hx hb dX1_go_11 (by decide) ?_
  obtain ⟨g_13, hf⟩ := ogd hf
  refine va_iald hx hb hK.1 hP 7 0 (cw7 a c σ) rfl (ck_in g_13) dX1_go_12 ?_
  refine lv_iload_n hx hb dX1_go_13 rfl (lv_at hl 1 rfl) ?_
  refine lv_icmp_ne (tgt := 34) hx hb dX1_go_14 (by decide) (fun c_14 => ?_) (fun c_14 => ?_)
  · have hf := oif c_14 hf
    exact j34 x1 x2 x3 σ _ _ _ (lv_sub hl [0, 1, 2, 3] rfl) hP hS hf
  have hf := oit c_14 hf
  refine lv_aload_n hx hb dX1_go_17 rfl (lv_at hl 0 rfl) ?_
  refine va_get (D := D) (ci := 1) (v := .int (σ.1 0 7)) (C := RX1) (T := TX1) (N := 7) hx hb ht gX1 hown hK.1 hP 6 (cw6 a c σ) rfl 5 (by decide) (ht _ q432) (fun _ h9 => h9) rfl dX1_go_18 ?_
  refine lv_iload_n hx hb dX1_go_21 rfl (lv_at hl 2 rfl) ?_
  refine lv_icmp_ne (tgt := 34) hx hb dX1_go_22 (by decide) (fun c_15 => ?_) (fun c_15 => ?_)
  · have hf := oif c_15 hf
    exact j34 x1 x2 x3 σ _ _ _ (lv_sub hl [0, 1, 2, 3] rfl) hP hS hf
  have hf := oit c_15 hf
  refine lv_aload_n hx hb dX1_go_25 rfl (lv_at hl 0 rfl) ?_
  refine va_get (D := D) (ci := 1) (v := .int (σ.1 0 8)) (C := RX1) (T := TX1) (N := 7) hx hb ht gX1 hown hK.1 hP 6 (cw6 a c σ) rfl 6 (by decide) (ht _ q433) (fun _ h9 => h9) rfl dX1_go_26 ?_
  refine lv_iload_n hx hb dX1_go_29 rfl (lv_at hl 3 rfl) ?_
  refine lv_icmp_ne (tgt := 34) hx hb dX1_go_30 (by decide) (fun c_16 => ?_) (fun c_16 => ?_)
  · have hf := oif c_16 hf
    exact j34 x1 x2 x3 σ _ _ _ (lv_sub hl [0, 1, 2, 3] rfl) hP hS hf
  have hf := oit c_16 hf
  exact hret _ _ _ _ _ dX1_go_33 hP hS (Option.some.inj hf)
theorem dX1_isOf_0 : decode cX1_isOf 0 = .ok (.iload_n 1, 1) := by decide +kernel
theorem dX1_isOf_1 : decode cX1_isOf 1 = .ok (.tableswitch 85 1 3 #[27, 40, 61], 27) := by decide +kernel
theorem dX1_isOf_28 : decode cX1_isOf 28 = .ok (.iload_n 2, 1) := by decide +kernel
theorem dX1_isOf_29 : decode cX1_isOf 29 = .ok (.invokestatic 66, 3) := by decide +kernel
theorem dX1_isOf_32 : decode cX1_isOf 32 = .ok (.ifCond .ne 7, 3) := by decide +kernel
theorem dX1_isOf_35 : decode cX1_isOf 35 = .ok (.iconst 1, 1) := by decide +kernel
theorem dX1_isOf_36 : decode cX1_isOf 36 = .ok (.goto 4, 3) := by decide +kernel
theorem dX1_isOf_39 : decode cX1_isOf 39 = .ok (.iconst 0, 1) := by decide +kernel
theorem dX1_isOf_40 : decode cX1_isOf 40 = .ok (.ireturn, 1) := by decide +kernel
theorem dX1_isOf_41 : decode cX1_isOf 41 = .ok (.iload_n 2, 1) := by decide +kernel
theorem dX1_isOf_42 : decode cX1_isOf 42 = .ok (.aload_n 0, 1) := by decide +kernel
theorem dX1_isOf_43 : decode cX1_isOf 43 = .ok (.getfield 31, 3) := by decide +kernel
theorem dX1_isOf_46 : decode cX1_isOf 46 = .ok (.invokestatic 70, 3) := by decide +kernel
theorem dX1_isOf_49 : decode cX1_isOf 49 = .ok (.invokestatic 73, 3) := by decide +kernel
theorem dX1_isOf_52 : decode cX1_isOf 52 = .ok (.iconst 1, 1) := by decide +kernel
theorem dX1_isOf_53 : decode cX1_isOf 53 = .ok (.if_icmp .ne 7, 3) := by decide +kernel
theorem dX1_isOf_56 : decode cX1_isOf 56 = .ok (.iconst 1, 1) := by decide +kernel
theorem dX1_isOf_57 : decode cX1_isOf 57 = .ok (.goto 4, 3) := by decide +kernel
theorem dX1_isOf_60 : decode cX1_isOf 60 = .ok (.iconst 0, 1) := by decide +kernel
theorem dX1_isOf_61 : decode cX1_isOf 61 = .ok (.ireturn, 1) := by decide +kernel
theorem dX1_isOf_62 : decode cX1_isOf 62 = .ok (.iload_n 2, 1) := by decide +kernel
theorem dX1_isOf_63 : decode cX1_isOf 63 = .ok (.aload_n 0, 1) := by decide +kernel
theorem dX1_isOf_64 : decode cX1_isOf 64 = .ok (.getfield 31, 3) := by decide +kernel
theorem dX1_isOf_67 : decode cX1_isOf 67 = .ok (.invokestatic 78, 3) := by decide +kernel
theorem dX1_isOf_70 : decode cX1_isOf 70 = .ok (.invokestatic 73, 3) := by decide +kernel
theorem dX1_isOf_73 : decode cX1_isOf 73 = .ok (.aload_n 0, 1) := by decide +kernel
theorem dX1_isOf_74 : decode cX1_isOf 74 = .ok (.getfield 31, 3) := by decide +kernel
theorem dX1_isOf_77 : decode cX1_isOf 77 = .ok (.if_icmp .ne 7, 3) := by decide +kernel
theorem dX1_isOf_80 : decode cX1_isOf 80 = .ok (.iconst 1, 1) := by decide +kernel
theorem dX1_isOf_81 : decode cX1_isOf 81 = .ok (.goto 4, 3) := by decide +kernel
theorem dX1_isOf_84 : decode cX1_isOf 84 = .ok (.iconst 0, 1) := by decide +kernel
theorem dX1_isOf_85 : decode cX1_isOf 85 = .ok (.ireturn, 1) := by decide +kernel
theorem dX1_isOf_86 : decode cX1_isOf 86 = .ok (.iconst 1, 1) := by decide +kernel
theorem dX1_isOf_87 : decode cX1_isOf 87 = .ok (.ireturn, 1) := by decide +kernel
def f_X1_isOf (N : Nat) (x1 : Int32) (x2 : Int32) (σ : St) : Option Int32 :=
  if x1 = (1 : Int32) then (bd (f_X3_openSet x2) fun r_2 =>
    if r_2 = 0 then (some (1 : Int32))
    else some (0 : Int32))
  else if x1 = (2 : Int32) then (bd (f_X3_tableSet N x2 (σ.1 0 7)) fun r_6 =>
    bd (f_J6_bitCount_0f7a4 r_6) fun r_8 =>
    if r_8 = (1 : Int32) then (some (1 : Int32))
    else some (0 : Int32))
  else if x1 = (3 : Int32) then (bd (f_X3_handSet N x2 (σ.1 0 7)) fun r_12 =>
    bd (f_J6_bitCount_0f7a4 r_12) fun r_14 =>
    if r_14 = (σ.1 0 7) then (some (1 : Int32))
    else some (0 : Int32))
  else some (1 : Int32)
abbrev rmX1_isOf : Room := { frames := 3, cells := 0, slots := 0, locals := 68 }
set_option maxRecDepth 100000 in
set_option maxHeartbeats 4000000 in
theorem c_X1_isOf (l : Launch) (D : va_G) (a : Nat → Nat) (c : Nat → ClassId) (A : Nat → Prop) (hD : ∀ σ, va_D A (cW a c σ)) (N : Nat) (x1 : Int32) (x2 : Int32) (σ : St) (r : Int32) (hf : f_X1_isOf N x1 x2 σ = some r) : MetI l yX1_isOf cX1_isOf 3 (some .boolean) rmX1_isOf (cW a c) D c A [.ref (a 6), .int x1, .int x2] σ r σ := by
  refine mkI (by decide) (Nat.le_of_ble_eq_true rfl) rfl ?_
  intro p e s m args below meth cd Q ls h0 hK hP hret hl
  obtain ⟨S, hr, hlk⟩ := h0
  obtain ⟨hx, hb, hml, hown, ht⟩ := id S
  have hS : va_S A s.heap s.heap [] := va_S.rf
  have hl : lv_has ls 3 [(0, .ref (a 6)), (1, .int x1), (2, .int x2)] := hl
  have hf := obs hf
  have hf := oun (f_X1_isOf.eq_1 _ _ _ _) hf
  refine lv_iload_n hx hb dX1_isOf_0 rfl (lv_at hl 1 rfl) ?_
  by_cases c_1 : x1 = (1 : Int32)
  · have hf := oit c_1 hf
    refine lv_tableIn (tgt := 28) (off := 27) hx hb dX1_isOf_1 (by rw [c_1]; decide) (by rw [c_1]; decide) (by rw [c_1]; decide) (by decide) ?_
    refine lv_iload_n hx hb dX1_isOf_28 rfl (lv_at hl 2 rfl) ?_
    obtain ⟨r_2, h_3, hf⟩ := obd hf
    refine xs_S (As := [.int x2]) (rest := []) S k_X3_openSet q495 q200 ⟨Nat.le_of_ble_eq_true rfl, Nat.le_of_ble_eq_true rfl⟩ ⟨rfl, rfl⟩ (c_X3_openSet l x2 r_2 h_3) hK.2 rfl hl.1 rfl (Nat.le_of_ble_eq_true rfl) dX1_isOf_29 ⟨Nat.zero_le _, Nat.zero_le _⟩ ?_
    refine lv_if_ne (tgt := 39) hx hb dX1_isOf_32 (by decide) (fun c_4 => ?_) (fun c_4 => ?_)
    · have hf := oif c_4 hf
      refine lv_iconst (v := (0 : Int32)) hx hb dX1_isOf_39 (by decide) ?_
      exact hret _ _ _ _ _ _ dX1_isOf_40 (by decide) hP hS ⟨Option.some.inj hf, rfl⟩
    have hf := oit c_4 hf
    refine lv_iconst (v := (1 : Int32)) hx hb dX1_isOf_35 (by decide) ?_
    refine lv_goto (tgt := 40) hx hb dX1_isOf_36 (by decide) ?_
    exact hret _ _ _ _ _ _ dX1_isOf_40 (by decide) hP hS ⟨Option.some.inj hf, rfl⟩
  have hf := oif c_1 hf
  by_cases c_5 : x1 = (2 : Int32)
  · have hf := oit c_5 hf
    refine lv_tableIn (tgt := 41) (off := 40) hx hb dX1_isOf_1 (by rw [c_5]; decide) (by rw [c_5]; decide) (by rw [c_5]; decide) (by decide) ?_
    refine lv_iload_n hx hb dX1_isOf_41 rfl (lv_at hl 2 rfl) ?_
    refine lv_aload_n hx hb dX1_isOf_42 rfl (lv_at hl 0 rfl) ?_
    refine va_get (D := D) (ci := 1) (v := .int (σ.1 0 7)) (C := RX1) (T := TX1) (N := 7) hx hb ht gX1 hown hK.1 hP 6 (cw6 a c σ) rfl 5 (by decide) (ht _ q432) (fun _ h9 => h9) rfl dX1_isOf_43 ?_
    obtain ⟨r_6, h_7, hf⟩ := obd hf
    refine xs_S (As := [.int x2, .int (σ.1 0 7)]) (rest := []) S k_X3_tableSet q496 q311 ⟨Nat.le_of_ble_eq_true rfl, Nat.le_of_ble_eq_true rfl⟩ ⟨rfl, rfl⟩ (c_X3_tableSet l N x2 (σ.1 0 7) r_6 h_7) hK.2 rfl hl.1 rfl (Nat.le_of_ble_eq_true rfl) dX1_isOf_46 ⟨Nat.zero_le _, Nat.zero_le _⟩ ?_
    obtain ⟨r_8, h_9, hf⟩ := obd hf
    refine xs_S (As := [.int r_6]) (rest := []) S k_J6_bitCount_0f7a4 q497 q328 ⟨Nat.le_of_ble_eq_true rfl, Nat.le_of_ble_eq_true rfl⟩ ⟨rfl, rfl⟩ (c_J6_bitCount_0f7a4 l r_6 r_8 h_9) hK.2 rfl hl.1 rfl (Nat.le_of_ble_eq_true rfl) dX1_isOf_49 ⟨Nat.zero_le _, Nat.zero_le _⟩ ?_
    refine lv_iconst (v := (1 : Int32)) hx hb dX1_isOf_52 (by decide) ?_
    refine lv_icmp_ne (tgt := 60) hx hb dX1_isOf_53 (by decide) (fun c_10 => ?_) (fun c_10 => ?_)
    · have hf := oif c_10 hf
      refine lv_iconst (v := (0 : Int32)) hx hb dX1_isOf_60 (by decide) ?_
      exact hret _ _ _ _ _ _ dX1_isOf_61 (by decide) hP hS ⟨Option.some.inj hf, rfl⟩
    have hf := oit c_10 hf
    refine lv_iconst (v := (1 : Int32)) hx hb dX1_isOf_56 (by decide) ?_
    refine lv_goto (tgt := 61) hx hb dX1_isOf_57 (by decide) ?_
    exact hret _ _ _ _ _ _ dX1_isOf_61 (by decide) hP hS ⟨Option.some.inj hf, rfl⟩
  have hf := oif c_5 hf
  by_cases c_11 : x1 = (3 : Int32)
  · have hf := oit c_11 hf
    refine lv_tableIn (tgt := 62) (off := 61) hx hb dX1_isOf_1 (by rw [c_11]; decide) (by rw [c_11]; decide) (by rw [c_11]; decide) (by decide) ?_
    refine lv_iload_n hx hb dX1_isOf_62 rfl (lv_at hl 2 rfl) ?_
    refine lv_aload_n hx hb dX1_isOf_63 rfl (lv_at hl 0 rfl) ?_
    refine va_get (D := D) (ci := 1) (v := .int (σ.1 0 7)) (C := RX1) (T := TX1) (N := 7) hx hb ht gX1 hown hK.1 hP 6 (cw6 a c σ) rfl 5 (by decide) (ht _ q432) (fun _ h9 => h9) rfl dX1_isOf_64 ?_
    obtain ⟨r_12, h_13, hf⟩ := obd hf
    refine xs_S (As := [.int x2, .int (σ.1 0 7)]) (rest := []) S k_X3_handSet q498 q208 ⟨Nat.le_of_ble_eq_true rfl, Nat.le_of_ble_eq_true rfl⟩ ⟨rfl, rfl⟩ (c_X3_handSet l N x2 (σ.1 0 7) r_12 h_13) hK.2 rfl hl.1 rfl (Nat.le_of_ble_eq_true rfl) dX1_isOf_67 ⟨Nat.zero_le _, Nat.zero_le _⟩ ?_
    obtain ⟨r_14, h_15, hf⟩ := obd hf
    refine xs_S (As := [.int r_12]) (rest := []) S k_J6_bitCount_0f7a4 q497 q328 ⟨Nat.le_of_ble_eq_true rfl, Nat.le_of_ble_eq_true rfl⟩ ⟨rfl, rfl⟩ (c_J6_bitCount_0f7a4 l r_12 r_14 h_15) hK.2 rfl hl.1 rfl (Nat.le_of_ble_eq_true rfl) dX1_isOf_70 ⟨Nat.zero_le _, Nat.zero_le _⟩ ?_
    refine lv_aload_n hx hb dX1_isOf_73 rfl (lv_at hl 0 rfl) ?_
    refine va_get (D := D) (ci := 1) (v := .int (σ.1 0 7)) (C := RX1) (T := TX1) (N := 7) hx hb ht gX1 hown hK.1 hP 6 (cw6 a c σ) rfl 5 (by decide) (ht _ q432) (fun _ h9 => h9) rfl dX1_isOf_74 ?_
    refine lv_icmp_ne (tgt := 84) hx hb dX1_isOf_77 (by decide) (fun c_16 => ?_) (fun c_16 => ?_)
    · have hf := oif c_16 hf
      refine lv_iconst (v := (0 : Int32)) hx hb dX1_isOf_84 (by decide) ?_
      exact hret _ _ _ _ _ _ dX1_isOf_85 (by decide) hP hS ⟨Option.some.inj hf, rfl⟩
    have hf := oit c_16 hf
    refine lv_iconst (v := (1 : Int32)) hx hb dX1_isOf_80 (by decide) ?_
    refine lv_goto (tgt := 85) hx hb dX1_isOf_81 (by decide) ?_
    exact hret _ _ _ _ _ _ dX1_isOf_85 (by decide) hP hS ⟨Option.some.inj hf, rfl⟩
  have hf := oif c_11 hf
  refine lv_tableOut (tgt := 86) hx hb dX1_isOf_1 (by have z0 := lv_neT c_1 (a := 1) rfl; have z1 := lv_neT c_5 (a := 2) rfl; have z2 := lv_neT c_11 (a := 3) rfl; omega) (by decide) ?_
  refine lv_iconst (v := (1 : Int32)) hx hb dX1_isOf_86 (by decide) ?_
  exact hret _ _ _ _ _ _ dX1_isOf_87 (by decide) hP hS ⟨Option.some.inj hf, rfl⟩
theorem dX1_howMany_0 : decode cX1_howMany 0 = .ok (.iconst 0, 1) := by decide +kernel
theorem dX1_howMany_1 : decode cX1_howMany 1 = .ok (.istore_n 2, 1) := by decide +kernel
theorem dX1_howMany_2 : decode cX1_howMany 2 = .ok (.iconst 0, 1) := by decide +kernel
theorem dX1_howMany_3 : decode cX1_howMany 3 = .ok (.istore_n 3, 1) := by decide +kernel
theorem dX1_howMany_4 : decode cX1_howMany 4 = .ok (.iload_n 3, 1) := by decide +kernel
theorem dX1_howMany_5 : decode cX1_howMany 5 = .ok (.aload_n 0, 1) := by decide +kernel
theorem dX1_howMany_6 : decode cX1_howMany 6 = .ok (.getfield 27, 3) := by decide +kernel
theorem dX1_howMany_9 : decode cX1_howMany 9 = .ok (.if_icmp .ge 26, 3) := by decide +kernel
theorem dX1_howMany_12 : decode cX1_howMany 12 = .ok (.aload_n 0, 1) := by decide +kernel
theorem dX1_howMany_13 : decode cX1_howMany 13 = .ok (.iload_n 1, 1) := by decide +kernel
theorem dX1_howMany_14 : decode cX1_howMany 14 = .ok (.aload_n 0, 1) := by decide +kernel
theorem dX1_howMany_15 : decode cX1_howMany 15 = .ok (.getfield 11, 3) := by decide +kernel
theorem dX1_howMany_18 : decode cX1_howMany 18 = .ok (.iload_n 3, 1) := by decide +kernel
theorem dX1_howMany_19 : decode cX1_howMany 19 = .ok (.iaload, 1) := by decide +kernel
theorem dX1_howMany_20 : decode cX1_howMany 20 = .ok (.invokevirtual 63, 3) := by decide +kernel
theorem dX1_howMany_23 : decode cX1_howMany 23 = .ok (.ifCond .eq 6, 3) := by decide +kernel
theorem dX1_howMany_26 : decode cX1_howMany 26 = .ok (.iinc 2 1, 3) := by decide +kernel
theorem dX1_howMany_29 : decode cX1_howMany 29 = .ok (.iinc 3 1, 3) := by decide +kernel
theorem dX1_howMany_32 : decode cX1_howMany 32 = .ok (.goto (-28), 3) := by decide +kernel
theorem dX1_howMany_35 : decode cX1_howMany 35 = .ok (.iload_n 2, 1) := by decide +kernel
theorem dX1_howMany_36 : decode cX1_howMany 36 = .ok (.ireturn, 1) := by decide +kernel
def f_X1_howMany_j35 (N : Nat) (x2 : Int32) (σ : St) : Option Int32 :=
  some x2
def f_X1_howMany_j29 (N : Nat) (x1 : Int32) (x2 : Int32) (x3 : Int32) (σ : St) : Option ((Int32 × Int32) ⊕ ((Int32))) :=
  nm (x3 + (1 : Int32)) fun x3_1 =>
  some (.inl (x2, x3_1))
def f_X1_howMany_b4 (N : Nat) (x1 : Int32) (x2 : Int32) (x3 : Int32) (σ : St) : Option ((Int32 × Int32) ⊕ ((Int32))) :=
  if (σ.1 0 6) ≤ x3 then (some (.inr x2))
  else gd (ck x3 580) <|
  bd (f_X1_isOf N x1 (σ.1 9 x3.toNatClampNeg) σ) fun r_4 =>
  if r_4 = 0 then (f_X1_howMany_j29 N x1 x2 x3 σ)
  else nm (x2 + (1 : Int32)) fun x2_7 =>
  f_X1_howMany_j29 N x1 x2_7 x3 σ
def f_X1_howMany (N : Nat) (x1 : Int32) (σ : St) : Option Int32 :=
  bd (lpF (fun s => f_X1_howMany_b4 N x1 s.1 s.2 σ) N ((0 : Int32), (0 : Int32))) (fun o => f_X1_howMany_j35 N o σ)
abbrev rmX1_howMany : Room := { frames := 4, cells := 0, slots := 0, locals := 90 }
set_option maxRecDepth 100000 in
set_option maxHeartbeats 4000000 in
theorem c_X1_howMany (l : Launch) (D : va_G) (a : Nat → Nat) (c : Nat → ClassId) (A : Nat → Prop) (hD : ∀ σ, va_D A (cW a c σ)) (N : Nat) (x1 : Int32) (σ : St) (r : Int32) (hf : f_X1_howMany N x1 σ = some r) : MetI l yX1_howMany cX1_howMany 4 (some .int) rmX1_howMany (cW a c) D c A [.ref (a 6), .int x1] σ r σ := by
  refine mkI (by decide) (Nat.le_of_ble_eq_true rfl) rfl ?_
  intro p e s m args below meth cd Q ls h0 hK hP hret hl
  obtain ⟨S, hr, hlk⟩ := h0
  obtain ⟨hx, hb, hml, hown, ht⟩ := id S
  have hS : va_S A s.heap s.heap [] := va_S.rf
  have hl : lv_has ls 4 [(0, .ref (a 6)), (1, .int x1)] := hl
  have hf := obs hf
  have j35 : ∀ (x2 : Int32) (H : Heap) (locs : List Loc) (ls : Array Slot), lv_has ls 4 [(2, .int x2)] → va_P D vwCl (cW a c σ) H → va_S A s.heap H locs → Option.bind (f_X1_howMany_j35 N x2 σ) some = some r → W p l e rmX1_howMany s m args below meth cd H locs 0 0 Q (F0 m 35 ls []) := by
    intro x2 H locs ls hl hP hS hf
    have hf := oun (f_X1_howMany_j35.eq_1 _ _ _) hf
    refine lv_iload_n hx hb dX1_howMany_35 rfl (lv_at hl 0 rfl) ?_
    exact hret _ _ _ _ _ _ dX1_howMany_36 rfl hP hS ⟨Option.some.inj hf, rfl⟩
  have L4 : ∀ (x1 : Int32) (k : Nat) (x2 : Int32) (x3 : Int32) (H : Heap) (locs : List Loc) (ls : Array Slot), lv_has ls 4 [(0, .ref (a 6)), (1, .int x1), (2, .int x2), (3, .int x3)] → va_P D vwCl (cW a c σ) H → va_S A s.heap H locs → Option.bind (bd (lpF (fun s => f_X1_howMany_b4 N x1 s.1 s.2 σ) k (x2, x3)) (fun o => f_X1_howMany_j35 N o σ)) some = some r → W p l e rmX1_howMany s m args below meth cd H locs 0 0 Q (F0 m 4 ls []) := by
    intro x1 k
    induction k with
    | zero =>
      intro x2 x3 H locs ls hl hP hS hf
      exact (ol0 hf).elim
    | succ k ih =>
      intro x2 x3 H locs ls hl hP hS hf
      obtain ⟨K4, hf, hc4, hx4⟩ := ol1 hf
      have j29 : ∀ (x2 : Int32) (x3 : Int32) (H : Heap) (locs : List Loc) (ls : Array Slot), lv_has ls 4 [(0, .ref (a 6)), (1, .int x1), (2, .int x2), (3, .int x3)] → va_P D vwCl (cW a c σ) H → va_S A s.heap H locs → Option.bind (f_X1_howMany_j29 N x1 x2 x3 σ) K4 = some r → W p l e rmX1_howMany s m args below meth cd H locs 0 0 Q (F0 m 29 ls []) := by
        intro x2 x3 H locs ls hl hP hS hf
        have hf := oun (f_X1_howMany_j29.eq_1 _ _ _ _ _) hf
        obtain ⟨x3_1, ex3_1, hf⟩ := onm hf
        refine lv_iinc (v := x3_1) (lv' := [(3, .int x3_1), (0, .ref (a 6)), (1, .int x1), (2, .int x2)]) hx hb dX1_howMany_29 hl (k := 3) rfl ex3_1 (by decide) rfl (fun ls hl => ?_)
        refine lv_goto (tgt := 4) hx hb dX1_howMany_32 (by decide) ?_
        exact ih x2 x3_1 _ _ _ (lv_sub hl [1, 2, 3, 0] rfl) hP hS (okx hf (hc4 _))
      have hf := oun (f_X1_howMany_b4.eq_1 N x1 x2 x3 σ) hf
      refine lv_iload_n hx hb dX1_howMany_4 rfl (lv_at hl 3 rfl) ?_
      refine lv_aload_n hx hb dX1_howMany_5 rfl (lv_at hl 0 rfl) ?_
      refine va_get (D := D) (ci := 1) (v := .int (σ.1 0 6)) (C := RX1) (T := TX1) (N := 7) hx hb ht gX1 hown hK.1 hP 6 (cw6 a c σ) rfl 4 (by decide) (ht _ q431) (fun _ h9 => h9) rfl dX1_howMany_6 ?_
      refine lv_icmp_ge (tgt := 35) hx hb dX1_howMany_9 (by decide) (fun c_2 => ?_) (fun c_2 => ?_)
      · have hf := oit c_2 hf
        exact j35 x2 _ _ _ (lv_sub hl [2] rfl) hP hS (okx hf (hx4 _))
      have hf := oif c_2 hf
      refine lv_aload_n hx hb dX1_howMany_12 rfl (lv_at hl 0 rfl) ?_
      refine lv_iload_n hx hb dX1_howMany_13 rfl (lv_at hl 1 rfl) ?_
      refine lv_aload_n hx hb dX1_howMany_14 rfl (lv_at hl 0 rfl) ?_
      refine va_get (D := D) (ci := 1) (v := .ref (a 7)) (C := RX1) (T := TX1) (N := 7) hx hb ht gX1 hown hK.1 hP 6 (cw6 a c σ) rfl 0 (by decide) (ht _ q32) (fun _ h9 => h9) rfl dX1_howMany_15 ?_
      refine lv_iload_n hx hb dX1_howMany_18 rfl (lv_at hl 3 rfl) ?_
      obtain ⟨g_3, hf⟩ := ogd hf
      refine va_iald hx hb hK.1 hP 7 0 (cw7 a c σ) rfl (ck_in g_3) dX1_howMany_19 ?_
      obtain ⟨r_4, h_5, hf⟩ := obd hf
      refine xv_I (As := [.int x1, .int (σ.1 9 x3.toNatClampNeg)]) (rest := []) S k_X1_isOf q491 q492 q493 ⟨Nat.le_of_ble_eq_true rfl, Nat.le_of_ble_eq_true rfl⟩ ⟨rfl, rfl⟩ (c_X1_isOf l D a c A hD N x1 (σ.1 9 x3.toNatClampNeg) σ r_4 h_5) hK hP hS (va_recv hK.1 hP (rfl : vwCl[1]? = some (RX1, TX1, 7)) (cw6 a c σ)) rfl hl.1 rfl (Nat.le_of_ble_eq_true rfl) dX1_howMany_20 ⟨Nat.zero_le _, Nat.zero_le _⟩ (fun H locs hP hS => ?_)
      refine lv_if_eq (tgt := 29) hx hb dX1_howMany_23 (by decide) (fun c_6 => ?_) (fun c_6 => ?_)
      · have hf := oit c_6 hf
        exact j29 x2 x3 _ _ _ (lv_sub hl [0, 1, 2, 3] rfl) hP hS hf
      have hf := oif c_6 hf
      obtain ⟨x2_7, ex2_7, hf⟩ := onm hf
      refine lv_iinc (v := x2_7) (lv' := [(2, .int x2_7), (0, .ref (a 6)), (1, .int x1), (3, .int x3)]) hx hb dX1_howMany_26 hl (k := 2) rfl ex2_7 (by decide) rfl (fun ls hl => ?_)
      exact j29 x2_7 x3 _ _ _ (lv_sub hl [1, 2, 0, 3] rfl) hP hS hf
  have hf := oun (f_X1_howMany.eq_1 _ _ _) hf
  refine lv_iconst (v := (0 : Int32)) hx hb dX1_howMany_0 (by decide) ?_
  refine lv_istore_n (lv' := [(2, .int (0 : Int32)), (0, .ref (a 6)), (1, .int x1)]) hx hb dX1_howMany_1 rfl hl (by decide) rfl (fun ls hl => ?_)
  refine lv_iconst (v := (0 : Int32)) hx hb dX1_howMany_2 (by decide) ?_
  refine lv_istore_n (lv' := [(3, .int (0 : Int32)), (2, .int (0 : Int32)), (0, .ref (a 6)), (1, .int x1)]) hx hb dX1_howMany_3 rfl hl (by decide) rfl (fun ls hl => ?_)
  exact L4 x1 N (0 : Int32) (0 : Int32) _ _ _ (lv_sub hl [2, 3, 1, 0] rfl) hP hS hf
end

section
-- ===== PART A: goes FIRST, ahead of the names: the tables' words, and 'selects' of the private methods out of them =====
/-- a private method of a class that the tables say can be made, by its rows of tables_1 -/
def lw_okq (q : MethodName × Nat) : Prop := (q.1.cls ≠ "java/lang/invoke/MethodHandle" ∧ q.1.cls ≠ "java/lang/invoke/VarHandle") ∧ Cond.instantiable q.1.cls q.2 ∈ tables_1 ∧ Cond.privateMethod q.1 ∈ tables_1 ∧ Cond.instanceMethod q.1 ∈ tables_1
theorem lw_p0 : lw_okq (⟨"BagTrees$Finder", "loosest", "(I)I"⟩, 1) := ⟨⟨by decide +kernel, by decide +kernel⟩, List.mem_of_getElem? (i := 132) (by decide +kernel), List.mem_of_getElem? (i := 253) (by decide +kernel), List.mem_of_getElem? (i := 254) (by decide +kernel)⟩
theorem lw_p1 : lw_okq (⟨"BagTrees$Finder", "isHole", "(I)Z"⟩, 1) := ⟨⟨by decide +kernel, by decide +kernel⟩, List.mem_of_getElem? (i := 132) (by decide +kernel), List.mem_of_getElem? (i := 262) (by decide +kernel), List.mem_of_getElem? (i := 263) (by decide +kernel)⟩
theorem lw_p2 : lw_okq (⟨"BagTrees$Heights", "leastBehind", "(I)I"⟩, 6) := ⟨⟨by decide +kernel, by decide +kernel⟩, List.mem_of_getElem? (i := 83) (by decide +kernel), List.mem_of_getElem? (i := 294) (by decide +kernel), List.mem_of_getElem? (i := 295) (by decide +kernel)⟩
theorem lw_p3 : lw_okq (⟨"BagTrees$Heights", "tallest", "(I)I"⟩, 6) := ⟨⟨by decide +kernel, by decide +kernel⟩, List.mem_of_getElem? (i := 83) (by decide +kernel), List.mem_of_getElem? (i := 308) (by decide +kernel), List.mem_of_getElem? (i := 309) (by decide +kernel)⟩
theorem lw_p4 : lw_okq (⟨"BagTrees$Heights", "leastBelow", "(I)I"⟩, 6) := ⟨⟨by decide +kernel, by decide +kernel⟩, List.mem_of_getElem? (i := 83) (by decide +kernel), List.mem_of_getElem? (i := 316) (by decide +kernel), List.mem_of_getElem? (i := 317) (by decide +kernel)⟩
theorem lw_p5 : lw_okq (⟨"BagTrees$Heights", "staysWithin", "(III)Z"⟩, 6) := ⟨⟨by decide +kernel, by decide +kernel⟩, List.mem_of_getElem? (i := 83) (by decide +kernel), List.mem_of_getElem? (i := 323) (by decide +kernel), List.mem_of_getElem? (i := 324) (by decide +kernel)⟩
theorem lw_p6 : lw_okq (⟨"BagTrees$Orders", "fillLeast", "(I)V"⟩, 7) := ⟨⟨by decide +kernel, by decide +kernel⟩, List.mem_of_getElem? (i := 75) (by decide +kernel), List.mem_of_getElem? (i := 327) (by decide +kernel), List.mem_of_getElem? (i := 328) (by decide +kernel)⟩
theorem lw_p7 : lw_okq (⟨"BagTrees$Orders", "costFrom", "(III)I"⟩, 7) := ⟨⟨by decide +kernel, by decide +kernel⟩, List.mem_of_getElem? (i := 75) (by decide +kernel), List.mem_of_getElem? (i := 332) (by decide +kernel), List.mem_of_getElem? (i := 333) (by decide +kernel)⟩
theorem lw_p8 : lw_okq (⟨"BagTrees$Orders", "ownCost", "(III)I"⟩, 7) := ⟨⟨by decide +kernel, by decide +kernel⟩, List.mem_of_getElem? (i := 75) (by decide +kernel), List.mem_of_getElem? (i := 336) (by decide +kernel), List.mem_of_getElem? (i := 337) (by decide +kernel)⟩
theorem lw_p9 : lw_okq (⟨"BagTrees$Orders", "layBand", "([I)I"⟩, 7) := ⟨⟨by decide +kernel, by decide +kernel⟩, List.mem_of_getElem? (i := 75) (by decide +kernel), List.mem_of_getElem? (i := 344) (by decide +kernel), List.mem_of_getElem? (i := 345) (by decide +kernel)⟩
theorem lw_p10 : lw_okq (⟨"BagTrees$Orders", "layBandBehind", "([IIII)Z"⟩, 7) := ⟨⟨by decide +kernel, by decide +kernel⟩, List.mem_of_getElem? (i := 75) (by decide +kernel), List.mem_of_getElem? (i := 348) (by decide +kernel), List.mem_of_getElem? (i := 349) (by decide +kernel)⟩
theorem lw_p11 : lw_okq (⟨"BagTrees$Orders", "hasRoom", "([IIII)Z"⟩, 7) := ⟨⟨by decide +kernel, by decide +kernel⟩, List.mem_of_getElem? (i := 75) (by decide +kernel), List.mem_of_getElem? (i := 352) (by decide +kernel), List.mem_of_getElem? (i := 353) (by decide +kernel)⟩
theorem lw_p12 : lw_okq (⟨"BagTrees$Orders", "layLeast", "(I[I)I"⟩, 7) := ⟨⟨by decide +kernel, by decide +kernel⟩, List.mem_of_getElem? (i := 75) (by decide +kernel), List.mem_of_getElem? (i := 356) (by decide +kernel), List.mem_of_getElem? (i := 357) (by decide +kernel)⟩
theorem lw_p13 : lw_okq (⟨"BagTrees$Finder", "isSeparator", "(I)Z"⟩, 1) := ⟨⟨by decide +kernel, by decide +kernel⟩, List.mem_of_getElem? (i := 132) (by decide +kernel), List.mem_of_getElem? (i := 380) (by decide +kernel), List.mem_of_getElem? (i := 381) (by decide +kernel)⟩
theorem lw_p14 : lw_okq (⟨"BagTrees$Finder", "isClique", "(I)Z"⟩, 1) := ⟨⟨by decide +kernel, by decide +kernel⟩, List.mem_of_getElem? (i := 132) (by decide +kernel), List.mem_of_getElem? (i := 392) (by decide +kernel), List.mem_of_getElem? (i := 393) (by decide +kernel)⟩
theorem lw_p15 : lw_okq (⟨"BagTrees$Counter", "setsApart", "()J"⟩, 4) := ⟨⟨by decide +kernel, by decide +kernel⟩, List.mem_of_getElem? (i := 142) (by decide +kernel), List.mem_of_getElem? (i := 406) (by decide +kernel), List.mem_of_getElem? (i := 407) (by decide +kernel)⟩
def lw_privs_1 : List (MethodName × Nat) := [(⟨"BagTrees$Finder", "loosest", "(I)I"⟩, 1), (⟨"BagTrees$Finder", "isHole", "(I)Z"⟩, 1), (⟨"BagTrees$Heights", "leastBehind", "(I)I"⟩, 6), (⟨"BagTrees$Heights", "tallest", "(I)I"⟩, 6), (⟨"BagTrees$Heights", "leastBelow", "(I)I"⟩, 6), (⟨"BagTrees$Heights", "staysWithin", "(III)Z"⟩, 6), (⟨"BagTrees$Orders", "fillLeast", "(I)V"⟩, 7), (⟨"BagTrees$Orders", "costFrom", "(III)I"⟩, 7), (⟨"BagTrees$Orders", "ownCost", "(III)I"⟩, 7), (⟨"BagTrees$Orders", "layBand", "([I)I"⟩, 7), (⟨"BagTrees$Orders", "layBandBehind", "([IIII)Z"⟩, 7), (⟨"BagTrees$Orders", "hasRoom", "([IIII)Z"⟩, 7), (⟨"BagTrees$Orders", "layLeast", "(I[I)I"⟩, 7), (⟨"BagTrees$Finder", "isSeparator", "(I)Z"⟩, 1), (⟨"BagTrees$Finder", "isClique", "(I)Z"⟩, 1), (⟨"BagTrees$Counter", "setsApart", "()J"⟩, 4)]
theorem lw_r1 : ∀ q ∈ lw_privs_1, lw_okq q := List.forall_mem_cons.mpr ⟨lw_p0, List.forall_mem_cons.mpr ⟨lw_p1, List.forall_mem_cons.mpr ⟨lw_p2, List.forall_mem_cons.mpr ⟨lw_p3, List.forall_mem_cons.mpr ⟨lw_p4, List.forall_mem_cons.mpr ⟨lw_p5, List.forall_mem_cons.mpr ⟨lw_p6, List.forall_mem_cons.mpr ⟨lw_p7, List.forall_mem_cons.mpr ⟨lw_p8, List.forall_mem_cons.mpr ⟨lw_p9, List.forall_mem_cons.mpr ⟨lw_p10, List.forall_mem_cons.mpr ⟨lw_p11, List.forall_mem_cons.mpr ⟨lw_p12, List.forall_mem_cons.mpr ⟨lw_p13, List.forall_mem_cons.mpr ⟨lw_p14, List.forall_mem_cons.mpr ⟨lw_p15, fun _ h => absurd h List.not_mem_nil⟩⟩⟩⟩⟩⟩⟩⟩⟩⟩⟩⟩⟩⟩⟩⟩
theorem lw_p16 : lw_okq (⟨"BagTrees$Counter", "colourings", "(I)J"⟩, 4) := ⟨⟨by decide +kernel, by decide +kernel⟩, List.mem_of_getElem? (i := 142) (by decide +kernel), List.mem_of_getElem? (i := 411) (by decide +kernel), List.mem_of_getElem? (i := 412) (by decide +kernel)⟩
theorem lw_p17 : lw_okq (⟨"BagTrees$Counter", "clearRows", "()V"⟩, 4) := ⟨⟨by decide +kernel, by decide +kernel⟩, List.mem_of_getElem? (i := 142) (by decide +kernel), List.mem_of_getElem? (i := 415) (by decide +kernel), List.mem_of_getElem? (i := 416) (by decide +kernel)⟩
theorem lw_p18 : lw_okq (⟨"BagTrees$Counter", "colourOneClass", "(I)V"⟩, 4) := ⟨⟨by decide +kernel, by decide +kernel⟩, List.mem_of_getElem? (i := 142) (by decide +kernel), List.mem_of_getElem? (i := 419) (by decide +kernel), List.mem_of_getElem? (i := 420) (by decide +kernel)⟩
theorem lw_p19 : lw_okq (⟨"BagTrees$Counter", "takeClasses", "(IJ)V"⟩, 4) := ⟨⟨by decide +kernel, by decide +kernel⟩, List.mem_of_getElem? (i := 142) (by decide +kernel), List.mem_of_getElem? (i := 423) (by decide +kernel), List.mem_of_getElem? (i := 424) (by decide +kernel)⟩
theorem lw_p20 : lw_okq (⟨"BagTrees$Counter", "matchings", "(Z)J"⟩, 4) := ⟨⟨by decide +kernel, by decide +kernel⟩, List.mem_of_getElem? (i := 142) (by decide +kernel), List.mem_of_getElem? (i := 428) (by decide +kernel), List.mem_of_getElem? (i := 429) (by decide +kernel)⟩
theorem lw_p21 : lw_okq (⟨"BagTrees$Counter", "coveringSets", "()J"⟩, 4) := ⟨⟨by decide +kernel, by decide +kernel⟩, List.mem_of_getElem? (i := 142) (by decide +kernel), List.mem_of_getElem? (i := 432) (by decide +kernel), List.mem_of_getElem? (i := 433) (by decide +kernel)⟩
theorem lw_p22 : lw_okq (⟨"BagTrees$Counter", "rings", "()J"⟩, 4) := ⟨⟨by decide +kernel, by decide +kernel⟩, List.mem_of_getElem? (i := 142) (by decide +kernel), List.mem_of_getElem? (i := 436) (by decide +kernel), List.mem_of_getElem? (i := 437) (by decide +kernel)⟩
theorem lw_p23 : lw_okq (⟨"BagTrees$Counter", "fillArms", "()V"⟩, 4) := ⟨⟨by decide +kernel, by decide +kernel⟩, List.mem_of_getElem? (i := 142) (by decide +kernel), List.mem_of_getElem? (i := 440) (by decide +kernel), List.mem_of_getElem? (i := 441) (by decide +kernel)⟩
theorem lw_p24 : lw_okq (⟨"BagTrees$Counter", "armsTo", "(II)J"⟩, 4) := ⟨⟨by decide +kernel, by decide +kernel⟩, List.mem_of_getElem? (i := 142) (by decide +kernel), List.mem_of_getElem? (i := 444) (by decide +kernel), List.mem_of_getElem? (i := 445) (by decide +kernel)⟩
theorem lw_p25 : lw_okq (⟨"BagTrees$Counter", "waysThrough", "()J"⟩, 4) := ⟨⟨by decide +kernel, by decide +kernel⟩, List.mem_of_getElem? (i := 142) (by decide +kernel), List.mem_of_getElem? (i := 449) (by decide +kernel), List.mem_of_getElem? (i := 450) (by decide +kernel)⟩
theorem lw_p26 : lw_okq (⟨"BagTrees$Counter", "trees", "()J"⟩, 4) := ⟨⟨by decide +kernel, by decide +kernel⟩, List.mem_of_getElem? (i := 142) (by decide +kernel), List.mem_of_getElem? (i := 453) (by decide +kernel), List.mem_of_getElem? (i := 454) (by decide +kernel)⟩
theorem lw_p27 : lw_okq (⟨"BagTrees$Counter", "treesOn", "(I)J"⟩, 4) := ⟨⟨by decide +kernel, by decide +kernel⟩, List.mem_of_getElem? (i := 142) (by decide +kernel), List.mem_of_getElem? (i := 458) (by decide +kernel), List.mem_of_getElem? (i := 459) (by decide +kernel)⟩
theorem lw_p28 : lw_okq (⟨"BagTrees$Counter", "forests", "()J"⟩, 4) := ⟨⟨by decide +kernel, by decide +kernel⟩, List.mem_of_getElem? (i := 142) (by decide +kernel), List.mem_of_getElem? (i := 463) (by decide +kernel), List.mem_of_getElem? (i := 464) (by decide +kernel)⟩
theorem lw_p29 : lw_okq (⟨"BagTrees$Counter", "joiningEdgeSets", "()J"⟩, 4) := ⟨⟨by decide +kernel, by decide +kernel⟩, List.mem_of_getElem? (i := 142) (by decide +kernel), List.mem_of_getElem? (i := 467) (by decide +kernel), List.mem_of_getElem? (i := 468) (by decide +kernel)⟩
theorem lw_p30 : lw_okq (⟨"BagTrees$Counter", "edgeCovers", "()J"⟩, 4) := ⟨⟨by decide +kernel, by decide +kernel⟩, List.mem_of_getElem? (i := 142) (by decide +kernel), List.mem_of_getElem? (i := 474) (by decide +kernel), List.mem_of_getElem? (i := 475) (by decide +kernel)⟩
theorem lw_p31 : lw_okq (⟨"BagTrees$Counter", "setsTogether", "()J"⟩, 4) := ⟨⟨by decide +kernel, by decide +kernel⟩, List.mem_of_getElem? (i := 142) (by decide +kernel), List.mem_of_getElem? (i := 478) (by decide +kernel), List.mem_of_getElem? (i := 479) (by decide +kernel)⟩
def lw_privs_2 : List (MethodName × Nat) := [(⟨"BagTrees$Counter", "colourings", "(I)J"⟩, 4), (⟨"BagTrees$Counter", "clearRows", "()V"⟩, 4), (⟨"BagTrees$Counter", "colourOneClass", "(I)V"⟩, 4), (⟨"BagTrees$Counter", "takeClasses", "(IJ)V"⟩, 4), (⟨"BagTrees$Counter", "matchings", "(Z)J"⟩, 4), (⟨"BagTrees$Counter", "coveringSets", "()J"⟩, 4), (⟨"BagTrees$Counter", "rings", "()J"⟩, 4), (⟨"BagTrees$Counter", "fillArms", "()V"⟩, 4), (⟨"BagTrees$Counter", "armsTo", "(II)J"⟩, 4), (⟨"BagTrees$Counter", "waysThrough", "()J"⟩, 4), (⟨"BagTrees$Counter", "trees", "()J"⟩, 4), (⟨"BagTrees$Counter", "treesOn", "(I)J"⟩, 4), (⟨"BagTrees$Counter", "forests", "()J"⟩, 4), (⟨"BagTrees$Counter", "joiningEdgeSets", "()J"⟩, 4), (⟨"BagTrees$Counter", "edgeCovers", "()J"⟩, 4), (⟨"BagTrees$Counter", "setsTogether", "()J"⟩, 4)]
theorem lw_r2 : ∀ q ∈ lw_privs_2, lw_okq q := List.forall_mem_cons.mpr ⟨lw_p16, List.forall_mem_cons.mpr ⟨lw_p17, List.forall_mem_cons.mpr ⟨lw_p18, List.forall_mem_cons.mpr ⟨lw_p19, List.forall_mem_cons.mpr ⟨lw_p20, List.forall_mem_cons.mpr ⟨lw_p21, List.forall_mem_cons.mpr ⟨lw_p22, List.forall_mem_cons.mpr ⟨lw_p23, List.forall_mem_cons.mpr ⟨lw_p24, List.forall_mem_cons.mpr ⟨lw_p25, List.forall_mem_cons.mpr ⟨lw_p26, List.forall_mem_cons.mpr ⟨lw_p27, List.forall_mem_cons.mpr ⟨lw_p28, List.forall_mem_cons.mpr ⟨lw_p29, List.forall_mem_cons.mpr ⟨lw_p30, List.forall_mem_cons.mpr ⟨lw_p31, fun _ h => absurd h List.not_mem_nil⟩⟩⟩⟩⟩⟩⟩⟩⟩⟩⟩⟩⟩⟩⟩⟩
theorem lw_p32 : lw_okq (⟨"BagTrees$Counter", "evenEdgeSets", "()J"⟩, 4) := ⟨⟨by decide +kernel, by decide +kernel⟩, List.mem_of_getElem? (i := 142) (by decide +kernel), List.mem_of_getElem? (i := 482) (by decide +kernel), List.mem_of_getElem? (i := 483) (by decide +kernel)⟩
theorem lw_p33 : lw_okq (⟨"BagTrees$Finder", "isSuch", "(II)Z"⟩, 1) := ⟨⟨by decide +kernel, by decide +kernel⟩, List.mem_of_getElem? (i := 132) (by decide +kernel), List.mem_of_getElem? (i := 495) (by decide +kernel), List.mem_of_getElem? (i := 496) (by decide +kernel)⟩
theorem lw_p34 : lw_okq (⟨"BagTreesModel", "isVertex", "(I)Z"⟩, 16) := ⟨⟨by decide +kernel, by decide +kernel⟩, List.mem_of_getElem? (i := 517) (by decide +kernel), List.mem_of_getElem? (i := 583) (by decide +kernel), List.mem_of_getElem? (i := 584) (by decide +kernel)⟩
theorem lw_p35 : lw_okq (⟨"BagTreesModel", "isEdge", "(II)Z"⟩, 16) := ⟨⟨by decide +kernel, by decide +kernel⟩, List.mem_of_getElem? (i := 517) (by decide +kernel), List.mem_of_getElem? (i := 587) (by decide +kernel), List.mem_of_getElem? (i := 588) (by decide +kernel)⟩
theorem lw_p36 : lw_okq (⟨"BagTreesModel", "all", "()I"⟩, 16) := ⟨⟨by decide +kernel, by decide +kernel⟩, List.mem_of_getElem? (i := 517) (by decide +kernel), List.mem_of_getElem? (i := 607) (by decide +kernel), List.mem_of_getElem? (i := 608) (by decide +kernel)⟩
theorem lw_p37 : lw_okq (⟨"BagTreesModel", "parts", "(I)I"⟩, 16) := ⟨⟨by decide +kernel, by decide +kernel⟩, List.mem_of_getElem? (i := 517) (by decide +kernel), List.mem_of_getElem? (i := 611) (by decide +kernel), List.mem_of_getElem? (i := 612) (by decide +kernel)⟩
theorem lw_p38 : lw_okq (⟨"BagTreesModel", "hang", "(II)I"⟩, 16) := ⟨⟨by decide +kernel, by decide +kernel⟩, List.mem_of_getElem? (i := 517) (by decide +kernel), List.mem_of_getElem? (i := 618) (by decide +kernel), List.mem_of_getElem? (i := 619) (by decide +kernel)⟩
theorem lw_p39 : lw_okq (⟨"BagTreesModel", "leastDegree", "(I)I"⟩, 16) := ⟨⟨by decide +kernel, by decide +kernel⟩, List.mem_of_getElem? (i := 517) (by decide +kernel), List.mem_of_getElem? (i := 625) (by decide +kernel), List.mem_of_getElem? (i := 626) (by decide +kernel)⟩
theorem lw_p40 : lw_okq (⟨"BagTreesModel", "isHole", "(I)Z"⟩, 16) := ⟨⟨by decide +kernel, by decide +kernel⟩, List.mem_of_getElem? (i := 517) (by decide +kernel), List.mem_of_getElem? (i := 629) (by decide +kernel), List.mem_of_getElem? (i := 630) (by decide +kernel)⟩
theorem lw_p41 : lw_okq (⟨"BagTreesModel", "isWhole", "(I)Z"⟩, 16) := ⟨⟨by decide +kernel, by decide +kernel⟩, List.mem_of_getElem? (i := 517) (by decide +kernel), List.mem_of_getElem? (i := 633) (by decide +kernel), List.mem_of_getElem? (i := 634) (by decide +kernel)⟩
theorem lw_p42 : lw_okq (⟨"BagTreesModel", "isSeparator", "(I)Z"⟩, 16) := ⟨⟨by decide +kernel, by decide +kernel⟩, List.mem_of_getElem? (i := 517) (by decide +kernel), List.mem_of_getElem? (i := 641) (by decide +kernel), List.mem_of_getElem? (i := 642) (by decide +kernel)⟩
theorem lw_p43 : lw_okq (⟨"BagTreesModel", "around", "(I)I"⟩, 16) := ⟨⟨by decide +kernel, by decide +kernel⟩, List.mem_of_getElem? (i := 517) (by decide +kernel), List.mem_of_getElem? (i := 645) (by decide +kernel), List.mem_of_getElem? (i := 646) (by decide +kernel)⟩
theorem lw_p44 : lw_okq (⟨"BagTreesModel", "isClique", "(I)Z"⟩, 16) := ⟨⟨by decide +kernel, by decide +kernel⟩, List.mem_of_getElem? (i := 517) (by decide +kernel), List.mem_of_getElem? (i := 653) (by decide +kernel), List.mem_of_getElem? (i := 654) (by decide +kernel)⟩
theorem lw_p45 : lw_okq (⟨"BagTreesModel", "lay", "(I)I"⟩, 16) := ⟨⟨by decide +kernel, by decide +kernel⟩, List.mem_of_getElem? (i := 517) (by decide +kernel), List.mem_of_getElem? (i := 661) (by decide +kernel), List.mem_of_getElem? (i := 662) (by decide +kernel)⟩
theorem lw_p46 : lw_okq (⟨"BagTreesModel", "layBand", "()I"⟩, 16) := ⟨⟨by decide +kernel, by decide +kernel⟩, List.mem_of_getElem? (i := 517) (by decide +kernel), List.mem_of_getElem? (i := 665) (by decide +kernel), List.mem_of_getElem? (i := 666) (by decide +kernel)⟩
theorem lw_p47 : lw_okq (⟨"BagTreesModel", "stands", "(II)Z"⟩, 16) := ⟨⟨by decide +kernel, by decide +kernel⟩, List.mem_of_getElem? (i := 517) (by decide +kernel), List.mem_of_getElem? (i := 669) (by decide +kernel), List.mem_of_getElem? (i := 670) (by decide +kernel)⟩
def lw_privs_3 : List (MethodName × Nat) := [(⟨"BagTrees$Counter", "evenEdgeSets", "()J"⟩, 4), (⟨"BagTrees$Finder", "isSuch", "(II)Z"⟩, 1), (⟨"BagTreesModel", "isVertex", "(I)Z"⟩, 16), (⟨"BagTreesModel", "isEdge", "(II)Z"⟩, 16), (⟨"BagTreesModel", "all", "()I"⟩, 16), (⟨"BagTreesModel", "parts", "(I)I"⟩, 16), (⟨"BagTreesModel", "hang", "(II)I"⟩, 16), (⟨"BagTreesModel", "leastDegree", "(I)I"⟩, 16), (⟨"BagTreesModel", "isHole", "(I)Z"⟩, 16), (⟨"BagTreesModel", "isWhole", "(I)Z"⟩, 16), (⟨"BagTreesModel", "isSeparator", "(I)Z"⟩, 16), (⟨"BagTreesModel", "around", "(I)I"⟩, 16), (⟨"BagTreesModel", "isClique", "(I)Z"⟩, 16), (⟨"BagTreesModel", "lay", "(I)I"⟩, 16), (⟨"BagTreesModel", "layBand", "()I"⟩, 16), (⟨"BagTreesModel", "stands", "(II)Z"⟩, 16)]
theorem lw_r3 : ∀ q ∈ lw_privs_3, lw_okq q := List.forall_mem_cons.mpr ⟨lw_p32, List.forall_mem_cons.mpr ⟨lw_p33, List.forall_mem_cons.mpr ⟨lw_p34, List.forall_mem_cons.mpr ⟨lw_p35, List.forall_mem_cons.mpr ⟨lw_p36, List.forall_mem_cons.mpr ⟨lw_p37, List.forall_mem_cons.mpr ⟨lw_p38, List.forall_mem_cons.mpr ⟨lw_p39, List.forall_mem_cons.mpr ⟨lw_p40, List.forall_mem_cons.mpr ⟨lw_p41, List.forall_mem_cons.mpr ⟨lw_p42, List.forall_mem_cons.mpr ⟨lw_p43, List.forall_mem_cons.mpr ⟨lw_p44, List.forall_mem_cons.mpr ⟨lw_p45, List.forall_mem_cons.mpr ⟨lw_p46, List.forall_mem_cons.mpr ⟨lw_p47, fun _ h => absurd h List.not_mem_nil⟩⟩⟩⟩⟩⟩⟩⟩⟩⟩⟩⟩⟩⟩⟩⟩
theorem lw_p48 : lw_okq (⟨"BagTreesModel", "isBand", "(II)Z"⟩, 16) := ⟨⟨by decide +kernel, by decide +kernel⟩, List.mem_of_getElem? (i := 517) (by decide +kernel), List.mem_of_getElem? (i := 673) (by decide +kernel), List.mem_of_getElem? (i := 674) (by decide +kernel)⟩
theorem lw_p49 : lw_okq (⟨"BagTreesModel", "layHigh", "()I"⟩, 16) := ⟨⟨by decide +kernel, by decide +kernel⟩, List.mem_of_getElem? (i := 517) (by decide +kernel), List.mem_of_getElem? (i := 677) (by decide +kernel), List.mem_of_getElem? (i := 678) (by decide +kernel)⟩
theorem lw_p50 : lw_okq (⟨"BagTreesModel", "tellHigh", "(I)V"⟩, 16) := ⟨⟨by decide +kernel, by decide +kernel⟩, List.mem_of_getElem? (i := 517) (by decide +kernel), List.mem_of_getElem? (i := 681) (by decide +kernel), List.mem_of_getElem? (i := 682) (by decide +kernel)⟩
theorem lw_p51 : lw_okq (⟨"BagTreesModel", "top", "(I)I"⟩, 16) := ⟨⟨by decide +kernel, by decide +kernel⟩, List.mem_of_getElem? (i := 517) (by decide +kernel), List.mem_of_getElem? (i := 685) (by decide +kernel), List.mem_of_getElem? (i := 686) (by decide +kernel)⟩
theorem lw_p52 : lw_okq (⟨"BagTreesModel", "tellBehind", "(I)V"⟩, 16) := ⟨⟨by decide +kernel, by decide +kernel⟩, List.mem_of_getElem? (i := 517) (by decide +kernel), List.mem_of_getElem? (i := 689) (by decide +kernel), List.mem_of_getElem? (i := 690) (by decide +kernel)⟩
theorem lw_p53 : lw_okq (⟨"BagTreesModel", "cost", "(III)I"⟩, 16) := ⟨⟨by decide +kernel, by decide +kernel⟩, List.mem_of_getElem? (i := 517) (by decide +kernel), List.mem_of_getElem? (i := 693) (by decide +kernel), List.mem_of_getElem? (i := 694) (by decide +kernel)⟩
theorem lw_p54 : lw_okq (⟨"BagTreesModel", "sees", "(II)I"⟩, 16) := ⟨⟨by decide +kernel, by decide +kernel⟩, List.mem_of_getElem? (i := 517) (by decide +kernel), List.mem_of_getElem? (i := 697) (by decide +kernel), List.mem_of_getElem? (i := 698) (by decide +kernel)⟩
theorem lw_p55 : lw_okq (⟨"BagTreesModel", "isNext", "(IIII)Z"⟩, 16) := ⟨⟨by decide +kernel, by decide +kernel⟩, List.mem_of_getElem? (i := 517) (by decide +kernel), List.mem_of_getElem? (i := 701) (by decide +kernel), List.mem_of_getElem? (i := 702) (by decide +kernel)⟩
theorem lw_p56 : lw_okq (⟨"BagTreesModel", "colours", "(I)J"⟩, 16) := ⟨⟨by decide +kernel, by decide +kernel⟩, List.mem_of_getElem? (i := 517) (by decide +kernel), List.mem_of_getElem? (i := 718) (by decide +kernel), List.mem_of_getElem? (i := 719) (by decide +kernel)⟩
theorem lw_p57 : lw_okq (⟨"BagTreesModel", "isApart", "(I)Z"⟩, 16) := ⟨⟨by decide +kernel, by decide +kernel⟩, List.mem_of_getElem? (i := 517) (by decide +kernel), List.mem_of_getElem? (i := 722) (by decide +kernel), List.mem_of_getElem? (i := 723) (by decide +kernel)⟩
theorem lw_p58 : lw_okq (⟨"BagTreesModel", "matchings", "(Z)J"⟩, 16) := ⟨⟨by decide +kernel, by decide +kernel⟩, List.mem_of_getElem? (i := 517) (by decide +kernel), List.mem_of_getElem? (i := 726) (by decide +kernel), List.mem_of_getElem? (i := 727) (by decide +kernel)⟩
theorem lw_p59 : lw_okq (⟨"BagTreesModel", "ways", "(Z)J"⟩, 16) := ⟨⟨by decide +kernel, by decide +kernel⟩, List.mem_of_getElem? (i := 517) (by decide +kernel), List.mem_of_getElem? (i := 730) (by decide +kernel), List.mem_of_getElem? (i := 731) (by decide +kernel)⟩
theorem lw_p60 : lw_okq (⟨"BagTreesModel", "trees", "(I)J"⟩, 16) := ⟨⟨by decide +kernel, by decide +kernel⟩, List.mem_of_getElem? (i := 517) (by decide +kernel), List.mem_of_getElem? (i := 735) (by decide +kernel), List.mem_of_getElem? (i := 736) (by decide +kernel)⟩
theorem lw_p61 : lw_okq (⟨"BagTreesModel", "products", "()J"⟩, 16) := ⟨⟨by decide +kernel, by decide +kernel⟩, List.mem_of_getElem? (i := 517) (by decide +kernel), List.mem_of_getElem? (i := 740) (by decide +kernel), List.mem_of_getElem? (i := 741) (by decide +kernel)⟩
theorem lw_p62 : lw_okq (⟨"BagTreesModel", "wholes", "()J"⟩, 16) := ⟨⟨by decide +kernel, by decide +kernel⟩, List.mem_of_getElem? (i := 517) (by decide +kernel), List.mem_of_getElem? (i := 744) (by decide +kernel), List.mem_of_getElem? (i := 745) (by decide +kernel)⟩
theorem lw_p63 : lw_okq (⟨"BagTreesModel", "edgesIn", "(I)I"⟩, 16) := ⟨⟨by decide +kernel, by decide +kernel⟩, List.mem_of_getElem? (i := 517) (by decide +kernel), List.mem_of_getElem? (i := 748) (by decide +kernel), List.mem_of_getElem? (i := 749) (by decide +kernel)⟩
def lw_privs_4 : List (MethodName × Nat) := [(⟨"BagTreesModel", "isBand", "(II)Z"⟩, 16), (⟨"BagTreesModel", "layHigh", "()I"⟩, 16), (⟨"BagTreesModel", "tellHigh", "(I)V"⟩, 16), (⟨"BagTreesModel", "top", "(I)I"⟩, 16), (⟨"BagTreesModel", "tellBehind", "(I)V"⟩, 16), (⟨"BagTreesModel", "cost", "(III)I"⟩, 16), (⟨"BagTreesModel", "sees", "(II)I"⟩, 16), (⟨"BagTreesModel", "isNext", "(IIII)Z"⟩, 16), (⟨"BagTreesModel", "colours", "(I)J"⟩, 16), (⟨"BagTreesModel", "isApart", "(I)Z"⟩, 16), (⟨"BagTreesModel", "matchings", "(Z)J"⟩, 16), (⟨"BagTreesModel", "ways", "(Z)J"⟩, 16), (⟨"BagTreesModel", "trees", "(I)J"⟩, 16), (⟨"BagTreesModel", "products", "()J"⟩, 16), (⟨"BagTreesModel", "wholes", "()J"⟩, 16), (⟨"BagTreesModel", "edgesIn", "(I)I"⟩, 16)]
theorem lw_r4 : ∀ q ∈ lw_privs_4, lw_okq q := List.forall_mem_cons.mpr ⟨lw_p48, List.forall_mem_cons.mpr ⟨lw_p49, List.forall_mem_cons.mpr ⟨lw_p50, List.forall_mem_cons.mpr ⟨lw_p51, List.forall_mem_cons.mpr ⟨lw_p52, List.forall_mem_cons.mpr ⟨lw_p53, List.forall_mem_cons.mpr ⟨lw_p54, List.forall_mem_cons.mpr ⟨lw_p55, List.forall_mem_cons.mpr ⟨lw_p56, List.forall_mem_cons.mpr ⟨lw_p57, List.forall_mem_cons.mpr ⟨lw_p58, List.forall_mem_cons.mpr ⟨lw_p59, List.forall_mem_cons.mpr ⟨lw_p60, List.forall_mem_cons.mpr ⟨lw_p61, List.forall_mem_cons.mpr ⟨lw_p62, List.forall_mem_cons.mpr ⟨lw_p63, fun _ h => absurd h List.not_mem_nil⟩⟩⟩⟩⟩⟩⟩⟩⟩⟩⟩⟩⟩⟩⟩⟩
theorem lw_p64 : lw_okq (⟨"BagTreesModel", "directions", "()J"⟩, 16) := ⟨⟨by decide +kernel, by decide +kernel⟩, List.mem_of_getElem? (i := 517) (by decide +kernel), List.mem_of_getElem? (i := 752) (by decide +kernel), List.mem_of_getElem? (i := 753) (by decide +kernel)⟩
theorem lw_p65 : lw_okq (⟨"BagTreesModel", "isNearAll", "(I)Z"⟩, 16) := ⟨⟨by decide +kernel, by decide +kernel⟩, List.mem_of_getElem? (i := 517) (by decide +kernel), List.mem_of_getElem? (i := 756) (by decide +kernel), List.mem_of_getElem? (i := 757) (by decide +kernel)⟩
theorem lw_p66 : lw_okq (⟨"BagTreesModel", "seek", "(I)I"⟩, 16) := ⟨⟨by decide +kernel, by decide +kernel⟩, List.mem_of_getElem? (i := 517) (by decide +kernel), List.mem_of_getElem? (i := 764) (by decide +kernel), List.mem_of_getElem? (i := 765) (by decide +kernel)⟩
theorem lw_p67 : lw_okq (⟨"BagTreesModel", "isGood", "(II)Z"⟩, 16) := ⟨⟨by decide +kernel, by decide +kernel⟩, List.mem_of_getElem? (i := 517) (by decide +kernel), List.mem_of_getElem? (i := 768) (by decide +kernel), List.mem_of_getElem? (i := 769) (by decide +kernel)⟩
theorem lw_p68 : lw_okq (⟨"BagTreesModel", "isCover", "(I)Z"⟩, 16) := ⟨⟨by decide +kernel, by decide +kernel⟩, List.mem_of_getElem? (i := 517) (by decide +kernel), List.mem_of_getElem? (i := 772) (by decide +kernel), List.mem_of_getElem? (i := 773) (by decide +kernel)⟩
theorem lw_p69 : lw_okq (⟨"BagTreesModel", "weightOf", "(I)I"⟩, 16) := ⟨⟨by decide +kernel, by decide +kernel⟩, List.mem_of_getElem? (i := 517) (by decide +kernel), List.mem_of_getElem? (i := 776) (by decide +kernel), List.mem_of_getElem? (i := 777) (by decide +kernel)⟩
def lw_privs_5 : List (MethodName × Nat) := [(⟨"BagTreesModel", "directions", "()J"⟩, 16), (⟨"BagTreesModel", "isNearAll", "(I)Z"⟩, 16), (⟨"BagTreesModel", "seek", "(I)I"⟩, 16), (⟨"BagTreesModel", "isGood", "(II)Z"⟩, 16), (⟨"BagTreesModel", "isCover", "(I)Z"⟩, 16), (⟨"BagTreesModel", "weightOf", "(I)I"⟩, 16)]
theorem lw_r5 : ∀ q ∈ lw_privs_5, lw_okq q := List.forall_mem_cons.mpr ⟨lw_p64, List.forall_mem_cons.mpr ⟨lw_p65, List.forall_mem_cons.mpr ⟨lw_p66, List.forall_mem_cons.mpr ⟨lw_p67, List.forall_mem_cons.mpr ⟨lw_p68, List.forall_mem_cons.mpr ⟨lw_p69, fun _ h => absurd h List.not_mem_nil⟩⟩⟩⟩⟩⟩
def lw_privs : List (MethodName × Nat) := lw_privs_1 ++ (lw_privs_2 ++ (lw_privs_3 ++ (lw_privs_4 ++ (lw_privs_5))))
def lw_tbl : List Cond := k2_sels lw_privs ++ tables_1
theorem lw_privs_ok : ∀ q ∈ lw_privs, lw_okq q := by
  show ∀ q ∈ lw_privs_1 ++ (lw_privs_2 ++ (lw_privs_3 ++ (lw_privs_4 ++ (lw_privs_5)))), lw_okq q
  exact List.forall_mem_append.mpr ⟨lw_r1, List.forall_mem_append.mpr ⟨lw_r2, List.forall_mem_append.mpr ⟨lw_r3, List.forall_mem_append.mpr ⟨lw_r4, lw_r5⟩⟩⟩⟩
end
section
/-! names, fields: as the printed names have them -/
def RX0 : String := "BagTrees$Counter"
def TX0 : u_T := fun k => match k with
  | 0 => ("BagTrees$Counter", "graph", "LBagTrees$Graph;", true)
  | 1 => ("BagTrees$Counter", "row", "[J", false)
  | 2 => ("BagTrees$Counter", "spare", "[J", false)
  | _ => ("BagTrees$Counter", "arms", "[J", true)
def tyX0 : Nat → FieldType := fun k => match k with
  | 0 => .object "BagTrees$Graph"
  | 1 => .array .long
  | 2 => .array .long
  | _ => .array .long
abbrev wsX00 : List Cond := u_ws RX0 TX0 4
theorem nmX0 : ∀ a, a < 4 → ∀ b, b < 4 → a ≠ b → (TX0 a).2.1 ≠ (TX0 b).2.1 := by decide +kernel
theorem tyX0_ok : ∀ k, k < 4 → parseFieldDescriptor (TX0 k).2.2.1 = some (tyX0 k) := by decide +kernel
def RX1 : String := "BagTrees$Finder"
def TX1 : u_T := fun k => match k with
  | _ => ("BagTrees$Finder", "graph", "LBagTrees$Graph;", true)
def tyX1 : Nat → FieldType := fun k => match k with
  | _ => .object "BagTrees$Graph"
abbrev wsX10 : List Cond := u_ws RX1 TX1 1
theorem nmX1 : ∀ a, a < 1 → ∀ b, b < 1 → a ≠ b → (TX1 a).2.1 ≠ (TX1 b).2.1 := by decide +kernel
theorem tyX1_ok : ∀ k, k < 1 → parseFieldDescriptor (TX1 k).2.2.1 = some (tyX1 k) := by decide +kernel
def RX2 : String := "BagTrees$Graph"
def TX2 : u_T := fun k => match k with
  | 0 => ("BagTrees$Graph", "linked", "[I", true)
  | 1 => ("BagTrees$Graph", "weights", "[I", true)
  | 2 => ("BagTrees$Graph", "reach", "[I", true)
  | 3 => ("BagTrees$Graph", "inside", "[I", true)
  | 4 => ("BagTrees$Graph", "piece", "[I", true)
  | 5 => ("BagTrees$Graph", "vertices", "I", false)
  | 6 => ("BagTrees$Graph", "edges", "I", false)
  | 7 => ("BagTrees$Graph", "changes", "I", false)
  | _ => ("BagTrees$Graph", "changesAtRows", "I", false)
def tyX2 : Nat → FieldType := fun k => match k with
  | 0 => .array .int
  | 1 => .array .int
  | 2 => .array .int
  | 3 => .array .int
  | 4 => .array .int
  | 5 => .int
  | 6 => .int
  | 7 => .int
  | _ => .int
abbrev wsX20 : List Cond := u_ws RX2 TX2 9
theorem nmX2 : ∀ a, a < 9 → ∀ b, b < 9 → a ≠ b → (TX2 a).2.1 ≠ (TX2 b).2.1 := by decide +kernel
theorem tyX2_ok : ∀ k, k < 9 → parseFieldDescriptor (TX2 k).2.2.1 = some (tyX2 k) := by decide +kernel
def RX3 : String := "BagTrees$Heights"
def TX3 : u_T := fun k => match k with
  | 0 => ("BagTrees$Heights", "graph", "LBagTrees$Graph;", true)
  | 1 => ("BagTrees$Heights", "sees", "[I", true)
  | 2 => ("BagTrees$Heights", "height", "[I", true)
  | 3 => ("BagTrees$Heights", "below", "[I", true)
  | 4 => ("BagTrees$Heights", "reach", "[I", true)
  | _ => ("BagTrees$Heights", "least", "[I", true)
def tyX3 : Nat → FieldType := fun k => match k with
  | 0 => .object "BagTrees$Graph"
  | 1 => .array .int
  | 2 => .array .int
  | 3 => .array .int
  | 4 => .array .int
  | _ => .array .int
abbrev wsX30 : List Cond := u_ws RX3 TX3 6
theorem nmX3 : ∀ a, a < 6 → ∀ b, b < 6 → a ≠ b → (TX3 a).2.1 ≠ (TX3 b).2.1 := by decide +kernel
theorem tyX3_ok : ∀ k, k < 6 → parseFieldDescriptor (TX3 k).2.2.1 = some (tyX3 k) := by decide +kernel
def RX4 : String := "BagTrees$Orders"
def TX4 : u_T := fun k => match k with
  | 0 => ("BagTrees$Orders", "graph", "LBagTrees$Graph;", true)
  | 1 => ("BagTrees$Orders", "heights", "LBagTrees$Heights;", true)
  | 2 => ("BagTrees$Orders", "rows", "[[I", true)
  | 3 => ("BagTrees$Orders", "costs", "[I", true)
  | 4 => ("BagTrees$Orders", "least", "[I", true)
  | 5 => ("BagTrees$Orders", "settled", "I", false)
  | _ => ("BagTrees$Orders", "changesAtSettled", "I", false)
def tyX4 : Nat → FieldType := fun k => match k with
  | 0 => .object "BagTrees$Graph"
  | 1 => .object "BagTrees$Heights"
  | 2 => .array (.array .int)
  | 3 => .array .int
  | 4 => .array .int
  | 5 => .int
  | _ => .int
abbrev wsX40 : List Cond := u_ws RX4 TX4 7
theorem nmX4 : ∀ a, a < 7 → ∀ b, b < 7 → a ≠ b → (TX4 a).2.1 ≠ (TX4 b).2.1 := by decide +kernel
theorem tyX4_ok : ∀ k, k < 7 → parseFieldDescriptor (TX4 k).2.2.1 = some (tyX4 k) := by decide +kernel
def RX5 : String := "BagTrees"
def TX5 : u_T := fun k => match k with
  | 0 => ("BagTrees", "graph", "LBagTrees$Graph;", true)
  | 1 => ("BagTrees", "orders", "LBagTrees$Orders;", true)
  | 2 => ("BagTrees", "finder", "LBagTrees$Finder;", true)
  | _ => ("BagTrees", "counter", "LBagTrees$Counter;", true)
def tyX5 : Nat → FieldType := fun k => match k with
  | 0 => .object "BagTrees$Graph"
  | 1 => .object "BagTrees$Orders"
  | 2 => .object "BagTrees$Finder"
  | _ => .object "BagTrees$Counter"
abbrev wsX50 : List Cond := u_ws RX5 TX5 4
theorem nmX5 : ∀ a, a < 4 → ∀ b, b < 4 → a ≠ b → (TX5 a).2.1 ≠ (TX5 b).2.1 := by decide +kernel
theorem tyX5_ok : ∀ k, k < 4 → parseFieldDescriptor (TX5 k).2.2.1 = some (tyX5 k) := by decide +kernel
def RX6 : String := "BagTreesModel"
def TX6 : u_T := fun k => match k with
  | 0 => ("BagTreesModel", "n", "I", false)
  | 1 => ("BagTreesModel", "near", "[I", true)
  | 2 => ("BagTreesModel", "weight", "[I", true)
  | 3 => ("BagTreesModel", "edges", "I", false)
  | 4 => ("BagTreesModel", "behind", "[I", true)
  | 5 => ("BagTreesModel", "row", "[I", true)
  | 6 => ("BagTreesModel", "high", "[I", true)
  | 7 => ("BagTreesModel", "best", "[I", true)
  | 8 => ("BagTreesModel", "joined", "[I", true)
  | 9 => ("BagTreesModel", "placeOf", "[I", true)
  | 10 => ("BagTreesModel", "kept", "[I", true)
  | 11 => ("BagTreesModel", "table", "[J", true)
  | 12 => ("BagTreesModel", "other", "[J", true)
  | 13 => ("BagTreesModel", "ways", "[J", true)
  | 14 => ("BagTreesModel", "square", "[J", true)
  | _ => ("BagTreesModel", "found", "I", false)
def tyX6 : Nat → FieldType := fun k => match k with
  | 0 => .int
  | 1 => .array .int
  | 2 => .array .int
  | 3 => .int
  | 4 => .array .int
  | 5 => .array .int
  | 6 => .array .int
  | 7 => .array .int
  | 8 => .array .int
  | 9 => .array .int
  | 10 => .array .int
  | 11 => .array .long
  | 12 => .array .long
  | 13 => .array .long
  | 14 => .array .long
  | _ => .int
abbrev wsX60 : List Cond := u_ws RX6 TX6 16
theorem nmX6 : ∀ a, a < 16 → ∀ b, b < 16 → a ≠ b → (TX6 a).2.1 ≠ (TX6 b).2.1 := by decide +kernel
theorem tyX6_ok : ∀ k, k < 16 → parseFieldDescriptor (TX6 k).2.2.1 = some (tyX6 k) := by decide +kernel
abbrev vwCl : List vw_C := [(RX0, TX0, 4), (RX1, TX1, 1), (RX2, TX2, 9), (RX3, TX3, 6), (RX4, TX4, 7), (RX5, TX5, 4), (RX6, TX6, 16)]
def mv_ty (c : Nat) : Nat → FieldType := match c with
  | 0 => tyX0
  | 1 => tyX1
  | 2 => tyX2
  | 3 => tyX3
  | 4 => tyX4
  | 5 => tyX5
  | _ => tyX6
def mv_nm (c : Nat) : String := match c with
  | 0 => RX0
  | 1 => RX1
  | 2 => RX2
  | 3 => RX3
  | 4 => RX4
  | 5 => RX5
  | 6 => RX6
  | 7 => "BagTreesLaw"
  | 8 => "java/lang/Integer"
  | _ => "java/lang/Math"
/-- a field of a class: (number of the using class, index in its pool, class of the field, its place) -/
def mv_flds : List (Nat × Nat × Nat × Nat) := [(2, 9, 2, 0), (1, 21, 2, 0), (4, 106, 2, 0), (5, 85, 2, 0), (0, 105, 2, 0), (2, 15, 2, 1), (5, 65, 2, 1), (2, 18, 2, 2), (0, 83, 2, 2), (4, 97, 2, 2), (1, 60, 2, 2), (2, 21, 2, 3), (0, 79, 2, 3), (4, 103, 2, 3), (1, 51, 2, 3), (2, 24, 2, 4), (1, 63, 2, 4), (2, 31, 2, 5), (1, 15, 2, 5), (4, 40, 2, 5), (5, 39, 2, 5), (3, 35, 2, 5), (0, 93, 2, 5), (5, 55, 2, 6), (2, 34, 2, 6), (4, 100, 2, 6), (0, 129, 2, 6), (4, 52, 2, 7), (2, 37, 2, 7), (2, 27, 2, 8), (3, 27, 3, 0), (3, 9, 3, 1), (3, 15, 3, 2), (3, 18, 3, 3), (3, 21, 3, 4), (3, 24, 3, 5), (4, 27, 4, 0), (4, 36, 4, 1), (4, 11, 4, 2), (5, 97, 4, 2), (4, 16, 4, 3), (5, 94, 4, 3), (4, 20, 4, 4), (4, 55, 4, 5), (4, 23, 4, 6), (1, 9, 1, 0), (0, 21, 0, 0), (0, 9, 0, 1), (0, 15, 0, 2), (0, 18, 0, 3), (5, 12, 5, 0), (5, 21, 5, 1), (5, 28, 5, 2), (5, 35, 5, 3), (6, 50, 6, 0), (6, 7, 6, 1), (6, 13, 6, 2), (6, 58, 6, 3), (6, 16, 6, 4), (6, 19, 6, 5), (6, 22, 6, 6), (6, 25, 6, 7), (6, 28, 6, 8), (6, 31, 6, 9), (6, 34, 6, 10), (6, 37, 6, 11), (6, 41, 6, 12), (6, 44, 6, 13), (6, 47, 6, 14), (6, 182, 6, 15)]
/-- the methods: class, name, code, locals, result, kind (0 static, 1 of an object, 2 constructor), parameters -/
abbrev mv_T : Type := Nat × MethodName × ByteArray × Nat × Option FieldType × Nat × Nat
def mv_y0 : MethodName := ⟨"BagTrees", "<init>", "()V"⟩
def mv_y1 : MethodName := ⟨"BagTrees$Graph", "<init>", "()V"⟩
def mv_y2 : MethodName := ⟨"BagTrees$Orders", "<init>", "(LBagTrees$Graph;)V"⟩
def mv_y3 : MethodName := ⟨"BagTrees$Heights", "<init>", "(LBagTrees$Graph;)V"⟩
def mv_y4 : MethodName := ⟨"BagTrees$Finder", "<init>", "(LBagTrees$Graph;)V"⟩
def mv_y5 : MethodName := ⟨"BagTrees$Counter", "<init>", "(LBagTrees$Graph;)V"⟩
def mv_y6 : MethodName := ⟨"BagTrees", "begin", "(I)I"⟩
def mv_y7 : MethodName := ⟨"BagTrees$Graph", "startOver", "(I)V"⟩
def mv_y8 : MethodName := ⟨"BagTrees", "join", "(II)I"⟩
def mv_y9 : MethodName := ⟨"BagTrees$Graph", "has", "(I)Z"⟩
def mv_y10 : MethodName := ⟨"BagTrees$Graph", "areLinked", "(II)Z"⟩
def mv_y11 : MethodName := ⟨"BagTrees$Graph", "link", "(II)V"⟩
def mv_y12 : MethodName := ⟨"BagTrees", "part", "(II)I"⟩
def mv_y13 : MethodName := ⟨"BagTrees$Graph", "unlink", "(II)V"⟩
def mv_y14 : MethodName := ⟨"BagTrees", "weigh", "(II)I"⟩
def mv_y15 : MethodName := ⟨"BagTrees", "count", "(I)I"⟩
def mv_y16 : MethodName := ⟨"BagTrees$Graph", "pieces", "()I"⟩
def mv_y17 : MethodName := ⟨"BagTrees$Graph", "makeRows", "()V"⟩
def mv_y18 : MethodName := ⟨"BagTrees$Graph", "all", "()I"⟩
def mv_y19 : MethodName := ⟨"BagTrees", "lowest", "(I)I"⟩
def mv_y20 : MethodName := ⟨"java/lang/Integer", "bitCount", "(I)I"⟩
def mv_y21 : MethodName := ⟨"BagTrees$Graph", "spread", "([II)I"⟩
def mv_y22 : MethodName := ⟨"BagTrees$Finder", "mostLinks", "()I"⟩
def mv_y23 : MethodName := ⟨"BagTrees$Finder", "densestCore", "()I"⟩
def mv_y24 : MethodName := ⟨"BagTrees$Finder", "loosest", "(I)I"⟩
def mv_y25 : MethodName := ⟨"BagTrees$Finder", "holes", "()I"⟩
def mv_y26 : MethodName := ⟨"BagTrees$Finder", "isHole", "(I)Z"⟩
def mv_y27 : MethodName := ⟨"BagTrees$Graph", "hangsTogether", "(I)Z"⟩
def mv_y28 : MethodName := ⟨"BagTrees$Finder", "shortestHole", "()I"⟩
def mv_y29 : MethodName := ⟨"BagTrees", "near", "(I)I"⟩
def mv_y30 : MethodName := ⟨"BagTrees", "width", "(I)I"⟩
def mv_y31 : MethodName := ⟨"BagTrees", "isKind", "(I)Z"⟩
def mv_y32 : MethodName := ⟨"BagTrees$Orders", "settle", "(I)V"⟩
def mv_y33 : MethodName := ⟨"BagTrees$Heights", "layLeast", "([I)I"⟩
def mv_y34 : MethodName := ⟨"BagTrees$Heights", "leastBehind", "(I)I"⟩
def mv_y35 : MethodName := ⟨"BagTrees$Graph", "seesPast", "(II)I"⟩
def mv_y36 : MethodName := ⟨"BagTrees$Graph", "touched", "(II)I"⟩
def mv_y37 : MethodName := ⟨"BagTrees$Heights", "tallest", "(I)I"⟩
def mv_y38 : MethodName := ⟨"BagTrees$Heights", "leastBelow", "(I)I"⟩
def mv_y39 : MethodName := ⟨"BagTrees$Heights", "staysWithin", "(III)Z"⟩
def mv_y40 : MethodName := ⟨"BagTrees$Orders", "fillLeast", "(I)V"⟩
def mv_y41 : MethodName := ⟨"BagTrees$Orders", "costFrom", "(III)I"⟩
def mv_y42 : MethodName := ⟨"BagTrees$Orders", "ownCost", "(III)I"⟩
def mv_y43 : MethodName := ⟨"BagTrees$Orders", "layBand", "([I)I"⟩
def mv_y44 : MethodName := ⟨"BagTrees$Orders", "layBandBehind", "([IIII)Z"⟩
def mv_y45 : MethodName := ⟨"BagTrees$Orders", "hasRoom", "([IIII)Z"⟩
def mv_y46 : MethodName := ⟨"BagTrees$Orders", "layLeast", "(I[I)I"⟩
def mv_y47 : MethodName := ⟨"BagTrees", "order", "(II)I"⟩
def mv_y48 : MethodName := ⟨"BagTrees", "seen", "(II)I"⟩
def mv_y49 : MethodName := ⟨"BagTrees$Orders", "seenFrom", "(II)I"⟩
def mv_y50 : MethodName := ⟨"BagTrees", "separator", "(I)I"⟩
def mv_y51 : MethodName := ⟨"BagTrees$Finder", "separatorAt", "(I)I"⟩
def mv_y52 : MethodName := ⟨"BagTrees$Finder", "isSeparator", "(I)Z"⟩
def mv_y53 : MethodName := ⟨"BagTrees", "clique", "(I)I"⟩
def mv_y54 : MethodName := ⟨"BagTrees$Finder", "cliqueAt", "(I)I"⟩
def mv_y55 : MethodName := ⟨"BagTrees$Finder", "isClique", "(I)Z"⟩
def mv_y56 : MethodName := ⟨"BagTrees", "total", "(II)J"⟩
def mv_y57 : MethodName := ⟨"BagTrees$Counter", "tell", "(II)J"⟩
def mv_y58 : MethodName := ⟨"BagTrees$Counter", "setsApart", "()J"⟩
def mv_y59 : MethodName := ⟨"BagTrees$Counter", "colourings", "(I)J"⟩
def mv_y60 : MethodName := ⟨"BagTrees$Counter", "clearRows", "()V"⟩
def mv_y61 : MethodName := ⟨"BagTrees$Counter", "colourOneClass", "(I)V"⟩
def mv_y62 : MethodName := ⟨"BagTrees$Counter", "takeClasses", "(IJ)V"⟩
def mv_y63 : MethodName := ⟨"BagTrees$Counter", "matchings", "(Z)J"⟩
def mv_y64 : MethodName := ⟨"BagTrees$Counter", "coveringSets", "()J"⟩
def mv_y65 : MethodName := ⟨"BagTrees$Counter", "rings", "()J"⟩
def mv_y66 : MethodName := ⟨"BagTrees$Counter", "fillArms", "()V"⟩
def mv_y67 : MethodName := ⟨"BagTrees$Counter", "armsTo", "(II)J"⟩
def mv_y68 : MethodName := ⟨"BagTrees$Counter", "waysThrough", "()J"⟩
def mv_y69 : MethodName := ⟨"BagTrees$Counter", "trees", "()J"⟩
def mv_y70 : MethodName := ⟨"BagTrees$Counter", "treesOn", "(I)J"⟩
def mv_y71 : MethodName := ⟨"BagTrees$Counter", "forests", "()J"⟩
def mv_y72 : MethodName := ⟨"BagTrees$Counter", "joiningEdgeSets", "()J"⟩
def mv_y73 : MethodName := ⟨"BagTrees$Counter", "edgeCovers", "()J"⟩
def mv_y74 : MethodName := ⟨"BagTrees$Counter", "setsTogether", "()J"⟩
def mv_y75 : MethodName := ⟨"BagTrees$Counter", "evenEdgeSets", "()J"⟩
def mv_y76 : MethodName := ⟨"BagTrees", "best", "(I)I"⟩
def mv_y77 : MethodName := ⟨"BagTrees$Finder", "bestSet", "(I)I"⟩
def mv_y78 : MethodName := ⟨"BagTrees$Finder", "isSuch", "(II)Z"⟩
def mv_y79 : MethodName := ⟨"BagTrees$Graph", "weightOf", "(I)I"⟩
def mv_y80 : MethodName := ⟨"BagTrees", "which", "(I)I"⟩
def mv_y81 : MethodName := ⟨"BagTrees", "fewest", "(I)I"⟩
def mv_y82 : MethodName := ⟨"BagTrees$Finder", "fewestJoining", "(I)I"⟩
def mv_y83 : MethodName := ⟨"BagTreesModel", "<init>", "()V"⟩
def mv_y84 : MethodName := ⟨"BagTreesModel", "begin", "(I)I"⟩
def mv_y85 : MethodName := ⟨"BagTreesModel", "isIn", "(III)Z"⟩
def mv_y86 : MethodName := ⟨"BagTreesModel", "join", "(II)I"⟩
def mv_y87 : MethodName := ⟨"BagTreesModel", "isVertex", "(I)Z"⟩
def mv_y88 : MethodName := ⟨"BagTreesModel", "isEdge", "(II)Z"⟩
def mv_y89 : MethodName := ⟨"BagTreesModel", "part", "(II)I"⟩
def mv_y90 : MethodName := ⟨"BagTreesModel", "weigh", "(II)I"⟩
def mv_y91 : MethodName := ⟨"BagTreesModel", "near", "(I)I"⟩
def mv_y92 : MethodName := ⟨"BagTreesModel", "count", "(I)I"⟩
def mv_y93 : MethodName := ⟨"BagTreesModel", "all", "()I"⟩
def mv_y94 : MethodName := ⟨"BagTreesModel", "parts", "(I)I"⟩
def mv_y95 : MethodName := ⟨"BagTreesModel", "lowest", "(I)I"⟩
def mv_y96 : MethodName := ⟨"BagTreesModel", "hang", "(II)I"⟩
def mv_y97 : MethodName := ⟨"BagTreesModel", "ones", "(I)I"⟩
def mv_y98 : MethodName := ⟨"BagTreesModel", "leastDegree", "(I)I"⟩
def mv_y99 : MethodName := ⟨"BagTreesModel", "isHole", "(I)Z"⟩
def mv_y100 : MethodName := ⟨"BagTreesModel", "isWhole", "(I)Z"⟩
def mv_y101 : MethodName := ⟨"BagTreesModel", "separator", "(I)I"⟩
def mv_y102 : MethodName := ⟨"BagTreesModel", "isSeparator", "(I)Z"⟩
def mv_y103 : MethodName := ⟨"BagTreesModel", "around", "(I)I"⟩
def mv_y104 : MethodName := ⟨"BagTreesModel", "clique", "(I)I"⟩
def mv_y105 : MethodName := ⟨"BagTreesModel", "isClique", "(I)Z"⟩
def mv_y106 : MethodName := ⟨"BagTreesModel", "width", "(I)I"⟩
def mv_y107 : MethodName := ⟨"BagTreesModel", "lay", "(I)I"⟩
def mv_y108 : MethodName := ⟨"BagTreesModel", "layBand", "()I"⟩
def mv_y109 : MethodName := ⟨"BagTreesModel", "stands", "(II)Z"⟩
def mv_y110 : MethodName := ⟨"BagTreesModel", "isBand", "(II)Z"⟩
def mv_y111 : MethodName := ⟨"BagTreesModel", "layHigh", "()I"⟩
def mv_y112 : MethodName := ⟨"BagTreesModel", "tellHigh", "(I)V"⟩
def mv_y113 : MethodName := ⟨"BagTreesModel", "top", "(I)I"⟩
def mv_y114 : MethodName := ⟨"BagTreesModel", "tellBehind", "(I)V"⟩
def mv_y115 : MethodName := ⟨"BagTreesModel", "cost", "(III)I"⟩
def mv_y116 : MethodName := ⟨"BagTreesModel", "sees", "(II)I"⟩
def mv_y117 : MethodName := ⟨"BagTreesModel", "isNext", "(IIII)Z"⟩
def mv_y118 : MethodName := ⟨"BagTreesModel", "order", "(II)I"⟩
def mv_y119 : MethodName := ⟨"BagTreesModel", "seen", "(II)I"⟩
def mv_y120 : MethodName := ⟨"BagTreesModel", "total", "(II)J"⟩
def mv_y121 : MethodName := ⟨"BagTreesModel", "colours", "(I)J"⟩
def mv_y122 : MethodName := ⟨"BagTreesModel", "isApart", "(I)Z"⟩
def mv_y123 : MethodName := ⟨"BagTreesModel", "matchings", "(Z)J"⟩
def mv_y124 : MethodName := ⟨"BagTreesModel", "ways", "(Z)J"⟩
def mv_y125 : MethodName := ⟨"BagTreesModel", "trees", "(I)J"⟩
def mv_y126 : MethodName := ⟨"BagTreesModel", "products", "()J"⟩
def mv_y127 : MethodName := ⟨"BagTreesModel", "wholes", "()J"⟩
def mv_y128 : MethodName := ⟨"BagTreesModel", "edgesIn", "(I)I"⟩
def mv_y129 : MethodName := ⟨"BagTreesModel", "directions", "()J"⟩
def mv_y130 : MethodName := ⟨"BagTreesModel", "isNearAll", "(I)Z"⟩
def mv_y131 : MethodName := ⟨"BagTreesModel", "best", "(I)I"⟩
def mv_y132 : MethodName := ⟨"BagTreesModel", "seek", "(I)I"⟩
def mv_y133 : MethodName := ⟨"BagTreesModel", "isGood", "(II)Z"⟩
def mv_y134 : MethodName := ⟨"BagTreesModel", "isCover", "(I)Z"⟩
def mv_y135 : MethodName := ⟨"BagTreesModel", "weightOf", "(I)I"⟩
def mv_y136 : MethodName := ⟨"BagTreesModel", "which", "(I)I"⟩
def mv_y137 : MethodName := ⟨"BagTreesModel", "fewest", "(I)I"⟩
def mv_prog_0 : List mv_T := [(5, mv_y0, prog_1_method_1_code, 1, none, 2, 0), (2, mv_y1, prog_4_method_1_code, 1, none, 2, 0), (4, mv_y2, prog_6_method_1_code, 2, none, 2, 1), (3, mv_y3, prog_5_method_1_code, 2, none, 2, 1), (1, mv_y4, prog_3_method_1_code, 2, none, 2, 1), (0, mv_y5, prog_2_method_1_code, 2, none, 2, 1), (5, mv_y6, prog_1_method_2_code, 3, (some .int), 1, 1), (2, mv_y7, prog_4_method_4_code, 3, none, 1, 1), (5, mv_y8, prog_1_method_3_code, 3, (some .int), 1, 2), (2, mv_y9, prog_4_method_3_code, 2, (some .boolean), 1, 1), (2, mv_y10, prog_4_method_5_code, 3, (some .boolean), 1, 2), (2, mv_y11, prog_4_method_6_code, 3, none, 1, 2), (5, mv_y12, prog_1_method_4_code, 3, (some .int), 1, 2), (2, mv_y13, prog_4_method_7_code, 3, none, 1, 2), (5, mv_y14, prog_1_method_5_code, 4, (some .int), 1, 2), (5, mv_y15, prog_1_method_6_code, 2, (some .int), 1, 1), (2, mv_y16, prog_4_method_11_code, 3, (some .int), 1, 0), (2, mv_y17, prog_4_method_9_code, 5, none, 1, 0), (2, mv_y18, prog_4_method_2_code, 1, (some .int), 1, 0), (5, mv_y19, prog_1_method_18_code, 1, (some .int), 0, 1)]
def mv_prog_1 : List mv_T := [(8, mv_y20, prog_9_method_49_code, 1, (some .int), 0, 1), (2, mv_y21, prog_4_method_10_code, 5, (some .int), 0, 2), (1, mv_y22, prog_3_method_2_code, 3, (some .int), 1, 0), (1, mv_y23, prog_3_method_3_code, 5, (some .int), 1, 0), (1, mv_y24, prog_3_method_4_code, 6, (some .int), 1, 1), (1, mv_y25, prog_3_method_5_code, 4, (some .int), 1, 0), (1, mv_y26, prog_3_method_7_code, 4, (some .boolean), 1, 1), (2, mv_y27, prog_4_method_12_code, 2, (some .boolean), 1, 1), (1, mv_y28, prog_3_method_6_code, 4, (some .int), 1, 0), (5, mv_y29, prog_1_method_7_code, 2, (some .int), 1, 1), (5, mv_y30, prog_1_method_8_code, 2, (some .int), 1, 1), (5, mv_y31, prog_1_method_17_code, 1, (some .boolean), 0, 1), (4, mv_y32, prog_6_method_3_code, 2, none, 1, 1), (3, mv_y33, prog_5_method_2_code, 6, (some .int), 1, 1), (3, mv_y34, prog_5_method_5_code, 7, (some .int), 1, 1), (2, mv_y35, prog_4_method_14_code, 3, (some .int), 1, 2), (2, mv_y36, prog_4_method_13_code, 5, (some .int), 1, 2), (3, mv_y37, prog_5_method_4_code, 4, (some .int), 1, 1), (3, mv_y38, prog_5_method_6_code, 4, (some .int), 1, 1), (3, mv_y39, prog_5_method_3_code, 4, (some .boolean), 1, 3)]
def mv_prog_2 : List mv_T := [(4, mv_y40, prog_6_method_4_code, 6, none, 1, 1), (4, mv_y41, prog_6_method_5_code, 6, (some .int), 1, 3), (4, mv_y42, prog_6_method_6_code, 6, (some .int), 1, 3), (4, mv_y43, prog_6_method_8_code, 3, (some .int), 1, 1), (4, mv_y44, prog_6_method_9_code, 7, (some .boolean), 1, 4), (4, mv_y45, prog_6_method_10_code, 7, (some .boolean), 1, 4), (4, mv_y46, prog_6_method_7_code, 7, (some .int), 1, 2), (5, mv_y47, prog_1_method_9_code, 3, (some .int), 1, 2), (5, mv_y48, prog_1_method_10_code, 3, (some .int), 1, 2), (4, mv_y49, prog_6_method_2_code, 5, (some .int), 1, 2), (5, mv_y50, prog_1_method_11_code, 2, (some .int), 1, 1), (1, mv_y51, prog_3_method_8_code, 5, (some .int), 1, 1), (1, mv_y52, prog_3_method_9_code, 4, (some .boolean), 1, 1), (5, mv_y53, prog_1_method_12_code, 2, (some .int), 1, 1), (1, mv_y54, prog_3_method_10_code, 5, (some .int), 1, 1), (1, mv_y55, prog_3_method_11_code, 4, (some .boolean), 1, 1), (5, mv_y56, prog_1_method_13_code, 3, (some .long), 1, 2), (0, mv_y57, prog_2_method_2_code, 3, (some .long), 1, 2), (0, mv_y58, prog_2_method_3_code, 5, (some .long), 1, 0), (0, mv_y59, prog_2_method_6_code, 5, (some .long), 1, 1)]
def mv_prog_3 : List mv_T := [(0, mv_y60, prog_2_method_7_code, 3, none, 1, 0), (0, mv_y61, prog_2_method_8_code, 4, none, 1, 1), (0, mv_y62, prog_2_method_9_code, 7, none, 1, 2), (0, mv_y63, prog_2_method_10_code, 8, (some .long), 1, 1), (0, mv_y64, prog_2_method_4_code, 5, (some .long), 1, 0), (0, mv_y65, prog_2_method_11_code, 3, (some .long), 1, 0), (0, mv_y66, prog_2_method_13_code, 8, none, 1, 0), (0, mv_y67, prog_2_method_14_code, 6, (some .long), 1, 2), (0, mv_y68, prog_2_method_12_code, 5, (some .long), 1, 0), (0, mv_y69, prog_2_method_15_code, 3, (some .long), 1, 0), (0, mv_y70, prog_2_method_16_code, 10, (some .long), 1, 1), (0, mv_y71, prog_2_method_17_code, 7, (some .long), 1, 0), (0, mv_y72, prog_2_method_18_code, 7, (some .long), 1, 0), (0, mv_y73, prog_2_method_19_code, 7, (some .long), 1, 0), (0, mv_y74, prog_2_method_5_code, 5, (some .long), 1, 0), (0, mv_y75, prog_2_method_20_code, 1, (some .long), 1, 0), (5, mv_y76, prog_1_method_14_code, 3, (some .int), 1, 1), (1, mv_y77, prog_3_method_12_code, 8, (some .int), 1, 1), (1, mv_y78, prog_3_method_13_code, 4, (some .boolean), 1, 2), (2, mv_y79, prog_4_method_8_code, 4, (some .int), 1, 1)]
def mv_prog_4 : List mv_T := [(5, mv_y80, prog_1_method_15_code, 2, (some .int), 1, 1), (5, mv_y81, prog_1_method_16_code, 2, (some .int), 1, 1), (1, mv_y82, prog_3_method_14_code, 6, (some .int), 1, 1), (6, mv_y83, prog_8_method_1_code, 1, none, 2, 0), (6, mv_y84, prog_8_method_6_code, 4, (some .int), 1, 1), (6, mv_y85, prog_8_method_2_code, 3, (some .boolean), 0, 3), (6, mv_y86, prog_8_method_9_code, 3, (some .int), 1, 2), (6, mv_y87, prog_8_method_7_code, 2, (some .boolean), 1, 1), (6, mv_y88, prog_8_method_8_code, 3, (some .boolean), 1, 2), (6, mv_y89, prog_8_method_10_code, 3, (some .int), 1, 2), (6, mv_y90, prog_8_method_11_code, 4, (some .int), 1, 2), (6, mv_y91, prog_8_method_24_code, 2, (some .int), 1, 1), (6, mv_y92, prog_8_method_26_code, 5, (some .int), 1, 1), (6, mv_y93, prog_8_method_5_code, 1, (some .int), 1, 0), (6, mv_y94, prog_8_method_23_code, 4, (some .int), 1, 1), (6, mv_y95, prog_8_method_4_code, 2, (some .int), 0, 1), (6, mv_y96, prog_8_method_12_code, 7, (some .int), 1, 2), (6, mv_y97, prog_8_method_3_code, 3, (some .int), 0, 1), (6, mv_y98, prog_8_method_25_code, 5, (some .int), 1, 1), (6, mv_y99, prog_8_method_19_code, 4, (some .boolean), 1, 1)]
def mv_prog_5 : List mv_T := [(6, mv_y100, prog_8_method_13_code, 2, (some .boolean), 1, 1), (6, mv_y101, prog_8_method_27_code, 4, (some .int), 1, 1), (6, mv_y102, prog_8_method_20_code, 6, (some .boolean), 1, 1), (6, mv_y103, prog_8_method_14_code, 4, (some .int), 1, 1), (6, mv_y104, prog_8_method_28_code, 4, (some .int), 1, 1), (6, mv_y105, prog_8_method_18_code, 5, (some .boolean), 1, 1), (6, mv_y106, prog_8_method_40_code, 2, (some .int), 1, 1), (6, mv_y107, prog_8_method_32_code, 7, (some .int), 1, 1), (6, mv_y108, prog_8_method_35_code, 3, (some .int), 1, 0), (6, mv_y109, prog_8_method_36_code, 5, (some .boolean), 1, 2), (6, mv_y110, prog_8_method_34_code, 7, (some .boolean), 1, 2), (6, mv_y111, prog_8_method_39_code, 10, (some .int), 1, 0), (6, mv_y112, prog_8_method_37_code, 6, none, 1, 1), (6, mv_y113, prog_8_method_38_code, 7, (some .int), 1, 1), (6, mv_y114, prog_8_method_31_code, 8, none, 1, 1), (6, mv_y115, prog_8_method_30_code, 8, (some .int), 1, 3), (6, mv_y116, prog_8_method_29_code, 3, (some .int), 1, 2), (6, mv_y117, prog_8_method_33_code, 7, (some .boolean), 1, 4), (6, mv_y118, prog_8_method_41_code, 3, (some .int), 1, 2), (6, mv_y119, prog_8_method_42_code, 5, (some .int), 1, 2)]
def mv_prog_6 : List mv_T := [(6, mv_y120, prog_8_method_50_code, 6, (some .long), 1, 2), (6, mv_y121, prog_8_method_45_code, 11, (some .long), 1, 1), (6, mv_y122, prog_8_method_15_code, 4, (some .boolean), 1, 1), (6, mv_y123, prog_8_method_46_code, 8, (some .long), 1, 1), (6, mv_y124, prog_8_method_47_code, 9, (some .long), 1, 1), (6, mv_y125, prog_8_method_43_code, 11, (some .long), 1, 1), (6, mv_y126, prog_8_method_44_code, 6, (some .long), 1, 0), (6, mv_y127, prog_8_method_48_code, 6, (some .long), 1, 0), (6, mv_y128, prog_8_method_21_code, 4, (some .int), 1, 1), (6, mv_y129, prog_8_method_49_code, 5, (some .long), 1, 0), (6, mv_y130, prog_8_method_17_code, 2, (some .boolean), 1, 1), (6, mv_y131, prog_8_method_53_code, 2, (some .int), 1, 1), (6, mv_y132, prog_8_method_52_code, 6, (some .int), 1, 1), (6, mv_y133, prog_8_method_51_code, 3, (some .boolean), 1, 2), (6, mv_y134, prog_8_method_16_code, 2, (some .boolean), 1, 1), (6, mv_y135, prog_8_method_22_code, 4, (some .int), 1, 1), (6, mv_y136, prog_8_method_54_code, 2, (some .int), 1, 1), (6, mv_y137, prog_8_method_55_code, 5, (some .int), 1, 1)]
def mv_prog : List mv_T := mv_prog_0 ++ (mv_prog_1 ++ (mv_prog_2 ++ (mv_prog_3 ++ (mv_prog_4 ++ (mv_prog_5 ++ (mv_prog_6))))))
def mv_mths : List (Nat × Nat × Nat) := [(7, 9, 0), (5, 18, 2), (4, 33, 3), (5, 27, 4), (5, 34, 5), (7, 13, 6), (5, 43, 7), (7, 18, 8), (5, 47, 9), (5, 51, 10), (5, 58, 11), (7, 23, 12), (5, 62, 13), (7, 27, 14), (7, 31, 15), (5, 69, 16), (2, 57, 17), (2, 40, 18), (5, 130, 20), (2, 48, 20), (2, 53, 21), (5, 73, 22), (1, 25, 20), (5, 76, 23), (1, 37, 18), (1, 41, 24), (5, 79, 25), (1, 44, 17), (1, 47, 26), (1, 54, 27), (5, 82, 28), (7, 35, 29), (7, 39, 30), (5, 88, 31), (5, 91, 32), (4, 49, 17), (4, 58, 33), (3, 31, 34), (3, 57, 18), (3, 61, 35), (2, 60, 36), (3, 45, 36), (3, 49, 37), (3, 64, 20), (3, 72, 21), (3, 76, 38), (3, 41, 39), (4, 62, 40), (4, 72, 18), (4, 76, 41), (4, 85, 42), (4, 45, 35), (4, 91, 20), (4, 66, 43), (4, 109, 44), (4, 113, 45), (4, 69, 46), (7, 43, 47), (7, 47, 48), (5, 101, 49), (7, 51, 50), (5, 105, 51), (1, 57, 52), (7, 55, 53), (5, 109, 54), (1, 66, 55), (7, 59, 56), (5, 114, 57), (0, 25, 17), (0, 30, 58), (0, 75, 18), (0, 34, 59), (0, 90, 60), (0, 97, 61), (0, 101, 62), (0, 38, 63), (0, 42, 64), (0, 45, 65), (0, 112, 66), (0, 115, 67), (0, 48, 68), (0, 51, 69), (0, 86, 27), (0, 121, 70), (0, 124, 20), (0, 54, 71), (0, 57, 72), (0, 66, 73), (0, 69, 74), (0, 72, 75), (0, 132, 16), (7, 64, 76), (5, 118, 77), (1, 69, 78), (1, 73, 79), (5, 121, 79), (7, 68, 80), (7, 72, 81), (5, 124, 18), (5, 127, 82), (7, 12, 83), (7, 17, 84), (6, 54, 85), (7, 22, 86), (6, 61, 87), (6, 65, 88), (7, 26, 89), (7, 30, 90), (7, 38, 91), (7, 34, 92), (6, 77, 93), (6, 93, 94), (6, 69, 95), (6, 73, 96), (6, 87, 97), (6, 96, 98), (6, 99, 99), (6, 90, 100), (7, 54, 101), (6, 102, 102), (6, 84, 103), (7, 58, 104), (6, 105, 105), (7, 42, 106), (6, 141, 107), (6, 115, 108), (6, 129, 109), (6, 132, 110), (6, 118, 111), (6, 138, 112), (6, 135, 113), (6, 121, 114), (6, 111, 115), (6, 108, 116), (6, 125, 117), (7, 46, 118), (7, 50, 119), (7, 63, 120), (6, 153, 121), (6, 81, 122), (6, 157, 123), (6, 161, 124), (6, 163, 125), (6, 166, 126), (6, 170, 127), (6, 148, 128), (6, 173, 129), (6, 176, 130), (7, 67, 131), (6, 191, 132), (6, 185, 133), (6, 179, 134), (6, 188, 135), (7, 71, 136), (7, 75, 137)]
def mv_nest : List (Nat × Nat × Nat) := [(5, 11, 1), (2, 44, 19), (3, 69, 19), (0, 108, 19)]
def mv_news : List (Nat × Nat × Nat) := [(7, 7, 5), (5, 9, 2), (5, 16, 4), (4, 31, 3), (5, 25, 1), (5, 32, 0), (7, 10, 6)]
def mv_ldcs : List (Nat × Nat × Int32) := [(8, 265, 1431655765), (8, 266, 858993459), (8, 267, 252645135)]
def mv_ldc2 : List (Nat × Nat × Int64) := [(5, 112, -2), (0, 119, 2), (6, 151, -2), (6, 146, 2), (6, 144, -1)]
def mv_objs : List (Nat × Nat) := [(5, 3), (2, 3), (4, 3), (3, 3), (1, 3), (0, 3), (6, 1)]
def mv_maths : List (Nat × Nat × Nat) := [(1, 31, 0), (3, 52, 0), (3, 79, 1), (4, 88, 0), (4, 80, 1), (0, 60, 2)]
def mv_mn (k : Nat) : MethodName := match k with
  | 0 => Lib.Math.max.name
  | 1 => Lib.Math.min.name
  | _ => Lib.MathLoose.abs_long.x
def mv_Ts8 : List Cond := mv_maths.map (fun f => Cond.methodLink (mv_nm f.1) f.2.1 (mv_mn f.2.2)) ++ [Cond.static Lib.Math.max.name, Cond.static Lib.Math.min.name, Cond.static Lib.MathLoose.abs_long.x]
def mv_Ts9 : List Cond := [Cond.code Lib.Math.max.name Lib.Math.max.code 2 (some .int), Cond.code Lib.Math.min.name Lib.Math.min.code 2 (some .int), Cond.code Lib.MathLoose.abs_long.x Lib.MathLoose.abs_long.code 2 (some .long)]
def mv_cl (c : Nat) : vw_C := vwCl.getD c (RX6, TX6, 16)
def mv_y (j : Nat) : MethodName := match mv_prog[j]? with
  | some M => M.2.1
  | none => mv_y0
def mv_kw (M : mv_T) : List Cond := match M.2.2.2.2.2.1 with
  | 0 => [.static M.2.1]
  | 1 => [.instanceMethod M.2.1, .selects (mv_nm M.1) M.2.1 M.2.1]
  | _ => [.instanceMethod M.2.1]
/-- all words that the methods rest on, but the two lists of 'arrayClass' and the nest links -/
def mv_Ts1 : List Cond := mv_flds.map (fun f => Cond.fieldLink (mv_nm f.1) f.2.1 ((mv_cl f.2.2.1).2.1 f.2.2.2).1 ((mv_cl f.2.2.1).2.1 f.2.2.2).2.1 ((mv_cl f.2.2.1).2.1 f.2.2.2).2.2.1)
def mv_Ts2 : List Cond := mv_mths.map (fun f => Cond.methodLink (mv_nm f.1) f.2.1 (mv_y f.2.2))
def mv_Ts3 : List Cond := mv_prog.map (fun M => Cond.code M.2.1 M.2.2.1 M.2.2.2.1 M.2.2.2.2.1)
def mv_Ts4 : List Cond := mv_prog.flatMap mv_kw
def mv_Ts5 : List Cond := mv_news.map (fun f => Cond.classLink (mv_nm f.1) f.2.1 (mv_nm f.2.2)) ++ (List.range 7).map (fun c => Cond.instantiable (mv_nm c) (mv_cl c).2.2) ++ (List.range 10).map (fun c => Cond.initialized (mv_nm c)) ++ mv_ldcs.map (fun f => Cond.constant (mv_nm f.1) f.2.1 f.2.2) ++ mv_ldc2.map (fun f => Cond.constantLong (mv_nm f.1) f.2.1 f.2.2) ++ mv_objs.map (fun f => Cond.methodLink (mv_nm f.1) f.2 objectInit) ++ [Cond.instanceMethod objectInit, Cond.arrayClass .int, Cond.arrayClass .long, Cond.classLink "BagTrees$Orders" 9 "[[I"]
def mv_Ts6 : List Cond := vwCl.flatMap (fun q => u_ws q.1 q.2.1 q.2.2)
def mv_Ts7 : List Cond := [Cond.code objectInit ⟨#[0xb1]⟩ 1 none]
def mv_Ts : List Cond := mv_Ts1 ++ (mv_Ts2 ++ (mv_Ts3 ++ (mv_Ts4 ++ (mv_Ts5 ++ (mv_Ts6 ++ (mv_Ts7 ++ (mv_Ts8 ++ mv_Ts9)))))))
set_option maxRecDepth 100000 in
theorem mv_in1 : ∀ w ∈ mv_Ts1, w ∈ lw_tbl := by
  have h : mv_Ts1 = ([94, 95, 96, 97, 98, 99, 100, 101, 102, 103, 104, 105, 106, 107, 108, 109, 110, 111, 112, 113, 114, 115, 116, 117, 118, 119, 120, 121, 122, 123, 158, 159, 160, 161, 162, 163, 177, 178, 179, 180, 181, 182, 183, 184, 185, 207, 217, 218, 219, 220, 231, 232, 233, 234, 592, 593, 594, 595, 596, 597, 598, 599, 600, 601, 602, 603, 604, 605, 606, 607] : List Nat).filterMap (fun i => lw_tbl[i]?) := by rfl
  intro w hw
  rw [h] at hw
  obtain ⟨i, -, hi⟩ := List.mem_filterMap.mp hw
  exact List.mem_of_getElem? hi
set_option maxRecDepth 100000 in
theorem mv_ok1 : mv_Ts1.all goodWord = true := by decide +kernel
set_option maxRecDepth 100000 in
theorem mv_in2 : ∀ w ∈ mv_Ts2, w ∈ lw_tbl := by
  have h : mv_Ts2 = ([82, 146, 154, 203, 213, 244, 248, 252, 256, 260, 264, 268, 272, 276, 280, 284, 288, 292, 299, 305, 306, 309, 313, 317, 321, 322, 326, 330, 331, 335, 339, 343, 347, 351, 354, 358, 359, 363, 367, 368, 372, 376, 377, 382, 384, 385, 392, 396, 400, 401, 405, 409, 410, 413, 417, 421, 425, 429, 433, 437, 441, 445, 449, 453, 457, 461, 465, 470, 474, 475, 479, 480, 484, 488, 492, 497, 501, 505, 509, 513, 518, 522, 526, 527, 531, 532, 536, 543, 547, 551, 555, 556, 560, 564, 568, 572, 573, 577, 581, 582, 588, 641, 645, 648, 652, 656, 660, 664, 668, 672, 676, 680, 684, 687, 691, 694, 698, 702, 706, 710, 714, 718, 722, 726, 730, 734, 738, 742, 746, 750, 754, 758, 762, 766, 770, 774, 778, 782, 787, 791, 795, 799, 804, 809, 813, 817, 821, 825, 829, 833, 837, 841, 845, 849, 853] : List Nat).filterMap (fun i => lw_tbl[i]?) := by rfl
  intro w hw
  rw [h] at hw
  obtain ⟨i, -, hi⟩ := List.mem_filterMap.mp hw
  exact List.mem_of_getElem? hi
set_option maxRecDepth 100000 in
theorem mv_ok2 : mv_Ts2.all goodWord = true := by decide +kernel
set_option maxRecDepth 100000 in
theorem mv_in3 : ∀ w ∈ mv_Ts3, w ∈ lw_tbl := by
  have h : mv_Ts3 = ([84, 92, 148, 156, 205, 215, 247, 251, 255, 259, 263, 267, 271, 275, 279, 283, 287, 291, 295, 298, 301, 308, 312, 320, 325, 329, 334, 338, 342, 346, 350, 353, 357, 362, 366, 371, 375, 380, 388, 395, 399, 404, 408, 416, 420, 424, 428, 432, 436, 440, 444, 448, 452, 456, 460, 464, 468, 473, 478, 483, 487, 491, 495, 500, 504, 508, 512, 516, 521, 525, 530, 535, 539, 546, 550, 554, 559, 563, 567, 571, 576, 580, 585, 590, 644, 647, 651, 655, 659, 663, 667, 671, 675, 679, 683, 686, 690, 693, 697, 701, 705, 709, 713, 717, 721, 725, 729, 733, 737, 741, 745, 749, 753, 757, 761, 765, 769, 773, 777, 781, 785, 790, 794, 798, 802, 807, 812, 816, 820, 824, 828, 832, 836, 840, 844, 848, 852, 856] : List Nat).filterMap (fun i => lw_tbl[i]?) := by rfl
  intro w hw
  rw [h] at hw
  obtain ⟨i, -, hi⟩ := List.mem_filterMap.mp hw
  exact List.mem_of_getElem? hi
set_option maxRecDepth 100000 in
theorem mv_ok3 : mv_Ts3.all goodWord = true := by decide +kernel
set_option maxRecDepth 100000 in
theorem mv_in4 : ∀ w ∈ mv_Ts4, w ∈ lw_tbl := by
  have h : mv_Ts4 = ([83, 91, 147, 155, 204, 214, 245, 246, 249, 250, 253, 254, 257, 258, 261, 262, 265, 266, 269, 270, 273, 274, 277, 278, 281, 282, 285, 286, 289, 290, 293, 294, 297, 300, 307, 310, 311, 318, 319, 324, 0, 327, 328, 333, 1, 336, 337, 340, 341, 344, 345, 348, 349, 352, 355, 356, 360, 361, 365, 2, 369, 370, 373, 374, 379, 3, 387, 4, 394, 5, 398, 6, 403, 7, 407, 8, 415, 9, 419, 10, 423, 11, 427, 12, 430, 431, 434, 435, 438, 439, 442, 443, 446, 447, 451, 13, 454, 455, 458, 459, 463, 14, 466, 467, 471, 472, 477, 15, 482, 16, 486, 17, 490, 18, 494, 19, 499, 20, 503, 21, 507, 22, 511, 23, 515, 24, 520, 25, 524, 26, 529, 27, 534, 28, 538, 29, 545, 30, 549, 31, 553, 32, 557, 558, 561, 562, 566, 33, 569, 570, 574, 575, 578, 579, 583, 584, 589, 642, 643, 646, 649, 650, 654, 34, 658, 35, 661, 662, 665, 666, 669, 670, 673, 674, 678, 36, 682, 37, 685, 689, 38, 692, 696, 39, 700, 40, 704, 41, 707, 708, 712, 42, 716, 43, 719, 720, 724, 44, 727, 728, 732, 45, 736, 46, 740, 47, 744, 48, 748, 49, 752, 50, 756, 51, 760, 52, 764, 53, 768, 54, 772, 55, 775, 776, 779, 780, 783, 784, 789, 56, 793, 57, 797, 58, 801, 59, 806, 60, 811, 61, 815, 62, 819, 63, 823, 64, 827, 65, 830, 831, 835, 66, 839, 67, 843, 68, 847, 69, 850, 851, 854, 855] : List Nat).filterMap (fun i => lw_tbl[i]?) := by rfl
  intro w hw
  rw [h] at hw
  obtain ⟨i, -, hi⟩ := List.mem_filterMap.mp hw
  exact List.mem_of_getElem? hi
set_option maxRecDepth 100000 in
theorem mv_ok4 : mv_Ts4.all goodWord = true := by decide +kernel
set_option maxRecDepth 100000 in
theorem mv_in5 : ∀ w ∈ mv_Ts5, w ∈ lw_tbl := by
  have h : mv_Ts5 = ([80, 88, 144, 152, 201, 211, 586, 212, 202, 89, 153, 145, 81, 587, 76, 75, 72, 74, 73, 71, 77, 70, 78, 79, 302, 303, 304, 469, 517, 786, 803, 808, 85, 93, 149, 157, 206, 216, 591, 86, 143, 230, 150] : List Nat).filterMap (fun i => lw_tbl[i]?) := by rfl
  intro w hw
  rw [h] at hw
  obtain ⟨i, -, hi⟩ := List.mem_filterMap.mp hw
  exact List.mem_of_getElem? hi
set_option maxRecDepth 100000 in
theorem mv_ok5 : mv_Ts5.all goodWord = true := by decide +kernel
set_option maxRecDepth 100000 in
theorem mv_in6 : ∀ w ∈ mv_Ts6, w ∈ lw_tbl := by
  have h : mv_Ts6 = ([221, 223, 225, 227, 208, 124, 126, 128, 130, 132, 134, 136, 138, 140, 164, 166, 168, 170, 172, 174, 186, 188, 190, 192, 194, 196, 198, 235, 237, 239, 241, 608, 610, 612, 614, 616, 618, 620, 622, 624, 626, 628, 630, 632, 634, 636, 638] : List Nat).filterMap (fun i => lw_tbl[i]?) := by rfl
  intro w hw
  rw [h] at hw
  obtain ⟨i, -, hi⟩ := List.mem_filterMap.mp hw
  exact List.mem_of_getElem? hi
set_option maxRecDepth 100000 in
theorem mv_ok6 : mv_Ts6.all goodWord = true := by decide +kernel
set_option maxRecDepth 100000 in
theorem mv_in7 : ∀ w ∈ mv_Ts7, w ∈ lw_tbl := by
  have h : mv_Ts7 = ([87] : List Nat).filterMap (fun i => lw_tbl[i]?) := by rfl
  intro w hw
  rw [h] at hw
  obtain ⟨i, -, hi⟩ := List.mem_filterMap.mp hw
  exact List.mem_of_getElem? hi
set_option maxRecDepth 100000 in
theorem mv_ok7 : mv_Ts7.all goodWord = true := by decide +kernel
set_option maxRecDepth 100000 in
theorem mv_in8 : ∀ w ∈ mv_Ts8, w ∈ lw_tbl := by
  have h : mv_Ts8 = ([314, 381, 389, 411, 412, 540, 315, 390, 541] : List Nat).filterMap (fun i => lw_tbl[i]?) := by rfl
  intro w hw
  rw [h] at hw
  obtain ⟨i, -, hi⟩ := List.mem_filterMap.mp hw
  exact List.mem_of_getElem? hi
set_option maxRecDepth 100000 in
theorem mv_ok8 : mv_Ts8.all goodWord = true := by decide +kernel
set_option maxRecDepth 100000 in
theorem mv_in9 : ∀ w ∈ mv_Ts9, w ∈ lw_tbl := by
  have h : mv_Ts9 = ([316, 391, 542] : List Nat).filterMap (fun i => lw_tbl[i]?) := by rfl
  intro w hw
  rw [h] at hw
  obtain ⟨i, -, hi⟩ := List.mem_filterMap.mp hw
  exact List.mem_of_getElem? hi
set_option maxRecDepth 100000 in
theorem mv_ok9 : mv_Ts9.all goodWord = true := by decide +kernel
theorem mv_in : ∀ w ∈ mv_Ts, w ∈ lw_tbl := by
  unfold mv_Ts
  intro w hw
  simp only [List.mem_append] at hw
  rcases hw with h | h | h | h | h | h | h | h | h
  · exact mv_in1 w h
  · exact mv_in2 w h
  · exact mv_in3 w h
  · exact mv_in4 w h
  · exact mv_in5 w h
  · exact mv_in6 w h
  · exact mv_in7 w h
  · exact mv_in8 w h
  · exact mv_in9 w h
theorem mv_ok : mv_Ts.all goodWord = true := by
  unfold mv_Ts
  simp only [List.all_append, mv_ok1, mv_ok2, mv_ok3, mv_ok4, mv_ok5, mv_ok6, mv_ok7, mv_ok8, mv_ok9, Bool.and_self]
end
section
/-- B_init -/
def mv_c0 : List (Nat × Instr × Nat) := [(0, .aload_n 0, 1), (1, .invokespecial 3, 3), (4, .aload_n 0, 1), (5, .new 9, 3), (8, .dup, 1), (9, .invokespecial 11, 3), (12, .putfield 12, 3), (15, .aload_n 0, 1), (16, .new 16, 3), (19, .dup, 1), (20, .aload_n 0, 1), (21, .getfield 12, 3), (24, .invokespecial 18, 3), (27, .putfield 21, 3), (30, .aload_n 0, 1), (31, .new 25, 3), (34, .dup, 1), (35, .aload_n 0, 1), (36, .getfield 12, 3), (39, .invokespecial 27, 3), (42, .putfield 28, 3), (45, .aload_n 0, 1), (46, .new 32, 3), (49, .dup, 1), (50, .aload_n 0, 1), (51, .getfield 12, 3), (54, .invokespecial 34, 3), (57, .putfield 35, 3), (60, .return_, 1)]
set_option maxRecDepth 100000 in
theorem mv_d0 : ∀ q ∈ mv_c0, decode prog_1_method_1_code q.1 = .ok (q.2.1, q.2.2) := by decide +kernel
/-- G_init -/
def mv_c1 : List (Nat × Instr × Nat) := [(0, .aload_n 0, 1), (1, .invokespecial 3, 3), (4, .aload_n 0, 1), (5, .bipush 10, 2), (7, .newarray .int, 2), (9, .putfield 9, 3), (12, .aload_n 0, 1), (13, .bipush 10, 2), (15, .newarray .int, 2), (17, .putfield 15, 3), (20, .aload_n 0, 1), (21, .sipush 1024, 3), (24, .newarray .int, 2), (26, .putfield 18, 3), (29, .aload_n 0, 1), (30, .sipush 1024, 3), (33, .newarray .int, 2), (35, .putfield 21, 3), (38, .aload_n 0, 1), (39, .sipush 1024, 3), (42, .newarray .int, 2), (44, .putfield 24, 3), (47, .aload_n 0, 1), (48, .iconst (-1), 1), (49, .putfield 27, 3), (52, .return_, 1)]
set_option maxRecDepth 100000 in
theorem mv_d1 : ∀ q ∈ mv_c1, decode prog_4_method_1_code q.1 = .ok (q.2.1, q.2.2) := by decide +kernel
/-- O_init -/
def mv_c2 : List (Nat × Instr × Nat) := [(0, .aload_n 0, 1), (1, .invokespecial 3, 3), (4, .aload_n 0, 1), (5, .bipush 6, 2), (7, .bipush 10, 2), (9, .multianewarray 9 2, 4), (13, .putfield 11, 3), (16, .aload_n 0, 1), (17, .bipush 6, 2), (19, .newarray .int, 2), (21, .putfield 16, 3), (24, .aload_n 0, 1), (25, .sipush 1024, 3), (28, .newarray .int, 2), (30, .putfield 20, 3), (33, .aload_n 0, 1), (34, .iconst (-1), 1), (35, .putfield 23, 3), (38, .aload_n 0, 1), (39, .aload_n 1, 1), (40, .putfield 27, 3), (43, .aload_n 0, 1), (44, .new 31, 3), (47, .dup, 1), (48, .aload_n 1, 1), (49, .invokespecial 33, 3), (52, .putfield 36, 3), (55, .return_, 1)]
set_option maxRecDepth 100000 in
theorem mv_d2 : ∀ q ∈ mv_c2, decode prog_6_method_1_code q.1 = .ok (q.2.1, q.2.2) := by decide +kernel
/-- H_init -/
def mv_c3 : List (Nat × Instr × Nat) := [(0, .aload_n 0, 1), (1, .invokespecial 3, 3), (4, .aload_n 0, 1), (5, .bipush 10, 2), (7, .newarray .int, 2), (9, .putfield 9, 3), (12, .aload_n 0, 1), (13, .bipush 10, 2), (15, .newarray .int, 2), (17, .putfield 15, 3), (20, .aload_n 0, 1), (21, .bipush 10, 2), (23, .newarray .int, 2), (25, .putfield 18, 3), (28, .aload_n 0, 1), (29, .sipush 1024, 3), (32, .newarray .int, 2), (34, .putfield 21, 3), (37, .aload_n 0, 1), (38, .sipush 1024, 3), (41, .newarray .int, 2), (43, .putfield 24, 3), (46, .aload_n 0, 1), (47, .aload_n 1, 1), (48, .putfield 27, 3), (51, .return_, 1)]
set_option maxRecDepth 100000 in
theorem mv_d3 : ∀ q ∈ mv_c3, decode prog_5_method_1_code q.1 = .ok (q.2.1, q.2.2) := by decide +kernel
/-- F_init -/
def mv_c4 : List (Nat × Instr × Nat) := [(0, .aload_n 0, 1), (1, .invokespecial 3, 3), (4, .aload_n 0, 1), (5, .aload_n 1, 1), (6, .putfield 9, 3), (9, .return_, 1)]
set_option maxRecDepth 100000 in
theorem mv_d4 : ∀ q ∈ mv_c4, decode prog_3_method_1_code q.1 = .ok (q.2.1, q.2.2) := by decide +kernel
/-- C_init -/
def mv_c5 : List (Nat × Instr × Nat) := [(0, .aload_n 0, 1), (1, .invokespecial 3, 3), (4, .aload_n 0, 1), (5, .sipush 1024, 3), (8, .newarray .long, 2), (10, .putfield 9, 3), (13, .aload_n 0, 1), (14, .sipush 1024, 3), (17, .newarray .long, 2), (19, .putfield 15, 3), (22, .aload_n 0, 1), (23, .sipush 4608, 3), (26, .newarray .long, 2), (28, .putfield 18, 3), (31, .aload_n 0, 1), (32, .aload_n 1, 1), (33, .putfield 21, 3), (36, .return_, 1)]
set_option maxRecDepth 100000 in
theorem mv_d5 : ∀ q ∈ mv_c5, decode prog_2_method_1_code q.1 = .ok (q.2.1, q.2.2) := by decide +kernel
/-- B_begin -/
def mv_c6 : List (Nat × Instr × Nat) := [(0, .iload_n 1, 1), (1, .ifCond .lt 9, 3), (4, .iload_n 1, 1), (5, .bipush 10, 2), (7, .if_icmp .le 6, 3), (10, .bipush (-2), 2), (12, .ireturn, 1), (13, .aload_n 0, 1), (14, .getfield 12, 3), (17, .getfield 39, 3), (20, .istore_n 2, 1), (21, .aload_n 0, 1), (22, .getfield 12, 3), (25, .iload_n 1, 1), (26, .invokevirtual 43, 3), (29, .iload_n 2, 1), (30, .ireturn, 1)]
set_option maxRecDepth 100000 in
theorem mv_d6 : ∀ q ∈ mv_c6, decode prog_1_method_2_code q.1 = .ok (q.2.1, q.2.2) := by decide +kernel
/-- G_startOver -/
def mv_c7 : List (Nat × Instr × Nat) := [(0, .aload_n 0, 1), (1, .iload_n 1, 1), (2, .putfield 31, 3), (5, .aload_n 0, 1), (6, .iconst 0, 1), (7, .putfield 34, 3), (10, .aload_n 0, 1), (11, .dup, 1), (12, .getfield 37, 3), (15, .iconst 1, 1), (16, .iadd, 1), (17, .putfield 37, 3), (20, .iconst 0, 1), (21, .istore_n 2, 1), (22, .iload_n 2, 1), (23, .bipush 10, 2), (25, .if_icmp .ge 23, 3), (28, .aload_n 0, 1), (29, .getfield 9, 3), (32, .iload_n 2, 1), (33, .iconst 0, 1), (34, .iastore, 1), (35, .aload_n 0, 1), (36, .getfield 15, 3), (39, .iload_n 2, 1), (40, .iconst 1, 1), (41, .iastore, 1), (42, .iinc 2 1, 3), (45, .goto (-23), 3), (48, .return_, 1)]
set_option maxRecDepth 100000 in
theorem mv_d7 : ∀ q ∈ mv_c7, decode prog_4_method_4_code q.1 = .ok (q.2.1, q.2.2) := by decide +kernel
/-- B_join -/
def mv_c8 : List (Nat × Instr × Nat) := [(0, .aload_n 0, 1), (1, .getfield 12, 3), (4, .iload_n 1, 1), (5, .invokevirtual 47, 3), (8, .ifCond .eq 19, 3), (11, .aload_n 0, 1), (12, .getfield 12, 3), (15, .iload_n 2, 1), (16, .invokevirtual 47, 3), (19, .ifCond .eq 8, 3), (22, .iload_n 1, 1), (23, .iload_n 2, 1), (24, .if_icmp .ne 6, 3), (27, .bipush (-2), 2), (29, .ireturn, 1), (30, .aload_n 0, 1), (31, .getfield 12, 3), (34, .iload_n 1, 1), (35, .iload_n 2, 1), (36, .invokevirtual 51, 3), (39, .ifCond .eq 6, 3), (42, .bipush (-4), 2), (44, .ireturn, 1), (45, .aload_n 0, 1), (46, .getfield 12, 3), (49, .getfield 55, 3), (52, .bipush 20, 2), (54, .if_icmp .lt 6, 3), (57, .bipush (-3), 2), (59, .ireturn, 1), (60, .aload_n 0, 1), (61, .getfield 12, 3), (64, .iload_n 1, 1), (65, .iload_n 2, 1), (66, .invokevirtual 58, 3), (69, .aload_n 0, 1), (70, .getfield 12, 3), (73, .getfield 55, 3), (76, .ireturn, 1)]
set_option maxRecDepth 100000 in
theorem mv_d8 : ∀ q ∈ mv_c8, decode prog_1_method_3_code q.1 = .ok (q.2.1, q.2.2) := by decide +kernel
/-- G_has -/
def mv_c9 : List (Nat × Instr × Nat) := [(0, .iload_n 1, 1), (1, .ifCond .lt 15, 3), (4, .iload_n 1, 1), (5, .aload_n 0, 1), (6, .getfield 31, 3), (9, .if_icmp .ge 7, 3), (12, .iconst 1, 1), (13, .goto 4, 3), (16, .iconst 0, 1), (17, .ireturn, 1)]
set_option maxRecDepth 100000 in
theorem mv_d9 : ∀ q ∈ mv_c9, decode prog_4_method_3_code q.1 = .ok (q.2.1, q.2.2) := by decide +kernel
/-- G_areLinked -/
def mv_c10 : List (Nat × Instr × Nat) := [(0, .aload_n 0, 1), (1, .getfield 9, 3), (4, .iload_n 1, 1), (5, .iaload, 1), (6, .iload_n 2, 1), (7, .ishr, 1), (8, .iconst 1, 1), (9, .iand, 1), (10, .ifCond .eq 7, 3), (13, .iconst 1, 1), (14, .goto 4, 3), (17, .iconst 0, 1), (18, .ireturn, 1)]
set_option maxRecDepth 100000 in
theorem mv_d10 : ∀ q ∈ mv_c10, decode prog_4_method_5_code q.1 = .ok (q.2.1, q.2.2) := by decide +kernel
/-- G_link -/
def mv_c11 : List (Nat × Instr × Nat) := [(0, .aload_n 0, 1), (1, .getfield 9, 3), (4, .iload_n 1, 1), (5, .dup2, 1), (6, .iaload, 1), (7, .iconst 1, 1), (8, .iload_n 2, 1), (9, .ishl, 1), (10, .ior, 1), (11, .iastore, 1), (12, .aload_n 0, 1), (13, .getfield 9, 3), (16, .iload_n 2, 1), (17, .dup2, 1), (18, .iaload, 1), (19, .iconst 1, 1), (20, .iload_n 1, 1), (21, .ishl, 1), (22, .ior, 1), (23, .iastore, 1), (24, .aload_n 0, 1), (25, .dup, 1), (26, .getfield 34, 3), (29, .iconst 1, 1), (30, .iadd, 1), (31, .putfield 34, 3), (34, .aload_n 0, 1), (35, .dup, 1), (36, .getfield 37, 3), (39, .iconst 1, 1), (40, .iadd, 1), (41, .putfield 37, 3), (44, .return_, 1)]
set_option maxRecDepth 100000 in
theorem mv_d11 : ∀ q ∈ mv_c11, decode prog_4_method_6_code q.1 = .ok (q.2.1, q.2.2) := by decide +kernel
/-- B_part -/
def mv_c12 : List (Nat × Instr × Nat) := [(0, .aload_n 0, 1), (1, .getfield 12, 3), (4, .iload_n 1, 1), (5, .invokevirtual 47, 3), (8, .ifCond .eq 14, 3), (11, .aload_n 0, 1), (12, .getfield 12, 3), (15, .iload_n 2, 1), (16, .invokevirtual 47, 3), (19, .ifCond .ne 6, 3), (22, .bipush (-2), 2), (24, .ireturn, 1), (25, .aload_n 0, 1), (26, .getfield 12, 3), (29, .iload_n 1, 1), (30, .iload_n 2, 1), (31, .invokevirtual 51, 3), (34, .ifCond .ne 5, 3), (37, .iconst (-1), 1), (38, .ireturn, 1), (39, .aload_n 0, 1), (40, .getfield 12, 3), (43, .iload_n 1, 1), (44, .iload_n 2, 1), (45, .invokevirtual 62, 3), (48, .aload_n 0, 1), (49, .getfield 12, 3), (52, .getfield 55, 3), (55, .ireturn, 1)]
set_option maxRecDepth 100000 in
theorem mv_d12 : ∀ q ∈ mv_c12, decode prog_1_method_4_code q.1 = .ok (q.2.1, q.2.2) := by decide +kernel
/-- G_unlink -/
def mv_c13 : List (Nat × Instr × Nat) := [(0, .aload_n 0, 1), (1, .getfield 9, 3), (4, .iload_n 1, 1), (5, .dup2, 1), (6, .iaload, 1), (7, .iconst 1, 1), (8, .iload_n 2, 1), (9, .ishl, 1), (10, .iconst (-1), 1), (11, .ixor, 1), (12, .iand, 1), (13, .iastore, 1), (14, .aload_n 0, 1), (15, .getfield 9, 3), (18, .iload_n 2, 1), (19, .dup2, 1), (20, .iaload, 1), (21, .iconst 1, 1), (22, .iload_n 1, 1), (23, .ishl, 1), (24, .iconst (-1), 1), (25, .ixor, 1), (26, .iand, 1), (27, .iastore, 1), (28, .aload_n 0, 1), (29, .dup, 1), (30, .getfield 34, 3), (33, .iconst 1, 1), (34, .isub, 1), (35, .putfield 34, 3), (38, .aload_n 0, 1), (39, .dup, 1), (40, .getfield 37, 3), (43, .iconst 1, 1), (44, .iadd, 1), (45, .putfield 37, 3), (48, .return_, 1)]
set_option maxRecDepth 100000 in
theorem mv_d13 : ∀ q ∈ mv_c13, decode prog_4_method_7_code q.1 = .ok (q.2.1, q.2.2) := by decide +kernel
/-- B_weigh -/
def mv_c14 : List (Nat × Instr × Nat) := [(0, .aload_n 0, 1), (1, .getfield 12, 3), (4, .iload_n 1, 1), (5, .invokevirtual 47, 3), (8, .ifCond .eq 14, 3), (11, .iload_n 2, 1), (12, .ifCond .lt 10, 3), (15, .iload_n 2, 1), (16, .sipush 1000, 3), (19, .if_icmp .le 6, 3), (22, .bipush (-2), 2), (24, .ireturn, 1), (25, .aload_n 0, 1), (26, .getfield 12, 3), (29, .getfield 65, 3), (32, .iload_n 1, 1), (33, .iaload, 1), (34, .istore_n 3, 1), (35, .aload_n 0, 1), (36, .getfield 12, 3), (39, .getfield 65, 3), (42, .iload_n 1, 1), (43, .iload_n 2, 1), (44, .iastore, 1), (45, .iload_n 3, 1), (46, .ireturn, 1)]
set_option maxRecDepth 100000 in
theorem mv_d14 : ∀ q ∈ mv_c14, decode prog_1_method_5_code q.1 = .ok (q.2.1, q.2.2) := by decide +kernel
/-- B_count -/
def mv_c15 : List (Nat × Instr × Nat) := [(0, .iload_n 1, 1), (1, .tableswitch 99 0 6 #[43, 51, 59, 67, 75, 83, 91], 43), (44, .aload_n 0, 1), (45, .getfield 12, 3), (48, .getfield 39, 3), (51, .ireturn, 1), (52, .aload_n 0, 1), (53, .getfield 12, 3), (56, .getfield 55, 3), (59, .ireturn, 1), (60, .aload_n 0, 1), (61, .getfield 12, 3), (64, .invokevirtual 69, 3), (67, .ireturn, 1), (68, .aload_n 0, 1), (69, .getfield 28, 3), (72, .invokevirtual 73, 3), (75, .ireturn, 1), (76, .aload_n 0, 1), (77, .getfield 28, 3), (80, .invokevirtual 76, 3), (83, .ireturn, 1), (84, .aload_n 0, 1), (85, .getfield 28, 3), (88, .invokevirtual 79, 3), (91, .ireturn, 1), (92, .aload_n 0, 1), (93, .getfield 28, 3), (96, .invokevirtual 82, 3), (99, .ireturn, 1), (100, .bipush (-2), 2), (102, .ireturn, 1)]
set_option maxRecDepth 100000 in
theorem mv_d15 : ∀ q ∈ mv_c15, decode prog_1_method_6_code q.1 = .ok (q.2.1, q.2.2) := by decide +kernel
/-- G_pieces -/
def mv_c16 : List (Nat × Instr × Nat) := [(0, .aload_n 0, 1), (1, .invokevirtual 57, 3), (4, .iconst 0, 1), (5, .istore_n 1, 1), (6, .aload_n 0, 1), (7, .invokevirtual 40, 3), (10, .istore_n 2, 1), (11, .iload_n 2, 1), (12, .ifCond .eq 24, 3), (15, .iinc 1 1, 3), (18, .iload_n 2, 1), (19, .iload_n 2, 1), (20, .iconst 1, 1), (21, .isub, 1), (22, .iand, 1), (23, .aload_n 0, 1), (24, .getfield 24, 3), (27, .iload_n 2, 1), (28, .iaload, 1), (29, .iconst (-1), 1), (30, .ixor, 1), (31, .iand, 1), (32, .istore_n 2, 1), (33, .goto (-22), 3), (36, .iload_n 1, 1), (37, .ireturn, 1)]
set_option maxRecDepth 100000 in
theorem mv_d16 : ∀ q ∈ mv_c16, decode prog_4_method_11_code q.1 = .ok (q.2.1, q.2.2) := by decide +kernel
/-- G_makeRows -/
def mv_c17 : List (Nat × Instr × Nat) := [(0, .aload_n 0, 1), (1, .getfield 27, 3), (4, .aload_n 0, 1), (5, .getfield 37, 3), (8, .if_icmp .ne 4, 3), (11, .return_, 1), (12, .aload_n 0, 1), (13, .aload_n 0, 1), (14, .getfield 37, 3), (17, .putfield 27, 3), (20, .aload_n 0, 1), (21, .invokevirtual 40, 3), (24, .istore_n 1, 1), (25, .iconst 1, 1), (26, .istore_n 2, 1), (27, .iload_n 2, 1), (28, .iload_n 1, 1), (29, .if_icmp .gt 75, 3), (32, .iload_n 2, 1), (33, .iload_n 2, 1), (34, .iconst 1, 1), (35, .isub, 1), (36, .iand, 1), (37, .istore_n 3, 1), (38, .aload_n 0, 1), (39, .getfield 9, 3), (42, .iload_n 2, 1), (43, .invokestatic 44, 3), (46, .iaload, 1), (47, .istore 4, 2), (49, .aload_n 0, 1), (50, .getfield 18, 3), (53, .iload_n 2, 1), (54, .aload_n 0, 1), (55, .getfield 18, 3), (58, .iload_n 3, 1), (59, .iaload, 1), (60, .iload 4, 2), (62, .ior, 1), (63, .iastore, 1), (64, .aload_n 0, 1), (65, .getfield 21, 3), (68, .iload_n 2, 1), (69, .aload_n 0, 1), (70, .getfield 21, 3), (73, .iload_n 3, 1), (74, .iaload, 1), (75, .iload 4, 2), (77, .iload_n 3, 1), (78, .iand, 1), (79, .invokestatic 48, 3), (82, .iadd, 1), (83, .iastore, 1), (84, .aload_n 0, 1), (85, .getfield 24, 3), (88, .iload_n 2, 1), (89, .aload_n 0, 1), (90, .getfield 18, 3), (93, .iload_n 2, 1), (94, .invokestatic 53, 3), (97, .iastore, 1), (98, .iinc 2 1, 3), (101, .goto (-74), 3), (104, .return_, 1)]
set_option maxRecDepth 100000 in
theorem mv_d17 : ∀ q ∈ mv_c17, decode prog_4_method_9_code q.1 = .ok (q.2.1, q.2.2) := by decide +kernel
/-- G_all -/
def mv_c18 : List (Nat × Instr × Nat) := [(0, .iconst 1, 1), (1, .aload_n 0, 1), (2, .getfield 31, 3), (5, .ishl, 1), (6, .iconst 1, 1), (7, .isub, 1), (8, .ireturn, 1)]
set_option maxRecDepth 100000 in
theorem mv_d18 : ∀ q ∈ mv_c18, decode prog_4_method_2_code q.1 = .ok (q.2.1, q.2.2) := by decide +kernel
/-- B_lowest -/
def mv_c19 : List (Nat × Instr × Nat) := [(0, .iload_n 0, 1), (1, .iload_n 0, 1), (2, .ineg, 1), (3, .iand, 1), (4, .iconst 1, 1), (5, .isub, 1), (6, .invokestatic 130, 3), (9, .ireturn, 1)]
set_option maxRecDepth 100000 in
theorem mv_d19 : ∀ q ∈ mv_c19, decode prog_1_method_18_code q.1 = .ok (q.2.1, q.2.2) := by decide +kernel
/-- I_bitCount -/
def mv_c20 : List (Nat × Instr × Nat) := [(0, .iload_n 0, 1), (1, .iload_n 0, 1), (2, .iconst 1, 1), (3, .iushr, 1), (4, .ldc_w 265, 3), (7, .iand, 1), (8, .isub, 1), (9, .istore_n 0, 1), (10, .iload_n 0, 1), (11, .ldc_w 266, 3), (14, .iand, 1), (15, .iload_n 0, 1), (16, .iconst 2, 1), (17, .iushr, 1), (18, .ldc_w 266, 3), (21, .iand, 1), (22, .iadd, 1), (23, .istore_n 0, 1), (24, .iload_n 0, 1), (25, .iload_n 0, 1), (26, .iconst 4, 1), (27, .iushr, 1), (28, .iadd, 1), (29, .ldc_w 267, 3), (32, .iand, 1), (33, .istore_n 0, 1), (34, .iload_n 0, 1), (35, .iload_n 0, 1), (36, .bipush 8, 2), (38, .iushr, 1), (39, .iadd, 1), (40, .istore_n 0, 1), (41, .iload_n 0, 1), (42, .iload_n 0, 1), (43, .bipush 16, 2), (45, .iushr, 1), (46, .iadd, 1), (47, .istore_n 0, 1), (48, .iload_n 0, 1), (49, .bipush 63, 2), (51, .iand, 1), (52, .ireturn, 1)]
set_option maxRecDepth 100000 in
theorem mv_d20 : ∀ q ∈ mv_c20, decode prog_9_method_49_code q.1 = .ok (q.2.1, q.2.2) := by decide +kernel
/-- G_spread -/
def mv_c21 : List (Nat × Instr × Nat) := [(0, .iload_n 1, 1), (1, .iload_n 1, 1), (2, .ineg, 1), (3, .iand, 1), (4, .istore_n 2, 1), (5, .iconst 0, 1), (6, .istore_n 3, 1), (7, .iload_n 3, 1), (8, .bipush 10, 2), (10, .if_icmp .ge 30, 3), (13, .iload_n 2, 1), (14, .aload_n 0, 1), (15, .iload_n 2, 1), (16, .iaload, 1), (17, .iload_n 1, 1), (18, .iand, 1), (19, .ior, 1), (20, .istore 4, 2), (22, .iload 4, 2), (24, .iload_n 2, 1), (25, .if_icmp .ne 6, 3), (28, .goto 12, 3), (31, .iload 4, 2), (33, .istore_n 2, 1), (34, .iinc 3 1, 3), (37, .goto (-30), 3), (40, .iload_n 2, 1), (41, .ireturn, 1)]
set_option maxRecDepth 100000 in
theorem mv_d21 : ∀ q ∈ mv_c21, decode prog_4_method_10_code q.1 = .ok (q.2.1, q.2.2) := by decide +kernel
/-- F_mostLinks -/
def mv_c22 : List (Nat × Instr × Nat) := [(0, .iconst 0, 1), (1, .istore_n 1, 1), (2, .iconst 0, 1), (3, .istore_n 2, 1), (4, .iload_n 2, 1), (5, .aload_n 0, 1), (6, .getfield 9, 3), (9, .getfield 15, 3), (12, .if_icmp .ge 26, 3), (15, .iload_n 1, 1), (16, .aload_n 0, 1), (17, .getfield 9, 3), (20, .getfield 21, 3), (23, .iload_n 2, 1), (24, .iaload, 1), (25, .invokestatic 25, 3), (28, .invokestatic 31, 3), (31, .istore_n 1, 1), (32, .iinc 2 1, 3), (35, .goto (-31), 3), (38, .iload_n 1, 1), (39, .ireturn, 1)]
set_option maxRecDepth 100000 in
theorem mv_d22 : ∀ q ∈ mv_c22, decode prog_3_method_2_code q.1 = .ok (q.2.1, q.2.2) := by decide +kernel
/-- F_densestCore -/
def mv_c23 : List (Nat × Instr × Nat) := [(0, .aload_n 0, 1), (1, .getfield 9, 3), (4, .invokevirtual 37, 3), (7, .istore_n 1, 1), (8, .iconst 0, 1), (9, .istore_n 2, 1), (10, .iconst 0, 1), (11, .istore_n 3, 1), (12, .iload_n 3, 1), (13, .aload_n 0, 1), (14, .getfield 9, 3), (17, .getfield 15, 3), (20, .if_icmp .ge 45, 3), (23, .aload_n 0, 1), (24, .iload_n 1, 1), (25, .invokevirtual 41, 3), (28, .istore 4, 2), (30, .iload_n 2, 1), (31, .aload_n 0, 1), (32, .getfield 9, 3), (35, .getfield 21, 3), (38, .iload 4, 2), (40, .iaload, 1), (41, .iload_n 1, 1), (42, .iand, 1), (43, .invokestatic 25, 3), (46, .invokestatic 31, 3), (49, .istore_n 2, 1), (50, .iload_n 1, 1), (51, .iconst 1, 1), (52, .iload 4, 2), (54, .ishl, 1), (55, .iconst (-1), 1), (56, .ixor, 1), (57, .iand, 1), (58, .istore_n 1, 1), (59, .iinc 3 1, 3), (62, .goto (-50), 3), (65, .iload_n 2, 1), (66, .ireturn, 1)]
set_option maxRecDepth 100000 in
theorem mv_d23 : ∀ q ∈ mv_c23, decode prog_3_method_3_code q.1 = .ok (q.2.1, q.2.2) := by decide +kernel
/-- F_loosest -/
def mv_c24 : List (Nat × Instr × Nat) := [(0, .iconst 0, 1), (1, .istore_n 2, 1), (2, .sipush 1000, 3), (5, .istore_n 3, 1), (6, .iconst 0, 1), (7, .istore 4, 2), (9, .iload 4, 2), (11, .aload_n 0, 1), (12, .getfield 9, 3), (15, .getfield 15, 3), (18, .if_icmp .ge 47, 3), (21, .aload_n 0, 1), (22, .getfield 9, 3), (25, .getfield 21, 3), (28, .iload 4, 2), (30, .iaload, 1), (31, .iload_n 1, 1), (32, .iand, 1), (33, .invokestatic 25, 3), (36, .istore 5, 2), (38, .iload_n 1, 1), (39, .iload 4, 2), (41, .ishr, 1), (42, .iconst 1, 1), (43, .iand, 1), (44, .ifCond .eq 15, 3), (47, .iload 5, 2), (49, .iload_n 3, 1), (50, .if_icmp .ge 9, 3), (53, .iload 5, 2), (55, .istore_n 3, 1), (56, .iload 4, 2), (58, .istore_n 2, 1), (59, .iinc 4 1, 3), (62, .goto (-53), 3), (65, .iload_n 2, 1), (66, .ireturn, 1)]
set_option maxRecDepth 100000 in
theorem mv_d24 : ∀ q ∈ mv_c24, decode prog_3_method_4_code q.1 = .ok (q.2.1, q.2.2) := by decide +kernel
/-- F_holes -/
def mv_c25 : List (Nat × Instr × Nat) := [(0, .aload_n 0, 1), (1, .getfield 9, 3), (4, .invokevirtual 44, 3), (7, .iconst 0, 1), (8, .istore_n 1, 1), (9, .aload_n 0, 1), (10, .getfield 9, 3), (13, .invokevirtual 37, 3), (16, .istore_n 2, 1), (17, .iconst 0, 1), (18, .istore_n 3, 1), (19, .iload_n 3, 1), (20, .iload_n 2, 1), (21, .if_icmp .gt 20, 3), (24, .aload_n 0, 1), (25, .iload_n 3, 1), (26, .invokevirtual 47, 3), (29, .ifCond .eq 6, 3), (32, .iinc 1 1, 3), (35, .iinc 3 1, 3), (38, .goto (-19), 3), (41, .iload_n 1, 1), (42, .ireturn, 1)]
set_option maxRecDepth 100000 in
theorem mv_d25 : ∀ q ∈ mv_c25, decode prog_3_method_5_code q.1 = .ok (q.2.1, q.2.2) := by decide +kernel
/-- F_isHole -/
def mv_c26 : List (Nat × Instr × Nat) := [(0, .iload_n 1, 1), (1, .invokestatic 25, 3), (4, .istore_n 2, 1), (5, .iload_n 2, 1), (6, .iconst 4, 1), (7, .if_icmp .lt 27, 3), (10, .aload_n 0, 1), (11, .getfield 9, 3), (14, .getfield 51, 3), (17, .iload_n 1, 1), (18, .iaload, 1), (19, .iload_n 2, 1), (20, .if_icmp .ne 14, 3), (23, .aload_n 0, 1), (24, .getfield 9, 3), (27, .iload_n 1, 1), (28, .invokevirtual 54, 3), (31, .ifCond .ne 5, 3), (34, .iconst 0, 1), (35, .ireturn, 1), (36, .iconst 0, 1), (37, .istore_n 3, 1), (38, .iload_n 3, 1), (39, .aload_n 0, 1), (40, .getfield 9, 3), (43, .getfield 15, 3), (46, .if_icmp .ge 37, 3), (49, .iload_n 1, 1), (50, .iload_n 3, 1), (51, .ishr, 1), (52, .iconst 1, 1), (53, .iand, 1), (54, .ifCond .eq 23, 3), (57, .aload_n 0, 1), (58, .getfield 9, 3), (61, .getfield 21, 3), (64, .iload_n 3, 1), (65, .iaload, 1), (66, .iload_n 1, 1), (67, .iand, 1), (68, .invokestatic 25, 3), (71, .iconst 2, 1), (72, .if_icmp .eq 5, 3), (75, .iconst 0, 1), (76, .ireturn, 1), (77, .iinc 3 1, 3), (80, .goto (-42), 3), (83, .iconst 1, 1), (84, .ireturn, 1)]
set_option maxRecDepth 100000 in
theorem mv_d26 : ∀ q ∈ mv_c26, decode prog_3_method_7_code q.1 = .ok (q.2.1, q.2.2) := by decide +kernel
/-- G_hangsTogether -/
def mv_c27 : List (Nat × Instr × Nat) := [(0, .aload_n 0, 1), (1, .getfield 24, 3), (4, .iload_n 1, 1), (5, .iaload, 1), (6, .iload_n 1, 1), (7, .if_icmp .ne 7, 3), (10, .iconst 1, 1), (11, .goto 4, 3), (14, .iconst 0, 1), (15, .ireturn, 1)]
set_option maxRecDepth 100000 in
theorem mv_d27 : ∀ q ∈ mv_c27, decode prog_4_method_12_code q.1 = .ok (q.2.1, q.2.2) := by decide +kernel
/-- F_shortestHole -/
def mv_c28 : List (Nat × Instr × Nat) := [(0, .aload_n 0, 1), (1, .getfield 9, 3), (4, .invokevirtual 44, 3), (7, .iconst (-1), 1), (8, .istore_n 1, 1), (9, .aload_n 0, 1), (10, .getfield 9, 3), (13, .invokevirtual 37, 3), (16, .istore_n 2, 1), (17, .iconst 0, 1), (18, .istore_n 3, 1), (19, .iload_n 3, 1), (20, .iload_n 2, 1), (21, .if_icmp .gt 35, 3), (24, .aload_n 0, 1), (25, .iload_n 3, 1), (26, .invokevirtual 47, 3), (29, .ifCond .eq 21, 3), (32, .iload_n 1, 1), (33, .iconst (-1), 1), (34, .if_icmp .eq 11, 3), (37, .iload_n 3, 1), (38, .invokestatic 25, 3), (41, .iload_n 1, 1), (42, .if_icmp .ge 8, 3), (45, .iload_n 3, 1), (46, .invokestatic 25, 3), (49, .istore_n 1, 1), (50, .iinc 3 1, 3), (53, .goto (-34), 3), (56, .iload_n 1, 1), (57, .ireturn, 1)]
set_option maxRecDepth 100000 in
theorem mv_d28 : ∀ q ∈ mv_c28, decode prog_3_method_6_code q.1 = .ok (q.2.1, q.2.2) := by decide +kernel
/-- B_near -/
def mv_c29 : List (Nat × Instr × Nat) := [(0, .aload_n 0, 1), (1, .getfield 12, 3), (4, .iload_n 1, 1), (5, .invokevirtual 47, 3), (8, .ifCond .eq 15, 3), (11, .aload_n 0, 1), (12, .getfield 12, 3), (15, .getfield 85, 3), (18, .iload_n 1, 1), (19, .iaload, 1), (20, .goto 5, 3), (23, .bipush (-2), 2), (25, .ireturn, 1)]
set_option maxRecDepth 100000 in
theorem mv_d29 : ∀ q ∈ mv_c29, decode prog_1_method_7_code q.1 = .ok (q.2.1, q.2.2) := by decide +kernel
/-- B_width -/
def mv_c30 : List (Nat × Instr × Nat) := [(0, .iload_n 1, 1), (1, .invokestatic 88, 3), (4, .ifCond .ne 6, 3), (7, .bipush (-2), 2), (9, .ireturn, 1), (10, .aload_n 0, 1), (11, .getfield 21, 3), (14, .iload_n 1, 1), (15, .invokevirtual 91, 3), (18, .aload_n 0, 1), (19, .getfield 21, 3), (22, .getfield 94, 3), (25, .iload_n 1, 1), (26, .iaload, 1), (27, .ireturn, 1)]
set_option maxRecDepth 100000 in
theorem mv_d30 : ∀ q ∈ mv_c30, decode prog_1_method_8_code q.1 = .ok (q.2.1, q.2.2) := by decide +kernel
/-- B_isKind -/
def mv_c31 : List (Nat × Instr × Nat) := [(0, .iload_n 0, 1), (1, .ifCond .lt 13, 3), (4, .iload_n 0, 1), (5, .bipush 6, 2), (7, .if_icmp .ge 7, 3), (10, .iconst 1, 1), (11, .goto 4, 3), (14, .iconst 0, 1), (15, .ireturn, 1)]
set_option maxRecDepth 100000 in
theorem mv_d31 : ∀ q ∈ mv_c31, decode prog_1_method_17_code q.1 = .ok (q.2.1, q.2.2) := by decide +kernel
/-- O_settle -/
def mv_c32 : List (Nat × Instr × Nat) := [(0, .aload_n 0, 1), (1, .getfield 27, 3), (4, .invokevirtual 49, 3), (7, .aload_n 0, 1), (8, .getfield 23, 3), (11, .aload_n 0, 1), (12, .getfield 27, 3), (15, .getfield 52, 3), (18, .if_icmp .eq 19, 3), (21, .aload_n 0, 1), (22, .aload_n 0, 1), (23, .getfield 27, 3), (26, .getfield 52, 3), (29, .putfield 23, 3), (32, .aload_n 0, 1), (33, .iconst 0, 1), (34, .putfield 55, 3), (37, .aload_n 0, 1), (38, .getfield 55, 3), (41, .iload_n 1, 1), (42, .ishr, 1), (43, .iconst 1, 1), (44, .iand, 1), (45, .ifCond .eq 4, 3), (48, .return_, 1), (49, .aload_n 0, 1), (50, .dup, 1), (51, .getfield 55, 3), (54, .iconst 1, 1), (55, .iload_n 1, 1), (56, .ishl, 1), (57, .ior, 1), (58, .putfield 55, 3), (61, .iload_n 1, 1), (62, .iconst 5, 1), (63, .if_icmp .ne 23, 3), (66, .aload_n 0, 1), (67, .getfield 16, 3), (70, .iload_n 1, 1), (71, .aload_n 0, 1), (72, .getfield 36, 3), (75, .aload_n 0, 1), (76, .getfield 11, 3), (79, .iload_n 1, 1), (80, .aaload, 1), (81, .invokevirtual 58, 3), (84, .iastore, 1), (85, .return_, 1), (86, .aload_n 0, 1), (87, .iload_n 1, 1), (88, .invokevirtual 62, 3), (91, .aload_n 0, 1), (92, .getfield 16, 3), (95, .iload_n 1, 1), (96, .iload_n 1, 1), (97, .iconst 2, 1), (98, .if_icmp .ne 16, 3), (101, .aload_n 0, 1), (102, .aload_n 0, 1), (103, .getfield 11, 3), (106, .iload_n 1, 1), (107, .aaload, 1), (108, .invokevirtual 66, 3), (111, .goto 14, 3), (114, .aload_n 0, 1), (115, .iload_n 1, 1), (116, .aload_n 0, 1), (117, .getfield 11, 3), (120, .iload_n 1, 1), (121, .aaload, 1), (122, .invokevirtual 69, 3), (125, .iastore, 1), (126, .return_, 1)]
set_option maxRecDepth 100000 in
theorem mv_d32 : ∀ q ∈ mv_c32, decode prog_6_method_3_code q.1 = .ok (q.2.1, q.2.2) := by decide +kernel
/-- H_layLeast -/
def mv_c33 : List (Nat × Instr × Nat) := [(0, .aload_n 0, 1), (1, .iconst 0, 1), (2, .invokevirtual 31, 3), (5, .istore_n 2, 1), (6, .iconst 0, 1), (7, .istore_n 3, 1), (8, .iconst 0, 1), (9, .istore 4, 2), (11, .iload 4, 2), (13, .aload_n 0, 1), (14, .getfield 27, 3), (17, .getfield 35, 3), (20, .if_icmp .ge 79, 3), (23, .iconst 0, 1), (24, .istore 5, 2), (26, .iload 5, 2), (28, .aload_n 0, 1), (29, .getfield 27, 3), (32, .getfield 35, 3), (35, .iconst 1, 1), (36, .isub, 1), (37, .if_icmp .ge 20, 3), (40, .aload_n 0, 1), (41, .iload_n 3, 1), (42, .iload 5, 2), (44, .iload_n 2, 1), (45, .invokevirtual 41, 3), (48, .ifCond .ne 9, 3), (51, .iinc 5 1, 3), (54, .goto (-28), 3), (57, .aload_n 0, 1), (58, .getfield 15, 3), (61, .iload 5, 2), (63, .iconst 1, 1), (64, .aload_n 0, 1), (65, .aload_n 0, 1), (66, .getfield 27, 3), (69, .iload_n 3, 1), (70, .iload 5, 2), (72, .invokevirtual 45, 3), (75, .invokevirtual 49, 3), (78, .iadd, 1), (79, .iastore, 1), (80, .aload_n 1, 1), (81, .iload 4, 2), (83, .iload 5, 2), (85, .iastore, 1), (86, .iload_n 3, 1), (87, .iconst 1, 1), (88, .iload 5, 2), (90, .ishl, 1), (91, .ior, 1), (92, .istore_n 3, 1), (93, .iinc 4 1, 3), (96, .goto (-85), 3), (99, .iload_n 2, 1), (100, .ireturn, 1)]
set_option maxRecDepth 100000 in
theorem mv_d33 : ∀ q ∈ mv_c33, decode prog_5_method_2_code q.1 = .ok (q.2.1, q.2.2) := by decide +kernel
/-- H_leastBehind -/
def mv_c34 : List (Nat × Instr × Nat) := [(0, .aload_n 0, 1), (1, .getfield 27, 3), (4, .invokevirtual 57, 3), (7, .iload_n 1, 1), (8, .iconst (-1), 1), (9, .ixor, 1), (10, .iand, 1), (11, .istore_n 2, 1), (12, .iconst 0, 1), (13, .istore_n 3, 1), (14, .iload_n 3, 1), (15, .aload_n 0, 1), (16, .getfield 27, 3), (19, .getfield 35, 3), (22, .if_icmp .ge 51, 3), (25, .iload_n 2, 1), (26, .iload_n 3, 1), (27, .ishr, 1), (28, .iconst 1, 1), (29, .iand, 1), (30, .ifCond .eq 37, 3), (33, .aload_n 0, 1), (34, .getfield 9, 3), (37, .iload_n 3, 1), (38, .aload_n 0, 1), (39, .getfield 27, 3), (42, .iload_n 1, 1), (43, .iload_n 3, 1), (44, .invokevirtual 61, 3), (47, .iastore, 1), (48, .aload_n 0, 1), (49, .getfield 18, 3), (52, .iload_n 3, 1), (53, .aload_n 0, 1), (54, .aload_n 0, 1), (55, .getfield 27, 3), (58, .iload_n 1, 1), (59, .iload_n 3, 1), (60, .invokevirtual 45, 3), (63, .invokevirtual 49, 3), (66, .iastore, 1), (67, .iinc 3 1, 3), (70, .goto (-56), 3), (73, .iconst 1, 1), (74, .iload_n 2, 1), (75, .invokestatic 64, 3), (78, .ishl, 1), (79, .istore_n 3, 1), (80, .iconst 0, 1), (81, .istore 4, 2), (83, .iconst 1, 1), (84, .istore 5, 2), (86, .iload 5, 2), (88, .iload_n 3, 1), (89, .if_icmp .ge 105, 3), (92, .iload 4, 2), (94, .iload_n 2, 1), (95, .isub, 1), (96, .iload_n 2, 1), (97, .iand, 1), (98, .istore 4, 2), (100, .aload_n 0, 1), (101, .getfield 21, 3), (104, .iload 4, 2), (106, .aload_n 0, 1), (107, .getfield 21, 3), (110, .iload 4, 2), (112, .iload 4, 2), (114, .iconst 1, 1), (115, .isub, 1), (116, .iand, 1), (117, .iaload, 1), (118, .aload_n 0, 1), (119, .getfield 9, 3), (122, .iload 4, 2), (124, .invokestatic 69, 3), (127, .iaload, 1), (128, .ior, 1), (129, .iastore, 1), (130, .aload_n 0, 1), (131, .getfield 21, 3), (134, .iload 4, 2), (136, .invokestatic 72, 3), (139, .istore 6, 2), (141, .aload_n 0, 1), (142, .getfield 24, 3), (145, .iload 4, 2), (147, .iload 6, 2), (149, .iload 4, 2), (151, .if_icmp .ne 14, 3), (154, .iconst 1, 1), (155, .aload_n 0, 1), (156, .iload 4, 2), (158, .invokevirtual 76, 3), (161, .iadd, 1), (162, .goto 25, 3), (165, .aload_n 0, 1), (166, .getfield 24, 3), (169, .iload 6, 2), (171, .iaload, 1), (172, .aload_n 0, 1), (173, .getfield 24, 3), (176, .iload 4, 2), (178, .iload 6, 2), (180, .iconst (-1), 1), (181, .ixor, 1), (182, .iand, 1), (183, .iaload, 1), (184, .invokestatic 52, 3), (187, .iastore, 1), (188, .iinc 5 1, 3), (191, .goto (-105), 3), (194, .aload_n 0, 1), (195, .getfield 24, 3), (198, .iload_n 2, 1), (199, .iaload, 1), (200, .ireturn, 1)]
set_option maxRecDepth 100000 in
theorem mv_d34 : ∀ q ∈ mv_c34, decode prog_5_method_5_code q.1 = .ok (q.2.1, q.2.2) := by decide +kernel
/-- G_seesPast -/
def mv_c35 : List (Nat × Instr × Nat) := [(0, .aload_n 0, 1), (1, .getfield 9, 3), (4, .iload_n 2, 1), (5, .iaload, 1), (6, .aload_n 0, 1), (7, .getfield 18, 3), (10, .aload_n 0, 1), (11, .iload_n 1, 1), (12, .iload_n 2, 1), (13, .invokevirtual 60, 3), (16, .iaload, 1), (17, .ior, 1), (18, .iload_n 1, 1), (19, .iconst (-1), 1), (20, .ixor, 1), (21, .iand, 1), (22, .iconst 1, 1), (23, .iload_n 2, 1), (24, .ishl, 1), (25, .iconst (-1), 1), (26, .ixor, 1), (27, .iand, 1), (28, .ireturn, 1)]
set_option maxRecDepth 100000 in
theorem mv_d35 : ∀ q ∈ mv_c35, decode prog_4_method_14_code q.1 = .ok (q.2.1, q.2.2) := by decide +kernel
/-- G_touched -/
def mv_c36 : List (Nat × Instr × Nat) := [(0, .iconst 0, 1), (1, .istore_n 3, 1), (2, .iload_n 1, 1), (3, .istore 4, 2), (5, .iload 4, 2), (7, .ifCond .eq 54, 3), (10, .aload_n 0, 1), (11, .getfield 18, 3), (14, .aload_n 0, 1), (15, .getfield 24, 3), (18, .iload 4, 2), (20, .iaload, 1), (21, .iaload, 1), (22, .iload_n 2, 1), (23, .ishr, 1), (24, .iconst 1, 1), (25, .iand, 1), (26, .ifCond .eq 13, 3), (29, .iload_n 3, 1), (30, .aload_n 0, 1), (31, .getfield 24, 3), (34, .iload 4, 2), (36, .iaload, 1), (37, .ior, 1), (38, .istore_n 3, 1), (39, .iload 4, 2), (41, .iload 4, 2), (43, .iconst 1, 1), (44, .isub, 1), (45, .iand, 1), (46, .aload_n 0, 1), (47, .getfield 24, 3), (50, .iload 4, 2), (52, .iaload, 1), (53, .iconst (-1), 1), (54, .ixor, 1), (55, .iand, 1), (56, .istore 4, 2), (58, .goto (-53), 3), (61, .iload_n 3, 1), (62, .ireturn, 1)]
set_option maxRecDepth 100000 in
theorem mv_d36 : ∀ q ∈ mv_c36, decode prog_4_method_13_code q.1 = .ok (q.2.1, q.2.2) := by decide +kernel
/-- H_tallest -/
def mv_c37 : List (Nat × Instr × Nat) := [(0, .iconst 0, 1), (1, .istore_n 2, 1), (2, .iconst 0, 1), (3, .istore_n 3, 1), (4, .iload_n 3, 1), (5, .aload_n 0, 1), (6, .getfield 27, 3), (9, .getfield 35, 3), (12, .if_icmp .ge 28, 3), (15, .iload_n 1, 1), (16, .iload_n 3, 1), (17, .ishr, 1), (18, .iconst 1, 1), (19, .iand, 1), (20, .ifCond .eq 14, 3), (23, .iload_n 2, 1), (24, .aload_n 0, 1), (25, .getfield 15, 3), (28, .iload_n 3, 1), (29, .iaload, 1), (30, .invokestatic 52, 3), (33, .istore_n 2, 1), (34, .iinc 3 1, 3), (37, .goto (-33), 3), (40, .iload_n 2, 1), (41, .ireturn, 1)]
set_option maxRecDepth 100000 in
theorem mv_d37 : ∀ q ∈ mv_c37, decode prog_5_method_4_code q.1 = .ok (q.2.1, q.2.2) := by decide +kernel
/-- H_leastBelow -/
def mv_c38 : List (Nat × Instr × Nat) := [(0, .sipush 1000, 3), (3, .istore_n 2, 1), (4, .iconst 0, 1), (5, .istore_n 3, 1), (6, .iload_n 3, 1), (7, .aload_n 0, 1), (8, .getfield 27, 3), (11, .getfield 35, 3), (14, .if_icmp .ge 43, 3), (17, .iload_n 1, 1), (18, .iload_n 3, 1), (19, .ishr, 1), (20, .iconst 1, 1), (21, .iand, 1), (22, .ifCond .eq 29, 3), (25, .iload_n 2, 1), (26, .aload_n 0, 1), (27, .getfield 18, 3), (30, .iload_n 3, 1), (31, .iaload, 1), (32, .aload_n 0, 1), (33, .getfield 24, 3), (36, .iload_n 1, 1), (37, .iconst 1, 1), (38, .iload_n 3, 1), (39, .ishl, 1), (40, .iconst (-1), 1), (41, .ixor, 1), (42, .iand, 1), (43, .iaload, 1), (44, .invokestatic 52, 3), (47, .invokestatic 79, 3), (50, .istore_n 2, 1), (51, .iinc 3 1, 3), (54, .goto (-48), 3), (57, .iload_n 2, 1), (58, .ireturn, 1)]
set_option maxRecDepth 100000 in
theorem mv_d38 : ∀ q ∈ mv_c38, decode prog_5_method_6_code q.1 = .ok (q.2.1, q.2.2) := by decide +kernel
/-- H_staysWithin -/
def mv_c39 : List (Nat × Instr × Nat) := [(0, .iload_n 1, 1), (1, .iload_n 2, 1), (2, .ishr, 1), (3, .iconst 1, 1), (4, .iand, 1), (5, .ifCond .eq 5, 3), (8, .iconst 0, 1), (9, .ireturn, 1), (10, .aload_n 0, 1), (11, .getfield 15, 3), (14, .iload_n 2, 1), (15, .iconst 1, 1), (16, .aload_n 0, 1), (17, .aload_n 0, 1), (18, .getfield 27, 3), (21, .iload_n 1, 1), (22, .iload_n 2, 1), (23, .invokevirtual 45, 3), (26, .invokevirtual 49, 3), (29, .iadd, 1), (30, .iastore, 1), (31, .aload_n 0, 1), (32, .getfield 15, 3), (35, .iload_n 2, 1), (36, .iaload, 1), (37, .iload_n 3, 1), (38, .if_icmp .gt 20, 3), (41, .aload_n 0, 1), (42, .iload_n 1, 1), (43, .iconst 1, 1), (44, .iload_n 2, 1), (45, .ishl, 1), (46, .ior, 1), (47, .invokevirtual 31, 3), (50, .iload_n 3, 1), (51, .if_icmp .gt 7, 3), (54, .iconst 1, 1), (55, .goto 4, 3), (58, .iconst 0, 1), (59, .ireturn, 1)]
set_option maxRecDepth 100000 in
theorem mv_d39 : ∀ q ∈ mv_c39, decode prog_5_method_3_code q.1 = .ok (q.2.1, q.2.2) := by decide +kernel
/-- O_fillLeast -/
def mv_c40 : List (Nat × Instr × Nat) := [(0, .aload_n 0, 1), (1, .getfield 27, 3), (4, .invokevirtual 72, 3), (7, .istore_n 2, 1), (8, .aload_n 0, 1), (9, .getfield 20, 3), (12, .iload_n 2, 1), (13, .iconst 0, 1), (14, .iastore, 1), (15, .iload_n 2, 1), (16, .iconst 1, 1), (17, .isub, 1), (18, .istore_n 3, 1), (19, .iload_n 3, 1), (20, .ifCond .lt 67, 3), (23, .sipush 1000, 3), (26, .istore 4, 2), (28, .iconst 0, 1), (29, .istore 5, 2), (31, .iload 5, 2), (33, .aload_n 0, 1), (34, .getfield 27, 3), (37, .getfield 40, 3), (40, .if_icmp .ge 33, 3), (43, .iload_n 3, 1), (44, .iload 5, 2), (46, .ishr, 1), (47, .iconst 1, 1), (48, .iand, 1), (49, .ifCond .ne 18, 3), (52, .iload 4, 2), (54, .aload_n 0, 1), (55, .iload_n 1, 1), (56, .iload_n 3, 1), (57, .iload 5, 2), (59, .invokevirtual 76, 3), (62, .invokestatic 80, 3), (65, .istore 4, 2), (67, .iinc 5 1, 3), (70, .goto (-39), 3), (73, .aload_n 0, 1), (74, .getfield 20, 3), (77, .iload_n 3, 1), (78, .iload 4, 2), (80, .iastore, 1), (81, .iinc 3 (-1), 3), (84, .goto (-65), 3), (87, .return_, 1)]
set_option maxRecDepth 100000 in
theorem mv_d40 : ∀ q ∈ mv_c40, decode prog_6_method_4_code q.1 = .ok (q.2.1, q.2.2) := by decide +kernel
/-- O_costFrom -/
def mv_c41 : List (Nat × Instr × Nat) := [(0, .aload_n 0, 1), (1, .iload_n 1, 1), (2, .iload_n 2, 1), (3, .iload_n 3, 1), (4, .invokevirtual 85, 3), (7, .istore 4, 2), (9, .aload_n 0, 1), (10, .getfield 20, 3), (13, .iload_n 2, 1), (14, .iconst 1, 1), (15, .iload_n 3, 1), (16, .ishl, 1), (17, .ior, 1), (18, .iaload, 1), (19, .istore 5, 2), (21, .iload_n 1, 1), (22, .iconst 4, 1), (23, .if_icmp .ne 11, 3), (26, .iload 4, 2), (28, .iload 5, 2), (30, .iadd, 1), (31, .goto 10, 3), (34, .iload 4, 2), (36, .iload 5, 2), (38, .invokestatic 88, 3), (41, .ireturn, 1)]
set_option maxRecDepth 100000 in
theorem mv_d41 : ∀ q ∈ mv_c41, decode prog_6_method_5_code q.1 = .ok (q.2.1, q.2.2) := by decide +kernel
/-- O_ownCost -/
def mv_c42 : List (Nat × Instr × Nat) := [(0, .iload_n 2, 1), (1, .iconst 1, 1), (2, .iload_n 3, 1), (3, .ishl, 1), (4, .ior, 1), (5, .istore 4, 2), (7, .aload_n 0, 1), (8, .getfield 27, 3), (11, .invokevirtual 72, 3), (14, .iload 4, 2), (16, .iconst (-1), 1), (17, .ixor, 1), (18, .iand, 1), (19, .istore 5, 2), (21, .iload_n 1, 1), (22, .tableswitch 126 0 3 #[30, 43, 60, 96], 30), (52, .aload_n 0, 1), (53, .getfield 27, 3), (56, .iload_n 2, 1), (57, .iload_n 3, 1), (58, .invokevirtual 45, 3), (61, .invokestatic 91, 3), (64, .ireturn, 1), (65, .iload 4, 2), (67, .aload_n 0, 1), (68, .getfield 27, 3), (71, .getfield 97, 3), (74, .iload 5, 2), (76, .iaload, 1), (77, .iand, 1), (78, .invokestatic 91, 3), (81, .ireturn, 1), (82, .iload 4, 2), (84, .aload_n 0, 1), (85, .getfield 27, 3), (88, .getfield 97, 3), (91, .iload 5, 2), (93, .iaload, 1), (94, .iand, 1), (95, .invokestatic 91, 3), (98, .iload 5, 2), (100, .aload_n 0, 1), (101, .getfield 27, 3), (104, .getfield 97, 3), (107, .iload 4, 2), (109, .iaload, 1), (110, .iand, 1), (111, .invokestatic 91, 3), (114, .invokestatic 88, 3), (117, .ireturn, 1), (118, .aload_n 0, 1), (119, .getfield 27, 3), (122, .getfield 100, 3), (125, .aload_n 0, 1), (126, .getfield 27, 3), (129, .getfield 103, 3), (132, .iload 4, 2), (134, .iaload, 1), (135, .isub, 1), (136, .aload_n 0, 1), (137, .getfield 27, 3), (140, .getfield 103, 3), (143, .iload 5, 2), (145, .iaload, 1), (146, .isub, 1), (147, .ireturn, 1), (148, .aload_n 0, 1), (149, .getfield 27, 3), (152, .iload_n 2, 1), (153, .iload_n 3, 1), (154, .invokevirtual 45, 3), (157, .aload_n 0, 1), (158, .getfield 27, 3), (161, .getfield 106, 3), (164, .iload_n 3, 1), (165, .iaload, 1), (166, .iconst (-1), 1), (167, .ixor, 1), (168, .iand, 1), (169, .invokestatic 91, 3), (172, .ireturn, 1)]
set_option maxRecDepth 100000 in
theorem mv_d42 : ∀ q ∈ mv_c42, decode prog_6_method_6_code q.1 = .ok (q.2.1, q.2.2) := by decide +kernel
/-- O_layBand -/
def mv_c43 : List (Nat × Instr × Nat) := [(0, .aload_n 0, 1), (1, .getfield 20, 3), (4, .iconst 0, 1), (5, .iaload, 1), (6, .istore_n 2, 1), (7, .iload_n 2, 1), (8, .aload_n 0, 1), (9, .getfield 27, 3), (12, .getfield 40, 3), (15, .if_icmp .ge 20, 3), (18, .aload_n 0, 1), (19, .aload_n 1, 1), (20, .iconst 0, 1), (21, .iconst 0, 1), (22, .iload_n 2, 1), (23, .invokevirtual 109, 3), (26, .ifCond .ne 9, 3), (29, .iinc 2 1, 3), (32, .goto (-25), 3), (35, .iload_n 2, 1), (36, .ireturn, 1)]
set_option maxRecDepth 100000 in
theorem mv_d43 : ∀ q ∈ mv_c43, decode prog_6_method_8_code q.1 = .ok (q.2.1, q.2.2) := by decide +kernel
/-- O_layBandBehind -/
def mv_c44 : List (Nat × Instr × Nat) := [(0, .iload_n 2, 1), (1, .aload_n 0, 1), (2, .getfield 27, 3), (5, .getfield 40, 3), (8, .if_icmp .ge 9, 3), (11, .iload_n 2, 1), (12, .bipush 10, 2), (14, .if_icmp .lt 5, 3), (17, .iconst 1, 1), (18, .ireturn, 1), (19, .iconst 0, 1), (20, .istore 5, 2), (22, .iload 5, 2), (24, .aload_n 0, 1), (25, .getfield 27, 3), (28, .getfield 40, 3), (31, .if_icmp .ge 77, 3), (34, .iload_n 3, 1), (35, .iload 5, 2), (37, .ishr, 1), (38, .iconst 1, 1), (39, .iand, 1), (40, .ifCond .ne 62, 3), (43, .aload_n 0, 1), (44, .iconst 2, 1), (45, .iload_n 3, 1), (46, .iload 5, 2), (48, .invokevirtual 76, 3), (51, .iload 4, 2), (53, .if_icmp .le 6, 3), (56, .goto 46, 3), (59, .aload_n 1, 1), (60, .iload_n 2, 1), (61, .iload 5, 2), (63, .iastore, 1), (64, .iload_n 3, 1), (65, .iconst 1, 1), (66, .iload 5, 2), (68, .ishl, 1), (69, .ior, 1), (70, .istore 6, 2), (72, .aload_n 0, 1), (73, .aload_n 1, 1), (74, .iload_n 2, 1), (75, .iload 6, 2), (77, .iload 4, 2), (79, .invokevirtual 113, 3), (82, .ifCond .eq 20, 3), (85, .aload_n 0, 1), (86, .aload_n 1, 1), (87, .iload_n 2, 1), (88, .iconst 1, 1), (89, .iadd, 1), (90, .iload 6, 2), (92, .iload 4, 2), (94, .invokevirtual 109, 3), (97, .ifCond .eq 5, 3), (100, .iconst 1, 1), (101, .ireturn, 1), (102, .iinc 5 1, 3), (105, .goto (-83), 3), (108, .iconst 0, 1), (109, .ireturn, 1)]
set_option maxRecDepth 100000 in
theorem mv_d44 : ∀ q ∈ mv_c44, decode prog_6_method_9_code q.1 = .ok (q.2.1, q.2.2) := by decide +kernel
/-- O_hasRoom -/
def mv_c45 : List (Nat × Instr × Nat) := [(0, .iconst 0, 1), (1, .istore 5, 2), (3, .iconst 0, 1), (4, .istore 6, 2), (6, .iload 6, 2), (8, .iload_n 2, 1), (9, .if_icmp .gt 51, 3), (12, .iload 5, 2), (14, .aload_n 0, 1), (15, .getfield 27, 3), (18, .getfield 106, 3), (21, .aload_n 1, 1), (22, .iload 6, 2), (24, .iaload, 1), (25, .iaload, 1), (26, .iload_n 3, 1), (27, .iconst (-1), 1), (28, .ixor, 1), (29, .iand, 1), (30, .ior, 1), (31, .istore 5, 2), (33, .iload 5, 2), (35, .invokestatic 91, 3), (38, .iconst 0, 1), (39, .iload 6, 2), (41, .iload 4, 2), (43, .iadd, 1), (44, .iload_n 2, 1), (45, .isub, 1), (46, .invokestatic 88, 3), (49, .if_icmp .le 5, 3), (52, .iconst 0, 1), (53, .ireturn, 1), (54, .iinc 6 1, 3), (57, .goto (-51), 3), (60, .iconst 1, 1), (61, .ireturn, 1)]
set_option maxRecDepth 100000 in
theorem mv_d45 : ∀ q ∈ mv_c45, decode prog_6_method_10_code q.1 = .ok (q.2.1, q.2.2) := by decide +kernel
/-- O_layLeast -/
def mv_c46 : List (Nat × Instr × Nat) := [(0, .iconst 0, 1), (1, .istore_n 3, 1), (2, .aload_n 0, 1), (3, .getfield 20, 3), (6, .iconst 0, 1), (7, .iaload, 1), (8, .istore 4, 2), (10, .iconst 0, 1), (11, .istore 5, 2), (13, .iload 5, 2), (15, .aload_n 0, 1), (16, .getfield 27, 3), (19, .getfield 40, 3), (22, .if_icmp .ge 85, 3), (25, .iconst 0, 1), (26, .istore 6, 2), (28, .iload 6, 2), (30, .aload_n 0, 1), (31, .getfield 27, 3), (34, .getfield 40, 3), (37, .iconst 1, 1), (38, .isub, 1), (39, .if_icmp .ge 31, 3), (42, .iload_n 3, 1), (43, .iload 6, 2), (45, .ishr, 1), (46, .iconst 1, 1), (47, .iand, 1), (48, .ifCond .ne 16, 3), (51, .aload_n 0, 1), (52, .iload_n 1, 1), (53, .iload_n 3, 1), (54, .iload 6, 2), (56, .invokevirtual 76, 3), (59, .iload 4, 2), (61, .if_icmp .le 9, 3), (64, .iinc 6 1, 3), (67, .goto (-39), 3), (70, .iload_n 1, 1), (71, .iconst 4, 1), (72, .if_icmp .ne 16, 3), (75, .iload 4, 2), (77, .aload_n 0, 1), (78, .iload_n 1, 1), (79, .iload_n 3, 1), (80, .iload 6, 2), (82, .invokevirtual 85, 3), (85, .isub, 1), (86, .istore 4, 2), (88, .aload_n 2, 1), (89, .iload 5, 2), (91, .iload 6, 2), (93, .iastore, 1), (94, .iload_n 3, 1), (95, .iconst 1, 1), (96, .iload 6, 2), (98, .ishl, 1), (99, .ior, 1), (100, .istore_n 3, 1), (101, .iinc 5 1, 3), (104, .goto (-91), 3), (107, .aload_n 0, 1), (108, .getfield 20, 3), (111, .iconst 0, 1), (112, .iaload, 1), (113, .ireturn, 1)]
set_option maxRecDepth 100000 in
theorem mv_d46 : ∀ q ∈ mv_c46, decode prog_6_method_7_code q.1 = .ok (q.2.1, q.2.2) := by decide +kernel
end
section
/-- B_order -/
def mv_c47 : List (Nat × Instr × Nat) := [(0, .iload_n 1, 1), (1, .invokestatic 88, 3), (4, .ifCond .ne 6, 3), (7, .bipush (-2), 2), (9, .ireturn, 1), (10, .iload_n 2, 1), (11, .ifCond .lt 14, 3), (14, .iload_n 2, 1), (15, .aload_n 0, 1), (16, .getfield 12, 3), (19, .getfield 39, 3), (22, .if_icmp .lt 5, 3), (25, .iconst (-1), 1), (26, .ireturn, 1), (27, .aload_n 0, 1), (28, .getfield 21, 3), (31, .iload_n 1, 1), (32, .invokevirtual 91, 3), (35, .aload_n 0, 1), (36, .getfield 21, 3), (39, .getfield 97, 3), (42, .iload_n 1, 1), (43, .aaload, 1), (44, .iload_n 2, 1), (45, .iaload, 1), (46, .ireturn, 1)]
set_option maxRecDepth 100000 in
theorem mv_d47 : ∀ q ∈ mv_c47, decode prog_1_method_9_code q.1 = .ok (q.2.1, q.2.2) := by decide +kernel
/-- B_seen -/
def mv_c48 : List (Nat × Instr × Nat) := [(0, .iload_n 1, 1), (1, .invokestatic 88, 3), (4, .ifCond .eq 14, 3), (7, .aload_n 0, 1), (8, .getfield 12, 3), (11, .iload_n 2, 1), (12, .invokevirtual 47, 3), (15, .ifCond .ne 6, 3), (18, .bipush (-2), 2), (20, .ireturn, 1), (21, .aload_n 0, 1), (22, .getfield 21, 3), (25, .iload_n 1, 1), (26, .invokevirtual 91, 3), (29, .aload_n 0, 1), (30, .getfield 21, 3), (33, .iload_n 1, 1), (34, .iload_n 2, 1), (35, .invokevirtual 101, 3), (38, .ireturn, 1)]
set_option maxRecDepth 100000 in
theorem mv_d48 : ∀ q ∈ mv_c48, decode prog_1_method_10_code q.1 = .ok (q.2.1, q.2.2) := by decide +kernel
/-- O_seenFrom -/
def mv_c49 : List (Nat × Instr × Nat) := [(0, .iconst 0, 1), (1, .istore_n 3, 1), (2, .iconst 0, 1), (3, .istore 4, 2), (5, .iload 4, 2), (7, .aload_n 0, 1), (8, .getfield 27, 3), (11, .getfield 40, 3), (14, .if_icmp .ge 36, 3), (17, .aload_n 0, 1), (18, .getfield 11, 3), (21, .iload_n 1, 1), (22, .aaload, 1), (23, .iload 4, 2), (25, .iaload, 1), (26, .iload_n 2, 1), (27, .if_icmp .eq 23, 3), (30, .iload_n 3, 1), (31, .iconst 1, 1), (32, .aload_n 0, 1), (33, .getfield 11, 3), (36, .iload_n 1, 1), (37, .aaload, 1), (38, .iload 4, 2), (40, .iaload, 1), (41, .ishl, 1), (42, .ior, 1), (43, .istore_n 3, 1), (44, .iinc 4 1, 3), (47, .goto (-42), 3), (50, .aload_n 0, 1), (51, .getfield 27, 3), (54, .iload_n 3, 1), (55, .iload_n 2, 1), (56, .invokevirtual 45, 3), (59, .ireturn, 1)]
set_option maxRecDepth 100000 in
theorem mv_d49 : ∀ q ∈ mv_c49, decode prog_6_method_2_code q.1 = .ok (q.2.1, q.2.2) := by decide +kernel
/-- B_separator -/
def mv_c50 : List (Nat × Instr × Nat) := [(0, .aload_n 0, 1), (1, .getfield 28, 3), (4, .iload_n 1, 1), (5, .invokevirtual 105, 3), (8, .ireturn, 1)]
set_option maxRecDepth 100000 in
theorem mv_d50 : ∀ q ∈ mv_c50, decode prog_1_method_11_code q.1 = .ok (q.2.1, q.2.2) := by decide +kernel
/-- F_separatorAt -/
def mv_c51 : List (Nat × Instr × Nat) := [(0, .aload_n 0, 1), (1, .getfield 9, 3), (4, .invokevirtual 44, 3), (7, .iconst 0, 1), (8, .istore_n 2, 1), (9, .aload_n 0, 1), (10, .getfield 9, 3), (13, .invokevirtual 37, 3), (16, .istore_n 3, 1), (17, .iconst 0, 1), (18, .istore 4, 2), (20, .iload 4, 2), (22, .iload_n 3, 1), (23, .if_icmp .gt 29, 3), (26, .aload_n 0, 1), (27, .iload 4, 2), (29, .invokevirtual 57, 3), (32, .ifCond .eq 14, 3), (35, .iload_n 2, 1), (36, .iload_n 1, 1), (37, .if_icmp .ne 6, 3), (40, .iload 4, 2), (42, .ireturn, 1), (43, .iinc 2 1, 3), (46, .iinc 4 1, 3), (49, .goto (-29), 3), (52, .iconst (-1), 1), (53, .ireturn, 1)]
set_option maxRecDepth 100000 in
theorem mv_d51 : ∀ q ∈ mv_c51, decode prog_3_method_8_code q.1 = .ok (q.2.1, q.2.2) := by decide +kernel
/-- F_isSeparator -/
def mv_c52 : List (Nat × Instr × Nat) := [(0, .iconst 0, 1), (1, .istore_n 2, 1), (2, .aload_n 0, 1), (3, .getfield 9, 3), (6, .invokevirtual 37, 3), (9, .iload_n 1, 1), (10, .iconst (-1), 1), (11, .ixor, 1), (12, .iand, 1), (13, .istore_n 3, 1), (14, .iload_n 3, 1), (15, .ifCond .eq 50, 3), (18, .aload_n 0, 1), (19, .getfield 9, 3), (22, .getfield 60, 3), (25, .aload_n 0, 1), (26, .getfield 9, 3), (29, .getfield 63, 3), (32, .iload_n 3, 1), (33, .iaload, 1), (34, .iaload, 1), (35, .iload_n 1, 1), (36, .iand, 1), (37, .iload_n 1, 1), (38, .if_icmp .ne 6, 3), (41, .iinc 2 1, 3), (44, .iload_n 3, 1), (45, .iload_n 3, 1), (46, .iconst 1, 1), (47, .isub, 1), (48, .iand, 1), (49, .aload_n 0, 1), (50, .getfield 9, 3), (53, .getfield 63, 3), (56, .iload_n 3, 1), (57, .iaload, 1), (58, .iconst (-1), 1), (59, .ixor, 1), (60, .iand, 1), (61, .istore_n 3, 1), (62, .goto (-48), 3), (65, .iload_n 2, 1), (66, .iconst 2, 1), (67, .if_icmp .lt 7, 3), (70, .iconst 1, 1), (71, .goto 4, 3), (74, .iconst 0, 1), (75, .ireturn, 1)]
set_option maxRecDepth 100000 in
theorem mv_d52 : ∀ q ∈ mv_c52, decode prog_3_method_9_code q.1 = .ok (q.2.1, q.2.2) := by decide +kernel
/-- B_clique -/
def mv_c53 : List (Nat × Instr × Nat) := [(0, .aload_n 0, 1), (1, .getfield 28, 3), (4, .iload_n 1, 1), (5, .invokevirtual 109, 3), (8, .ireturn, 1)]
set_option maxRecDepth 100000 in
theorem mv_d53 : ∀ q ∈ mv_c53, decode prog_1_method_12_code q.1 = .ok (q.2.1, q.2.2) := by decide +kernel
/-- F_cliqueAt -/
def mv_c54 : List (Nat × Instr × Nat) := [(0, .iconst 0, 1), (1, .istore_n 2, 1), (2, .aload_n 0, 1), (3, .getfield 9, 3), (6, .invokevirtual 37, 3), (9, .istore_n 3, 1), (10, .iconst 1, 1), (11, .istore 4, 2), (13, .iload 4, 2), (15, .iload_n 3, 1), (16, .if_icmp .gt 29, 3), (19, .aload_n 0, 1), (20, .iload 4, 2), (22, .invokevirtual 66, 3), (25, .ifCond .eq 14, 3), (28, .iload_n 2, 1), (29, .iload_n 1, 1), (30, .if_icmp .ne 6, 3), (33, .iload 4, 2), (35, .ireturn, 1), (36, .iinc 2 1, 3), (39, .iinc 4 1, 3), (42, .goto (-29), 3), (45, .iconst (-1), 1), (46, .ireturn, 1)]
set_option maxRecDepth 100000 in
theorem mv_d54 : ∀ q ∈ mv_c54, decode prog_3_method_10_code q.1 = .ok (q.2.1, q.2.2) := by decide +kernel
/-- F_isClique -/
def mv_c55 : List (Nat × Instr × Nat) := [(0, .aload_n 0, 1), (1, .getfield 9, 3), (4, .invokevirtual 37, 3), (7, .istore_n 2, 1), (8, .iconst 0, 1), (9, .istore_n 3, 1), (10, .iload_n 3, 1), (11, .aload_n 0, 1), (12, .getfield 9, 3), (15, .getfield 15, 3), (18, .if_icmp .ge 33, 3), (21, .iload_n 1, 1), (22, .iload_n 3, 1), (23, .ishr, 1), (24, .iconst 1, 1), (25, .iand, 1), (26, .ifCond .eq 19, 3), (29, .iload_n 2, 1), (30, .aload_n 0, 1), (31, .getfield 9, 3), (34, .getfield 21, 3), (37, .iload_n 3, 1), (38, .iaload, 1), (39, .iconst 1, 1), (40, .iload_n 3, 1), (41, .ishl, 1), (42, .ior, 1), (43, .iand, 1), (44, .istore_n 2, 1), (45, .iinc 3 1, 3), (48, .goto (-38), 3), (51, .iload_n 1, 1), (52, .ifCond .eq 12, 3), (55, .iload_n 2, 1), (56, .iload_n 1, 1), (57, .if_icmp .ne 7, 3), (60, .iconst 1, 1), (61, .goto 4, 3), (64, .iconst 0, 1), (65, .ireturn, 1)]
set_option maxRecDepth 100000 in
theorem mv_d55 : ∀ q ∈ mv_c55, decode prog_3_method_11_code q.1 = .ok (q.2.1, q.2.2) := by decide +kernel
/-- B_total -/
def mv_c56 : List (Nat × Instr × Nat) := [(0, .iload_n 1, 1), (1, .ifCond .lt 9, 3), (4, .iload_n 1, 1), (5, .bipush 14, 2), (7, .if_icmp .lt 7, 3), (10, .ldc2_w 112, 3), (13, .lreturn, 1), (14, .iload_n 1, 1), (15, .iconst 1, 1), (16, .if_icmp .ne 17, 3), (19, .iload_n 2, 1), (20, .ifCond .lt 9, 3), (23, .iload_n 2, 1), (24, .bipush 10, 2), (26, .if_icmp .le 7, 3), (29, .ldc2_w 112, 3), (32, .lreturn, 1), (33, .aload_n 0, 1), (34, .getfield 35, 3), (37, .iload_n 1, 1), (38, .iload_n 2, 1), (39, .invokevirtual 114, 3), (42, .lreturn, 1)]
set_option maxRecDepth 100000 in
theorem mv_d56 : ∀ q ∈ mv_c56, decode prog_1_method_13_code q.1 = .ok (q.2.1, q.2.2) := by decide +kernel
/-- C_tell -/
def mv_c57 : List (Nat × Instr × Nat) := [(0, .aload_n 0, 1), (1, .getfield 21, 3), (4, .invokevirtual 25, 3), (7, .iload_n 1, 1), (8, .tableswitch 140 0 12 #[68, 73, 79, 85, 91, 96, 101, 106, 111, 116, 121, 130, 135], 68), (76, .aload_n 0, 1), (77, .invokevirtual 30, 3), (80, .lreturn, 1), (81, .aload_n 0, 1), (82, .iload_n 2, 1), (83, .invokevirtual 34, 3), (86, .lreturn, 1), (87, .aload_n 0, 1), (88, .iconst 0, 1), (89, .invokevirtual 38, 3), (92, .lreturn, 1), (93, .aload_n 0, 1), (94, .iconst 1, 1), (95, .invokevirtual 38, 3), (98, .lreturn, 1), (99, .aload_n 0, 1), (100, .invokevirtual 42, 3), (103, .lreturn, 1), (104, .aload_n 0, 1), (105, .invokevirtual 45, 3), (108, .lreturn, 1), (109, .aload_n 0, 1), (110, .invokevirtual 48, 3), (113, .lreturn, 1), (114, .aload_n 0, 1), (115, .invokevirtual 51, 3), (118, .lreturn, 1), (119, .aload_n 0, 1), (120, .invokevirtual 54, 3), (123, .lreturn, 1), (124, .aload_n 0, 1), (125, .invokevirtual 57, 3), (128, .lreturn, 1), (129, .aload_n 0, 1), (130, .iconst (-1), 1), (131, .invokevirtual 34, 3), (134, .invokestatic 60, 3), (137, .lreturn, 1), (138, .aload_n 0, 1), (139, .invokevirtual 66, 3), (142, .lreturn, 1), (143, .aload_n 0, 1), (144, .invokevirtual 69, 3), (147, .lreturn, 1), (148, .aload_n 0, 1), (149, .invokevirtual 72, 3), (152, .lreturn, 1)]
set_option maxRecDepth 100000 in
theorem mv_d57 : ∀ q ∈ mv_c57, decode prog_2_method_2_code q.1 = .ok (q.2.1, q.2.2) := by decide +kernel
/-- C_setsApart -/
def mv_c58 : List (Nat × Instr × Nat) := [(0, .aload_n 0, 1), (1, .getfield 21, 3), (4, .invokevirtual 75, 3), (7, .istore_n 1, 1), (8, .lconst 0, 1), (9, .lstore_n 2, 1), (10, .iconst 0, 1), (11, .istore 4, 2), (13, .iload 4, 2), (15, .iload_n 1, 1), (16, .if_icmp .gt 30, 3), (19, .lload_n 2, 1), (20, .aload_n 0, 1), (21, .getfield 21, 3), (24, .getfield 79, 3), (27, .iload 4, 2), (29, .iaload, 1), (30, .ifCond .ne 7, 3), (33, .lconst 1, 1), (34, .goto 4, 3), (37, .lconst 0, 1), (38, .ladd, 1), (39, .lstore_n 2, 1), (40, .iinc 4 1, 3), (43, .goto (-30), 3), (46, .lload_n 2, 1), (47, .lreturn, 1)]
set_option maxRecDepth 100000 in
theorem mv_d58 : ∀ q ∈ mv_c58, decode prog_2_method_3_code q.1 = .ok (q.2.1, q.2.2) := by decide +kernel
/-- C_colourings -/
def mv_c59 : List (Nat × Instr × Nat) := [(0, .aload_n 0, 1), (1, .invokevirtual 90, 3), (4, .aload_n 0, 1), (5, .getfield 9, 3), (8, .aload_n 0, 1), (9, .getfield 21, 3), (12, .invokevirtual 75, 3), (15, .lconst 1, 1), (16, .lastore, 1), (17, .aload_n 0, 1), (18, .getfield 9, 3), (21, .iconst 0, 1), (22, .laload, 1), (23, .lstore_n 2, 1), (24, .iconst 0, 1), (25, .istore 4, 2), (27, .iload 4, 2), (29, .aload_n 0, 1), (30, .getfield 21, 3), (33, .getfield 93, 3), (36, .if_icmp .ge 26, 3), (39, .aload_n 0, 1), (40, .iload_n 1, 1), (41, .iload 4, 2), (43, .isub, 1), (44, .invokevirtual 97, 3), (47, .lload_n 2, 1), (48, .aload_n 0, 1), (49, .getfield 9, 3), (52, .iconst 0, 1), (53, .laload, 1), (54, .ladd, 1), (55, .lstore_n 2, 1), (56, .iinc 4 1, 3), (59, .goto (-32), 3), (62, .lload_n 2, 1), (63, .lreturn, 1)]
set_option maxRecDepth 100000 in
theorem mv_d59 : ∀ q ∈ mv_c59, decode prog_2_method_6_code q.1 = .ok (q.2.1, q.2.2) := by decide +kernel
/-- C_clearRows -/
def mv_c60 : List (Nat × Instr × Nat) := [(0, .aload_n 0, 1), (1, .getfield 21, 3), (4, .invokevirtual 75, 3), (7, .istore_n 1, 1), (8, .iconst 0, 1), (9, .istore_n 2, 1), (10, .iload_n 2, 1), (11, .iload_n 1, 1), (12, .if_icmp .gt 23, 3), (15, .aload_n 0, 1), (16, .getfield 9, 3), (19, .iload_n 2, 1), (20, .lconst 0, 1), (21, .lastore, 1), (22, .aload_n 0, 1), (23, .getfield 15, 3), (26, .iload_n 2, 1), (27, .lconst 0, 1), (28, .lastore, 1), (29, .iinc 2 1, 3), (32, .goto (-22), 3), (35, .return_, 1)]
set_option maxRecDepth 100000 in
theorem mv_d60 : ∀ q ∈ mv_c60, decode prog_2_method_7_code q.1 = .ok (q.2.1, q.2.2) := by decide +kernel
/-- C_colourOneClass -/
def mv_c61 : List (Nat × Instr × Nat) := [(0, .aload_n 0, 1), (1, .getfield 21, 3), (4, .invokevirtual 75, 3), (7, .istore_n 2, 1), (8, .aload_n 0, 1), (9, .getfield 9, 3), (12, .iconst 0, 1), (13, .lconst 0, 1), (14, .lastore, 1), (15, .iconst 1, 1), (16, .istore_n 3, 1), (17, .iload_n 3, 1), (18, .iload_n 2, 1), (19, .if_icmp .gt 41, 3), (22, .aload_n 0, 1), (23, .getfield 9, 3), (26, .iload_n 3, 1), (27, .laload, 1), (28, .lconst 0, 1), (29, .lcmp, 1), (30, .ifCond .eq 24, 3), (33, .aload_n 0, 1), (34, .iload_n 3, 1), (35, .aload_n 0, 1), (36, .getfield 9, 3), (39, .iload_n 3, 1), (40, .laload, 1), (41, .iload_n 1, 1), (42, .i2l, 1), (43, .lmul, 1), (44, .invokevirtual 101, 3), (47, .aload_n 0, 1), (48, .getfield 9, 3), (51, .iload_n 3, 1), (52, .lconst 0, 1), (53, .lastore, 1), (54, .iinc 3 1, 3), (57, .goto (-40), 3), (60, .aload_n 0, 1), (61, .getfield 9, 3), (64, .astore_n 3, 1), (65, .aload_n 0, 1), (66, .aload_n 0, 1), (67, .getfield 15, 3), (70, .putfield 9, 3), (73, .aload_n 0, 1), (74, .aload_n 3, 1), (75, .putfield 15, 3), (78, .return_, 1)]
set_option maxRecDepth 100000 in
theorem mv_d61 : ∀ q ∈ mv_c61, decode prog_2_method_8_code q.1 = .ok (q.2.1, q.2.2) := by decide +kernel
/-- C_takeClasses -/
def mv_c62 : List (Nat × Instr × Nat) := [(0, .iload_n 1, 1), (1, .iload_n 1, 1), (2, .iconst 1, 1), (3, .isub, 1), (4, .iand, 1), (5, .istore 4, 2), (7, .iload 4, 2), (9, .aload_n 0, 1), (10, .getfield 21, 3), (13, .getfield 105, 3), (16, .iload_n 1, 1), (17, .invokestatic 108, 3), (20, .iaload, 1), (21, .iconst (-1), 1), (22, .ixor, 1), (23, .iand, 1), (24, .istore 5, 2), (26, .iload 5, 2), (28, .istore 6, 2), (30, .iload 6, 2), (32, .ifCond .lt 53, 3), (35, .aload_n 0, 1), (36, .getfield 21, 3), (39, .getfield 79, 3), (42, .iload 6, 2), (44, .iaload, 1), (45, .ifCond .ne 19, 3), (48, .aload_n 0, 1), (49, .getfield 15, 3), (52, .iload 4, 2), (54, .iload 6, 2), (56, .iconst (-1), 1), (57, .ixor, 1), (58, .iand, 1), (59, .dup2, 1), (60, .laload, 1), (61, .lload_n 2, 1), (62, .ladd, 1), (63, .lastore, 1), (64, .iload 6, 2), (66, .ifCond .ne 7, 3), (69, .iconst (-1), 1), (70, .goto 10, 3), (73, .iload 6, 2), (75, .iconst 1, 1), (76, .isub, 1), (77, .iload 5, 2), (79, .iand, 1), (80, .istore 6, 2), (82, .goto (-52), 3), (85, .return_, 1)]
set_option maxRecDepth 100000 in
theorem mv_d62 : ∀ q ∈ mv_c62, decode prog_2_method_9_code q.1 = .ok (q.2.1, q.2.2) := by decide +kernel
/-- C_matchings -/
def mv_c63 : List (Nat × Instr × Nat) := [(0, .aload_n 0, 1), (1, .getfield 21, 3), (4, .invokevirtual 75, 3), (7, .istore_n 2, 1), (8, .aload_n 0, 1), (9, .getfield 9, 3), (12, .iconst 0, 1), (13, .lconst 1, 1), (14, .lastore, 1), (15, .iconst 1, 1), (16, .istore_n 3, 1), (17, .iload_n 3, 1), (18, .iload_n 2, 1), (19, .if_icmp .gt 96, 3), (22, .iload_n 3, 1), (23, .iload_n 3, 1), (24, .iconst 1, 1), (25, .isub, 1), (26, .iand, 1), (27, .istore 4, 2), (29, .iload_n 1, 1), (30, .ifCond .eq 7, 3), (33, .lconst 0, 1), (34, .goto 10, 3), (37, .aload_n 0, 1), (38, .getfield 9, 3), (41, .iload 4, 2), (43, .laload, 1), (44, .lstore 5, 2), (46, .aload_n 0, 1), (47, .getfield 21, 3), (50, .getfield 105, 3), (53, .iload_n 3, 1), (54, .invokestatic 108, 3), (57, .iaload, 1), (58, .iload 4, 2), (60, .iand, 1), (61, .istore 7, 2), (63, .iload 7, 2), (65, .ifCond .eq 36, 3), (68, .lload 5, 2), (70, .aload_n 0, 1), (71, .getfield 9, 3), (74, .iload 4, 2), (76, .iload 7, 2), (78, .iload 7, 2), (80, .ineg, 1), (81, .iand, 1), (82, .iconst (-1), 1), (83, .ixor, 1), (84, .iand, 1), (85, .laload, 1), (86, .ladd, 1), (87, .lstore 5, 2), (89, .iload 7, 2), (91, .iload 7, 2), (93, .iconst 1, 1), (94, .isub, 1), (95, .iand, 1), (96, .istore 7, 2), (98, .goto (-35), 3), (101, .aload_n 0, 1), (102, .getfield 9, 3), (105, .iload_n 3, 1), (106, .lload 5, 2), (108, .lastore, 1), (109, .iinc 3 1, 3), (112, .goto (-95), 3), (115, .aload_n 0, 1), (116, .getfield 9, 3), (119, .iload_n 2, 1), (120, .laload, 1), (121, .lreturn, 1)]
set_option maxRecDepth 100000 in
theorem mv_d63 : ∀ q ∈ mv_c63, decode prog_2_method_10_code q.1 = .ok (q.2.1, q.2.2) := by decide +kernel
/-- C_coveringSets -/
def mv_c64 : List (Nat × Instr × Nat) := [(0, .aload_n 0, 1), (1, .getfield 21, 3), (4, .invokevirtual 75, 3), (7, .istore_n 1, 1), (8, .lconst 0, 1), (9, .lstore_n 2, 1), (10, .iconst 0, 1), (11, .istore 4, 2), (13, .iload 4, 2), (15, .iload_n 1, 1), (16, .if_icmp .gt 34, 3), (19, .lload_n 2, 1), (20, .iload 4, 2), (22, .aload_n 0, 1), (23, .getfield 21, 3), (26, .getfield 83, 3), (29, .iload 4, 2), (31, .iaload, 1), (32, .ior, 1), (33, .iload_n 1, 1), (34, .if_icmp .ne 7, 3), (37, .lconst 1, 1), (38, .goto 4, 3), (41, .lconst 0, 1), (42, .ladd, 1), (43, .lstore_n 2, 1), (44, .iinc 4 1, 3), (47, .goto (-34), 3), (50, .lload_n 2, 1), (51, .lreturn, 1)]
set_option maxRecDepth 100000 in
theorem mv_d64 : ∀ q ∈ mv_c64, decode prog_2_method_4_code q.1 = .ok (q.2.1, q.2.2) := by decide +kernel
/-- C_rings -/
def mv_c65 : List (Nat × Instr × Nat) := [(0, .aload_n 0, 1), (1, .getfield 21, 3), (4, .getfield 93, 3), (7, .iconst 3, 1), (8, .if_icmp .ge 5, 3), (11, .lconst 0, 1), (12, .lreturn, 1), (13, .aload_n 0, 1), (14, .invokevirtual 112, 3), (17, .aload_n 0, 1), (18, .getfield 21, 3), (21, .getfield 93, 3), (24, .iconst 1, 1), (25, .isub, 1), (26, .istore_n 1, 1), (27, .aload_n 0, 1), (28, .getfield 21, 3), (31, .invokevirtual 75, 3), (34, .iconst 1, 1), (35, .iload_n 1, 1), (36, .ishl, 1), (37, .iconst (-1), 1), (38, .ixor, 1), (39, .iand, 1), (40, .istore_n 2, 1), (41, .aload_n 0, 1), (42, .iload_n 2, 1), (43, .aload_n 0, 1), (44, .getfield 21, 3), (47, .getfield 105, 3), (50, .iload_n 1, 1), (51, .iaload, 1), (52, .invokevirtual 115, 3), (55, .ldc2_w 119, 3), (58, .ldiv, 1), (59, .lreturn, 1)]
set_option maxRecDepth 100000 in
theorem mv_d65 : ∀ q ∈ mv_c65, decode prog_2_method_11_code q.1 = .ok (q.2.1, q.2.2) := by decide +kernel
/-- C_fillArms -/
def mv_c66 : List (Nat × Instr × Nat) := [(0, .aload_n 0, 1), (1, .getfield 21, 3), (4, .getfield 93, 3), (7, .iconst 1, 1), (8, .isub, 1), (9, .istore_n 1, 1), (10, .aload_n 0, 1), (11, .getfield 21, 3), (14, .invokevirtual 75, 3), (17, .iconst 1, 1), (18, .ishr, 1), (19, .istore_n 2, 1), (20, .iconst 1, 1), (21, .istore_n 3, 1), (22, .iload_n 3, 1), (23, .iload_n 2, 1), (24, .if_icmp .gt 100, 3), (27, .iconst 0, 1), (28, .istore 4, 2), (30, .iload 4, 2), (32, .iload_n 1, 1), (33, .if_icmp .ge 85, 3), (36, .iload_n 3, 1), (37, .iconst 1, 1), (38, .iload 4, 2), (40, .ishl, 1), (41, .iconst (-1), 1), (42, .ixor, 1), (43, .iand, 1), (44, .istore 5, 2), (46, .lconst 0, 1), (47, .lstore 6, 2), (49, .iload 5, 2), (51, .ifCond .ne 23, 3), (54, .aload_n 0, 1), (55, .getfield 21, 3), (58, .getfield 105, 3), (61, .iload_n 1, 1), (62, .iaload, 1), (63, .iload 4, 2), (65, .ishr, 1), (66, .iconst 1, 1), (67, .iand, 1), (68, .i2l, 1), (69, .lstore 6, 2), (71, .goto 27, 3), (74, .iload 5, 2), (76, .iload_n 3, 1), (77, .if_icmp .eq 21, 3), (80, .aload_n 0, 1), (81, .iload 5, 2), (83, .aload_n 0, 1), (84, .getfield 21, 3), (87, .getfield 105, 3), (90, .iload 4, 2), (92, .iaload, 1), (93, .invokevirtual 115, 3), (96, .lstore 6, 2), (98, .aload_n 0, 1), (99, .getfield 18, 3), (102, .iload_n 3, 1), (103, .bipush 9, 2), (105, .imul, 1), (106, .iload 4, 2), (108, .iadd, 1), (109, .lload 6, 2), (111, .lastore, 1), (112, .iinc 4 1, 3), (115, .goto (-85), 3), (118, .iinc 3 1, 3), (121, .goto (-99), 3), (124, .return_, 1)]
set_option maxRecDepth 100000 in
theorem mv_d66 : ∀ q ∈ mv_c66, decode prog_2_method_13_code q.1 = .ok (q.2.1, q.2.2) := by decide +kernel
/-- C_armsTo -/
def mv_c67 : List (Nat × Instr × Nat) := [(0, .lconst 0, 1), (1, .lstore_n 3, 1), (2, .iload_n 1, 1), (3, .iload_n 2, 1), (4, .iand, 1), (5, .istore 5, 2), (7, .iload 5, 2), (9, .ifCond .eq 33, 3), (12, .lload_n 3, 1), (13, .aload_n 0, 1), (14, .getfield 18, 3), (17, .iload_n 1, 1), (18, .bipush 9, 2), (20, .imul, 1), (21, .iload 5, 2), (23, .invokestatic 108, 3), (26, .iadd, 1), (27, .laload, 1), (28, .ladd, 1), (29, .lstore_n 3, 1), (30, .iload 5, 2), (32, .iload 5, 2), (34, .iconst 1, 1), (35, .isub, 1), (36, .iand, 1), (37, .istore 5, 2), (39, .goto (-32), 3), (42, .lload_n 3, 1), (43, .lreturn, 1)]
set_option maxRecDepth 100000 in
theorem mv_d67 : ∀ q ∈ mv_c67, decode prog_2_method_14_code q.1 = .ok (q.2.1, q.2.2) := by decide +kernel
/-- C_waysThrough -/
def mv_c68 : List (Nat × Instr × Nat) := [(0, .aload_n 0, 1), (1, .getfield 21, 3), (4, .getfield 93, 3), (7, .iconst 2, 1), (8, .if_icmp .ge 12, 3), (11, .aload_n 0, 1), (12, .getfield 21, 3), (15, .getfield 93, 3), (18, .i2l, 1), (19, .lreturn, 1), (20, .aload_n 0, 1), (21, .invokevirtual 112, 3), (24, .aload_n 0, 1), (25, .getfield 21, 3), (28, .invokevirtual 75, 3), (31, .iconst 1, 1), (32, .ishr, 1), (33, .istore_n 1, 1), (34, .aload_n 0, 1), (35, .getfield 9, 3), (38, .iconst 0, 1), (39, .lconst 1, 1), (40, .lastore, 1), (41, .iconst 1, 1), (42, .istore_n 2, 1), (43, .iload_n 2, 1), (44, .iload_n 1, 1), (45, .if_icmp .gt 21, 3), (48, .aload_n 0, 1), (49, .getfield 9, 3), (52, .iload_n 2, 1), (53, .aload_n 0, 1), (54, .iload_n 2, 1), (55, .iload_n 1, 1), (56, .invokevirtual 115, 3), (59, .lastore, 1), (60, .iinc 2 1, 3), (63, .goto (-20), 3), (66, .lconst 0, 1), (67, .lstore_n 2, 1), (68, .iconst 0, 1), (69, .istore 4, 2), (71, .iload 4, 2), (73, .iload_n 1, 1), (74, .if_icmp .gt 31, 3), (77, .lload_n 2, 1), (78, .aload_n 0, 1), (79, .getfield 9, 3), (82, .iload 4, 2), (84, .laload, 1), (85, .aload_n 0, 1), (86, .getfield 9, 3), (89, .iload_n 1, 1), (90, .iload 4, 2), (92, .iconst (-1), 1), (93, .ixor, 1), (94, .iand, 1), (95, .laload, 1), (96, .lmul, 1), (97, .ladd, 1), (98, .lstore_n 2, 1), (99, .iinc 4 1, 3), (102, .goto (-31), 3), (105, .lload_n 2, 1), (106, .ldc2_w 119, 3), (109, .ldiv, 1), (110, .lreturn, 1)]
set_option maxRecDepth 100000 in
theorem mv_d68 : ∀ q ∈ mv_c68, decode prog_2_method_12_code q.1 = .ok (q.2.1, q.2.2) := by decide +kernel
/-- C_trees -/
def mv_c69 : List (Nat × Instr × Nat) := [(0, .aload_n 0, 1), (1, .getfield 21, 3), (4, .invokevirtual 75, 3), (7, .istore_n 1, 1), (8, .aload_n 0, 1), (9, .getfield 9, 3), (12, .iconst 0, 1), (13, .lconst 0, 1), (14, .lastore, 1), (15, .iconst 1, 1), (16, .istore_n 2, 1), (17, .iload_n 2, 1), (18, .iload_n 1, 1), (19, .if_icmp .gt 35, 3), (22, .aload_n 0, 1), (23, .getfield 9, 3), (26, .iload_n 2, 1), (27, .aload_n 0, 1), (28, .getfield 21, 3), (31, .iload_n 2, 1), (32, .invokevirtual 86, 3), (35, .ifCond .eq 11, 3), (38, .aload_n 0, 1), (39, .iload_n 2, 1), (40, .invokevirtual 121, 3), (43, .goto 4, 3), (46, .lconst 0, 1), (47, .lastore, 1), (48, .iinc 2 1, 3), (51, .goto (-34), 3), (54, .aload_n 0, 1), (55, .getfield 9, 3), (58, .iload_n 1, 1), (59, .laload, 1), (60, .lreturn, 1)]
set_option maxRecDepth 100000 in
theorem mv_d69 : ∀ q ∈ mv_c69, decode prog_2_method_15_code q.1 = .ok (q.2.1, q.2.2) := by decide +kernel
/-- C_treesOn -/
def mv_c70 : List (Nat × Instr × Nat) := [(0, .iload_n 1, 1), (1, .iload_n 1, 1), (2, .iconst 1, 1), (3, .isub, 1), (4, .iand, 1), (5, .istore_n 2, 1), (6, .iload_n 2, 1), (7, .ifCond .ne 5, 3), (10, .lconst 1, 1), (11, .lreturn, 1), (12, .aload_n 0, 1), (13, .getfield 21, 3), (16, .getfield 105, 3), (19, .iload_n 1, 1), (20, .invokestatic 108, 3), (23, .iaload, 1), (24, .istore_n 3, 1), (25, .iload_n 2, 1), (26, .iload_n 2, 1), (27, .ineg, 1), (28, .iand, 1), (29, .istore 4, 2), (31, .iload_n 2, 1), (32, .iload 4, 2), (34, .iconst (-1), 1), (35, .ixor, 1), (36, .iand, 1), (37, .istore 5, 2), (39, .lconst 0, 1), (40, .lstore 6, 2), (42, .iload 5, 2), (44, .istore 8, 2), (46, .iload 8, 2), (48, .ifCond .lt 76, 3), (51, .iload 4, 2), (53, .iload 8, 2), (55, .ior, 1), (56, .istore 9, 2), (58, .aload_n 0, 1), (59, .getfield 9, 3), (62, .iload 9, 2), (64, .laload, 1), (65, .lconst 0, 1), (66, .lcmp, 1), (67, .ifCond .eq 36, 3), (70, .lload 6, 2), (72, .iload_n 3, 1), (73, .iload 9, 2), (75, .iand, 1), (76, .invokestatic 124, 3), (79, .i2l, 1), (80, .aload_n 0, 1), (81, .getfield 9, 3), (84, .iload 9, 2), (86, .laload, 1), (87, .lmul, 1), (88, .aload_n 0, 1), (89, .getfield 9, 3), (92, .iload_n 1, 1), (93, .iload 9, 2), (95, .iconst (-1), 1), (96, .ixor, 1), (97, .iand, 1), (98, .laload, 1), (99, .lmul, 1), (100, .ladd, 1), (101, .lstore 6, 2), (103, .iload 8, 2), (105, .ifCond .ne 7, 3), (108, .iconst (-1), 1), (109, .goto 10, 3), (112, .iload 8, 2), (114, .iconst 1, 1), (115, .isub, 1), (116, .iload 5, 2), (118, .iand, 1), (119, .istore 8, 2), (121, .goto (-75), 3), (124, .lload 6, 2), (126, .lreturn, 1)]
set_option maxRecDepth 100000 in
theorem mv_d70 : ∀ q ∈ mv_c70, decode prog_2_method_16_code q.1 = .ok (q.2.1, q.2.2) := by decide +kernel
/-- C_forests -/
def mv_c71 : List (Nat × Instr × Nat) := [(0, .aload_n 0, 1), (1, .invokevirtual 51, 3), (4, .pop2, 1), (5, .aload_n 0, 1), (6, .getfield 21, 3), (9, .invokevirtual 75, 3), (12, .istore_n 1, 1), (13, .aload_n 0, 1), (14, .getfield 15, 3), (17, .iconst 0, 1), (18, .lconst 1, 1), (19, .lastore, 1), (20, .iconst 1, 1), (21, .istore_n 2, 1), (22, .iload_n 2, 1), (23, .iload_n 1, 1), (24, .if_icmp .gt 78, 3), (27, .iload_n 2, 1), (28, .iload_n 2, 1), (29, .iconst 1, 1), (30, .isub, 1), (31, .iand, 1), (32, .istore_n 3, 1), (33, .lconst 0, 1), (34, .lstore 4, 2), (36, .iload_n 3, 1), (37, .istore 6, 2), (39, .iload 6, 2), (41, .ifCond .lt 47, 3), (44, .lload 4, 2), (46, .aload_n 0, 1), (47, .getfield 9, 3), (50, .iload_n 2, 1), (51, .iload 6, 2), (53, .iconst (-1), 1), (54, .ixor, 1), (55, .iand, 1), (56, .laload, 1), (57, .aload_n 0, 1), (58, .getfield 15, 3), (61, .iload 6, 2), (63, .laload, 1), (64, .lmul, 1), (65, .ladd, 1), (66, .lstore 4, 2), (68, .iload 6, 2), (70, .ifCond .ne 7, 3), (73, .iconst (-1), 1), (74, .goto 9, 3), (77, .iload 6, 2), (79, .iconst 1, 1), (80, .isub, 1), (81, .iload_n 3, 1), (82, .iand, 1), (83, .istore 6, 2), (85, .goto (-46), 3), (88, .aload_n 0, 1), (89, .getfield 15, 3), (92, .iload_n 2, 1), (93, .lload 4, 2), (95, .lastore, 1), (96, .iinc 2 1, 3), (99, .goto (-77), 3), (102, .aload_n 0, 1), (103, .getfield 15, 3), (106, .iload_n 1, 1), (107, .laload, 1), (108, .lreturn, 1)]
set_option maxRecDepth 100000 in
theorem mv_d71 : ∀ q ∈ mv_c71, decode prog_2_method_17_code q.1 = .ok (q.2.1, q.2.2) := by decide +kernel
/-- C_joiningEdgeSets -/
def mv_c72 : List (Nat × Instr × Nat) := [(0, .aload_n 0, 1), (1, .getfield 21, 3), (4, .invokevirtual 75, 3), (7, .istore_n 1, 1), (8, .aload_n 0, 1), (9, .getfield 9, 3), (12, .iconst 0, 1), (13, .lconst 0, 1), (14, .lastore, 1), (15, .iconst 1, 1), (16, .istore_n 2, 1), (17, .iload_n 2, 1), (18, .iload_n 1, 1), (19, .if_icmp .gt 82, 3), (22, .iload_n 2, 1), (23, .iload_n 2, 1), (24, .iconst 1, 1), (25, .isub, 1), (26, .iand, 1), (27, .istore_n 3, 1), (28, .lconst 1, 1), (29, .aload_n 0, 1), (30, .getfield 21, 3), (33, .getfield 79, 3), (36, .iload_n 2, 1), (37, .iaload, 1), (38, .lshl, 1), (39, .lstore 4, 2), (41, .iload_n 3, 1), (42, .istore 6, 2), (44, .iload 6, 2), (46, .ifCond .eq 41, 3), (49, .lload 4, 2), (51, .aload_n 0, 1), (52, .getfield 9, 3), (55, .iload_n 2, 1), (56, .iload 6, 2), (58, .iconst (-1), 1), (59, .ixor, 1), (60, .iand, 1), (61, .laload, 1), (62, .aload_n 0, 1), (63, .getfield 21, 3), (66, .getfield 79, 3), (69, .iload 6, 2), (71, .iaload, 1), (72, .lshl, 1), (73, .lsub, 1), (74, .lstore 4, 2), (76, .iload 6, 2), (78, .iconst 1, 1), (79, .isub, 1), (80, .iload_n 3, 1), (81, .iand, 1), (82, .istore 6, 2), (84, .goto (-40), 3), (87, .aload_n 0, 1), (88, .getfield 9, 3), (91, .iload_n 2, 1), (92, .lload 4, 2), (94, .lastore, 1), (95, .iinc 2 1, 3), (98, .goto (-81), 3), (101, .aload_n 0, 1), (102, .getfield 9, 3), (105, .iload_n 1, 1), (106, .laload, 1), (107, .lreturn, 1)]
set_option maxRecDepth 100000 in
theorem mv_d72 : ∀ q ∈ mv_c72, decode prog_2_method_18_code q.1 = .ok (q.2.1, q.2.2) := by decide +kernel
/-- C_edgeCovers -/
def mv_c73 : List (Nat × Instr × Nat) := [(0, .aload_n 0, 1), (1, .getfield 21, 3), (4, .invokevirtual 75, 3), (7, .istore_n 1, 1), (8, .lconst 0, 1), (9, .lstore_n 2, 1), (10, .iconst 0, 1), (11, .istore 4, 2), (13, .iload 4, 2), (15, .iload_n 1, 1), (16, .if_icmp .gt 48, 3), (19, .lconst 1, 1), (20, .aload_n 0, 1), (21, .getfield 21, 3), (24, .getfield 79, 3), (27, .iload 4, 2), (29, .iaload, 1), (30, .lshl, 1), (31, .lstore 5, 2), (33, .lload_n 2, 1), (34, .iload_n 1, 1), (35, .iload 4, 2), (37, .iconst (-1), 1), (38, .ixor, 1), (39, .iand, 1), (40, .invokestatic 124, 3), (43, .iconst 1, 1), (44, .iand, 1), (45, .ifCond .ne 8, 3), (48, .lload 5, 2), (50, .goto 6, 3), (53, .lload 5, 2), (55, .lneg, 1), (56, .ladd, 1), (57, .lstore_n 2, 1), (58, .iinc 4 1, 3), (61, .goto (-48), 3), (64, .lload_n 2, 1), (65, .lreturn, 1)]
set_option maxRecDepth 100000 in
theorem mv_d73 : ∀ q ∈ mv_c73, decode prog_2_method_19_code q.1 = .ok (q.2.1, q.2.2) := by decide +kernel
/-- C_setsTogether -/
def mv_c74 : List (Nat × Instr × Nat) := [(0, .aload_n 0, 1), (1, .getfield 21, 3), (4, .invokevirtual 75, 3), (7, .istore_n 1, 1), (8, .lconst 0, 1), (9, .lstore_n 2, 1), (10, .iconst 1, 1), (11, .istore 4, 2), (13, .iload 4, 2), (15, .iload_n 1, 1), (16, .if_icmp .gt 29, 3), (19, .lload_n 2, 1), (20, .aload_n 0, 1), (21, .getfield 21, 3), (24, .iload 4, 2), (26, .invokevirtual 86, 3), (29, .ifCond .eq 7, 3), (32, .lconst 1, 1), (33, .goto 4, 3), (36, .lconst 0, 1), (37, .ladd, 1), (38, .lstore_n 2, 1), (39, .iinc 4 1, 3), (42, .goto (-29), 3), (45, .lload_n 2, 1), (46, .lreturn, 1)]
set_option maxRecDepth 100000 in
theorem mv_d74 : ∀ q ∈ mv_c74, decode prog_2_method_5_code q.1 = .ok (q.2.1, q.2.2) := by decide +kernel
/-- C_evenEdgeSets -/
def mv_c75 : List (Nat × Instr × Nat) := [(0, .lconst 1, 1), (1, .aload_n 0, 1), (2, .getfield 21, 3), (5, .getfield 129, 3), (8, .aload_n 0, 1), (9, .getfield 21, 3), (12, .getfield 93, 3), (15, .isub, 1), (16, .aload_n 0, 1), (17, .getfield 21, 3), (20, .invokevirtual 132, 3), (23, .iadd, 1), (24, .lshl, 1), (25, .lreturn, 1)]
set_option maxRecDepth 100000 in
theorem mv_d75 : ∀ q ∈ mv_c75, decode prog_2_method_20_code q.1 = .ok (q.2.1, q.2.2) := by decide +kernel
/-- B_best -/
def mv_c76 : List (Nat × Instr × Nat) := [(0, .iload_n 1, 1), (1, .ifCond .lt 8, 3), (4, .iload_n 1, 1), (5, .iconst 5, 1), (6, .if_icmp .lt 6, 3), (9, .bipush (-2), 2), (11, .ireturn, 1), (12, .aload_n 0, 1), (13, .getfield 28, 3), (16, .iload_n 1, 1), (17, .invokevirtual 118, 3), (20, .istore_n 2, 1), (21, .iload_n 2, 1), (22, .iconst (-1), 1), (23, .if_icmp .ne 7, 3), (26, .iconst (-1), 1), (27, .goto 11, 3), (30, .aload_n 0, 1), (31, .getfield 12, 3), (34, .iload_n 2, 1), (35, .invokevirtual 121, 3), (38, .ireturn, 1)]
set_option maxRecDepth 100000 in
theorem mv_d76 : ∀ q ∈ mv_c76, decode prog_1_method_14_code q.1 = .ok (q.2.1, q.2.2) := by decide +kernel
/-- F_bestSet -/
def mv_c77 : List (Nat × Instr × Nat) := [(0, .aload_n 0, 1), (1, .getfield 9, 3), (4, .invokevirtual 44, 3), (7, .iload_n 1, 1), (8, .iconst 1, 1), (9, .if_icmp .eq 8, 3), (12, .iload_n 1, 1), (13, .iconst 2, 1), (14, .if_icmp .ne 7, 3), (17, .iconst 1, 1), (18, .goto 4, 3), (21, .iconst 0, 1), (22, .istore_n 2, 1), (23, .iconst (-1), 1), (24, .istore_n 3, 1), (25, .iconst 0, 1), (26, .istore 4, 2), (28, .aload_n 0, 1), (29, .getfield 9, 3), (32, .invokevirtual 37, 3), (35, .istore 5, 2), (37, .iconst 0, 1), (38, .istore 6, 2), (40, .iload 6, 2), (42, .iload 5, 2), (44, .if_icmp .gt 66, 3), (47, .aload_n 0, 1), (48, .iload_n 1, 1), (49, .iload 6, 2), (51, .invokevirtual 69, 3), (54, .ifCond .ne 6, 3), (57, .goto 47, 3), (60, .aload_n 0, 1), (61, .getfield 9, 3), (64, .iload 6, 2), (66, .invokevirtual 73, 3), (69, .istore 7, 2), (71, .iload_n 3, 1), (72, .iconst (-1), 1), (73, .if_icmp .eq 24, 3), (76, .iload_n 2, 1), (77, .ifCond .eq 13, 3), (80, .iload 7, 2), (82, .iload 4, 2), (84, .if_icmp .ge 20, 3), (87, .goto 10, 3), (90, .iload 7, 2), (92, .iload 4, 2), (94, .if_icmp .le 10, 3), (97, .iload 6, 2), (99, .istore_n 3, 1), (100, .iload 7, 2), (102, .istore 4, 2), (104, .iinc 6 1, 3), (107, .goto (-67), 3), (110, .iload_n 3, 1), (111, .ireturn, 1)]
set_option maxRecDepth 100000 in
theorem mv_d77 : ∀ q ∈ mv_c77, decode prog_3_method_12_code q.1 = .ok (q.2.1, q.2.2) := by decide +kernel
/-- F_isSuch -/
def mv_c78 : List (Nat × Instr × Nat) := [(0, .aload_n 0, 1), (1, .getfield 9, 3), (4, .invokevirtual 37, 3), (7, .iload_n 2, 1), (8, .iconst (-1), 1), (9, .ixor, 1), (10, .iand, 1), (11, .istore_n 3, 1), (12, .iload_n 1, 1), (13, .tableswitch 95 0 3 #[31, 49, 71, 89], 31), (44, .aload_n 0, 1), (45, .getfield 9, 3), (48, .getfield 51, 3), (51, .iload_n 2, 1), (52, .iaload, 1), (53, .ifCond .ne 7, 3), (56, .iconst 1, 1), (57, .goto 4, 3), (60, .iconst 0, 1), (61, .ireturn, 1), (62, .iload_n 3, 1), (63, .aload_n 0, 1), (64, .getfield 9, 3), (67, .getfield 60, 3), (70, .iload_n 2, 1), (71, .iaload, 1), (72, .iconst (-1), 1), (73, .ixor, 1), (74, .iand, 1), (75, .ifCond .ne 7, 3), (78, .iconst 1, 1), (79, .goto 4, 3), (82, .iconst 0, 1), (83, .ireturn, 1), (84, .aload_n 0, 1), (85, .getfield 9, 3), (88, .getfield 51, 3), (91, .iload_n 3, 1), (92, .iaload, 1), (93, .ifCond .ne 7, 3), (96, .iconst 1, 1), (97, .goto 4, 3), (100, .iconst 0, 1), (101, .ireturn, 1), (102, .aload_n 0, 1), (103, .iload_n 2, 1), (104, .invokevirtual 66, 3), (107, .ireturn, 1), (108, .aload_n 0, 1), (109, .getfield 9, 3), (112, .iload_n 3, 1), (113, .invokevirtual 54, 3), (116, .ifCond .eq 21, 3), (119, .iload_n 3, 1), (120, .ifCond .ne 13, 3), (123, .aload_n 0, 1), (124, .getfield 9, 3), (127, .getfield 15, 3), (130, .ifCond .ne 7, 3), (133, .iconst 1, 1), (134, .goto 4, 3), (137, .iconst 0, 1), (138, .ireturn, 1)]
set_option maxRecDepth 100000 in
theorem mv_d78 : ∀ q ∈ mv_c78, decode prog_3_method_13_code q.1 = .ok (q.2.1, q.2.2) := by decide +kernel
/-- G_weightOf -/
def mv_c79 : List (Nat × Instr × Nat) := [(0, .iconst 0, 1), (1, .istore_n 2, 1), (2, .iconst 0, 1), (3, .istore_n 3, 1), (4, .iload_n 3, 1), (5, .aload_n 0, 1), (6, .getfield 31, 3), (9, .if_icmp .ge 24, 3), (12, .iload_n 2, 1), (13, .iload_n 1, 1), (14, .iload_n 3, 1), (15, .ishr, 1), (16, .iconst 1, 1), (17, .iand, 1), (18, .aload_n 0, 1), (19, .getfield 15, 3), (22, .iload_n 3, 1), (23, .iaload, 1), (24, .imul, 1), (25, .iadd, 1), (26, .istore_n 2, 1), (27, .iinc 3 1, 3), (30, .goto (-26), 3), (33, .iload_n 2, 1), (34, .ireturn, 1)]
set_option maxRecDepth 100000 in
theorem mv_d79 : ∀ q ∈ mv_c79, decode prog_4_method_8_code q.1 = .ok (q.2.1, q.2.2) := by decide +kernel
/-- B_which -/
def mv_c80 : List (Nat × Instr × Nat) := [(0, .iload_n 1, 1), (1, .ifCond .lt 8, 3), (4, .iload_n 1, 1), (5, .iconst 5, 1), (6, .if_icmp .lt 8, 3), (9, .bipush (-2), 2), (11, .goto 11, 3), (14, .aload_n 0, 1), (15, .getfield 28, 3), (18, .iload_n 1, 1), (19, .invokevirtual 118, 3), (22, .ireturn, 1)]
set_option maxRecDepth 100000 in
theorem mv_d80 : ∀ q ∈ mv_c80, decode prog_1_method_15_code q.1 = .ok (q.2.1, q.2.2) := by decide +kernel
/-- B_fewest -/
def mv_c81 : List (Nat × Instr × Nat) := [(0, .iload_n 1, 1), (1, .ifCond .lt 14, 3), (4, .iload_n 1, 1), (5, .aload_n 0, 1), (6, .getfield 12, 3), (9, .invokevirtual 124, 3), (12, .if_icmp .le 8, 3), (15, .bipush (-2), 2), (17, .goto 11, 3), (20, .aload_n 0, 1), (21, .getfield 28, 3), (24, .iload_n 1, 1), (25, .invokevirtual 127, 3), (28, .ireturn, 1)]
set_option maxRecDepth 100000 in
theorem mv_d81 : ∀ q ∈ mv_c81, decode prog_1_method_16_code q.1 = .ok (q.2.1, q.2.2) := by decide +kernel
/-- F_fewestJoining -/
def mv_c82 : List (Nat × Instr × Nat) := [(0, .iload_n 1, 1), (1, .ifCond .ne 5, 3), (4, .iconst 0, 1), (5, .ireturn, 1), (6, .aload_n 0, 1), (7, .getfield 9, 3), (10, .invokevirtual 44, 3), (13, .iconst (-1), 1), (14, .istore_n 2, 1), (15, .aload_n 0, 1), (16, .getfield 9, 3), (19, .invokevirtual 37, 3), (22, .istore_n 3, 1), (23, .iload_n 1, 1), (24, .istore 4, 2), (26, .iload 4, 2), (28, .iload_n 3, 1), (29, .if_icmp .gt 49, 3), (32, .iload 4, 2), (34, .invokestatic 25, 3), (37, .iconst 1, 1), (38, .isub, 1), (39, .istore 5, 2), (41, .aload_n 0, 1), (42, .getfield 9, 3), (45, .iload 4, 2), (47, .invokevirtual 54, 3), (50, .ifCond .eq 17, 3), (53, .iload_n 2, 1), (54, .iconst (-1), 1), (55, .if_icmp .eq 9, 3), (58, .iload 5, 2), (60, .iload_n 2, 1), (61, .if_icmp .ge 6, 3), (64, .iload 5, 2), (66, .istore_n 2, 1), (67, .iload 4, 2), (69, .iconst 1, 1), (70, .iadd, 1), (71, .iload_n 1, 1), (72, .ior, 1), (73, .istore 4, 2), (75, .goto (-49), 3), (78, .iload_n 2, 1), (79, .ireturn, 1)]
set_option maxRecDepth 100000 in
theorem mv_d82 : ∀ q ∈ mv_c82, decode prog_3_method_14_code q.1 = .ok (q.2.1, q.2.2) := by decide +kernel
/-- M_init -/
def mv_c83 : List (Nat × Instr × Nat) := [(0, .aload_n 0, 1), (1, .invokespecial 1, 3), (4, .aload_n 0, 1), (5, .bipush 10, 2), (7, .newarray .int, 2), (9, .putfield 7, 3), (12, .aload_n 0, 1), (13, .bipush 10, 2), (15, .newarray .int, 2), (17, .putfield 13, 3), (20, .aload_n 0, 1), (21, .sipush 1024, 3), (24, .newarray .int, 2), (26, .putfield 16, 3), (29, .aload_n 0, 1), (30, .bipush 10, 2), (32, .newarray .int, 2), (34, .putfield 19, 3), (37, .aload_n 0, 1), (38, .bipush 10, 2), (40, .newarray .int, 2), (42, .putfield 22, 3), (45, .aload_n 0, 1), (46, .sipush 1024, 3), (49, .newarray .int, 2), (51, .putfield 25, 3), (54, .aload_n 0, 1), (55, .bipush 10, 2), (57, .newarray .int, 2), (59, .putfield 28, 3), (62, .aload_n 0, 1), (63, .bipush 10, 2), (65, .newarray .int, 2), (67, .putfield 31, 3), (70, .aload_n 0, 1), (71, .bipush 10, 2), (73, .newarray .int, 2), (75, .putfield 34, 3), (78, .aload_n 0, 1), (79, .sipush 1024, 3), (82, .newarray .long, 2), (84, .putfield 37, 3), (87, .aload_n 0, 1), (88, .sipush 1024, 3), (91, .newarray .long, 2), (93, .putfield 41, 3), (96, .aload_n 0, 1), (97, .sipush 10240, 3), (100, .newarray .long, 2), (102, .putfield 44, 3), (105, .aload_n 0, 1), (106, .bipush 100, 2), (108, .newarray .long, 2), (110, .putfield 47, 3), (113, .return_, 1)]
set_option maxRecDepth 100000 in
theorem mv_d83 : ∀ q ∈ mv_c83, decode prog_8_method_1_code q.1 = .ok (q.2.1, q.2.2) := by decide +kernel
/-- M_begin -/
def mv_c84 : List (Nat × Instr × Nat) := [(0, .iload_n 1, 1), (1, .iconst 0, 1), (2, .bipush 10, 2), (4, .invokestatic 54, 3), (7, .ifCond .ne 6, 3), (10, .bipush (-2), 2), (12, .ireturn, 1), (13, .aload_n 0, 1), (14, .getfield 50, 3), (17, .istore_n 2, 1), (18, .aload_n 0, 1), (19, .iload_n 1, 1), (20, .putfield 50, 3), (23, .aload_n 0, 1), (24, .iconst 0, 1), (25, .putfield 58, 3), (28, .iconst 0, 1), (29, .istore_n 3, 1), (30, .iload_n 3, 1), (31, .bipush 10, 2), (33, .if_icmp .ge 23, 3), (36, .aload_n 0, 1), (37, .getfield 7, 3), (40, .iload_n 3, 1), (41, .iconst 0, 1), (42, .iastore, 1), (43, .aload_n 0, 1), (44, .getfield 13, 3), (47, .iload_n 3, 1), (48, .iconst 1, 1), (49, .iastore, 1), (50, .iinc 3 1, 3), (53, .goto (-23), 3), (56, .iload_n 2, 1), (57, .ireturn, 1)]
set_option maxRecDepth 100000 in
theorem mv_d84 : ∀ q ∈ mv_c84, decode prog_8_method_6_code q.1 = .ok (q.2.1, q.2.2) := by decide +kernel
/-- M_isIn -/
def mv_c85 : List (Nat × Instr × Nat) := [(0, .iload_n 0, 1), (1, .iload_n 1, 1), (2, .if_icmp .lt 12, 3), (5, .iload_n 0, 1), (6, .iload_n 2, 1), (7, .if_icmp .gt 7, 3), (10, .iconst 1, 1), (11, .goto 4, 3), (14, .iconst 0, 1), (15, .ireturn, 1)]
set_option maxRecDepth 100000 in
theorem mv_d85 : ∀ q ∈ mv_c85, decode prog_8_method_2_code q.1 = .ok (q.2.1, q.2.2) := by decide +kernel
/-- M_join -/
def mv_c86 : List (Nat × Instr × Nat) := [(0, .aload_n 0, 1), (1, .iload_n 1, 1), (2, .invokevirtual 61, 3), (5, .ifCond .eq 16, 3), (8, .aload_n 0, 1), (9, .iload_n 2, 1), (10, .invokevirtual 61, 3), (13, .ifCond .eq 8, 3), (16, .iload_n 1, 1), (17, .iload_n 2, 1), (18, .if_icmp .ne 6, 3), (21, .bipush (-2), 2), (23, .ireturn, 1), (24, .aload_n 0, 1), (25, .iload_n 1, 1), (26, .iload_n 2, 1), (27, .invokevirtual 65, 3), (30, .ifCond .eq 6, 3), (33, .bipush (-4), 2), (35, .ireturn, 1), (36, .aload_n 0, 1), (37, .getfield 58, 3), (40, .bipush 20, 2), (42, .if_icmp .ne 6, 3), (45, .bipush (-3), 2), (47, .ireturn, 1), (48, .aload_n 0, 1), (49, .getfield 7, 3), (52, .iload_n 1, 1), (53, .dup2, 1), (54, .iaload, 1), (55, .iconst 1, 1), (56, .iload_n 2, 1), (57, .ishl, 1), (58, .ior, 1), (59, .iastore, 1), (60, .aload_n 0, 1), (61, .getfield 7, 3), (64, .iload_n 2, 1), (65, .dup2, 1), (66, .iaload, 1), (67, .iconst 1, 1), (68, .iload_n 1, 1), (69, .ishl, 1), (70, .ior, 1), (71, .iastore, 1), (72, .aload_n 0, 1), (73, .dup, 1), (74, .getfield 58, 3), (77, .iconst 1, 1), (78, .iadd, 1), (79, .putfield 58, 3), (82, .aload_n 0, 1), (83, .getfield 58, 3), (86, .ireturn, 1)]
set_option maxRecDepth 100000 in
theorem mv_d86 : ∀ q ∈ mv_c86, decode prog_8_method_9_code q.1 = .ok (q.2.1, q.2.2) := by decide +kernel
end
section
/-- M_isVertex -/
def mv_c87 : List (Nat × Instr × Nat) := [(0, .iload_n 1, 1), (1, .iconst 0, 1), (2, .aload_n 0, 1), (3, .getfield 50, 3), (6, .iconst 1, 1), (7, .isub, 1), (8, .invokestatic 54, 3), (11, .ireturn, 1)]
set_option maxRecDepth 100000 in
theorem mv_d87 : ∀ q ∈ mv_c87, decode prog_8_method_7_code q.1 = .ok (q.2.1, q.2.2) := by decide +kernel
/-- M_isEdge -/
def mv_c88 : List (Nat × Instr × Nat) := [(0, .aload_n 0, 1), (1, .getfield 7, 3), (4, .iload_n 1, 1), (5, .iaload, 1), (6, .iload_n 2, 1), (7, .ishr, 1), (8, .iconst 1, 1), (9, .iand, 1), (10, .iconst 1, 1), (11, .if_icmp .ne 7, 3), (14, .iconst 1, 1), (15, .goto 4, 3), (18, .iconst 0, 1), (19, .ireturn, 1)]
set_option maxRecDepth 100000 in
theorem mv_d88 : ∀ q ∈ mv_c88, decode prog_8_method_8_code q.1 = .ok (q.2.1, q.2.2) := by decide +kernel
/-- M_part -/
def mv_c89 : List (Nat × Instr × Nat) := [(0, .aload_n 0, 1), (1, .iload_n 1, 1), (2, .invokevirtual 61, 3), (5, .ifCond .eq 11, 3), (8, .aload_n 0, 1), (9, .iload_n 2, 1), (10, .invokevirtual 61, 3), (13, .ifCond .ne 6, 3), (16, .bipush (-2), 2), (18, .ireturn, 1), (19, .aload_n 0, 1), (20, .iload_n 1, 1), (21, .iload_n 2, 1), (22, .invokevirtual 65, 3), (25, .ifCond .ne 5, 3), (28, .iconst (-1), 1), (29, .ireturn, 1), (30, .aload_n 0, 1), (31, .getfield 7, 3), (34, .iload_n 1, 1), (35, .dup2, 1), (36, .iaload, 1), (37, .iconst 1, 1), (38, .iload_n 2, 1), (39, .ishl, 1), (40, .iconst (-1), 1), (41, .ixor, 1), (42, .iand, 1), (43, .iastore, 1), (44, .aload_n 0, 1), (45, .getfield 7, 3), (48, .iload_n 2, 1), (49, .dup2, 1), (50, .iaload, 1), (51, .iconst 1, 1), (52, .iload_n 1, 1), (53, .ishl, 1), (54, .iconst (-1), 1), (55, .ixor, 1), (56, .iand, 1), (57, .iastore, 1), (58, .aload_n 0, 1), (59, .dup, 1), (60, .getfield 58, 3), (63, .iconst 1, 1), (64, .isub, 1), (65, .putfield 58, 3), (68, .aload_n 0, 1), (69, .getfield 58, 3), (72, .ireturn, 1)]
set_option maxRecDepth 100000 in
theorem mv_d89 : ∀ q ∈ mv_c89, decode prog_8_method_10_code q.1 = .ok (q.2.1, q.2.2) := by decide +kernel
/-- M_weigh -/
def mv_c90 : List (Nat × Instr × Nat) := [(0, .aload_n 0, 1), (1, .iload_n 1, 1), (2, .invokevirtual 61, 3), (5, .ifCond .eq 14, 3), (8, .iload_n 2, 1), (9, .iconst 0, 1), (10, .sipush 1000, 3), (13, .invokestatic 54, 3), (16, .ifCond .ne 6, 3), (19, .bipush (-2), 2), (21, .ireturn, 1), (22, .aload_n 0, 1), (23, .getfield 13, 3), (26, .iload_n 1, 1), (27, .iaload, 1), (28, .istore_n 3, 1), (29, .aload_n 0, 1), (30, .getfield 13, 3), (33, .iload_n 1, 1), (34, .iload_n 2, 1), (35, .iastore, 1), (36, .iload_n 3, 1), (37, .ireturn, 1)]
set_option maxRecDepth 100000 in
theorem mv_d90 : ∀ q ∈ mv_c90, decode prog_8_method_11_code q.1 = .ok (q.2.1, q.2.2) := by decide +kernel
/-- M_near -/
def mv_c91 : List (Nat × Instr × Nat) := [(0, .aload_n 0, 1), (1, .iload_n 1, 1), (2, .invokevirtual 61, 3), (5, .ifCond .eq 12, 3), (8, .aload_n 0, 1), (9, .getfield 7, 3), (12, .iload_n 1, 1), (13, .iaload, 1), (14, .goto 5, 3), (17, .bipush (-2), 2), (19, .ireturn, 1)]
set_option maxRecDepth 100000 in
theorem mv_d91 : ∀ q ∈ mv_c91, decode prog_8_method_24_code q.1 = .ok (q.2.1, q.2.2) := by decide +kernel
/-- M_count -/
def mv_c92 : List (Nat × Instr × Nat) := [(0, .iload_n 1, 1), (1, .bipush 6, 2), (3, .if_icmp .ne 7, 3), (6, .iconst (-1), 1), (7, .goto 4, 3), (10, .iconst 0, 1), (11, .istore_n 2, 1), (12, .iload_n 1, 1), (13, .tableswitch 206 0 6 #[43, 48, 53, 62, 107, 145, 145], 43), (56, .aload_n 0, 1), (57, .getfield 50, 3), (60, .ireturn, 1), (61, .aload_n 0, 1), (62, .getfield 58, 3), (65, .ireturn, 1), (66, .aload_n 0, 1), (67, .aload_n 0, 1), (68, .invokevirtual 77, 3), (71, .invokevirtual 93, 3), (74, .ireturn, 1), (75, .iconst 0, 1), (76, .istore_n 3, 1), (77, .iload_n 3, 1), (78, .aload_n 0, 1), (79, .getfield 50, 3), (82, .if_icmp .ge 36, 3), (85, .aload_n 0, 1), (86, .getfield 7, 3), (89, .iload_n 3, 1), (90, .iaload, 1), (91, .invokestatic 87, 3), (94, .iload_n 2, 1), (95, .if_icmp .le 15, 3), (98, .aload_n 0, 1), (99, .getfield 7, 3), (102, .iload_n 3, 1), (103, .iaload, 1), (104, .invokestatic 87, 3), (107, .goto 4, 3), (110, .iload_n 2, 1), (111, .istore_n 2, 1), (112, .iinc 3 1, 3), (115, .goto (-38), 3), (118, .iload_n 2, 1), (119, .ireturn, 1), (120, .iconst 1, 1), (121, .istore_n 3, 1), (122, .iload_n 3, 1), (123, .aload_n 0, 1), (124, .invokevirtual 77, 3), (127, .if_icmp .gt 29, 3), (130, .aload_n 0, 1), (131, .iload_n 3, 1), (132, .invokevirtual 96, 3), (135, .istore 4, 2), (137, .iload 4, 2), (139, .iload_n 2, 1), (140, .if_icmp .le 8, 3), (143, .iload 4, 2), (145, .goto 4, 3), (148, .iload_n 2, 1), (149, .istore_n 2, 1), (150, .iinc 3 1, 3), (153, .goto (-31), 3), (156, .iload_n 2, 1), (157, .ireturn, 1), (158, .iconst 1, 1), (159, .istore_n 3, 1), (160, .iload_n 3, 1), (161, .aload_n 0, 1), (162, .invokevirtual 77, 3), (165, .if_icmp .gt 52, 3), (168, .aload_n 0, 1), (169, .iload_n 3, 1), (170, .invokevirtual 99, 3), (173, .ifCond .eq 38, 3), (176, .iload_n 3, 1), (177, .invokestatic 87, 3), (180, .istore 4, 2), (182, .iload_n 1, 1), (183, .iconst 5, 1), (184, .if_icmp .ne 9, 3), (187, .iload_n 2, 1), (188, .iconst 1, 1), (189, .iadd, 1), (190, .goto 20, 3), (193, .iload_n 2, 1), (194, .iconst (-1), 1), (195, .if_icmp .eq 9, 3), (198, .iload 4, 2), (200, .iload_n 2, 1), (201, .if_icmp .ge 8, 3), (204, .iload 4, 2), (206, .goto 4, 3), (209, .iload_n 2, 1), (210, .istore_n 2, 1), (211, .iinc 3 1, 3), (214, .goto (-54), 3), (217, .iload_n 2, 1), (218, .ireturn, 1), (219, .bipush (-2), 2), (221, .ireturn, 1)]
set_option maxRecDepth 100000 in
theorem mv_d92 : ∀ q ∈ mv_c92, decode prog_8_method_26_code q.1 = .ok (q.2.1, q.2.2) := by decide +kernel
/-- M_all -/
def mv_c93 : List (Nat × Instr × Nat) := [(0, .iconst 1, 1), (1, .aload_n 0, 1), (2, .getfield 50, 3), (5, .ishl, 1), (6, .iconst 1, 1), (7, .isub, 1), (8, .ireturn, 1)]
set_option maxRecDepth 100000 in
theorem mv_d93 : ∀ q ∈ mv_c93, decode prog_8_method_5_code q.1 = .ok (q.2.1, q.2.2) := by decide +kernel
/-- M_parts -/
def mv_c94 : List (Nat × Instr × Nat) := [(0, .iconst 0, 1), (1, .istore_n 2, 1), (2, .iload_n 1, 1), (3, .istore_n 3, 1), (4, .iload_n 3, 1), (5, .ifCond .eq 23, 3), (8, .iload_n 3, 1), (9, .aload_n 0, 1), (10, .iload_n 3, 1), (11, .invokestatic 69, 3), (14, .iload_n 1, 1), (15, .invokevirtual 73, 3), (18, .iconst (-1), 1), (19, .ixor, 1), (20, .iand, 1), (21, .istore_n 3, 1), (22, .iinc 2 1, 3), (25, .goto (-21), 3), (28, .iload_n 2, 1), (29, .ireturn, 1)]
set_option maxRecDepth 100000 in
theorem mv_d94 : ∀ q ∈ mv_c94, decode prog_8_method_23_code q.1 = .ok (q.2.1, q.2.2) := by decide +kernel
/-- M_lowest -/
def mv_c95 : List (Nat × Instr × Nat) := [(0, .iconst 0, 1), (1, .istore_n 1, 1), (2, .iload_n 0, 1), (3, .iload_n 1, 1), (4, .ishr, 1), (5, .iconst 1, 1), (6, .iand, 1), (7, .ifCond .ne 9, 3), (10, .iinc 1 1, 3), (13, .goto (-11), 3), (16, .iload_n 1, 1), (17, .ireturn, 1)]
set_option maxRecDepth 100000 in
theorem mv_d95 : ∀ q ∈ mv_c95, decode prog_8_method_4_code q.1 = .ok (q.2.1, q.2.2) := by decide +kernel
/-- M_hang -/
def mv_c96 : List (Nat × Instr × Nat) := [(0, .iconst 1, 1), (1, .iload_n 1, 1), (2, .ishl, 1), (3, .istore_n 3, 1), (4, .iconst 1, 1), (5, .istore 4, 2), (7, .iload 4, 2), (9, .ifCond .eq 67, 3), (12, .iload_n 3, 1), (13, .istore 5, 2), (15, .iconst 0, 1), (16, .istore 6, 2), (18, .iload 6, 2), (20, .aload_n 0, 1), (21, .getfield 50, 3), (24, .if_icmp .ge 33, 3), (27, .iload_n 3, 1), (28, .iload 6, 2), (30, .ishr, 1), (31, .iconst 1, 1), (32, .iand, 1), (33, .iconst 1, 1), (34, .if_icmp .ne 17, 3), (37, .iload 5, 2), (39, .aload_n 0, 1), (40, .getfield 7, 3), (43, .iload 6, 2), (45, .iaload, 1), (46, .iload_n 2, 1), (47, .iand, 1), (48, .ior, 1), (49, .istore 5, 2), (51, .iinc 6 1, 3), (54, .goto (-36), 3), (57, .iload 5, 2), (59, .iload_n 3, 1), (60, .if_icmp .eq 7, 3), (63, .iconst 1, 1), (64, .goto 4, 3), (67, .iconst 0, 1), (68, .istore 4, 2), (70, .iload 5, 2), (72, .istore_n 3, 1), (73, .goto (-66), 3), (76, .iload_n 3, 1), (77, .ireturn, 1)]
set_option maxRecDepth 100000 in
theorem mv_d96 : ∀ q ∈ mv_c96, decode prog_8_method_12_code q.1 = .ok (q.2.1, q.2.2) := by decide +kernel
/-- M_ones -/
def mv_c97 : List (Nat × Instr × Nat) := [(0, .iconst 0, 1), (1, .istore_n 1, 1), (2, .iconst 0, 1), (3, .istore_n 2, 1), (4, .iload_n 2, 1), (5, .bipush 10, 2), (7, .if_icmp .ge 17, 3), (10, .iload_n 1, 1), (11, .iload_n 0, 1), (12, .iload_n 2, 1), (13, .ishr, 1), (14, .iconst 1, 1), (15, .iand, 1), (16, .iadd, 1), (17, .istore_n 1, 1), (18, .iinc 2 1, 3), (21, .goto (-17), 3), (24, .iload_n 1, 1), (25, .ireturn, 1)]
set_option maxRecDepth 100000 in
theorem mv_d97 : ∀ q ∈ mv_c97, decode prog_8_method_3_code q.1 = .ok (q.2.1, q.2.2) := by decide +kernel
/-- M_leastDegree -/
def mv_c98 : List (Nat × Instr × Nat) := [(0, .bipush 10, 2), (2, .istore_n 2, 1), (3, .iconst 0, 1), (4, .istore_n 3, 1), (5, .iload_n 3, 1), (6, .aload_n 0, 1), (7, .getfield 50, 3), (10, .if_icmp .ge 44, 3), (13, .aload_n 0, 1), (14, .getfield 7, 3), (17, .iload_n 3, 1), (18, .iaload, 1), (19, .iload_n 1, 1), (20, .iand, 1), (21, .invokestatic 87, 3), (24, .istore 4, 2), (26, .iload_n 1, 1), (27, .iload_n 3, 1), (28, .ishr, 1), (29, .iconst 1, 1), (30, .iand, 1), (31, .iconst 1, 1), (32, .if_icmp .ne 14, 3), (35, .iload 4, 2), (37, .iload_n 2, 1), (38, .if_icmp .ge 8, 3), (41, .iload 4, 2), (43, .goto 4, 3), (46, .iload_n 2, 1), (47, .istore_n 2, 1), (48, .iinc 3 1, 3), (51, .goto (-46), 3), (54, .iload_n 2, 1), (55, .ireturn, 1)]
set_option maxRecDepth 100000 in
theorem mv_d98 : ∀ q ∈ mv_c98, decode prog_8_method_25_code q.1 = .ok (q.2.1, q.2.2) := by decide +kernel
/-- M_isHole -/
def mv_c99 : List (Nat × Instr × Nat) := [(0, .iload_n 1, 1), (1, .invokestatic 87, 3), (4, .iconst 3, 1), (5, .if_icmp .le 15, 3), (8, .aload_n 0, 1), (9, .iload_n 1, 1), (10, .invokevirtual 90, 3), (13, .ifCond .eq 7, 3), (16, .iconst 1, 1), (17, .goto 4, 3), (20, .iconst 0, 1), (21, .istore_n 2, 1), (22, .iconst 0, 1), (23, .istore_n 3, 1), (24, .iload_n 3, 1), (25, .aload_n 0, 1), (26, .getfield 50, 3), (29, .if_icmp .ge 42, 3), (32, .iload_n 2, 1), (33, .ifCond .eq 30, 3), (36, .iload_n 1, 1), (37, .iload_n 3, 1), (38, .ishr, 1), (39, .iconst 1, 1), (40, .iand, 1), (41, .ifCond .eq 18, 3), (44, .aload_n 0, 1), (45, .getfield 7, 3), (48, .iload_n 3, 1), (49, .iaload, 1), (50, .iload_n 1, 1), (51, .iand, 1), (52, .invokestatic 87, 3), (55, .iconst 2, 1), (56, .if_icmp .ne 7, 3), (59, .iconst 1, 1), (60, .goto 4, 3), (63, .iconst 0, 1), (64, .istore_n 2, 1), (65, .iinc 3 1, 3), (68, .goto (-44), 3), (71, .iload_n 2, 1), (72, .ireturn, 1)]
set_option maxRecDepth 100000 in
theorem mv_d99 : ∀ q ∈ mv_c99, decode prog_8_method_19_code q.1 = .ok (q.2.1, q.2.2) := by decide +kernel
/-- M_isWhole -/
def mv_c100 : List (Nat × Instr × Nat) := [(0, .iload_n 1, 1), (1, .ifCond .eq 16, 3), (4, .aload_n 0, 1), (5, .iload_n 1, 1), (6, .invokestatic 69, 3), (9, .iload_n 1, 1), (10, .invokevirtual 73, 3), (13, .iload_n 1, 1), (14, .if_icmp .ne 7, 3), (17, .iconst 1, 1), (18, .goto 4, 3), (21, .iconst 0, 1), (22, .ireturn, 1)]
set_option maxRecDepth 100000 in
theorem mv_d100 : ∀ q ∈ mv_c100, decode prog_8_method_13_code q.1 = .ok (q.2.1, q.2.2) := by decide +kernel
/-- M_separator -/
def mv_c101 : List (Nat × Instr × Nat) := [(0, .iconst 0, 1), (1, .istore_n 2, 1), (2, .iconst 0, 1), (3, .istore_n 3, 1), (4, .iload_n 3, 1), (5, .aload_n 0, 1), (6, .invokevirtual 77, 3), (9, .if_icmp .gt 31, 3), (12, .iload_n 1, 1), (13, .ifCond .lt 27, 3), (16, .aload_n 0, 1), (17, .iload_n 3, 1), (18, .invokevirtual 102, 3), (21, .ifCond .eq 13, 3), (24, .iload_n 2, 1), (25, .iload_n 1, 1), (26, .if_icmp .ne 5, 3), (29, .iload_n 3, 1), (30, .ireturn, 1), (31, .iinc 2 1, 3), (34, .iinc 3 1, 3), (37, .goto (-33), 3), (40, .iconst (-1), 1), (41, .ireturn, 1)]
set_option maxRecDepth 100000 in
theorem mv_d101 : ∀ q ∈ mv_c101, decode prog_8_method_27_code q.1 = .ok (q.2.1, q.2.2) := by decide +kernel
/-- M_isSeparator -/
def mv_c102 : List (Nat × Instr × Nat) := [(0, .aload_n 0, 1), (1, .invokevirtual 77, 3), (4, .iload_n 1, 1), (5, .iconst (-1), 1), (6, .ixor, 1), (7, .iand, 1), (8, .istore_n 2, 1), (9, .iconst 0, 1), (10, .istore_n 3, 1), (11, .iload_n 2, 1), (12, .istore 4, 2), (14, .iload 4, 2), (16, .ifCond .eq 45, 3), (19, .aload_n 0, 1), (20, .iload 4, 2), (22, .invokestatic 69, 3), (25, .iload_n 2, 1), (26, .invokevirtual 73, 3), (29, .istore 5, 2), (31, .iload_n 3, 1), (32, .aload_n 0, 1), (33, .iload 5, 2), (35, .invokevirtual 84, 3), (38, .iload_n 1, 1), (39, .if_icmp .ne 7, 3), (42, .iconst 1, 1), (43, .goto 4, 3), (46, .iconst 0, 1), (47, .iadd, 1), (48, .istore_n 3, 1), (49, .iload 4, 2), (51, .iload 5, 2), (53, .iconst (-1), 1), (54, .ixor, 1), (55, .iand, 1), (56, .istore 4, 2), (58, .goto (-44), 3), (61, .iload_n 3, 1), (62, .iconst 1, 1), (63, .if_icmp .le 7, 3), (66, .iconst 1, 1), (67, .goto 4, 3), (70, .iconst 0, 1), (71, .ireturn, 1)]
set_option maxRecDepth 100000 in
theorem mv_d102 : ∀ q ∈ mv_c102, decode prog_8_method_20_code q.1 = .ok (q.2.1, q.2.2) := by decide +kernel
/-- M_around -/
def mv_c103 : List (Nat × Instr × Nat) := [(0, .iconst 0, 1), (1, .istore_n 2, 1), (2, .iconst 0, 1), (3, .istore_n 3, 1), (4, .iload_n 3, 1), (5, .aload_n 0, 1), (6, .getfield 50, 3), (9, .if_icmp .ge 31, 3), (12, .iload_n 2, 1), (13, .iload_n 1, 1), (14, .iload_n 3, 1), (15, .ishr, 1), (16, .iconst 1, 1), (17, .iand, 1), (18, .iconst 1, 1), (19, .if_icmp .ne 12, 3), (22, .aload_n 0, 1), (23, .getfield 7, 3), (26, .iload_n 3, 1), (27, .iaload, 1), (28, .goto 4, 3), (31, .iconst 0, 1), (32, .ior, 1), (33, .istore_n 2, 1), (34, .iinc 3 1, 3), (37, .goto (-33), 3), (40, .iload_n 2, 1), (41, .iload_n 1, 1), (42, .iconst (-1), 1), (43, .ixor, 1), (44, .iand, 1), (45, .ireturn, 1)]
set_option maxRecDepth 100000 in
theorem mv_d103 : ∀ q ∈ mv_c103, decode prog_8_method_14_code q.1 = .ok (q.2.1, q.2.2) := by decide +kernel
/-- M_clique -/
def mv_c104 : List (Nat × Instr × Nat) := [(0, .iconst 0, 1), (1, .istore_n 2, 1), (2, .iconst 1, 1), (3, .istore_n 3, 1), (4, .iload_n 3, 1), (5, .aload_n 0, 1), (6, .invokevirtual 77, 3), (9, .if_icmp .gt 31, 3), (12, .iload_n 1, 1), (13, .ifCond .lt 27, 3), (16, .aload_n 0, 1), (17, .iload_n 3, 1), (18, .invokevirtual 105, 3), (21, .ifCond .eq 13, 3), (24, .iload_n 2, 1), (25, .iload_n 1, 1), (26, .if_icmp .ne 5, 3), (29, .iload_n 3, 1), (30, .ireturn, 1), (31, .iinc 2 1, 3), (34, .iinc 3 1, 3), (37, .goto (-33), 3), (40, .iconst (-1), 1), (41, .ireturn, 1)]
set_option maxRecDepth 100000 in
theorem mv_d104 : ∀ q ∈ mv_c104, decode prog_8_method_28_code q.1 = .ok (q.2.1, q.2.2) := by decide +kernel
/-- M_isClique -/
def mv_c105 : List (Nat × Instr × Nat) := [(0, .iload_n 1, 1), (1, .ifCond .eq 7, 3), (4, .iconst 1, 1), (5, .goto 4, 3), (8, .iconst 0, 1), (9, .istore_n 2, 1), (10, .iconst 0, 1), (11, .istore_n 3, 1), (12, .iload_n 3, 1), (13, .aload_n 0, 1), (14, .getfield 50, 3), (17, .if_icmp .ge 59, 3), (20, .aload_n 0, 1), (21, .getfield 7, 3), (24, .iload_n 3, 1), (25, .iaload, 1), (26, .iload_n 1, 1), (27, .iand, 1), (28, .istore 4, 2), (30, .iload_n 2, 1), (31, .ifCond .eq 37, 3), (34, .iload_n 1, 1), (35, .iload_n 3, 1), (36, .ishr, 1), (37, .iconst 1, 1), (38, .iand, 1), (39, .iconst 1, 1), (40, .if_icmp .ne 18, 3), (43, .iload 4, 2), (45, .iload_n 1, 1), (46, .iconst 1, 1), (47, .iload_n 3, 1), (48, .ishl, 1), (49, .iconst (-1), 1), (50, .ixor, 1), (51, .iand, 1), (52, .if_icmp .ne 16, 3), (55, .goto 9, 3), (58, .iload 4, 2), (60, .iload_n 1, 1), (61, .if_icmp .eq 7, 3), (64, .iconst 1, 1), (65, .goto 4, 3), (68, .iconst 0, 1), (69, .istore_n 2, 1), (70, .iinc 3 1, 3), (73, .goto (-61), 3), (76, .iload_n 2, 1), (77, .ireturn, 1)]
set_option maxRecDepth 100000 in
theorem mv_d105 : ∀ q ∈ mv_c105, decode prog_8_method_18_code q.1 = .ok (q.2.1, q.2.2) := by decide +kernel
/-- M_width -/
def mv_c106 : List (Nat × Instr × Nat) := [(0, .iload_n 1, 1), (1, .iconst 0, 1), (2, .iconst 5, 1), (3, .invokestatic 54, 3), (6, .ifCond .eq 11, 3), (9, .aload_n 0, 1), (10, .iload_n 1, 1), (11, .invokevirtual 141, 3), (14, .goto 5, 3), (17, .bipush (-2), 2), (19, .ireturn, 1)]
set_option maxRecDepth 100000 in
theorem mv_d106 : ∀ q ∈ mv_c106, decode prog_8_method_40_code q.1 = .ok (q.2.1, q.2.2) := by decide +kernel
/-- M_lay -/
def mv_c107 : List (Nat × Instr × Nat) := [(0, .iload_n 1, 1), (1, .iconst 2, 1), (2, .if_icmp .ne 8, 3), (5, .aload_n 0, 1), (6, .invokevirtual 115, 3), (9, .ireturn, 1), (10, .iload_n 1, 1), (11, .iconst 5, 1), (12, .if_icmp .ne 8, 3), (15, .aload_n 0, 1), (16, .invokevirtual 118, 3), (19, .ireturn, 1), (20, .aload_n 0, 1), (21, .iload_n 1, 1), (22, .invokevirtual 121, 3), (25, .aload_n 0, 1), (26, .getfield 16, 3), (29, .iconst 0, 1), (30, .iaload, 1), (31, .istore_n 2, 1), (32, .iload_n 2, 1), (33, .istore_n 3, 1), (34, .iconst 0, 1), (35, .istore 4, 2), (37, .iconst 0, 1), (38, .istore 5, 2), (40, .iload 5, 2), (42, .aload_n 0, 1), (43, .getfield 50, 3), (46, .if_icmp .ge 70, 3), (49, .iconst 0, 1), (50, .istore 6, 2), (52, .aload_n 0, 1), (53, .iload_n 1, 1), (54, .iload 4, 2), (56, .iload 6, 2), (58, .iload_n 3, 1), (59, .invokevirtual 125, 3), (62, .ifCond .ne 9, 3), (65, .iinc 6 1, 3), (68, .goto (-16), 3), (71, .iload_n 3, 1), (72, .iload_n 1, 1), (73, .iconst 4, 1), (74, .if_icmp .ne 15, 3), (77, .aload_n 0, 1), (78, .iload_n 1, 1), (79, .iload 4, 2), (81, .iload 6, 2), (83, .invokevirtual 111, 3), (86, .goto 4, 3), (89, .iconst 0, 1), (90, .isub, 1), (91, .istore_n 3, 1), (92, .aload_n 0, 1), (93, .getfield 19, 3), (96, .iload 5, 2), (98, .iload 6, 2), (100, .iastore, 1), (101, .iload 4, 2), (103, .iconst 1, 1), (104, .iload 6, 2), (106, .ishl, 1), (107, .ior, 1), (108, .istore 4, 2), (110, .iinc 5 1, 3), (113, .goto (-73), 3), (116, .iload_n 2, 1), (117, .ireturn, 1)]
set_option maxRecDepth 100000 in
theorem mv_d107 : ∀ q ∈ mv_c107, decode prog_8_method_32_code q.1 = .ok (q.2.1, q.2.2) := by decide +kernel
/-- M_layBand -/
def mv_c108 : List (Nat × Instr × Nat) := [(0, .aload_n 0, 1), (1, .getfield 50, 3), (4, .ifCond .ne 5, 3), (7, .iconst 0, 1), (8, .ireturn, 1), (9, .iconst 0, 1), (10, .istore_n 1, 1), (11, .iconst 0, 1), (12, .istore_n 2, 1), (13, .aload_n 0, 1), (14, .getfield 19, 3), (17, .iconst 0, 1), (18, .iconst (-1), 1), (19, .iastore, 1), (20, .iload_n 2, 1), (21, .ifCond .lt 112, 3), (24, .iload_n 2, 1), (25, .aload_n 0, 1), (26, .getfield 50, 3), (29, .if_icmp .ge 104, 3), (32, .aload_n 0, 1), (33, .getfield 19, 3), (36, .iload_n 2, 1), (37, .dup2, 1), (38, .iaload, 1), (39, .iconst 1, 1), (40, .iadd, 1), (41, .iastore, 1), (42, .aload_n 0, 1), (43, .getfield 19, 3), (46, .iload_n 2, 1), (47, .iaload, 1), (48, .aload_n 0, 1), (49, .getfield 50, 3), (52, .if_icmp .ge 41, 3), (55, .aload_n 0, 1), (56, .iload_n 2, 1), (57, .aload_n 0, 1), (58, .getfield 19, 3), (61, .iload_n 2, 1), (62, .iaload, 1), (63, .invokevirtual 129, 3), (66, .ifCond .ne 14, 3), (69, .aload_n 0, 1), (70, .iload_n 2, 1), (71, .iconst 1, 1), (72, .iadd, 1), (73, .iload_n 1, 1), (74, .invokevirtual 132, 3), (77, .ifCond .ne 16, 3), (80, .aload_n 0, 1), (81, .getfield 19, 3), (84, .iload_n 2, 1), (85, .dup2, 1), (86, .iaload, 1), (87, .iconst 1, 1), (88, .iadd, 1), (89, .iastore, 1), (90, .goto (-48), 3), (93, .aload_n 0, 1), (94, .getfield 19, 3), (97, .iload_n 2, 1), (98, .iaload, 1), (99, .aload_n 0, 1), (100, .getfield 50, 3), (103, .if_icmp .lt 9, 3), (106, .iinc 2 (-1), 3), (109, .goto (-89), 3), (112, .iinc 2 1, 3), (115, .iload_n 2, 1), (116, .aload_n 0, 1), (117, .getfield 50, 3), (120, .if_icmp .ge (-100), 3), (123, .aload_n 0, 1), (124, .getfield 19, 3), (127, .iload_n 2, 1), (128, .iconst (-1), 1), (129, .iastore, 1), (130, .goto (-110), 3), (133, .iload_n 2, 1), (134, .aload_n 0, 1), (135, .getfield 50, 3), (138, .if_icmp .ne 5, 3), (141, .iload_n 1, 1), (142, .ireturn, 1), (143, .iinc 1 1, 3), (146, .goto (-135), 3)]
set_option maxRecDepth 100000 in
theorem mv_d108 : ∀ q ∈ mv_c108, decode prog_8_method_35_code q.1 = .ok (q.2.1, q.2.2) := by decide +kernel
/-- M_stands -/
def mv_c109 : List (Nat × Instr × Nat) := [(0, .iconst 0, 1), (1, .istore_n 3, 1), (2, .iconst 0, 1), (3, .istore 4, 2), (5, .iload 4, 2), (7, .iload_n 1, 1), (8, .if_icmp .ge 30, 3), (11, .iload_n 3, 1), (12, .ifCond .ne 14, 3), (15, .aload_n 0, 1), (16, .getfield 19, 3), (19, .iload 4, 2), (21, .iaload, 1), (22, .iload_n 2, 1), (23, .if_icmp .ne 7, 3), (26, .iconst 1, 1), (27, .goto 4, 3), (30, .iconst 0, 1), (31, .istore_n 3, 1), (32, .iinc 4 1, 3), (35, .goto (-30), 3), (38, .iload_n 3, 1), (39, .ireturn, 1)]
set_option maxRecDepth 100000 in
theorem mv_d109 : ∀ q ∈ mv_c109, decode prog_8_method_36_code q.1 = .ok (q.2.1, q.2.2) := by decide +kernel
/-- M_isBand -/
def mv_c110 : List (Nat × Instr × Nat) := [(0, .iconst 1, 1), (1, .istore_n 3, 1), (2, .iconst 0, 1), (3, .istore 4, 2), (5, .iload 4, 2), (7, .aload_n 0, 1), (8, .getfield 50, 3), (11, .if_icmp .ge 17, 3), (14, .aload_n 0, 1), (15, .getfield 31, 3), (18, .iload 4, 2), (20, .iconst (-1), 1), (21, .iastore, 1), (22, .iinc 4 1, 3), (25, .goto (-20), 3), (28, .iconst 0, 1), (29, .istore 4, 2), (31, .iload 4, 2), (33, .iload_n 1, 1), (34, .if_icmp .ge 23, 3), (37, .aload_n 0, 1), (38, .getfield 31, 3), (41, .aload_n 0, 1), (42, .getfield 19, 3), (45, .iload 4, 2), (47, .iaload, 1), (48, .iload 4, 2), (50, .iastore, 1), (51, .iinc 4 1, 3), (54, .goto (-23), 3), (57, .iconst 0, 1), (58, .istore 4, 2), (60, .iload 4, 2), (62, .iload_n 1, 1), (63, .if_icmp .ge 129, 3), (66, .iconst 0, 1), (67, .istore 5, 2), (69, .iconst 0, 1), (70, .istore 6, 2), (72, .iload 6, 2), (74, .aload_n 0, 1), (75, .getfield 50, 3), (78, .if_icmp .ge 80, 3), (81, .aload_n 0, 1), (82, .aload_n 0, 1), (83, .getfield 19, 3), (86, .iload 4, 2), (88, .iaload, 1), (89, .iload 6, 2), (91, .invokevirtual 65, 3), (94, .ifCond .eq 58, 3), (97, .aload_n 0, 1), (98, .getfield 31, 3), (101, .iload 6, 2), (103, .iaload, 1), (104, .iconst (-1), 1), (105, .if_icmp .ne 9, 3), (108, .iinc 5 1, 3), (111, .goto 41, 3), (114, .iload_n 3, 1), (115, .ifCond .eq 35, 3), (118, .aload_n 0, 1), (119, .getfield 31, 3), (122, .iload 6, 2), (124, .iaload, 1), (125, .iload 4, 2), (127, .isub, 1), (128, .iload_n 2, 1), (129, .if_icmp .gt 21, 3), (132, .iload 4, 2), (134, .aload_n 0, 1), (135, .getfield 31, 3), (138, .iload 6, 2), (140, .iaload, 1), (141, .isub, 1), (142, .iload_n 2, 1), (143, .if_icmp .gt 7, 3), (146, .iconst 1, 1), (147, .goto 4, 3), (150, .iconst 0, 1), (151, .istore_n 3, 1), (152, .iinc 6 1, 3), (155, .goto (-83), 3), (158, .iload_n 3, 1), (159, .ifCond .eq 25, 3), (162, .iload 5, 2), (164, .ifCond .eq 16, 3), (167, .iload_n 1, 1), (168, .iload 5, 2), (170, .iadd, 1), (171, .iconst 1, 1), (172, .isub, 1), (173, .iload 4, 2), (175, .isub, 1), (176, .iload_n 2, 1), (177, .if_icmp .gt 7, 3), (180, .iconst 1, 1), (181, .goto 4, 3), (184, .iconst 0, 1), (185, .istore_n 3, 1), (186, .iinc 4 1, 3), (189, .goto (-129), 3), (192, .iload_n 3, 1), (193, .ireturn, 1)]
set_option maxRecDepth 100000 in
theorem mv_d110 : ∀ q ∈ mv_c110, decode prog_8_method_34_code q.1 = .ok (q.2.1, q.2.2) := by decide +kernel
/-- M_layHigh -/
def mv_c111 : List (Nat × Instr × Nat) := [(0, .iconst 0, 1), (1, .istore_n 1, 1), (2, .iload_n 1, 1), (3, .bipush 10, 2), (5, .if_icmp .ge 16, 3), (8, .aload_n 0, 1), (9, .getfield 22, 3), (12, .iload_n 1, 1), (13, .iconst 0, 1), (14, .iastore, 1), (15, .iinc 1 1, 3), (18, .goto (-16), 3), (21, .aload_n 0, 1), (22, .iconst 0, 1), (23, .invokevirtual 138, 3), (26, .aload_n 0, 1), (27, .getfield 25, 3), (30, .aload_n 0, 1), (31, .invokevirtual 77, 3), (34, .iaload, 1), (35, .istore_n 1, 1), (36, .iconst 0, 1), (37, .istore_n 2, 1), (38, .iconst 0, 1), (39, .istore_n 3, 1), (40, .iload_n 3, 1), (41, .aload_n 0, 1), (42, .getfield 50, 3), (45, .if_icmp .ge 291, 3), (48, .iconst 0, 1), (49, .istore 4, 2), (51, .iconst 0, 1), (52, .istore 5, 2), (54, .iload 5, 2), (56, .ifCond .ne 274, 3), (59, .iload_n 2, 1), (60, .iload 4, 2), (62, .ishr, 1), (63, .iconst 1, 1), (64, .iand, 1), (65, .iconst 1, 1), (66, .if_icmp .ne 9, 3), (69, .iinc 4 1, 3), (72, .goto (-13), 3), (75, .iconst 1, 1), (76, .istore 6, 2), (78, .iconst 0, 1), (79, .istore 7, 2), (81, .iload 7, 2), (83, .aload_n 0, 1), (84, .getfield 50, 3), (87, .if_icmp .ge 69, 3), (90, .iload_n 2, 1), (91, .iload 7, 2), (93, .ishr, 1), (94, .iconst 1, 1), (95, .iand, 1), (96, .iconst 1, 1), (97, .if_icmp .ne 49, 3), (100, .aload_n 0, 1), (101, .aload_n 0, 1), (102, .iload 7, 2), (104, .iload_n 2, 1), (105, .invokevirtual 73, 3), (108, .invokevirtual 84, 3), (111, .iload 4, 2), (113, .ishr, 1), (114, .iconst 1, 1), (115, .iand, 1), (116, .iconst 1, 1), (117, .if_icmp .ne 29, 3), (120, .aload_n 0, 1), (121, .getfield 22, 3), (124, .iload 7, 2), (126, .iaload, 1), (127, .iconst 1, 1), (128, .iadd, 1), (129, .iload 6, 2), (131, .if_icmp .le 15, 3), (134, .aload_n 0, 1), (135, .getfield 22, 3), (138, .iload 7, 2), (140, .iaload, 1), (141, .iconst 1, 1), (142, .iadd, 1), (143, .goto 5, 3), (146, .iload 6, 2), (148, .istore 6, 2), (150, .iinc 7 1, 3), (153, .goto (-72), 3), (156, .iload_n 2, 1), (157, .iconst 1, 1), (158, .iload 4, 2), (160, .ishl, 1), (161, .ior, 1), (162, .istore 7, 2), (164, .aload_n 0, 1), (165, .iload 4, 2), (167, .iload 7, 2), (169, .invokevirtual 73, 3), (172, .istore 8, 2), (174, .iconst 0, 1), (175, .istore 9, 2), (177, .iload 9, 2), (179, .aload_n 0, 1), (180, .getfield 50, 3), (183, .if_icmp .ge 53, 3), (186, .aload_n 0, 1), (187, .getfield 34, 3), (190, .iload 9, 2), (192, .aload_n 0, 1), (193, .getfield 22, 3), (196, .iload 9, 2), (198, .iaload, 1), (199, .iastore, 1), (200, .aload_n 0, 1), (201, .getfield 22, 3), (204, .iload 9, 2), (206, .iload 8, 2), (208, .iload 9, 2), (210, .ishr, 1), (211, .iconst 1, 1), (212, .iand, 1), (213, .iconst 1, 1), (214, .if_icmp .ne 8, 3), (217, .iload 6, 2), (219, .goto 10, 3), (222, .aload_n 0, 1), (223, .getfield 22, 3), (226, .iload 9, 2), (228, .iaload, 1), (229, .iastore, 1), (230, .iinc 9 1, 3), (233, .goto (-56), 3), (236, .aload_n 0, 1), (237, .iload 7, 2), (239, .invokevirtual 138, 3), (242, .iload 6, 2), (244, .iload_n 1, 1), (245, .if_icmp .gt 25, 3), (248, .aload_n 0, 1), (249, .getfield 25, 3), (252, .aload_n 0, 1), (253, .invokevirtual 77, 3), (256, .iload 7, 2), (258, .iconst (-1), 1), (259, .ixor, 1), (260, .iand, 1), (261, .iaload, 1), (262, .iload_n 1, 1), (263, .if_icmp .gt 7, 3), (266, .iconst 1, 1), (267, .goto 4, 3), (270, .iconst 0, 1), (271, .istore 5, 2), (273, .iload 5, 2), (275, .ifCond .eq 17, 3), (278, .aload_n 0, 1), (279, .getfield 19, 3), (282, .iload_n 3, 1), (283, .iload 4, 2), (285, .iastore, 1), (286, .iload 7, 2), (288, .istore_n 2, 1), (289, .goto 38, 3), (292, .iconst 0, 1), (293, .istore 9, 2), (295, .iload 9, 2), (297, .aload_n 0, 1), (298, .getfield 50, 3), (301, .if_icmp .ge 23, 3), (304, .aload_n 0, 1), (305, .getfield 22, 3), (308, .iload 9, 2), (310, .aload_n 0, 1), (311, .getfield 34, 3), (314, .iload 9, 2), (316, .iaload, 1), (317, .iastore, 1), (318, .iinc 9 1, 3), (321, .goto (-26), 3), (324, .iinc 4 1, 3), (327, .goto (-273), 3), (330, .iinc 3 1, 3), (333, .goto (-293), 3), (336, .iload_n 1, 1), (337, .ireturn, 1)]
set_option maxRecDepth 100000 in
theorem mv_d111 : ∀ q ∈ mv_c111, decode prog_8_method_39_code q.1 = .ok (q.2.1, q.2.2) := by decide +kernel
/-- M_tellHigh -/
def mv_c112 : List (Nat × Instr × Nat) := [(0, .iconst 0, 1), (1, .istore_n 2, 1), (2, .iload_n 2, 1), (3, .aload_n 0, 1), (4, .getfield 50, 3), (7, .if_icmp .ge 38, 3), (10, .aload_n 0, 1), (11, .getfield 28, 3), (14, .iload_n 2, 1), (15, .iload_n 1, 1), (16, .iload_n 2, 1), (17, .ishr, 1), (18, .iconst 1, 1), (19, .iand, 1), (20, .iconst 1, 1), (21, .if_icmp .ne 16, 3), (24, .aload_n 0, 1), (25, .aload_n 0, 1), (26, .iload_n 2, 1), (27, .iload_n 1, 1), (28, .invokevirtual 73, 3), (31, .invokevirtual 84, 3), (34, .goto 4, 3), (37, .iconst 0, 1), (38, .iastore, 1), (39, .iinc 2 1, 3), (42, .goto (-40), 3), (45, .iconst 0, 1), (46, .istore_n 2, 1), (47, .iload_n 2, 1), (48, .aload_n 0, 1), (49, .invokevirtual 77, 3), (52, .if_icmp .gt 106, 3), (55, .iload_n 2, 1), (56, .iload_n 1, 1), (57, .iand, 1), (58, .ifCond .ne 94, 3), (61, .aload_n 0, 1), (62, .getfield 25, 3), (65, .iload_n 2, 1), (66, .iconst 0, 1), (67, .iastore, 1), (68, .iload_n 2, 1), (69, .istore_n 3, 1), (70, .iload_n 3, 1), (71, .ifCond .eq 81, 3), (74, .aload_n 0, 1), (75, .iload_n 3, 1), (76, .invokestatic 69, 3), (79, .iload_n 2, 1), (80, .iload_n 1, 1), (81, .ior, 1), (82, .invokevirtual 73, 3), (85, .iload_n 1, 1), (86, .iconst (-1), 1), (87, .ixor, 1), (88, .iand, 1), (89, .istore 4, 2), (91, .iload 4, 2), (93, .iload_n 2, 1), (94, .if_icmp .ne 11, 3), (97, .aload_n 0, 1), (98, .iload_n 2, 1), (99, .invokevirtual 135, 3), (102, .goto 10, 3), (105, .aload_n 0, 1), (106, .getfield 25, 3), (109, .iload 4, 2), (111, .iaload, 1), (112, .istore 5, 2), (114, .aload_n 0, 1), (115, .getfield 25, 3), (118, .iload_n 2, 1), (119, .iload 5, 2), (121, .aload_n 0, 1), (122, .getfield 25, 3), (125, .iload_n 2, 1), (126, .iaload, 1), (127, .if_icmp .le 8, 3), (130, .iload 5, 2), (132, .goto 9, 3), (135, .aload_n 0, 1), (136, .getfield 25, 3), (139, .iload_n 2, 1), (140, .iaload, 1), (141, .iastore, 1), (142, .iload_n 3, 1), (143, .iload 4, 2), (145, .iconst (-1), 1), (146, .ixor, 1), (147, .iand, 1), (148, .istore_n 3, 1), (149, .goto (-79), 3), (152, .iinc 2 1, 3), (155, .goto (-108), 3), (158, .return_, 1)]
set_option maxRecDepth 100000 in
theorem mv_d112 : ∀ q ∈ mv_c112, decode prog_8_method_37_code q.1 = .ok (q.2.1, q.2.2) := by decide +kernel
/-- M_top -/
def mv_c113 : List (Nat × Instr × Nat) := [(0, .sipush 1000, 3), (3, .istore_n 2, 1), (4, .iconst 0, 1), (5, .istore_n 3, 1), (6, .iload_n 3, 1), (7, .aload_n 0, 1), (8, .getfield 50, 3), (11, .if_icmp .ge 112, 3), (14, .iload_n 1, 1), (15, .iload_n 3, 1), (16, .ishr, 1), (17, .iconst 1, 1), (18, .iand, 1), (19, .iconst 1, 1), (20, .if_icmp .ne 97, 3), (23, .iload_n 1, 1), (24, .iconst 1, 1), (25, .iload_n 3, 1), (26, .ishl, 1), (27, .iconst (-1), 1), (28, .ixor, 1), (29, .iand, 1), (30, .istore 4, 2), (32, .aload_n 0, 1), (33, .getfield 25, 3), (36, .iload 4, 2), (38, .iaload, 1), (39, .istore 5, 2), (41, .iconst 0, 1), (42, .istore 6, 2), (44, .iload 6, 2), (46, .aload_n 0, 1), (47, .getfield 50, 3), (50, .if_icmp .ge 50, 3), (53, .aload_n 0, 1), (54, .getfield 28, 3), (57, .iload 6, 2), (59, .iaload, 1), (60, .iload_n 3, 1), (61, .ishr, 1), (62, .iconst 1, 1), (63, .iand, 1), (64, .iconst 1, 1), (65, .if_icmp .ne 25, 3), (68, .aload_n 0, 1), (69, .getfield 22, 3), (72, .iload 6, 2), (74, .iaload, 1), (75, .iload 5, 2), (77, .if_icmp .le 13, 3), (80, .aload_n 0, 1), (81, .getfield 22, 3), (84, .iload 6, 2), (86, .iaload, 1), (87, .goto 5, 3), (90, .iload 5, 2), (92, .istore 5, 2), (94, .iinc 6 1, 3), (97, .goto (-53), 3), (100, .iload 5, 2), (102, .iconst 1, 1), (103, .iadd, 1), (104, .iload_n 2, 1), (105, .if_icmp .ge 10, 3), (108, .iload 5, 2), (110, .iconst 1, 1), (111, .iadd, 1), (112, .goto 4, 3), (115, .iload_n 2, 1), (116, .istore_n 2, 1), (117, .iinc 3 1, 3), (120, .goto (-114), 3), (123, .iload_n 2, 1), (124, .ireturn, 1)]
set_option maxRecDepth 100000 in
theorem mv_d113 : ∀ q ∈ mv_c113, decode prog_8_method_38_code q.1 = .ok (q.2.1, q.2.2) := by decide +kernel
/-- M_tellBehind -/
def mv_c114 : List (Nat × Instr × Nat) := [(0, .aload_n 0, 1), (1, .invokevirtual 77, 3), (4, .istore_n 2, 1), (5, .iload_n 2, 1), (6, .ifCond .lt 124, 3), (9, .iload_n 2, 1), (10, .aload_n 0, 1), (11, .invokevirtual 77, 3), (14, .if_icmp .ne 7, 3), (17, .iconst 0, 1), (18, .goto 6, 3), (21, .sipush 1000, 3), (24, .istore_n 3, 1), (25, .iconst 0, 1), (26, .istore 4, 2), (28, .iload 4, 2), (30, .aload_n 0, 1), (31, .getfield 50, 3), (34, .if_icmp .ge 83, 3), (37, .iload_n 2, 1), (38, .iload 4, 2), (40, .ishr, 1), (41, .iconst 1, 1), (42, .iand, 1), (43, .ifCond .ne 68, 3), (46, .aload_n 0, 1), (47, .iload_n 1, 1), (48, .iload_n 2, 1), (49, .iload 4, 2), (51, .invokevirtual 111, 3), (54, .istore 5, 2), (56, .aload_n 0, 1), (57, .getfield 16, 3), (60, .iload_n 2, 1), (61, .iconst 1, 1), (62, .iload 4, 2), (64, .ishl, 1), (65, .ior, 1), (66, .iaload, 1), (67, .istore 6, 2), (69, .iload_n 1, 1), (70, .iconst 4, 1), (71, .if_icmp .ne 11, 3), (74, .iload 5, 2), (76, .iload 6, 2), (78, .iadd, 1), (79, .goto 17, 3), (82, .iload 5, 2), (84, .iload 6, 2), (86, .if_icmp .le 8, 3), (89, .iload 5, 2), (91, .goto 5, 3), (94, .iload 6, 2), (96, .istore 7, 2), (98, .iload 7, 2), (100, .iload_n 3, 1), (101, .if_icmp .ge 8, 3), (104, .iload 7, 2), (106, .goto 4, 3), (109, .iload_n 3, 1), (110, .istore_n 3, 1), (111, .iinc 4 1, 3), (114, .goto (-86), 3), (117, .aload_n 0, 1), (118, .getfield 16, 3), (121, .iload_n 2, 1), (122, .iload_n 3, 1), (123, .iastore, 1), (124, .iinc 2 (-1), 3), (127, .goto (-122), 3), (130, .return_, 1)]
set_option maxRecDepth 100000 in
theorem mv_d114 : ∀ q ∈ mv_c114, decode prog_8_method_31_code q.1 = .ok (q.2.1, q.2.2) := by decide +kernel
/-- M_cost -/
def mv_c115 : List (Nat × Instr × Nat) := [(0, .aload_n 0, 1), (1, .iload_n 2, 1), (2, .iload_n 3, 1), (3, .invokevirtual 108, 3), (6, .istore 4, 2), (8, .iload_n 2, 1), (9, .iconst 1, 1), (10, .iload_n 3, 1), (11, .ishl, 1), (12, .ior, 1), (13, .istore 5, 2), (15, .iconst 0, 1), (16, .istore 6, 2), (18, .iload_n 1, 1), (19, .tableswitch 148 0 3 #[29, 35, 148, 92], 29), (48, .iload 4, 2), (50, .invokestatic 87, 3), (53, .ireturn, 1), (54, .iconst 0, 1), (55, .istore 7, 2), (57, .iload 7, 2), (59, .aload_n 0, 1), (60, .getfield 50, 3), (63, .if_icmp .ge 45, 3), (66, .iload 6, 2), (68, .iload 5, 2), (70, .iload 7, 2), (72, .ishr, 1), (73, .iconst 1, 1), (74, .iand, 1), (75, .iconst 1, 1), (76, .if_icmp .ne 22, 3), (79, .aload_n 0, 1), (80, .getfield 7, 3), (83, .iload 7, 2), (85, .iaload, 1), (86, .iload 5, 2), (88, .iconst (-1), 1), (89, .ixor, 1), (90, .iand, 1), (91, .ifCond .eq 7, 3), (94, .iconst 1, 1), (95, .goto 4, 3), (98, .iconst 0, 1), (99, .iadd, 1), (100, .istore 6, 2), (102, .iinc 7 1, 3), (105, .goto (-48), 3), (108, .iload 6, 2), (110, .ireturn, 1), (111, .iconst 0, 1), (112, .istore 7, 2), (114, .iload 7, 2), (116, .aload_n 0, 1), (117, .getfield 50, 3), (120, .if_icmp .ge 44, 3), (123, .iload 6, 2), (125, .iload 5, 2), (127, .iload 7, 2), (129, .ishr, 1), (130, .iconst 1, 1), (131, .iand, 1), (132, .iconst 1, 1), (133, .if_icmp .ne 21, 3), (136, .aload_n 0, 1), (137, .getfield 7, 3), (140, .iload 7, 2), (142, .iaload, 1), (143, .iload 5, 2), (145, .iconst (-1), 1), (146, .ixor, 1), (147, .iand, 1), (148, .invokestatic 87, 3), (151, .goto 4, 3), (154, .iconst 0, 1), (155, .iadd, 1), (156, .istore 6, 2), (158, .iinc 7 1, 3), (161, .goto (-47), 3), (164, .iload 6, 2), (166, .ireturn, 1), (167, .iload 4, 2), (169, .aload_n 0, 1), (170, .getfield 7, 3), (173, .iload_n 3, 1), (174, .iaload, 1), (175, .iconst (-1), 1), (176, .ixor, 1), (177, .iand, 1), (178, .invokestatic 87, 3), (181, .ireturn, 1)]
set_option maxRecDepth 100000 in
theorem mv_d115 : ∀ q ∈ mv_c115, decode prog_8_method_30_code q.1 = .ok (q.2.1, q.2.2) := by decide +kernel
/-- M_sees -/
def mv_c116 : List (Nat × Instr × Nat) := [(0, .aload_n 0, 1), (1, .aload_n 0, 1), (2, .iload_n 2, 1), (3, .iload_n 1, 1), (4, .iconst 1, 1), (5, .iload_n 2, 1), (6, .ishl, 1), (7, .ior, 1), (8, .invokevirtual 73, 3), (11, .invokevirtual 84, 3), (14, .ireturn, 1)]
set_option maxRecDepth 100000 in
theorem mv_d116 : ∀ q ∈ mv_c116, decode prog_8_method_29_code q.1 = .ok (q.2.1, q.2.2) := by decide +kernel
/-- M_isNext -/
def mv_c117 : List (Nat × Instr × Nat) := [(0, .iload_n 2, 1), (1, .iload_n 3, 1), (2, .ishr, 1), (3, .iconst 1, 1), (4, .iand, 1), (5, .iconst 1, 1), (6, .if_icmp .ne 5, 3), (9, .iconst 0, 1), (10, .ireturn, 1), (11, .aload_n 0, 1), (12, .iload_n 1, 1), (13, .iload_n 2, 1), (14, .iload_n 3, 1), (15, .invokevirtual 111, 3), (18, .istore 5, 2), (20, .aload_n 0, 1), (21, .getfield 16, 3), (24, .iload_n 2, 1), (25, .iconst 1, 1), (26, .iload_n 3, 1), (27, .ishl, 1), (28, .ior, 1), (29, .iaload, 1), (30, .istore 6, 2), (32, .iload_n 1, 1), (33, .iconst 4, 1), (34, .if_icmp .ne 21, 3), (37, .iload 5, 2), (39, .iload 6, 2), (41, .iadd, 1), (42, .iload 4, 2), (44, .if_icmp .gt 7, 3), (47, .iconst 1, 1), (48, .goto 26, 3), (51, .iconst 0, 1), (52, .goto 22, 3), (55, .iload 5, 2), (57, .iload 4, 2), (59, .if_icmp .gt 14, 3), (62, .iload 6, 2), (64, .iload 4, 2), (66, .if_icmp .gt 7, 3), (69, .iconst 1, 1), (70, .goto 4, 3), (73, .iconst 0, 1), (74, .ireturn, 1)]
set_option maxRecDepth 100000 in
theorem mv_d117 : ∀ q ∈ mv_c117, decode prog_8_method_33_code q.1 = .ok (q.2.1, q.2.2) := by decide +kernel
/-- M_order -/
def mv_c118 : List (Nat × Instr × Nat) := [(0, .iload_n 1, 1), (1, .iconst 0, 1), (2, .iconst 5, 1), (3, .invokestatic 54, 3), (6, .ifCond .ne 6, 3), (9, .bipush (-2), 2), (11, .ireturn, 1), (12, .iload_n 2, 1), (13, .iconst 0, 1), (14, .aload_n 0, 1), (15, .getfield 50, 3), (18, .iconst 1, 1), (19, .isub, 1), (20, .invokestatic 54, 3), (23, .ifCond .ne 5, 3), (26, .iconst (-1), 1), (27, .ireturn, 1), (28, .aload_n 0, 1), (29, .iload_n 1, 1), (30, .invokevirtual 141, 3), (33, .pop, 1), (34, .aload_n 0, 1), (35, .getfield 19, 3), (38, .iload_n 2, 1), (39, .iaload, 1), (40, .ireturn, 1)]
set_option maxRecDepth 100000 in
theorem mv_d118 : ∀ q ∈ mv_c118, decode prog_8_method_41_code q.1 = .ok (q.2.1, q.2.2) := by decide +kernel
/-- M_seen -/
def mv_c119 : List (Nat × Instr × Nat) := [(0, .iload_n 1, 1), (1, .iconst 0, 1), (2, .iconst 5, 1), (3, .invokestatic 54, 3), (6, .ifCond .eq 11, 3), (9, .aload_n 0, 1), (10, .iload_n 2, 1), (11, .invokevirtual 61, 3), (14, .ifCond .ne 6, 3), (17, .bipush (-2), 2), (19, .ireturn, 1), (20, .aload_n 0, 1), (21, .iload_n 1, 1), (22, .invokevirtual 141, 3), (25, .pop, 1), (26, .iconst 0, 1), (27, .istore_n 3, 1), (28, .iconst 0, 1), (29, .istore 4, 2), (31, .aload_n 0, 1), (32, .getfield 19, 3), (35, .iload 4, 2), (37, .iaload, 1), (38, .iload_n 2, 1), (39, .if_icmp .eq 21, 3), (42, .iload_n 3, 1), (43, .iconst 1, 1), (44, .aload_n 0, 1), (45, .getfield 19, 3), (48, .iload 4, 2), (50, .iaload, 1), (51, .ishl, 1), (52, .ior, 1), (53, .istore_n 3, 1), (54, .iinc 4 1, 3), (57, .goto (-26), 3), (60, .aload_n 0, 1), (61, .iload_n 3, 1), (62, .iload_n 2, 1), (63, .invokevirtual 108, 3), (66, .ireturn, 1)]
set_option maxRecDepth 100000 in
theorem mv_d119 : ∀ q ∈ mv_c119, decode prog_8_method_42_code q.1 = .ok (q.2.1, q.2.2) := by decide +kernel
/-- M_total -/
def mv_c120 : List (Nat × Instr × Nat) := [(0, .iload_n 1, 1), (1, .iconst 0, 1), (2, .bipush 13, 2), (4, .invokestatic 54, 3), (7, .ifCond .eq 18, 3), (10, .iload_n 1, 1), (11, .iconst 1, 1), (12, .if_icmp .ne 17, 3), (15, .iload_n 2, 1), (16, .iconst 0, 1), (17, .bipush 10, 2), (19, .invokestatic 54, 3), (22, .ifCond .ne 7, 3), (25, .ldc2_w 151, 3), (28, .lreturn, 1), (29, .lconst 0, 1), (30, .lstore_n 3, 1), (31, .iload_n 1, 1), (32, .tableswitch 220 1 13 #[68, 74, 80, 220, 86, 104, 133, 153, 189, 194, 220, 220, 199], 68), (100, .aload_n 0, 1), (101, .iload_n 2, 1), (102, .invokevirtual 153, 3), (105, .lreturn, 1), (106, .aload_n 0, 1), (107, .iconst 0, 1), (108, .invokevirtual 157, 3), (111, .lreturn, 1), (112, .aload_n 0, 1), (113, .iconst 1, 1), (114, .invokevirtual 157, 3), (117, .lreturn, 1), (118, .aload_n 0, 1), (119, .getfield 50, 3), (122, .iconst 3, 1), (123, .if_icmp .ge 7, 3), (126, .lconst 0, 1), (127, .goto 8, 3), (130, .aload_n 0, 1), (131, .iconst 1, 1), (132, .invokevirtual 161, 3), (135, .lreturn, 1), (136, .aload_n 0, 1), (137, .getfield 50, 3), (140, .iconst 1, 1), (141, .if_icmp .ne 7, 3), (144, .lconst 1, 1), (145, .goto 19, 3), (148, .aload_n 0, 1), (149, .getfield 50, 3), (152, .ifCond .ne 7, 3), (155, .lconst 0, 1), (156, .goto 8, 3), (159, .aload_n 0, 1), (160, .iconst 0, 1), (161, .invokevirtual 161, 3), (164, .lreturn, 1), (165, .aload_n 0, 1), (166, .getfield 50, 3), (169, .ifCond .ne 7, 3), (172, .lconst 0, 1), (173, .goto 11, 3), (176, .aload_n 0, 1), (177, .aload_n 0, 1), (178, .invokevirtual 77, 3), (181, .invokevirtual 163, 3), (184, .lreturn, 1), (185, .iconst 1, 1), (186, .istore 5, 2), (188, .iload 5, 2), (190, .aload_n 0, 1), (191, .invokevirtual 77, 3), (194, .if_icmp .gt 22, 3), (197, .aload_n 0, 1), (198, .getfield 41, 3), (201, .iload 5, 2), (203, .aload_n 0, 1), (204, .iload 5, 2), (206, .invokevirtual 163, 3), (209, .lastore, 1), (210, .iinc 5 1, 3), (213, .goto (-25), 3), (216, .aload_n 0, 1), (217, .invokevirtual 166, 3), (220, .lreturn, 1), (221, .aload_n 0, 1), (222, .invokevirtual 170, 3), (225, .lreturn, 1), (226, .aload_n 0, 1), (227, .invokevirtual 173, 3), (230, .lreturn, 1), (231, .lconst 1, 1), (232, .aload_n 0, 1), (233, .getfield 58, 3), (236, .aload_n 0, 1), (237, .getfield 50, 3), (240, .isub, 1), (241, .aload_n 0, 1), (242, .aload_n 0, 1), (243, .invokevirtual 77, 3), (246, .invokevirtual 93, 3), (249, .iadd, 1), (250, .lshl, 1), (251, .lreturn, 1), (252, .iconst 0, 1), (253, .istore 5, 2), (255, .iload 5, 2), (257, .aload_n 0, 1), (258, .invokevirtual 77, 3), (261, .if_icmp .gt 123, 3), (264, .iload_n 1, 1), (265, .ifCond .ne 23, 3), (268, .lload_n 3, 1), (269, .aload_n 0, 1), (270, .iload 5, 2), (272, .invokevirtual 81, 3), (275, .ifCond .eq 7, 3), (278, .lconst 1, 1), (279, .goto 4, 3), (282, .lconst 0, 1), (283, .ladd, 1), (284, .lstore_n 3, 1), (285, .goto 93, 3), (288, .iload_n 1, 1), (289, .iconst 4, 1), (290, .if_icmp .ne 23, 3), (293, .lload_n 3, 1), (294, .aload_n 0, 1), (295, .iload 5, 2), (297, .invokevirtual 176, 3), (300, .ifCond .eq 7, 3), (303, .lconst 1, 1), (304, .goto 4, 3), (307, .lconst 0, 1), (308, .ladd, 1), (309, .lstore_n 3, 1), (310, .goto 68, 3), (313, .iload_n 1, 1), (314, .bipush 12, 2), (316, .if_icmp .ne 28, 3), (319, .lload_n 3, 1), (320, .iload 5, 2), (322, .ifCond .eq 16, 3), (325, .aload_n 0, 1), (326, .iload 5, 2), (328, .invokevirtual 90, 3), (331, .ifCond .eq 7, 3), (334, .lconst 1, 1), (335, .goto 4, 3), (338, .lconst 0, 1), (339, .ladd, 1), (340, .lstore_n 3, 1), (341, .goto 37, 3), (344, .lload_n 3, 1), (345, .iload 5, 2), (347, .invokestatic 87, 3), (350, .iconst 1, 1), (351, .iand, 1), (352, .ifCond .ne 7, 3), (355, .lconst 1, 1), (356, .goto 6, 3), (359, .ldc2_w 144, 3), (362, .aload_n 0, 1), (363, .aload_n 0, 1), (364, .invokevirtual 77, 3), (367, .iload 5, 2), (369, .iconst (-1), 1), (370, .ixor, 1), (371, .iand, 1), (372, .invokevirtual 148, 3), (375, .lshl, 1), (376, .ladd, 1), (377, .lstore_n 3, 1), (378, .iinc 5 1, 3), (381, .goto (-126), 3), (384, .lload_n 3, 1), (385, .lreturn, 1)]
set_option maxRecDepth 100000 in
theorem mv_d120 : ∀ q ∈ mv_c120, decode prog_8_method_50_code q.1 = .ok (q.2.1, q.2.2) := by decide +kernel
end
section
/-- M_colours -/
def mv_c121 : List (Nat × Instr × Nat) := [(0, .lconst 0, 1), (1, .lstore_n 2, 1), (2, .iconst 0, 1), (3, .istore 4, 2), (5, .iload 4, 2), (7, .aload_n 0, 1), (8, .invokevirtual 77, 3), (11, .if_icmp .gt 52, 3), (14, .aload_n 0, 1), (15, .getfield 41, 3), (18, .iload 4, 2), (20, .iload 4, 2), (22, .ifCond .eq 16, 3), (25, .aload_n 0, 1), (26, .iload 4, 2), (28, .invokevirtual 81, 3), (31, .ifCond .eq 7, 3), (34, .lconst 1, 1), (35, .goto 4, 3), (38, .lconst 0, 1), (39, .lastore, 1), (40, .aload_n 0, 1), (41, .getfield 37, 3), (44, .iload 4, 2), (46, .iload 4, 2), (48, .ifCond .ne 7, 3), (51, .lconst 1, 1), (52, .goto 4, 3), (55, .lconst 0, 1), (56, .lastore, 1), (57, .iinc 4 1, 3), (60, .goto (-55), 3), (63, .lconst 1, 1), (64, .lstore 4, 2), (66, .iconst 0, 1), (67, .istore 6, 2), (69, .iload 6, 2), (71, .aload_n 0, 1), (72, .getfield 50, 3), (75, .if_icmp .gt 127, 3), (78, .lload_n 2, 1), (79, .aload_n 0, 1), (80, .getfield 37, 3), (83, .aload_n 0, 1), (84, .invokevirtual 77, 3), (87, .laload, 1), (88, .lload 4, 2), (90, .lmul, 1), (91, .ladd, 1), (92, .lstore_n 2, 1), (93, .lload 4, 2), (95, .iload_n 1, 1), (96, .iload 6, 2), (98, .isub, 1), (99, .i2l, 1), (100, .lmul, 1), (101, .lstore 4, 2), (103, .aload_n 0, 1), (104, .invokevirtual 77, 3), (107, .istore 7, 2), (109, .iload 7, 2), (111, .ifCond .lt 85, 3), (114, .lconst 0, 1), (115, .lstore 8, 2), (117, .iload 7, 2), (119, .istore 10, 2), (121, .iload 10, 2), (123, .ifCond .le 58, 3), (126, .lload 8, 2), (128, .iload 10, 2), (130, .iload 7, 2), (132, .invokestatic 69, 3), (135, .ishr, 1), (136, .iconst 1, 1), (137, .iand, 1), (138, .iconst 1, 1), (139, .if_icmp .ne 26, 3), (142, .aload_n 0, 1), (143, .getfield 41, 3), (146, .iload 10, 2), (148, .laload, 1), (149, .aload_n 0, 1), (150, .getfield 37, 3), (153, .iload 7, 2), (155, .iload 10, 2), (157, .iconst (-1), 1), (158, .ixor, 1), (159, .iand, 1), (160, .laload, 1), (161, .lmul, 1), (162, .goto 4, 3), (165, .lconst 0, 1), (166, .ladd, 1), (167, .lstore 8, 2), (169, .iload 10, 2), (171, .iconst 1, 1), (172, .isub, 1), (173, .iload 7, 2), (175, .iand, 1), (176, .istore 10, 2), (178, .goto (-57), 3), (181, .aload_n 0, 1), (182, .getfield 37, 3), (185, .iload 7, 2), (187, .lload 8, 2), (189, .lastore, 1), (190, .iinc 7 (-1), 3), (193, .goto (-84), 3), (196, .iinc 6 1, 3), (199, .goto (-130), 3), (202, .lload_n 2, 1), (203, .lreturn, 1)]
set_option maxRecDepth 100000 in
theorem mv_d121 : ∀ q ∈ mv_c121, decode prog_8_method_45_code q.1 = .ok (q.2.1, q.2.2) := by decide +kernel
/-- M_isApart -/
def mv_c122 : List (Nat × Instr × Nat) := [(0, .iconst 1, 1), (1, .istore_n 2, 1), (2, .iconst 0, 1), (3, .istore_n 3, 1), (4, .iload_n 3, 1), (5, .aload_n 0, 1), (6, .getfield 50, 3), (9, .if_icmp .ge 38, 3), (12, .iload_n 2, 1), (13, .ifCond .eq 26, 3), (16, .iload_n 1, 1), (17, .iload_n 3, 1), (18, .ishr, 1), (19, .iconst 1, 1), (20, .iand, 1), (21, .ifCond .eq 14, 3), (24, .aload_n 0, 1), (25, .getfield 7, 3), (28, .iload_n 3, 1), (29, .iaload, 1), (30, .iload_n 1, 1), (31, .iand, 1), (32, .ifCond .ne 7, 3), (35, .iconst 1, 1), (36, .goto 4, 3), (39, .iconst 0, 1), (40, .istore_n 2, 1), (41, .iinc 3 1, 3), (44, .goto (-40), 3), (47, .iload_n 2, 1), (48, .ireturn, 1)]
set_option maxRecDepth 100000 in
theorem mv_d122 : ∀ q ∈ mv_c122, decode prog_8_method_15_code q.1 = .ok (q.2.1, q.2.2) := by decide +kernel
/-- M_matchings -/
def mv_c123 : List (Nat × Instr × Nat) := [(0, .aload_n 0, 1), (1, .getfield 37, 3), (4, .iconst 0, 1), (5, .lconst 1, 1), (6, .lastore, 1), (7, .iconst 1, 1), (8, .istore_n 2, 1), (9, .iload_n 2, 1), (10, .aload_n 0, 1), (11, .invokevirtual 77, 3), (14, .if_icmp .gt 107, 3), (17, .iload_n 2, 1), (18, .invokestatic 69, 3), (21, .istore_n 3, 1), (22, .iload_n 2, 1), (23, .iconst 1, 1), (24, .iload_n 3, 1), (25, .ishl, 1), (26, .iconst (-1), 1), (27, .ixor, 1), (28, .iand, 1), (29, .istore 4, 2), (31, .iload_n 1, 1), (32, .ifCond .eq 7, 3), (35, .lconst 0, 1), (36, .goto 10, 3), (39, .aload_n 0, 1), (40, .getfield 37, 3), (43, .iload 4, 2), (45, .laload, 1), (46, .lstore 5, 2), (48, .iconst 0, 1), (49, .istore 7, 2), (51, .iload 7, 2), (53, .aload_n 0, 1), (54, .getfield 50, 3), (57, .if_icmp .ge 50, 3), (60, .lload 5, 2), (62, .aload_n 0, 1), (63, .getfield 7, 3), (66, .iload_n 3, 1), (67, .iaload, 1), (68, .iload 4, 2), (70, .iand, 1), (71, .iload 7, 2), (73, .ishr, 1), (74, .iconst 1, 1), (75, .iand, 1), (76, .iconst 1, 1), (77, .if_icmp .ne 20, 3), (80, .aload_n 0, 1), (81, .getfield 37, 3), (84, .iload 4, 2), (86, .iconst 1, 1), (87, .iload 7, 2), (89, .ishl, 1), (90, .iconst (-1), 1), (91, .ixor, 1), (92, .iand, 1), (93, .laload, 1), (94, .goto 4, 3), (97, .lconst 0, 1), (98, .ladd, 1), (99, .lstore 5, 2), (101, .iinc 7 1, 3), (104, .goto (-53), 3), (107, .aload_n 0, 1), (108, .getfield 37, 3), (111, .iload_n 2, 1), (112, .lload 5, 2), (114, .lastore, 1), (115, .iinc 2 1, 3), (118, .goto (-109), 3), (121, .aload_n 0, 1), (122, .getfield 37, 3), (125, .aload_n 0, 1), (126, .invokevirtual 77, 3), (129, .laload, 1), (130, .lreturn, 1)]
set_option maxRecDepth 100000 in
theorem mv_d123 : ∀ q ∈ mv_c123, decode prog_8_method_46_code q.1 = .ok (q.2.1, q.2.2) := by decide +kernel
/-- M_ways -/
def mv_c124 : List (Nat × Instr × Nat) := [(0, .iconst 0, 1), (1, .istore_n 2, 1), (2, .iload_n 2, 1), (3, .sipush 10240, 3), (6, .if_icmp .ge 16, 3), (9, .aload_n 0, 1), (10, .getfield 44, 3), (13, .iload_n 2, 1), (14, .lconst 0, 1), (15, .lastore, 1), (16, .iinc 2 1, 3), (19, .goto (-17), 3), (22, .iconst 0, 1), (23, .istore_n 2, 1), (24, .iload_n 2, 1), (25, .aload_n 0, 1), (26, .getfield 50, 3), (29, .if_icmp .ge 35, 3), (32, .aload_n 0, 1), (33, .getfield 44, 3), (36, .bipush 10, 2), (38, .iconst 1, 1), (39, .iload_n 2, 1), (40, .ishl, 1), (41, .imul, 1), (42, .iload_n 2, 1), (43, .iadd, 1), (44, .iload_n 1, 1), (45, .ifCond .eq 7, 3), (48, .iload_n 2, 1), (49, .ifCond .ne 7, 3), (52, .lconst 1, 1), (53, .goto 4, 3), (56, .lconst 0, 1), (57, .lastore, 1), (58, .iinc 2 1, 3), (61, .goto (-37), 3), (64, .lconst 0, 1), (65, .lstore_n 2, 1), (66, .iconst 1, 1), (67, .istore 4, 2), (69, .iload 4, 2), (71, .aload_n 0, 1), (72, .invokevirtual 77, 3), (75, .if_icmp .gt 143, 3), (78, .iconst 0, 1), (79, .istore 5, 2), (81, .iload 5, 2), (83, .aload_n 0, 1), (84, .getfield 50, 3), (87, .if_icmp .ge 125, 3), (90, .aload_n 0, 1), (91, .getfield 44, 3), (94, .bipush 10, 2), (96, .iload 4, 2), (98, .imul, 1), (99, .iload 5, 2), (101, .iadd, 1), (102, .laload, 1), (103, .lstore 6, 2), (105, .iconst 0, 1), (106, .istore 8, 2), (108, .iload 8, 2), (110, .aload_n 0, 1), (111, .getfield 50, 3), (114, .if_icmp .ge 60, 3), (117, .lload 6, 2), (119, .lconst 0, 1), (120, .lcmp, 1), (121, .ifCond .eq 53, 3), (124, .aload_n 0, 1), (125, .iload 5, 2), (127, .iload 8, 2), (129, .invokevirtual 65, 3), (132, .ifCond .eq 36, 3), (135, .iload 4, 2), (137, .iload 8, 2), (139, .ishr, 1), (140, .iconst 1, 1), (141, .iand, 1), (142, .ifCond .ne 26, 3), (145, .aload_n 0, 1), (146, .getfield 44, 3), (149, .bipush 10, 2), (151, .iload 4, 2), (153, .iconst 1, 1), (154, .iload 8, 2), (156, .ishl, 1), (157, .ior, 1), (158, .imul, 1), (159, .iload 8, 2), (161, .iadd, 1), (162, .dup2, 1), (163, .laload, 1), (164, .lload 6, 2), (166, .ladd, 1), (167, .lastore, 1), (168, .iinc 8 1, 3), (171, .goto (-63), 3), (174, .lload_n 2, 1), (175, .iload 4, 2), (177, .aload_n 0, 1), (178, .invokevirtual 77, 3), (181, .if_icmp .ne 22, 3), (184, .iload_n 1, 1), (185, .ifCond .eq 13, 3), (188, .aload_n 0, 1), (189, .iload 5, 2), (191, .iconst 0, 1), (192, .invokevirtual 65, 3), (195, .ifCond .eq 8, 3), (198, .lload 6, 2), (200, .goto 4, 3), (203, .lconst 0, 1), (204, .ladd, 1), (205, .lstore_n 2, 1), (206, .iinc 5 1, 3), (209, .goto (-128), 3), (212, .iinc 4 1, 3), (215, .goto (-146), 3), (218, .lload_n 2, 1), (219, .ldc2_w 146, 3), (222, .ldiv, 1), (223, .lreturn, 1)]
set_option maxRecDepth 100000 in
theorem mv_d124 : ∀ q ∈ mv_c124, decode prog_8_method_47_code q.1 = .ok (q.2.1, q.2.2) := by decide +kernel
/-- M_trees -/
def mv_c125 : List (Nat × Instr × Nat) := [(0, .iconst 0, 1), (1, .istore_n 2, 1), (2, .iconst 0, 1), (3, .istore_n 3, 1), (4, .iconst 0, 1), (5, .istore 4, 2), (7, .iload 4, 2), (9, .aload_n 0, 1), (10, .getfield 50, 3), (13, .if_icmp .ge 26, 3), (16, .iload_n 1, 1), (17, .iload 4, 2), (19, .ishr, 1), (20, .iconst 1, 1), (21, .iand, 1), (22, .iconst 1, 1), (23, .if_icmp .ne 8, 3), (26, .iload 4, 2), (28, .goto 4, 3), (31, .iload_n 3, 1), (32, .istore_n 3, 1), (33, .iinc 4 1, 3), (36, .goto (-29), 3), (39, .iconst 0, 1), (40, .istore 4, 2), (42, .iload 4, 2), (44, .iload_n 3, 1), (45, .if_icmp .ge 106, 3), (48, .iload_n 1, 1), (49, .iload 4, 2), (51, .ishr, 1), (52, .iconst 1, 1), (53, .iand, 1), (54, .iconst 1, 1), (55, .if_icmp .ne 90, 3), (58, .iconst 0, 1), (59, .istore 5, 2), (61, .iconst 0, 1), (62, .istore 6, 2), (64, .iload 6, 2), (66, .iload_n 3, 1), (67, .if_icmp .ge 75, 3), (70, .iload_n 1, 1), (71, .iload 6, 2), (73, .ishr, 1), (74, .iconst 1, 1), (75, .iand, 1), (76, .iconst 1, 1), (77, .if_icmp .ne 59, 3), (80, .aload_n 0, 1), (81, .getfield 47, 3), (84, .bipush 10, 2), (86, .iload_n 2, 1), (87, .imul, 1), (88, .iload 5, 2), (90, .iadd, 1), (91, .iload 4, 2), (93, .iload 6, 2), (95, .if_icmp .ne 19, 3), (98, .aload_n 0, 1), (99, .getfield 7, 3), (102, .iload 4, 2), (104, .iaload, 1), (105, .iload_n 1, 1), (106, .iand, 1), (107, .invokestatic 87, 3), (110, .i2l, 1), (111, .goto 21, 3), (114, .aload_n 0, 1), (115, .iload 4, 2), (117, .iload 6, 2), (119, .invokevirtual 65, 3), (122, .ifCond .eq 9, 3), (125, .ldc2_w 144, 3), (128, .goto 4, 3), (131, .lconst 0, 1), (132, .lastore, 1), (133, .iinc 5 1, 3), (136, .iinc 6 1, 3), (139, .goto (-75), 3), (142, .iinc 2 1, 3), (145, .iinc 4 1, 3), (148, .goto (-106), 3), (151, .lconst 1, 1), (152, .lstore 4, 2), (154, .iconst 0, 1), (155, .istore 6, 2), (157, .iload 6, 2), (159, .iload_n 2, 1), (160, .if_icmp .ge 252, 3), (163, .iload 6, 2), (165, .istore 7, 2), (167, .iload 7, 2), (169, .iload_n 2, 1), (170, .if_icmp .ge 27, 3), (173, .aload_n 0, 1), (174, .getfield 47, 3), (177, .bipush 10, 2), (179, .iload 7, 2), (181, .imul, 1), (182, .iload 6, 2), (184, .iadd, 1), (185, .laload, 1), (186, .lconst 0, 1), (187, .lcmp, 1), (188, .ifCond .ne 9, 3), (191, .iinc 7 1, 3), (194, .goto (-27), 3), (197, .iload 7, 2), (199, .iload_n 2, 1), (200, .if_icmp .ne 5, 3), (203, .lconst 0, 1), (204, .lreturn, 1), (205, .iconst 0, 1), (206, .istore 8, 2), (208, .iload 8, 2), (210, .iload_n 2, 1), (211, .if_icmp .ge 73, 3), (214, .iload 7, 2), (216, .iload 6, 2), (218, .if_icmp .eq 66, 3), (221, .aload_n 0, 1), (222, .getfield 47, 3), (225, .bipush 10, 2), (227, .iload 7, 2), (229, .imul, 1), (230, .iload 8, 2), (232, .iadd, 1), (233, .laload, 1), (234, .lstore 9, 2), (236, .aload_n 0, 1), (237, .getfield 47, 3), (240, .bipush 10, 2), (242, .iload 7, 2), (244, .imul, 1), (245, .iload 8, 2), (247, .iadd, 1), (248, .aload_n 0, 1), (249, .getfield 47, 3), (252, .bipush 10, 2), (254, .iload 6, 2), (256, .imul, 1), (257, .iload 8, 2), (259, .iadd, 1), (260, .laload, 1), (261, .lneg, 1), (262, .lastore, 1), (263, .aload_n 0, 1), (264, .getfield 47, 3), (267, .bipush 10, 2), (269, .iload 6, 2), (271, .imul, 1), (272, .iload 8, 2), (274, .iadd, 1), (275, .lload 9, 2), (277, .lastore, 1), (278, .iinc 8 1, 3), (281, .goto (-73), 3), (284, .iload 6, 2), (286, .iconst 1, 1), (287, .iadd, 1), (288, .istore 8, 2), (290, .iload 8, 2), (292, .iload_n 2, 1), (293, .if_icmp .ge 98, 3), (296, .iload 6, 2), (298, .iconst 1, 1), (299, .iadd, 1), (300, .istore 9, 2), (302, .iload 9, 2), (304, .iload_n 2, 1), (305, .if_icmp .ge 80, 3), (308, .aload_n 0, 1), (309, .getfield 47, 3), (312, .bipush 10, 2), (314, .iload 8, 2), (316, .imul, 1), (317, .iload 9, 2), (319, .iadd, 1), (320, .aload_n 0, 1), (321, .getfield 47, 3), (324, .bipush 10, 2), (326, .iload 8, 2), (328, .imul, 1), (329, .iload 9, 2), (331, .iadd, 1), (332, .laload, 1), (333, .aload_n 0, 1), (334, .getfield 47, 3), (337, .bipush 10, 2), (339, .iload 6, 2), (341, .imul, 1), (342, .iload 6, 2), (344, .iadd, 1), (345, .laload, 1), (346, .lmul, 1), (347, .aload_n 0, 1), (348, .getfield 47, 3), (351, .bipush 10, 2), (353, .iload 8, 2), (355, .imul, 1), (356, .iload 6, 2), (358, .iadd, 1), (359, .laload, 1), (360, .aload_n 0, 1), (361, .getfield 47, 3), (364, .bipush 10, 2), (366, .iload 6, 2), (368, .imul, 1), (369, .iload 9, 2), (371, .iadd, 1), (372, .laload, 1), (373, .lmul, 1), (374, .lsub, 1), (375, .lload 4, 2), (377, .ldiv, 1), (378, .lastore, 1), (379, .iinc 9 1, 3), (382, .goto (-80), 3), (385, .iinc 8 1, 3), (388, .goto (-98), 3), (391, .aload_n 0, 1), (392, .getfield 47, 3), (395, .bipush 10, 2), (397, .iload 6, 2), (399, .imul, 1), (400, .iload 6, 2), (402, .iadd, 1), (403, .laload, 1), (404, .lstore 4, 2), (406, .iinc 6 1, 3), (409, .goto (-252), 3), (412, .lload 4, 2), (414, .lreturn, 1)]
set_option maxRecDepth 100000 in
theorem mv_d125 : ∀ q ∈ mv_c125, decode prog_8_method_43_code q.1 = .ok (q.2.1, q.2.2) := by decide +kernel
/-- M_products -/
def mv_c126 : List (Nat × Instr × Nat) := [(0, .aload_n 0, 1), (1, .getfield 37, 3), (4, .iconst 0, 1), (5, .lconst 1, 1), (6, .lastore, 1), (7, .iconst 1, 1), (8, .istore_n 1, 1), (9, .iload_n 1, 1), (10, .aload_n 0, 1), (11, .invokevirtual 77, 3), (14, .if_icmp .gt 77, 3), (17, .iconst 1, 1), (18, .iload_n 1, 1), (19, .invokestatic 69, 3), (22, .ishl, 1), (23, .istore_n 2, 1), (24, .lconst 0, 1), (25, .lstore_n 3, 1), (26, .iload_n 1, 1), (27, .istore 5, 2), (29, .iload 5, 2), (31, .ifCond .le 47, 3), (34, .lload_n 3, 1), (35, .iload 5, 2), (37, .iload_n 2, 1), (38, .iand, 1), (39, .ifCond .eq 25, 3), (42, .aload_n 0, 1), (43, .getfield 41, 3), (46, .iload 5, 2), (48, .laload, 1), (49, .aload_n 0, 1), (50, .getfield 37, 3), (53, .iload_n 1, 1), (54, .iload 5, 2), (56, .iconst (-1), 1), (57, .ixor, 1), (58, .iand, 1), (59, .laload, 1), (60, .lmul, 1), (61, .goto 4, 3), (64, .lconst 0, 1), (65, .ladd, 1), (66, .lstore_n 3, 1), (67, .iload 5, 2), (69, .iconst 1, 1), (70, .isub, 1), (71, .iload_n 1, 1), (72, .iand, 1), (73, .istore 5, 2), (75, .goto (-46), 3), (78, .aload_n 0, 1), (79, .getfield 37, 3), (82, .iload_n 1, 1), (83, .lload_n 3, 1), (84, .lastore, 1), (85, .iinc 1 1, 3), (88, .goto (-79), 3), (91, .aload_n 0, 1), (92, .getfield 37, 3), (95, .aload_n 0, 1), (96, .invokevirtual 77, 3), (99, .laload, 1), (100, .lreturn, 1)]
set_option maxRecDepth 100000 in
theorem mv_d126 : ∀ q ∈ mv_c126, decode prog_8_method_44_code q.1 = .ok (q.2.1, q.2.2) := by decide +kernel
/-- M_wholes -/
def mv_c127 : List (Nat × Instr × Nat) := [(0, .iconst 1, 1), (1, .istore_n 1, 1), (2, .iload_n 1, 1), (3, .aload_n 0, 1), (4, .invokevirtual 77, 3), (7, .if_icmp .gt 86, 3), (10, .iconst 1, 1), (11, .iload_n 1, 1), (12, .invokestatic 69, 3), (15, .ishl, 1), (16, .istore_n 2, 1), (17, .lconst 1, 1), (18, .aload_n 0, 1), (19, .iload_n 1, 1), (20, .invokevirtual 148, 3), (23, .lshl, 1), (24, .lstore_n 3, 1), (25, .iload_n 1, 1), (26, .iconst 1, 1), (27, .isub, 1), (28, .iload_n 1, 1), (29, .iand, 1), (30, .istore 5, 2), (32, .iload 5, 2), (34, .ifCond .le 46, 3), (37, .lload_n 3, 1), (38, .iload 5, 2), (40, .iload_n 2, 1), (41, .iand, 1), (42, .ifCond .eq 24, 3), (45, .aload_n 0, 1), (46, .getfield 37, 3), (49, .iload 5, 2), (51, .laload, 1), (52, .aload_n 0, 1), (53, .iload_n 1, 1), (54, .iload 5, 2), (56, .iconst (-1), 1), (57, .ixor, 1), (58, .iand, 1), (59, .invokevirtual 148, 3), (62, .lshl, 1), (63, .goto 4, 3), (66, .lconst 0, 1), (67, .lsub, 1), (68, .lstore_n 3, 1), (69, .iload 5, 2), (71, .iconst 1, 1), (72, .isub, 1), (73, .iload_n 1, 1), (74, .iand, 1), (75, .istore 5, 2), (77, .goto (-45), 3), (80, .aload_n 0, 1), (81, .getfield 37, 3), (84, .iload_n 1, 1), (85, .lload_n 3, 1), (86, .lastore, 1), (87, .iinc 1 1, 3), (90, .goto (-88), 3), (93, .aload_n 0, 1), (94, .getfield 50, 3), (97, .ifCond .ne 7, 3), (100, .lconst 0, 1), (101, .goto 12, 3), (104, .aload_n 0, 1), (105, .getfield 37, 3), (108, .aload_n 0, 1), (109, .invokevirtual 77, 3), (112, .laload, 1), (113, .lreturn, 1)]
set_option maxRecDepth 100000 in
theorem mv_d127 : ∀ q ∈ mv_c127, decode prog_8_method_48_code q.1 = .ok (q.2.1, q.2.2) := by decide +kernel
/-- M_edgesIn -/
def mv_c128 : List (Nat × Instr × Nat) := [(0, .iconst 0, 1), (1, .istore_n 2, 1), (2, .iconst 0, 1), (3, .istore_n 3, 1), (4, .iload_n 3, 1), (5, .aload_n 0, 1), (6, .getfield 50, 3), (9, .if_icmp .ge 36, 3), (12, .iload_n 2, 1), (13, .iload_n 1, 1), (14, .iload_n 3, 1), (15, .ishr, 1), (16, .iconst 1, 1), (17, .iand, 1), (18, .iconst 1, 1), (19, .if_icmp .ne 17, 3), (22, .aload_n 0, 1), (23, .getfield 7, 3), (26, .iload_n 3, 1), (27, .iaload, 1), (28, .iload_n 1, 1), (29, .iand, 1), (30, .invokestatic 87, 3), (33, .goto 4, 3), (36, .iconst 0, 1), (37, .iadd, 1), (38, .istore_n 2, 1), (39, .iinc 3 1, 3), (42, .goto (-38), 3), (45, .iload_n 2, 1), (46, .iconst 2, 1), (47, .idiv, 1), (48, .ireturn, 1)]
set_option maxRecDepth 100000 in
theorem mv_d128 : ∀ q ∈ mv_c128, decode prog_8_method_21_code q.1 = .ok (q.2.1, q.2.2) := by decide +kernel
/-- M_directions -/
def mv_c129 : List (Nat × Instr × Nat) := [(0, .aload_n 0, 1), (1, .getfield 37, 3), (4, .iconst 0, 1), (5, .lconst 1, 1), (6, .lastore, 1), (7, .iconst 1, 1), (8, .istore_n 1, 1), (9, .iload_n 1, 1), (10, .aload_n 0, 1), (11, .invokevirtual 77, 3), (14, .if_icmp .gt 90, 3), (17, .lconst 0, 1), (18, .lstore_n 2, 1), (19, .iload_n 1, 1), (20, .istore 4, 2), (22, .iload 4, 2), (24, .ifCond .le 67, 3), (27, .lload_n 2, 1), (28, .aload_n 0, 1), (29, .iload 4, 2), (31, .invokevirtual 81, 3), (34, .ifCond .eq 43, 3), (37, .iload 4, 2), (39, .invokestatic 87, 3), (42, .iconst 1, 1), (43, .iand, 1), (44, .iconst 1, 1), (45, .if_icmp .ne 17, 3), (48, .aload_n 0, 1), (49, .getfield 37, 3), (52, .iload_n 1, 1), (53, .iload 4, 2), (55, .iconst (-1), 1), (56, .ixor, 1), (57, .iand, 1), (58, .laload, 1), (59, .goto 19, 3), (62, .aload_n 0, 1), (63, .getfield 37, 3), (66, .iload_n 1, 1), (67, .iload 4, 2), (69, .iconst (-1), 1), (70, .ixor, 1), (71, .iand, 1), (72, .laload, 1), (73, .lneg, 1), (74, .goto 4, 3), (77, .lconst 0, 1), (78, .ladd, 1), (79, .lstore_n 2, 1), (80, .iload 4, 2), (82, .iconst 1, 1), (83, .isub, 1), (84, .iload_n 1, 1), (85, .iand, 1), (86, .istore 4, 2), (88, .goto (-66), 3), (91, .aload_n 0, 1), (92, .getfield 37, 3), (95, .iload_n 1, 1), (96, .lload_n 2, 1), (97, .lastore, 1), (98, .iinc 1 1, 3), (101, .goto (-92), 3), (104, .aload_n 0, 1), (105, .getfield 37, 3), (108, .aload_n 0, 1), (109, .invokevirtual 77, 3), (112, .laload, 1), (113, .lreturn, 1)]
set_option maxRecDepth 100000 in
theorem mv_d129 : ∀ q ∈ mv_c129, decode prog_8_method_49_code q.1 = .ok (q.2.1, q.2.2) := by decide +kernel
/-- M_isNearAll -/
def mv_c130 : List (Nat × Instr × Nat) := [(0, .iload_n 1, 1), (1, .aload_n 0, 1), (2, .iload_n 1, 1), (3, .invokevirtual 84, 3), (6, .ior, 1), (7, .aload_n 0, 1), (8, .invokevirtual 77, 3), (11, .if_icmp .ne 7, 3), (14, .iconst 1, 1), (15, .goto 4, 3), (18, .iconst 0, 1), (19, .ireturn, 1)]
set_option maxRecDepth 100000 in
theorem mv_d130 : ∀ q ∈ mv_c130, decode prog_8_method_17_code q.1 = .ok (q.2.1, q.2.2) := by decide +kernel
/-- M_best -/
def mv_c131 : List (Nat × Instr × Nat) := [(0, .iload_n 1, 1), (1, .iconst 0, 1), (2, .iconst 4, 1), (3, .invokestatic 54, 3), (6, .ifCond .eq 11, 3), (9, .aload_n 0, 1), (10, .iload_n 1, 1), (11, .invokevirtual 191, 3), (14, .goto 5, 3), (17, .bipush (-2), 2), (19, .ireturn, 1)]
set_option maxRecDepth 100000 in
theorem mv_d131 : ∀ q ∈ mv_c131, decode prog_8_method_53_code q.1 = .ok (q.2.1, q.2.2) := by decide +kernel
/-- M_seek -/
def mv_c132 : List (Nat × Instr × Nat) := [(0, .iload_n 1, 1), (1, .iconst 1, 1), (2, .if_icmp .eq 8, 3), (5, .iload_n 1, 1), (6, .iconst 2, 1), (7, .if_icmp .ne 7, 3), (10, .iconst 1, 1), (11, .goto 4, 3), (14, .iconst 0, 1), (15, .istore_n 2, 1), (16, .iconst (-1), 1), (17, .istore_n 3, 1), (18, .aload_n 0, 1), (19, .iconst (-1), 1), (20, .putfield 182, 3), (23, .iconst 0, 1), (24, .istore 4, 2), (26, .iload 4, 2), (28, .aload_n 0, 1), (29, .invokevirtual 77, 3), (32, .if_icmp .gt 63, 3), (35, .aload_n 0, 1), (36, .iload_n 1, 1), (37, .iload 4, 2), (39, .invokevirtual 185, 3), (42, .ifCond .eq 47, 3), (45, .aload_n 0, 1), (46, .iload 4, 2), (48, .invokevirtual 188, 3), (51, .istore 5, 2), (53, .aload_n 0, 1), (54, .getfield 182, 3), (57, .iconst (-1), 1), (58, .if_icmp .eq 22, 3), (61, .iload_n 2, 1), (62, .ifCond .eq 12, 3), (65, .iload 5, 2), (67, .iload_n 3, 1), (68, .if_icmp .ge 21, 3), (71, .goto 9, 3), (74, .iload 5, 2), (76, .iload_n 3, 1), (77, .if_icmp .le 12, 3), (80, .iload 5, 2), (82, .istore_n 3, 1), (83, .aload_n 0, 1), (84, .iload 4, 2), (86, .putfield 182, 3), (89, .iinc 4 1, 3), (92, .goto (-66), 3), (95, .iload_n 3, 1), (96, .ireturn, 1)]
set_option maxRecDepth 100000 in
theorem mv_d132 : ∀ q ∈ mv_c132, decode prog_8_method_52_code q.1 = .ok (q.2.1, q.2.2) := by decide +kernel
/-- M_isGood -/
def mv_c133 : List (Nat × Instr × Nat) := [(0, .iload_n 1, 1), (1, .tableswitch 55 0 3 #[31, 37, 43, 49], 31), (32, .aload_n 0, 1), (33, .iload_n 2, 1), (34, .invokevirtual 81, 3), (37, .ireturn, 1), (38, .aload_n 0, 1), (39, .iload_n 2, 1), (40, .invokevirtual 176, 3), (43, .ireturn, 1), (44, .aload_n 0, 1), (45, .iload_n 2, 1), (46, .invokevirtual 179, 3), (49, .ireturn, 1), (50, .aload_n 0, 1), (51, .iload_n 2, 1), (52, .invokevirtual 105, 3), (55, .ireturn, 1), (56, .aload_n 0, 1), (57, .aload_n 0, 1), (58, .invokevirtual 77, 3), (61, .iload_n 2, 1), (62, .iconst (-1), 1), (63, .ixor, 1), (64, .iand, 1), (65, .invokevirtual 90, 3), (68, .ifCond .eq 22, 3), (71, .iload_n 2, 1), (72, .aload_n 0, 1), (73, .invokevirtual 77, 3), (76, .if_icmp .ne 10, 3), (79, .aload_n 0, 1), (80, .getfield 50, 3), (83, .ifCond .ne 7, 3), (86, .iconst 1, 1), (87, .goto 4, 3), (90, .iconst 0, 1), (91, .ireturn, 1)]
set_option maxRecDepth 100000 in
theorem mv_d133 : ∀ q ∈ mv_c133, decode prog_8_method_51_code q.1 = .ok (q.2.1, q.2.2) := by decide +kernel
/-- M_isCover -/
def mv_c134 : List (Nat × Instr × Nat) := [(0, .aload_n 0, 1), (1, .aload_n 0, 1), (2, .invokevirtual 77, 3), (5, .iload_n 1, 1), (6, .iconst (-1), 1), (7, .ixor, 1), (8, .iand, 1), (9, .invokevirtual 81, 3), (12, .ireturn, 1)]
set_option maxRecDepth 100000 in
theorem mv_d134 : ∀ q ∈ mv_c134, decode prog_8_method_16_code q.1 = .ok (q.2.1, q.2.2) := by decide +kernel
/-- M_weightOf -/
def mv_c135 : List (Nat × Instr × Nat) := [(0, .iconst 0, 1), (1, .istore_n 2, 1), (2, .iconst 0, 1), (3, .istore_n 3, 1), (4, .iload_n 3, 1), (5, .aload_n 0, 1), (6, .getfield 50, 3), (9, .if_icmp .ge 31, 3), (12, .iload_n 2, 1), (13, .iload_n 1, 1), (14, .iload_n 3, 1), (15, .ishr, 1), (16, .iconst 1, 1), (17, .iand, 1), (18, .iconst 1, 1), (19, .if_icmp .ne 12, 3), (22, .aload_n 0, 1), (23, .getfield 13, 3), (26, .iload_n 3, 1), (27, .iaload, 1), (28, .goto 4, 3), (31, .iconst 0, 1), (32, .iadd, 1), (33, .istore_n 2, 1), (34, .iinc 3 1, 3), (37, .goto (-33), 3), (40, .iload_n 2, 1), (41, .ireturn, 1)]
set_option maxRecDepth 100000 in
theorem mv_d135 : ∀ q ∈ mv_c135, decode prog_8_method_22_code q.1 = .ok (q.2.1, q.2.2) := by decide +kernel
/-- M_which -/
def mv_c136 : List (Nat × Instr × Nat) := [(0, .iload_n 1, 1), (1, .iconst 0, 1), (2, .iconst 4, 1), (3, .invokestatic 54, 3), (6, .ifCond .ne 6, 3), (9, .bipush (-2), 2), (11, .ireturn, 1), (12, .aload_n 0, 1), (13, .iload_n 1, 1), (14, .invokevirtual 191, 3), (17, .pop, 1), (18, .aload_n 0, 1), (19, .getfield 182, 3), (22, .ireturn, 1)]
set_option maxRecDepth 100000 in
theorem mv_d136 : ∀ q ∈ mv_c136, decode prog_8_method_54_code q.1 = .ok (q.2.1, q.2.2) := by decide +kernel
/-- M_fewest -/
def mv_c137 : List (Nat × Instr × Nat) := [(0, .iload_n 1, 1), (1, .ifCond .lt 14, 3), (4, .iload_n 1, 1), (5, .aload_n 0, 1), (6, .invokevirtual 77, 3), (9, .iconst (-1), 1), (10, .ixor, 1), (11, .iand, 1), (12, .ifCond .eq 6, 3), (15, .bipush (-2), 2), (17, .ireturn, 1), (18, .iconst (-1), 1), (19, .istore_n 2, 1), (20, .iconst 0, 1), (21, .istore_n 3, 1), (22, .iload_n 3, 1), (23, .aload_n 0, 1), (24, .invokevirtual 77, 3), (27, .if_icmp .gt 58, 3), (30, .iload_n 3, 1), (31, .iload_n 1, 1), (32, .iand, 1), (33, .iload_n 1, 1), (34, .if_icmp .ne 45, 3), (37, .aload_n 0, 1), (38, .iload_n 3, 1), (39, .invokevirtual 90, 3), (42, .ifCond .eq 37, 3), (45, .iload_n 3, 1), (46, .ifCond .ne 7, 3), (49, .iconst 0, 1), (50, .goto 9, 3), (53, .iload_n 3, 1), (54, .invokestatic 87, 3), (57, .iconst 1, 1), (58, .isub, 1), (59, .istore 4, 2), (61, .iload_n 2, 1), (62, .iconst (-1), 1), (63, .if_icmp .eq 9, 3), (66, .iload 4, 2), (68, .iload_n 2, 1), (69, .if_icmp .ge 8, 3), (72, .iload 4, 2), (74, .goto 4, 3), (77, .iload_n 2, 1), (78, .istore_n 2, 1), (79, .iinc 3 1, 3), (82, .goto (-60), 3), (85, .iload_n 2, 1), (86, .ireturn, 1)]
set_option maxRecDepth 100000 in
theorem mv_d137 : ∀ q ∈ mv_c137, decode prog_8_method_55_code q.1 = .ok (q.2.1, q.2.2) := by decide +kernel
/-- L_law -/
def mv_c138 : List (Nat × Instr × Nat) := [(0, .new 7, 3), (3, .dup, 1), (4, .invokespecial 9, 3), (7, .astore_n 1, 1), (8, .new 10, 3), (11, .dup, 1), (12, .invokespecial 12, 3), (15, .astore_n 2, 1), (16, .iconst 0, 1), (17, .istore_n 3, 1), (18, .iload_n 3, 1), (19, .aload_n 0, 1), (20, .arraylength, 1), (21, .iconst 3, 1), (22, .isub, 1), (23, .if_icmp .gt 497, 3), (26, .aload_n 0, 1), (27, .iload_n 3, 1), (28, .iaload, 1), (29, .bipush 15, 2), (31, .iand, 1), (32, .tableswitch 482 0 14 #[76, 99, 132, 165, 198, 221, 244, 267, 300, 333, 356, 379, 413, 436, 459], 76), (108, .aload_n 1, 1), (109, .aload_n 0, 1), (110, .iload_n 3, 1), (111, .iconst 1, 1), (112, .iadd, 1), (113, .iaload, 1), (114, .invokevirtual 13, 3), (117, .aload_n 2, 1), (118, .aload_n 0, 1), (119, .iload_n 3, 1), (120, .iconst 1, 1), (121, .iadd, 1), (122, .iaload, 1), (123, .invokevirtual 17, 3), (126, .if_icmp .eq 388, 3), (129, .iconst 0, 1), (130, .ireturn, 1), (131, .aload_n 1, 1), (132, .aload_n 0, 1), (133, .iload_n 3, 1), (134, .iconst 1, 1), (135, .iadd, 1), (136, .iaload, 1), (137, .aload_n 0, 1), (138, .iload_n 3, 1), (139, .iconst 2, 1), (140, .iadd, 1), (141, .iaload, 1), (142, .invokevirtual 18, 3), (145, .aload_n 2, 1), (146, .aload_n 0, 1), (147, .iload_n 3, 1), (148, .iconst 1, 1), (149, .iadd, 1), (150, .iaload, 1), (151, .aload_n 0, 1), (152, .iload_n 3, 1), (153, .iconst 2, 1), (154, .iadd, 1), (155, .iaload, 1), (156, .invokevirtual 22, 3), (159, .if_icmp .eq 355, 3), (162, .iconst 0, 1), (163, .ireturn, 1), (164, .aload_n 1, 1), (165, .aload_n 0, 1), (166, .iload_n 3, 1), (167, .iconst 1, 1), (168, .iadd, 1), (169, .iaload, 1), (170, .aload_n 0, 1), (171, .iload_n 3, 1), (172, .iconst 2, 1), (173, .iadd, 1), (174, .iaload, 1), (175, .invokevirtual 23, 3), (178, .aload_n 2, 1), (179, .aload_n 0, 1), (180, .iload_n 3, 1), (181, .iconst 1, 1), (182, .iadd, 1), (183, .iaload, 1), (184, .aload_n 0, 1), (185, .iload_n 3, 1), (186, .iconst 2, 1), (187, .iadd, 1), (188, .iaload, 1), (189, .invokevirtual 26, 3), (192, .if_icmp .eq 322, 3), (195, .iconst 0, 1), (196, .ireturn, 1), (197, .aload_n 1, 1), (198, .aload_n 0, 1), (199, .iload_n 3, 1), (200, .iconst 1, 1), (201, .iadd, 1), (202, .iaload, 1), (203, .aload_n 0, 1), (204, .iload_n 3, 1), (205, .iconst 2, 1), (206, .iadd, 1), (207, .iaload, 1), (208, .invokevirtual 27, 3), (211, .aload_n 2, 1), (212, .aload_n 0, 1), (213, .iload_n 3, 1), (214, .iconst 1, 1), (215, .iadd, 1), (216, .iaload, 1), (217, .aload_n 0, 1), (218, .iload_n 3, 1), (219, .iconst 2, 1), (220, .iadd, 1), (221, .iaload, 1), (222, .invokevirtual 30, 3), (225, .if_icmp .eq 289, 3), (228, .iconst 0, 1), (229, .ireturn, 1), (230, .aload_n 1, 1), (231, .aload_n 0, 1), (232, .iload_n 3, 1), (233, .iconst 1, 1), (234, .iadd, 1), (235, .iaload, 1), (236, .invokevirtual 31, 3), (239, .aload_n 2, 1), (240, .aload_n 0, 1), (241, .iload_n 3, 1), (242, .iconst 1, 1), (243, .iadd, 1), (244, .iaload, 1), (245, .invokevirtual 34, 3), (248, .if_icmp .eq 266, 3), (251, .iconst 0, 1), (252, .ireturn, 1), (253, .aload_n 1, 1), (254, .aload_n 0, 1), (255, .iload_n 3, 1), (256, .iconst 1, 1), (257, .iadd, 1), (258, .iaload, 1), (259, .invokevirtual 35, 3), (262, .aload_n 2, 1), (263, .aload_n 0, 1), (264, .iload_n 3, 1), (265, .iconst 1, 1), (266, .iadd, 1), (267, .iaload, 1), (268, .invokevirtual 38, 3), (271, .if_icmp .eq 243, 3), (274, .iconst 0, 1), (275, .ireturn, 1), (276, .aload_n 1, 1), (277, .aload_n 0, 1), (278, .iload_n 3, 1), (279, .iconst 1, 1), (280, .iadd, 1), (281, .iaload, 1), (282, .invokevirtual 39, 3), (285, .aload_n 2, 1), (286, .aload_n 0, 1), (287, .iload_n 3, 1), (288, .iconst 1, 1), (289, .iadd, 1), (290, .iaload, 1), (291, .invokevirtual 42, 3), (294, .if_icmp .eq 220, 3), (297, .iconst 0, 1), (298, .ireturn, 1), (299, .aload_n 1, 1), (300, .aload_n 0, 1), (301, .iload_n 3, 1), (302, .iconst 1, 1), (303, .iadd, 1), (304, .iaload, 1), (305, .aload_n 0, 1), (306, .iload_n 3, 1), (307, .iconst 2, 1), (308, .iadd, 1), (309, .iaload, 1), (310, .invokevirtual 43, 3), (313, .aload_n 2, 1), (314, .aload_n 0, 1), (315, .iload_n 3, 1), (316, .iconst 1, 1), (317, .iadd, 1), (318, .iaload, 1), (319, .aload_n 0, 1), (320, .iload_n 3, 1), (321, .iconst 2, 1), (322, .iadd, 1), (323, .iaload, 1), (324, .invokevirtual 46, 3), (327, .if_icmp .eq 187, 3), (330, .iconst 0, 1), (331, .ireturn, 1), (332, .aload_n 1, 1), (333, .aload_n 0, 1), (334, .iload_n 3, 1), (335, .iconst 1, 1), (336, .iadd, 1), (337, .iaload, 1), (338, .aload_n 0, 1), (339, .iload_n 3, 1), (340, .iconst 2, 1), (341, .iadd, 1), (342, .iaload, 1), (343, .invokevirtual 47, 3), (346, .aload_n 2, 1), (347, .aload_n 0, 1), (348, .iload_n 3, 1), (349, .iconst 1, 1), (350, .iadd, 1), (351, .iaload, 1), (352, .aload_n 0, 1), (353, .iload_n 3, 1), (354, .iconst 2, 1), (355, .iadd, 1), (356, .iaload, 1), (357, .invokevirtual 50, 3), (360, .if_icmp .eq 154, 3), (363, .iconst 0, 1), (364, .ireturn, 1), (365, .aload_n 1, 1), (366, .aload_n 0, 1), (367, .iload_n 3, 1), (368, .iconst 1, 1), (369, .iadd, 1), (370, .iaload, 1), (371, .invokevirtual 51, 3), (374, .aload_n 2, 1), (375, .aload_n 0, 1), (376, .iload_n 3, 1), (377, .iconst 1, 1), (378, .iadd, 1), (379, .iaload, 1), (380, .invokevirtual 54, 3), (383, .if_icmp .eq 131, 3), (386, .iconst 0, 1), (387, .ireturn, 1), (388, .aload_n 1, 1), (389, .aload_n 0, 1), (390, .iload_n 3, 1), (391, .iconst 1, 1), (392, .iadd, 1), (393, .iaload, 1), (394, .invokevirtual 55, 3), (397, .aload_n 2, 1), (398, .aload_n 0, 1), (399, .iload_n 3, 1), (400, .iconst 1, 1), (401, .iadd, 1), (402, .iaload, 1), (403, .invokevirtual 58, 3), (406, .if_icmp .eq 108, 3), (409, .iconst 0, 1), (410, .ireturn, 1), (411, .aload_n 1, 1), (412, .aload_n 0, 1), (413, .iload_n 3, 1), (414, .iconst 1, 1), (415, .iadd, 1), (416, .iaload, 1), (417, .aload_n 0, 1), (418, .iload_n 3, 1), (419, .iconst 2, 1), (420, .iadd, 1), (421, .iaload, 1), (422, .invokevirtual 59, 3), (425, .aload_n 2, 1), (426, .aload_n 0, 1), (427, .iload_n 3, 1), (428, .iconst 1, 1), (429, .iadd, 1), (430, .iaload, 1), (431, .aload_n 0, 1), (432, .iload_n 3, 1), (433, .iconst 2, 1), (434, .iadd, 1), (435, .iaload, 1), (436, .invokevirtual 63, 3), (439, .lcmp, 1), (440, .ifCond .eq 74, 3), (443, .iconst 0, 1), (444, .ireturn, 1), (445, .aload_n 1, 1), (446, .aload_n 0, 1), (447, .iload_n 3, 1), (448, .iconst 1, 1), (449, .iadd, 1), (450, .iaload, 1), (451, .invokevirtual 64, 3), (454, .aload_n 2, 1), (455, .aload_n 0, 1), (456, .iload_n 3, 1), (457, .iconst 1, 1), (458, .iadd, 1), (459, .iaload, 1), (460, .invokevirtual 67, 3), (463, .if_icmp .eq 51, 3), (466, .iconst 0, 1), (467, .ireturn, 1), (468, .aload_n 1, 1), (469, .aload_n 0, 1), (470, .iload_n 3, 1), (471, .iconst 1, 1), (472, .iadd, 1), (473, .iaload, 1), (474, .invokevirtual 68, 3), (477, .aload_n 2, 1), (478, .aload_n 0, 1), (479, .iload_n 3, 1), (480, .iconst 1, 1), (481, .iadd, 1), (482, .iaload, 1), (483, .invokevirtual 71, 3), (486, .if_icmp .eq 28, 3), (489, .iconst 0, 1), (490, .ireturn, 1), (491, .aload_n 1, 1), (492, .aload_n 0, 1), (493, .iload_n 3, 1), (494, .iconst 1, 1), (495, .iadd, 1), (496, .iaload, 1), (497, .invokevirtual 72, 3), (500, .aload_n 2, 1), (501, .aload_n 0, 1), (502, .iload_n 3, 1), (503, .iconst 1, 1), (504, .iadd, 1), (505, .iaload, 1), (506, .invokevirtual 75, 3), (509, .if_icmp .eq 5, 3), (512, .iconst 0, 1), (513, .ireturn, 1), (514, .iinc 3 3, 3), (517, .goto (-499), 3), (520, .iconst 1, 1), (521, .ireturn, 1)]
set_option maxRecDepth 100000 in
theorem mv_d138 : ∀ q ∈ mv_c138, decode code q.1 = .ok (q.2.1, q.2.2) := by decide +kernel
end
section
def mv_code (j : Nat) : List (Nat × Instr × Nat) := match j with
  | 0 => mv_c0
  | 1 => mv_c1
  | 2 => mv_c2
  | 3 => mv_c3
  | 4 => mv_c4
  | 5 => mv_c5
  | 6 => mv_c6
  | 7 => mv_c7
  | 8 => mv_c8
  | 9 => mv_c9
  | 10 => mv_c10
  | 11 => mv_c11
  | 12 => mv_c12
  | 13 => mv_c13
  | 14 => mv_c14
  | 15 => mv_c15
  | 16 => mv_c16
  | 17 => mv_c17
  | 18 => mv_c18
  | 19 => mv_c19
  | 20 => mv_c20
  | 21 => mv_c21
  | 22 => mv_c22
  | 23 => mv_c23
  | 24 => mv_c24
  | 25 => mv_c25
  | 26 => mv_c26
  | 27 => mv_c27
  | 28 => mv_c28
  | 29 => mv_c29
  | 30 => mv_c30
  | 31 => mv_c31
  | 32 => mv_c32
  | 33 => mv_c33
  | 34 => mv_c34
  | 35 => mv_c35
  | 36 => mv_c36
  | 37 => mv_c37
  | 38 => mv_c38
  | 39 => mv_c39
  | 40 => mv_c40
  | 41 => mv_c41
  | 42 => mv_c42
  | 43 => mv_c43
  | 44 => mv_c44
  | 45 => mv_c45
  | 46 => mv_c46
  | 47 => mv_c47
  | 48 => mv_c48
  | 49 => mv_c49
  | 50 => mv_c50
  | 51 => mv_c51
  | 52 => mv_c52
  | 53 => mv_c53
  | 54 => mv_c54
  | 55 => mv_c55
  | 56 => mv_c56
  | 57 => mv_c57
  | 58 => mv_c58
  | 59 => mv_c59
  | 60 => mv_c60
  | 61 => mv_c61
  | 62 => mv_c62
  | 63 => mv_c63
  | 64 => mv_c64
  | 65 => mv_c65
  | 66 => mv_c66
  | 67 => mv_c67
  | 68 => mv_c68
  | 69 => mv_c69
  | 70 => mv_c70
  | 71 => mv_c71
  | 72 => mv_c72
  | 73 => mv_c73
  | 74 => mv_c74
  | 75 => mv_c75
  | 76 => mv_c76
  | 77 => mv_c77
  | 78 => mv_c78
  | 79 => mv_c79
  | 80 => mv_c80
  | 81 => mv_c81
  | 82 => mv_c82
  | 83 => mv_c83
  | 84 => mv_c84
  | 85 => mv_c85
  | 86 => mv_c86
  | 87 => mv_c87
  | 88 => mv_c88
  | 89 => mv_c89
  | 90 => mv_c90
  | 91 => mv_c91
  | 92 => mv_c92
  | 93 => mv_c93
  | 94 => mv_c94
  | 95 => mv_c95
  | 96 => mv_c96
  | 97 => mv_c97
  | 98 => mv_c98
  | 99 => mv_c99
  | 100 => mv_c100
  | 101 => mv_c101
  | 102 => mv_c102
  | 103 => mv_c103
  | 104 => mv_c104
  | 105 => mv_c105
  | 106 => mv_c106
  | 107 => mv_c107
  | 108 => mv_c108
  | 109 => mv_c109
  | 110 => mv_c110
  | 111 => mv_c111
  | 112 => mv_c112
  | 113 => mv_c113
  | 114 => mv_c114
  | 115 => mv_c115
  | 116 => mv_c116
  | 117 => mv_c117
  | 118 => mv_c118
  | 119 => mv_c119
  | 120 => mv_c120
  | 121 => mv_c121
  | 122 => mv_c122
  | 123 => mv_c123
  | 124 => mv_c124
  | 125 => mv_c125
  | 126 => mv_c126
  | 127 => mv_c127
  | 128 => mv_c128
  | 129 => mv_c129
  | 130 => mv_c130
  | 131 => mv_c131
  | 132 => mv_c132
  | 133 => mv_c133
  | 134 => mv_c134
  | 135 => mv_c135
  | 136 => mv_c136
  | 137 => mv_c137
  | 138 => mv_c138
  | _ => []
theorem mv_dec : ∀ j M, mv_prog[j]? = some M → ∀ q ∈ mv_code j, decode M.2.2.1 q.1 = .ok (q.2.1, q.2.2) := by
  intro j M h
  match j, h with
  | 0, h => cases h; exact mv_d0
  | 1, h => cases h; exact mv_d1
  | 2, h => cases h; exact mv_d2
  | 3, h => cases h; exact mv_d3
  | 4, h => cases h; exact mv_d4
  | 5, h => cases h; exact mv_d5
  | 6, h => cases h; exact mv_d6
  | 7, h => cases h; exact mv_d7
  | 8, h => cases h; exact mv_d8
  | 9, h => cases h; exact mv_d9
  | 10, h => cases h; exact mv_d10
  | 11, h => cases h; exact mv_d11
  | 12, h => cases h; exact mv_d12
  | 13, h => cases h; exact mv_d13
  | 14, h => cases h; exact mv_d14
  | 15, h => cases h; exact mv_d15
  | 16, h => cases h; exact mv_d16
  | 17, h => cases h; exact mv_d17
  | 18, h => cases h; exact mv_d18
  | 19, h => cases h; exact mv_d19
  | 20, h => cases h; exact mv_d20
  | 21, h => cases h; exact mv_d21
  | 22, h => cases h; exact mv_d22
  | 23, h => cases h; exact mv_d23
  | 24, h => cases h; exact mv_d24
  | 25, h => cases h; exact mv_d25
  | 26, h => cases h; exact mv_d26
  | 27, h => cases h; exact mv_d27
  | 28, h => cases h; exact mv_d28
  | 29, h => cases h; exact mv_d29
  | 30, h => cases h; exact mv_d30
  | 31, h => cases h; exact mv_d31
  | 32, h => cases h; exact mv_d32
  | 33, h => cases h; exact mv_d33
  | 34, h => cases h; exact mv_d34
  | 35, h => cases h; exact mv_d35
  | 36, h => cases h; exact mv_d36
  | 37, h => cases h; exact mv_d37
  | 38, h => cases h; exact mv_d38
  | 39, h => cases h; exact mv_d39
  | 40, h => cases h; exact mv_d40
  | 41, h => cases h; exact mv_d41
  | 42, h => cases h; exact mv_d42
  | 43, h => cases h; exact mv_d43
  | 44, h => cases h; exact mv_d44
  | 45, h => cases h; exact mv_d45
  | 46, h => cases h; exact mv_d46
  | 47, h => cases h; exact mv_d47
  | 48, h => cases h; exact mv_d48
  | 49, h => cases h; exact mv_d49
  | 50, h => cases h; exact mv_d50
  | 51, h => cases h; exact mv_d51
  | 52, h => cases h; exact mv_d52
  | 53, h => cases h; exact mv_d53
  | 54, h => cases h; exact mv_d54
  | 55, h => cases h; exact mv_d55
  | 56, h => cases h; exact mv_d56
  | 57, h => cases h; exact mv_d57
  | 58, h => cases h; exact mv_d58
  | 59, h => cases h; exact mv_d59
  | 60, h => cases h; exact mv_d60
  | 61, h => cases h; exact mv_d61
  | 62, h => cases h; exact mv_d62
  | 63, h => cases h; exact mv_d63
  | 64, h => cases h; exact mv_d64
  | 65, h => cases h; exact mv_d65
  | 66, h => cases h; exact mv_d66
  | 67, h => cases h; exact mv_d67
  | 68, h => cases h; exact mv_d68
  | 69, h => cases h; exact mv_d69
  | 70, h => cases h; exact mv_d70
  | 71, h => cases h; exact mv_d71
  | 72, h => cases h; exact mv_d72
  | 73, h => cases h; exact mv_d73
  | 74, h => cases h; exact mv_d74
  | 75, h => cases h; exact mv_d75
  | 76, h => cases h; exact mv_d76
  | 77, h => cases h; exact mv_d77
  | 78, h => cases h; exact mv_d78
  | 79, h => cases h; exact mv_d79
  | 80, h => cases h; exact mv_d80
  | 81, h => cases h; exact mv_d81
  | 82, h => cases h; exact mv_d82
  | 83, h => cases h; exact mv_d83
  | 84, h => cases h; exact mv_d84
  | 85, h => cases h; exact mv_d85
  | 86, h => cases h; exact mv_d86
  | 87, h => cases h; exact mv_d87
  | 88, h => cases h; exact mv_d88
  | 89, h => cases h; exact mv_d89
  | 90, h => cases h; exact mv_d90
  | 91, h => cases h; exact mv_d91
  | 92, h => cases h; exact mv_d92
  | 93, h => cases h; exact mv_d93
  | 94, h => cases h; exact mv_d94
  | 95, h => cases h; exact mv_d95
  | 96, h => cases h; exact mv_d96
  | 97, h => cases h; exact mv_d97
  | 98, h => cases h; exact mv_d98
  | 99, h => cases h; exact mv_d99
  | 100, h => cases h; exact mv_d100
  | 101, h => cases h; exact mv_d101
  | 102, h => cases h; exact mv_d102
  | 103, h => cases h; exact mv_d103
  | 104, h => cases h; exact mv_d104
  | 105, h => cases h; exact mv_d105
  | 106, h => cases h; exact mv_d106
  | 107, h => cases h; exact mv_d107
  | 108, h => cases h; exact mv_d108
  | 109, h => cases h; exact mv_d109
  | 110, h => cases h; exact mv_d110
  | 111, h => cases h; exact mv_d111
  | 112, h => cases h; exact mv_d112
  | 113, h => cases h; exact mv_d113
  | 114, h => cases h; exact mv_d114
  | 115, h => cases h; exact mv_d115
  | 116, h => cases h; exact mv_d116
  | 117, h => cases h; exact mv_d117
  | 118, h => cases h; exact mv_d118
  | 119, h => cases h; exact mv_d119
  | 120, h => cases h; exact mv_d120
  | 121, h => cases h; exact mv_d121
  | 122, h => cases h; exact mv_d122
  | 123, h => cases h; exact mv_d123
  | 124, h => cases h; exact mv_d124
  | 125, h => cases h; exact mv_d125
  | 126, h => cases h; exact mv_d126
  | 127, h => cases h; exact mv_d127
  | 128, h => cases h; exact mv_d128
  | 129, h => cases h; exact mv_d129
  | 130, h => cases h; exact mv_d130
  | 131, h => cases h; exact mv_d131
  | 132, h => cases h; exact mv_d132
  | 133, h => cases h; exact mv_d133
  | 134, h => cases h; exact mv_d134
  | 135, h => cases h; exact mv_d135
  | 136, h => cases h; exact mv_d136
  | 137, h => cases h; exact mv_d137
  | j + 138, h => exact absurd h (by simp [mv_prog, mv_prog_0, mv_prog_1, mv_prog_2, mv_prog_3, mv_prog_4, mv_prog_5, mv_prog_6])
end
section
/-! THE SMALL MACHINE: values, cells by their number (not their address), one step, a run, a call. -/
abbrev mv_E : Type := (Nat × vp_A) ⊕ (Nat × List Value)
abbrev mv_W : Type := List mv_E
/-- what a call gives: answer, cells, how many cells and slots are new -/
abbrev mv_R : Type := Option Value × mv_W × Nat × Nat
/-- a frame: pc, locals, stack, cells, new cells, new slots -/
abbrev mv_F : Type := Nat × List Value × List Value × mv_W × Nat × Nat
abbrev mv_C : Type := Nat → List Value → mv_W → Option mv_R
def mv_clob (v : Value) : Value := match v with
  | .long _ => .retAddr 0
  | .double _ => .retAddr 0
  | v => v
def mv_hd : List Value → Value → List Value
  | [], _ => []
  | _ :: L, v => v :: L
def mv_st1 : List Value → Nat → Value → List Value
  | [], _, _ => []
  | _ :: L, 0, v => v :: L
  | a :: L, 1, v => mv_clob a :: mv_st1 L 0 v
  | a :: L, i + 2, v => a :: mv_st1 L (i + 1) v
def mv_st2 : List Value → Nat → Value → List Value
  | [], _, _ => []
  | _ :: L, 0, v => v :: mv_hd L (.retAddr 0)
  | a :: L, 1, v => mv_clob a :: mv_st2 L 0 v
  | a :: L, i + 2, v => a :: mv_st2 L (i + 1) v
def mv_get : List (Nat × Instr × Nat) → Nat → Option (Instr × Nat)
  | [], _ => none
  | q :: c, pc => match Nat.beq q.1 pc with
    | true => some q.2
    | false => mv_get c pc
def mv_l2 {α : Type} : List (Nat × Nat × α) → Nat → Nat → Option α
  | [], _, _ => none
  | q :: t, a, b => match Nat.beq q.1 a with
    | true => match Nat.beq q.2.1 b with
      | true => some q.2.2
      | false => mv_l2 t a b
    | false => mv_l2 t a b
def mv_l1 : List (Nat × Nat) → Nat → Nat → Bool
  | [], _, _ => false
  | q :: t, a, b => match Nat.beq q.1 a with
    | true => match Nat.beq q.2 b with
      | true => true
      | false => mv_l1 t a b
    | false => mv_l1 t a b
def mv_tgt (pc : Nat) (o : Int) : Option Nat := match (pc : Int) + o with
  | .ofNat t => some t
  | .negSucc _ => none
def mv_alu (i : Instr) (n : Nat) (st : List Value) : Option (List Value) := match i, n, st with
  | .iconst k, 1, st => some (.int (Int32.ofInt k) :: st)
  | .bipush k, 2, st => some (.int (Int8.ofInt k).toInt32 :: st)
  | .sipush k, 3, st => some (.int (Int16.ofInt k).toInt32 :: st)
  | .lconst k, 1, st => some (.long (Int64.ofNat (k : Nat)) :: st)
  | .iadd, 1, .int y :: .int x :: r => some (.int (x + y) :: r)
  | .isub, 1, .int y :: .int x :: r => some (.int (x - y) :: r)
  | .imul, 1, .int y :: .int x :: r => some (.int (x * y) :: r)
  | .iand, 1, .int y :: .int x :: r => some (.int (x &&& y) :: r)
  | .ior, 1, .int y :: .int x :: r => some (.int (x ||| y) :: r)
  | .ixor, 1, .int y :: .int x :: r => some (.int (x ^^^ y) :: r)
  | .ishl, 1, .int y :: .int x :: r => some (.int (x <<< (y &&& 31)) :: r)
  | .ishr, 1, .int y :: .int x :: r => some (.int (x >>> (y &&& 31)) :: r)
  | .iushr, 1, .int y :: .int x :: r => some (.int ((x.toUInt32 >>> (y.toUInt32 &&& Int32.toUInt32 31)).toInt32) :: r)
  | .idiv, 1, .int y :: .int x :: r => if y = 0 then none else some (.int (x / y) :: r)
  | .ineg, 1, .int x :: r => some (.int (-x) :: r)
  | .i2l, 1, .int x :: r => some (.long x.toInt64 :: r)
  | .ladd, 1, .long y :: .long x :: r => some (.long (x + y) :: r)
  | .lsub, 1, .long y :: .long x :: r => some (.long (x - y) :: r)
  | .lmul, 1, .long y :: .long x :: r => some (.long (x * y) :: r)
  | .ldiv, 1, .long y :: .long x :: r => if y = 0 then none else some (.long (x / y) :: r)
  | .lneg, 1, .long x :: r => some (.long (-x) :: r)
  | .lshl, 1, .int y :: .long x :: r => some (.long (x <<< (y.toInt64 &&& 63)) :: r)
  | .lcmp, 1, .long y :: .long x :: r => some (.int (lg_cmp x y) :: r)
  | .dup, 1, .int x :: r => some (.int x :: .int x :: r)
  | .dup, 1, .ref x :: r => some (.ref x :: .ref x :: r)
  | .dup2, 1, .int y :: .ref x :: r => some (.int y :: .ref x :: .int y :: .ref x :: r)
  | .dup2, 1, .int y :: .int x :: r => some (.int y :: .int x :: .int y :: .int x :: r)
  | .dup2, 1, .long x :: r => some (.long x :: .long x :: r)
  | .pop, 1, .int _ :: r => some r
  | .pop2, 1, .long _ :: r => some r
  | _, _, _ => none
def mv_ldI (L : List Value) (k : Nat) (st : List Value) : Option (List Value × List Value) := match L[k]? with
  | some (.int x) => some (L, .int x :: st)
  | _ => none
def mv_ldL (L : List Value) (k : Nat) (st : List Value) : Option (List Value × List Value) := match L[k]? with
  | some (.long x) => some (L, .long x :: st)
  | _ => none
def mv_ldA (L : List Value) (k : Nat) (st : List Value) : Option (List Value × List Value) := match L[k]? with
  | some (.ref x) => some (L, .ref x :: st)
  | some (.retAddr 1) => some (L, .retAddr 1 :: st)
  | _ => none
def mv_sto (L : List Value) (k : Nat) (v : Value) (r : List Value) : Option (List Value × List Value) := match L[k]? with
  | some _ => some (mv_st1 L k v, r)
  | none => none
def mv_stl (L : List Value) (k : Nat) (v : Value) (r : List Value) : Option (List Value × List Value) := match L[k + 1]? with
  | some _ => some (mv_st2 L k v, r)
  | none => none
def mv_loc (i : Instr) (n : Nat) (L st : List Value) : Option (List Value × List Value) := match i, n, st with
  | .iload k, 2, st => mv_ldI L k st
  | .iload_n k, 1, st => mv_ldI L (k : Nat) st
  | .lload k, 2, st => mv_ldL L k st
  | .lload_n k, 1, st => mv_ldL L (k : Nat) st
  | .aload k, 2, st => mv_ldA L k st
  | .aload_n k, 1, st => mv_ldA L (k : Nat) st
  | .istore k, 2, .int x :: r => mv_sto L k (.int x) r
  | .istore_n k, 1, .int x :: r => mv_sto L (k : Nat) (.int x) r
  | .lstore k, 2, .long x :: r => mv_stl L k (.long x) r
  | .lstore_n k, 1, .long x :: r => mv_stl L (k : Nat) (.long x) r
  | .astore k, 2, .ref x :: r => mv_sto L k (.ref x) r
  | .astore_n k, 1, .ref x :: r => mv_sto L (k : Nat) (.ref x) r
  | .iinc k d, 3, st => match L[k]? with
    | some (.int x) => some (mv_st1 L k (.int (x + Int32.ofInt d)), st)
    | _ => none
  | _, _, _ => none
def mv_ifs (pc : Nat) (o : Int) (r : List Value) (c : Prop) [Decidable c] : Option (Nat × List Value) := match mv_tgt pc o with
  | some t => some (if c then t else pc + 3, r)
  | none => none
def mv_br (i : Instr) (n pc : Nat) (st : List Value) : Option (Nat × List Value) := match i, n, st with
  | .goto o, 3, st => match mv_tgt pc o with
    | some t => some (t, st)
    | none => none
  | .ifCond .eq o, 3, .int x :: r => mv_ifs pc o r (x = 0)
  | .ifCond .ne o, 3, .int x :: r => mv_ifs pc o r (¬ x = 0)
  | .ifCond .lt o, 3, .int x :: r => mv_ifs pc o r (x < 0)
  | .ifCond .ge o, 3, .int x :: r => mv_ifs pc o r (0 ≤ x)
  | .ifCond .gt o, 3, .int x :: r => mv_ifs pc o r (0 < x)
  | .ifCond .le o, 3, .int x :: r => mv_ifs pc o r (x ≤ 0)
  | .if_icmp .eq o, 3, .int y :: .int x :: r => mv_ifs pc o r (x = y)
  | .if_icmp .ne o, 3, .int y :: .int x :: r => mv_ifs pc o r (¬ x = y)
  | .if_icmp .lt o, 3, .int y :: .int x :: r => mv_ifs pc o r (x < y)
  | .if_icmp .ge o, 3, .int y :: .int x :: r => mv_ifs pc o r (y ≤ x)
  | .if_icmp .gt o, 3, .int y :: .int x :: r => mv_ifs pc o r (y < x)
  | .if_icmp .le o, 3, .int y :: .int x :: r => mv_ifs pc o r (x ≤ y)
  | .tableswitch d lo hi offs, _, .int x :: r => if x.toInt < lo ∨ hi < x.toInt then (match mv_tgt pc d with
      | some t => some (t, r)
      | none => none) else (match offs[(x.toInt - lo).toNat]? with
      | some o => match mv_tgt pc o with
        | some t => some (t, r)
        | none => none
      | none => none)
  | _, _, _ => none
def mv_fits (ty : FieldType) (v : Value) : Bool := match ty, v with
  | .int, .int _ => true
  | .object _, .ref _ => true
  | .array _, .ref _ => true
  | _, _ => false
def mv_put (cls : Nat) (ini : Bool) (ci k a : Nat) (v : Value) (fs : List Value) (r : List Value) (w : mv_W) : Option (List Value × mv_W × Nat × Nat) :=
  match mv_fits (mv_ty ci k) v with
  | true => match ((mv_cl ci).2.1 k).2.2.2 with
    | false => some (r, w.set a (.inr (ci, fs.set k v)), 0, 0)
    | true => match ini, Nat.beq cls ci with
      | true, true => some (r, w.set a (.inr (ci, fs.set k v)), 0, 0)
      | _, _ => none
  | false => none
def mv_dfl (ty : FieldType) : Value := match ty with
  | .int => .int 0
  | .long => .long 0
  | _ => .null
/-- Math.max, min of ints, abs of a long -/
def mv_mf (k : Nat) (st : List Value) : Option (List Value) := match k, st with
  | 0, .int y :: .int x :: r => match Nat.ble ((r.map fun v => v.category).sum) 8 with
    | true => some (.int (if x < y then y else x) :: r)
    | false => none
  | 1, .int y :: .int x :: r => match Nat.ble ((r.map fun v => v.category).sum) 8 with
    | true => some (.int (if y < x then y else x) :: r)
    | false => none
  | 2, .long x :: r => match Nat.ble ((r.map fun v => v.category).sum) 8 with
    | true => some (.long (if 0 < x then x else -x) :: r)
    | false => none
  | _, _ => none
def mv_heap (cls : Nat) (ini : Bool) (xs : Nat → Int32) (Ls : Nat) (i : Instr) (n : Nat) (st : List Value) (w : mv_W) : Option (List Value × mv_W × Nat × Nat) := match i, n, st with
  | .getfield x, 3, .ref a :: r => match mv_l2 mv_flds cls x with
    | some (ci, k) => match w[a]? with
      | some (.inr (c', fs)) => match Nat.beq c' ci with
        | true => match fs[k]? with
          | some v => some (v :: r, w, 0, 0)
          | none => none
        | false => none
      | _ => none
    | none => none
  | .putfield x, 3, v :: .ref a :: r => match mv_l2 mv_flds cls x with
    | some (ci, k) => match w[a]? with
      | some (.inr (c', fs)) => match Nat.beq c' ci with
        | true => match fs[k]? with
          | some _ => mv_put cls ini ci k a v fs r w
          | none => none
        | false => none
      | _ => none
    | none => none
  | .iaload, 1, .int x :: .ref a :: r => match w[a]? with
    | some (.inl (0, m, .inl f)) => if x < 0 ∨ m ≤ x.toNatClampNeg then none else some (.int (f x.toNatClampNeg) :: r, w, 0, 0)
    | _ => none
  | .iaload, 1, .int x :: .retAddr 1 :: r => if x < 0 ∨ Ls ≤ x.toNatClampNeg then none else some (.int (xs x.toNatClampNeg) :: r, w, 0, 0)
  | .laload, 1, .int x :: .ref a :: r => match w[a]? with
    | some (.inl (1, m, .inr (.inl f))) => if x < 0 ∨ m ≤ x.toNatClampNeg then none else some (.long (f x.toNatClampNeg) :: r, w, 0, 0)
    | _ => none
  | .aaload, 1, .int x :: .ref a :: r => match w[a]? with
    | some (.inl (2, m, .inr (.inr (.inr (.inr f))))) => if x < 0 ∨ m ≤ x.toNatClampNeg then none else some (va_rf (f x.toNatClampNeg) :: r, w, 0, 0)
    | _ => none
  | .iastore, 1, .int v :: .int x :: .ref a :: r => match w[a]? with
    | some (.inl (0, m, .inl f)) => if x < 0 ∨ m ≤ x.toNatClampNeg then none else some (r, w.set a (.inl (0, m, .inl (upd f x.toNatClampNeg v))), 0, 0)
    | _ => none
  | .lastore, 1, .long v :: .int x :: .ref a :: r => match w[a]? with
    | some (.inl (1, m, .inr (.inl f))) => if x < 0 ∨ m ≤ x.toNatClampNeg then none else some (r, w.set a (.inl (1, m, .inr (.inl (vp_updL f x.toNatClampNeg v)))), 0, 0)
    | _ => none
  | .arraylength, 1, .retAddr 1 :: r => some (.int (Int32.ofNat Ls) :: r, w, 0, 0)
  | .ldc_w x, 3, r => match mv_l2 mv_ldcs cls x with
    | some v => some (.int v :: r, w, 0, 0)
    | none => none
  | .ldc2_w x, 3, r => match mv_l2 mv_ldc2 cls x with
    | some v => some (.long v :: r, w, 0, 0)
    | none => none
  | .invokestatic x, 3, st => match mv_l2 mv_maths cls x with
    | some k => match mv_mf k st with
      | some st' => some (st', w, 0, 0)
      | none => none
    | none => none
  | .new x, 3, r => match mv_l2 mv_news cls x with
    | some ci => some (.ref w.length :: r, w ++ [.inr (ci, (List.range (mv_cl ci).2.2).map (fun k => mv_dfl (mv_ty ci k)))], 1, (mv_cl ci).2.2)
    | none => none
  | .newarray .int, 2, .int x :: r => if x < 0 ∨ 1048576 ≤ x.toNatClampNeg then none else some (.ref w.length :: r, w ++ [.inl (0, x.toNatClampNeg, .inl (fun _ => 0))], 1, x.toNatClampNeg)
  | .newarray .long, 2, .int x :: r => if x < 0 ∨ 1048576 ≤ x.toNatClampNeg then none else some (.ref w.length :: r, w ++ [.inl (1, x.toNatClampNeg, .inr (.inl (fun _ => 0)))], 1, x.toNatClampNeg)
  | .multianewarray x 2, 4, .int k :: .int m :: r => match Nat.beq cls 4, Nat.beq x 9 with
    | true, true => if (k < 0 ∨ m < 0) ∨ 1048576 ≤ k.toNatClampNeg ∨ 1048576 ≤ m.toNatClampNeg then none else
        some (.ref w.length :: r, (w ++ [.inl (2, m.toNatClampNeg, .inr (.inr (.inr (.inr (fun j => if j < m.toNatClampNeg then some (w.length + 1 + j) else none)))))]) ++ List.replicate m.toNatClampNeg (.inl (0, k.toNatClampNeg, .inl (fun _ => 0))), 1 + m.toNatClampNeg, m.toNatClampNeg + m.toNatClampNeg * k.toNatClampNeg)
    | _, _ => none
  | _, _, _ => none
def mv_out (rest : List Value) (o : Option mv_R) : Option (List Value × mv_W × Nat × Nat) := match o with
  | some (v, w, c, k) => match Nat.ble ((rest.map fun v => v.category).sum) 8 with
    | true => some (v.toList ++ rest, w, c, k)
    | false => none
  | none => none
/-- a call of method j with its words M: on an object (its class is looked at), static, or a constructor -/
def mv_do (call : mv_C) (j : Nat) (M : mv_T) (st : List Value) (w : mv_W) : Option (List Value × mv_W × Nat × Nat) :=
  match Nat.beq (st.take M.2.2.2.2.2.2).length M.2.2.2.2.2.2 with
  | false => none
  | true => match M.2.2.2.2.2.1, st.drop M.2.2.2.2.2.2 with
    | 0, rest => mv_out rest (call j (st.take M.2.2.2.2.2.2).reverse w)
    | 1, .ref a :: rest => match w[a]? with
      | some (.inr (c', _)) => match Nat.beq c' M.1 with
        | true => mv_out rest (call j (.ref a :: (st.take M.2.2.2.2.2.2).reverse) w)
        | false => none
      | _ => none
    | 2, .ref a :: rest => mv_out rest (call j (.ref a :: (st.take M.2.2.2.2.2.2).reverse) w)
    | _, _ => none
def mv_lnk (kd : Nat) (call : mv_C) (cls x : Nat) (st : List Value) (w : mv_W) : Option (List Value × mv_W × Nat × Nat) :=
  match (match mv_l2 mv_mths cls x with
    | some j => some j
    | none => mv_l2 mv_nest cls x) with
  | some j => match mv_prog[j]? with
    | some M => match Nat.beq M.2.2.2.2.2.1 kd with
      | true => mv_do call j M st w
      | false => none
    | none => none
  | none => none
def mv_inv (cls : Nat) (call : mv_C) (i : Instr) (n : Nat) (st : List Value) (w : mv_W) : Option (List Value × mv_W × Nat × Nat) := match i, n, st with
  | .invokevirtual x, 3, st => mv_lnk 1 call cls x st w
  | .invokestatic x, 3, st => mv_lnk 0 call cls x st w
  | .invokespecial x, 3, st => match mv_l1 mv_objs cls x, st with
    | true, .ref _ :: r => match Nat.ble ((r.map fun v => v.category).sum) 8 with
      | true => some (r, w, 0, 0)
      | false => none
    | true, _ => none
    | false, st => mv_lnk 2 call cls x st w
  | _, _, _ => none
def mv_ret (ret : Option FieldType) (i : Instr) (n : Nat) (st : List Value) : Option (Option Value) := match i, n, st, ret with
  | .ireturn, 1, [.int x], some .int => some (some (.int x))
  | .ireturn, 1, [.int x], some .boolean => if x = 0 ∨ x = 1 then some (some (.int x)) else none
  | .lreturn, 1, [.long x], some .long => some (some (.long x))
  | .return_, 1, [], none => some none
  | _, _, _, _ => none
/-- a step that is no call and no return -/
def mv_one (cls : Nat) (ini : Bool) (xs : Nat → Int32) (Ls : Nat) (i : Instr) (n : Nat) (s : mv_F) : Option mv_F := match s with
  | (pc, L, st, w, c, k) => match mv_alu i n st with
    | some st' => some (pc + n, L, st', w, c, k)
    | none => match mv_loc i n L st with
      | some (L', st') => some (pc + n, L', st', w, c, k)
      | none => match mv_br i n pc st with
        | some (pc', st') => some (pc', L, st', w, c, k)
        | none => match mv_heap cls ini xs Ls i n st w with
          | some (st', w', dc, dk) => some (pc + n, L, st', w', c + dc, k + dk)
          | none => none
def mv_step (cls : Nat) (ini : Bool) (ret : Option FieldType) (xs : Nat → Int32) (Ls : Nat) (call : mv_C) (i : Instr) (n : Nat) (s : mv_F) : Option (mv_F ⊕ mv_R) :=
  match mv_one cls ini xs Ls i n s with
  | some s' => some (.inl s')
  | none => match s with
    | (pc, L, st, w, c, k) => match mv_inv cls call i n st w with
      | some (st', w', dc, dk) => some (.inl (pc + 3, L, st', w', c + dc, k + dk))
      | none => match mv_ret ret i n st with
        | some r => some (.inr (r, w, c, k))
        | none => none
def mv_run (cls : Nat) (ini : Bool) (ret : Option FieldType) (xs : Nat → Int32) (Ls : Nat) (call : mv_C) (code : List (Nat × Instr × Nat)) : Nat → mv_F → Option mv_R
  | 0, _ => none
  | n + 1, s => match mv_get code s.1 with
    | none => none
    | some (i, len) => match mv_step cls ini ret xs Ls call i len s with
      | some (.inl s') => mv_run cls ini ret xs Ls call code n s'
      | some (.inr r) => some r
      | none => none
def mv_sl : List Value → List Value
  | [] => []
  | .long x :: r => .long x :: .retAddr 0 :: mv_sl r
  | .double x :: r => .double x :: .retAddr 0 :: mv_sl r
  | v :: r => v :: mv_sl r
def mv_loc0 (as : List Value) (nL : Nat) : List Value := mv_sl as ++ List.replicate (nL - (mv_sl as).length) (.retAddr 0)
def mv_call (xs : Nat → Int32) (Ls N : Nat) : Nat → mv_C
  | 0 => fun _ _ _ => none
  | d + 1 => fun j as w => match mv_prog[j]? with
    | none => none
    | some M => match Nat.ble (mv_sl as).length M.2.2.2.1 with
      | true => mv_run M.1 (Nat.beq M.2.2.2.2.2.1 2) M.2.2.2.2.1 xs Ls (mv_call xs Ls N d) (mv_code j) N (0, mv_loc0 as M.2.2.2.1, [], w, 0, 0)
      | false => none
end
section
/-! the small machine's values, locals and cells, as the real ones: cell k lies at base + k; the script at b -/
def mv_tv (base b : Nat) (v : Value) : Value := match v with
  | .ref k => .ref (base + k)
  | .retAddr 1 => .ref b
  | v => v
theorem mv_tv_cat (base b : Nat) (v : Value) : (mv_tv base b v).category = v.category := by
  cases v with
  | retAddr n =>
    by_cases h : n = 1
    · subst h; rfl
    · have : mv_tv base b (.retAddr n) = .retAddr n := by
        unfold mv_tv
        split
        · contradiction
        · rename_i h1; cases h1; exact absurd rfl h
        · rfl
      rw [this]
  | _ => rfl
def mv_ta (base : Nat) (a : vp_A) : vp_A := match a.2 with
  | .inr (.inr (.inr (.inr f))) => (a.1, .inr (.inr (.inr (.inr (fun j => (f j).map (fun k => base + k))))))
  | _ => a
def mv_te (base b : Nat) (cA : Nat → ClassId) (x : mv_E) : va_E := match x with
  | .inl (t, a) => .inl (cA t, mv_ta base a)
  | .inr (c, fs) => .inr (c, fs.map (mv_tv base b))
def mv_tw (base b : Nat) (cA : Nat → ClassId) (w : mv_W) : va_W := w.mapIdx (fun k x => (base + k, mv_te base b cA x))
theorem mv_tw_at (base b : Nat) (cA : Nat → ClassId) (w : mv_W) (k : Nat) : (mv_tw base b cA w)[k]? = (w[k]?).map (fun x => (base + k, mv_te base b cA x)) := by
  simp [mv_tw, List.getElem?_mapIdx]
theorem mv_tw_get {base b : Nat} {cA : Nat → ClassId} {w : mv_W} {k : Nat} {x : mv_E} (h : w[k]? = some x) : (mv_tw base b cA w)[k]? = some (base + k, mv_te base b cA x) := by
  rw [mv_tw_at, h]; rfl
theorem mv_tw_set {base b : Nat} {cA : Nat → ClassId} {w : mv_W} {k : Nat} {x : mv_E} : (mv_tw base b cA w).set k (base + k, mv_te base b cA x) = mv_tw base b cA (w.set k x) := by
  apply List.ext_getElem?
  intro i
  rw [mv_tw_at, List.getElem?_set, List.getElem?_set, mv_tw_at]
  have hl : (mv_tw base b cA w).length = w.length := by simp [mv_tw]
  rw [hl]
  by_cases h : k = i
  · subst h
    by_cases h2 : k < w.length
    · simp [h2]
    · simp [h2]
  · simp [h]
theorem mv_tw_app {base b : Nat} {cA : Nat → ClassId} {w : mv_W} {x : mv_E} : mv_tw base b cA (w ++ [x]) = mv_tw base b cA w ++ [(base + w.length, mv_te base b cA x)] := by
  simp [mv_tw, List.mapIdx_append]
theorem mv_tw_D {base b : Nat} {cA : Nat → ClassId} {w : mv_W} : va_D (fun q => base ≤ q) (mv_tw base b cA w) := by
  refine ⟨fun i j p q hi hj hpq => ?_, fun k q hk => ?_⟩
  · rw [mv_tw_at] at hi hj
    cases h1 : w[i]? with
    | none => rw [h1] at hi; cases hi
    | some x => cases h2 : w[j]? with
      | none => rw [h2] at hj; cases hj
      | some y =>
        rw [h1] at hi; rw [h2] at hj
        cases hi; cases hj
        have : base + i = base + j := hpq
        omega
  · rw [mv_tw_at] at hk
    cases h1 : w[k]? with
    | none => rw [h1] at hk; cases hk
    | some x =>
      rw [h1] at hk
      cases hk
      exact Nat.le_add_right _ _
/-! locals -/
def mv_pr (base b : Nat) (L : List Value) : List (Nat × Value) := (List.range L.length).filterMap (fun (i : Nat) => match (L[i]? : Option Value) with
  | some (.retAddr 0) => none
  | some v => some (i, mv_tv base b v)
  | none => none)
theorem mv_pr_mem {base b : Nat} {L : List Value} {q : Nat × Value} : q ∈ mv_pr base b L ↔ ∃ v, L[q.1]? = some v ∧ v ≠ .retAddr 0 ∧ q.2 = mv_tv base b v := by
  unfold mv_pr
  rw [List.mem_filterMap]
  constructor
  · rintro ⟨i, -, h⟩
    split at h
    · cases h
    · rename_i v hne hv
      cases h
      exact ⟨v, hv, fun h => hne (by rw [h]), rfl⟩
    · cases h
  · rintro ⟨v, h1, h2, h3⟩
    obtain ⟨i, u⟩ := q
    dsimp only at h1 h3
    subst h3
    refine ⟨i, List.mem_range.mpr (List.getElem?_eq_some_iff.mp h1).1, ?_⟩
    rw [h1]
    split
    · rename_i h; cases h; exact absurd rfl h2
    · rename_i h; cases h; rfl
    · rename_i h; cases h
def mv_ls (base b nL : Nat) (ls : Array Slot) (L : List Value) : Prop := lv_has ls nL (mv_pr base b L) ∧ L.length = nL
theorem mv_ls_at {base b nL : Nat} {ls : Array Slot} {L : List Value} (h : mv_ls base b nL ls L) {k : Nat} {v : Value} (hk : L[k]? = some v) (hv : v ≠ .retAddr 0) : ls[k]? = some (.val (mv_tv base b v)) :=
  h.1.2.2 (k, mv_tv base b v) (mv_pr_mem.mpr ⟨v, hk, hv, rfl⟩)
theorem mv_st1_len : ∀ (L : List Value) (k : Nat) (v : Value), (mv_st1 L k v).length = L.length
  | [], _, _ => rfl
  | _ :: L, 0, v => rfl
  | a :: L, 1, v => by simp [mv_st1, mv_st1_len L 0 v]
  | a :: L, k + 2, v => by simp [mv_st1, mv_st1_len L (k + 1) v]
theorem mv_hd_len (L : List Value) (v : Value) : (mv_hd L v).length = L.length := by cases L <;> rfl
theorem mv_st2_len : ∀ (L : List Value) (k : Nat) (v : Value), (mv_st2 L k v).length = L.length
  | [], _, _ => rfl
  | _ :: L, 0, v => by simp [mv_st2, mv_hd_len]
  | a :: L, 1, v => by simp [mv_st2, mv_st2_len L 0 v]
  | a :: L, k + 2, v => by simp [mv_st2, mv_st2_len L (k + 1) v]
theorem mv_st1_get : ∀ (L : List Value) (k : Nat) (v : Value) (j : Nat), (mv_st1 L k v)[j]? = if j = k then (L[j]?).map (fun _ => v) else if j + 1 = k then (L[j]?).map mv_clob else L[j]?
  | [], _, _, j => by simp [mv_st1]
  | a :: L, 0, v, 0 => by simp [mv_st1]
  | a :: L, 0, v, j + 1 => by simp [mv_st1]
  | a :: L, 1, v, 0 => by simp [mv_st1]
  | a :: L, 1, v, j + 1 => by
    have := mv_st1_get L 0 v j
    simp only [mv_st1, List.getElem?_cons_succ, this]
    by_cases h : j = 0
    · subst h; simp
    · simp [h]
  | a :: L, k + 2, v, 0 => by simp [mv_st1]
  | a :: L, k + 2, v, j + 1 => by
    have := mv_st1_get L (k + 1) v j
    simp only [mv_st1, List.getElem?_cons_succ, this]
    by_cases h : j = k + 1
    · subst h; simp
    · by_cases h2 : j = k
      · subst h2; simp
      · simp [h, h2]
theorem mv_hd_get : ∀ (L : List Value) (v : Value) (j : Nat), (mv_hd L v)[j]? = if j = 0 then (L[j]?).map (fun _ => v) else L[j]?
  | [], _, j => by simp [mv_hd]
  | a :: L, v, 0 => by simp [mv_hd]
  | a :: L, v, j + 1 => by simp [mv_hd]
theorem mv_st2_get : ∀ (L : List Value) (k : Nat) (v : Value) (j : Nat), (mv_st2 L k v)[j]? = if j = k then (L[j]?).map (fun _ => v) else if j = k + 1 then (L[j]?).map (fun _ => .retAddr 0) else if j + 1 = k then (L[j]?).map mv_clob else L[j]?
  | [], _, _, j => by simp [mv_st2]
  | a :: L, 0, v, 0 => by simp [mv_st2]
  | a :: L, 0, v, j + 1 => by
    simp only [mv_st2, List.getElem?_cons_succ, mv_hd_get]
    by_cases h : j = 0
    · subst h; simp
    · simp [h]
  | a :: L, 1, v, 0 => by simp [mv_st2]
  | a :: L, 1, v, j + 1 => by
    have := mv_st2_get L 0 v j
    simp only [mv_st2, List.getElem?_cons_succ, this]
    by_cases h : j = 0
    · subst h; simp
    · by_cases h2 : j = 1
      · subst h2; simp
      · simp [h, h2]
  | a :: L, k + 2, v, 0 => by simp [mv_st2]
  | a :: L, k + 2, v, j + 1 => by
    have := mv_st2_get L (k + 1) v j
    simp only [mv_st2, List.getElem?_cons_succ, this]
    by_cases h : j = k + 1
    · subst h; simp
    · by_cases h2 : j = k + 2
      · subst h2; simp
      · by_cases h3 : j = k
        · subst h3; simp [show ¬ j = j + 1 + 1 by omega]
        · simp [h, h2, h3]
theorem mv_clob_ne {v : Value} (h : mv_clob v ≠ .retAddr 0) : mv_clob v = v ∧ ¬ v.category = 2 := by
  cases v with
  | long x => exact absurd rfl h
  | double x => exact absurd rfl h
  | _ => exact ⟨rfl, by simp [Value.category]⟩
theorem mv_ls_st1 {base b nL : Nat} {ls ls' : Array Slot} {L : List Value} {k : Nat} {v : Value} (h : mv_ls base b nL ls L)
    (h' : lv_has ls' nL ((k, mv_tv base b v) :: (mv_pr base b L).filter (fun q => !(q.1 == k) && !(q.1 + 1 == k && q.2.category == 2)))) : mv_ls base b nL ls' (mv_st1 L k v) := by
  refine ⟨⟨h'.1, h'.2.1, fun q hq => h'.2.2 q ?_⟩, by rw [mv_st1_len]; exact h.2⟩
  obtain ⟨u, h1, h2, h3⟩ := mv_pr_mem.mp hq
  rw [mv_st1_get] at h1
  by_cases e1 : q.1 = k
  · rw [if_pos e1] at h1
    cases hL : L[q.1]? with
    | none => rw [hL] at h1; cases h1
    | some a =>
      rw [hL] at h1
      cases h1
      refine List.mem_cons.mpr (Or.inl ?_)
      rw [← h3, ← e1]
  · rw [if_neg e1] at h1
    refine List.mem_cons_of_mem _ (List.mem_filter.mpr ?_)
    by_cases e2 : q.1 + 1 = k
    · rw [if_pos e2] at h1
      cases hL : L[q.1]? with
      | none => rw [hL] at h1; cases h1
      | some a =>
        rw [hL] at h1
        have h4 : mv_clob a = u := Option.some.inj h1
        subst h4
        obtain ⟨h5, h6⟩ := mv_clob_ne h2
        rw [h5] at h3 h2
        refine ⟨mv_pr_mem.mpr ⟨a, hL, h2, h3⟩, ?_⟩
        rw [h3, mv_tv_cat]
        simp [e1, h6]
    · rw [if_neg e2] at h1
      refine ⟨mv_pr_mem.mpr ⟨u, h1, h2, h3⟩, ?_⟩
      simp [e1, e2]
theorem mv_ls_st2 {base b nL : Nat} {ls ls' : Array Slot} {L : List Value} {k : Nat} {v : Value} (h : mv_ls base b nL ls L)
    (h' : lv_has ls' nL ((k, mv_tv base b v) :: (mv_pr base b L).filter (fun q => !(q.1 == k) && (!(q.1 == k + 1) && !(q.1 + 1 == k && q.2.category == 2))))) : mv_ls base b nL ls' (mv_st2 L k v) := by
  refine ⟨⟨h'.1, h'.2.1, fun q hq => h'.2.2 q ?_⟩, by rw [mv_st2_len]; exact h.2⟩
  obtain ⟨u, h1, h2, h3⟩ := mv_pr_mem.mp hq
  rw [mv_st2_get] at h1
  by_cases e1 : q.1 = k
  · rw [if_pos e1] at h1
    cases hL : L[q.1]? with
    | none => rw [hL] at h1; cases h1
    | some a =>
      rw [hL] at h1
      cases h1
      refine List.mem_cons.mpr (Or.inl ?_)
      rw [← h3, ← e1]
  · rw [if_neg e1] at h1
    by_cases e0 : q.1 = k + 1
    · rw [if_pos e0] at h1
      cases hL : L[q.1]? with
      | none => rw [hL] at h1; cases h1
      | some a =>
        rw [hL] at h1
        have h4 : Value.retAddr 0 = u := Option.some.inj h1
        exact absurd h4.symm h2
    rw [if_neg e0] at h1
    refine List.mem_cons_of_mem _ (List.mem_filter.mpr ?_)
    by_cases e2 : q.1 + 1 = k
    · rw [if_pos e2] at h1
      cases hL : L[q.1]? with
      | none => rw [hL] at h1; cases h1
      | some a =>
        rw [hL] at h1
        have h4 : mv_clob a = u := Option.some.inj h1
        subst h4
        obtain ⟨h5, h6⟩ := mv_clob_ne h2
        rw [h5] at h3 h2
        refine ⟨mv_pr_mem.mpr ⟨a, hL, h2, h3⟩, ?_⟩
        rw [h3, mv_tv_cat]
        simp [e1, h6, show ¬ q.1 = k + 1 by omega]
    · rw [if_neg e2] at h1
      refine ⟨mv_pr_mem.mpr ⟨u, h1, h2, h3⟩, ?_⟩
      simp [e1, e2, e0]
/-! look-ups -/
theorem mv_get_mem : ∀ {c : List (Nat × Instr × Nat)} {pc : Nat} {q : Instr × Nat}, mv_get c pc = some q → (pc, q) ∈ c
  | [], _, _, h => by cases h
  | a :: c, pc, q, h => by
    unfold mv_get at h
    split at h
    · rename_i hb
      have := Nat.eq_of_beq_eq_true hb
      cases h
      subst this
      exact List.mem_cons_self
    · exact List.mem_cons_of_mem _ (mv_get_mem h)
theorem mv_l2_mem {α : Type} : ∀ {c : List (Nat × Nat × α)} {x y : Nat} {q : α}, mv_l2 c x y = some q → (x, y, q) ∈ c
  | [], _, _, _, h => by cases h
  | a :: c, x, y, q, h => by
    unfold mv_l2 at h
    split at h
    · rename_i hb
      have h1 := Nat.eq_of_beq_eq_true hb
      split at h
      · rename_i hb2
        have h2 := Nat.eq_of_beq_eq_true hb2
        cases h
        subst h1 h2
        exact List.mem_cons_self
      · exact List.mem_cons_of_mem _ (mv_l2_mem h)
    · exact List.mem_cons_of_mem _ (mv_l2_mem h)
theorem mv_l1_mem : ∀ {c : List (Nat × Nat)} {x y : Nat}, mv_l1 c x y = true → (x, y) ∈ c
  | [], _, _, h => by cases h
  | a :: c, x, y, h => by
    unfold mv_l1 at h
    split at h
    · rename_i hb
      have h1 := Nat.eq_of_beq_eq_true hb
      split at h
      · rename_i hb2
        have h2 := Nat.eq_of_beq_eq_true hb2
        subst h1 h2
        exact List.mem_cons_self
      · exact List.mem_cons_of_mem _ (mv_l1_mem h)
    · exact List.mem_cons_of_mem _ (mv_l1_mem h)
theorem mv_tgt_eq {pc t : Nat} {o : Int} (h : mv_tgt pc o = some t) : (pc : Int) + o = (t : Int) := by
  unfold mv_tgt at h
  split at h
  · rename_i h1; cases h; exact h1
  · cases h
end
section
section MV1
variable {p : Program} {l : Launch} {e : Env} {R : Room} {s : State} {m : MethodId} {args : Array Value} {below : List Frame} {meth : Method} {c : Code} {H : Heap} {locs : List Loc} {cells slots : Nat} {Q : State → Prop} {cc : ByteArray} {pc : Nat} {ls : Array Slot} {base b : Nat}
theorem mv_alu_ok (hx : p.tables.exec = Jvm.exec) (hb : c.code = cc) {i : Instr} {n : Nat} {st st' : List Value} (h : mv_alu i n st = some st') (hd : decode cc pc = .ok (i, n))
    (k : W p l e R s m args below meth c H locs cells slots Q (F0 m (pc + n) ls (st'.map (mv_tv base b)))) : W p l e R s m args below meth c H locs cells slots Q (F0 m pc ls (st.map (mv_tv base b))) := by
  unfold mv_alu at h
  split at h
  · cases h; exact lv_iconst hx hb hd rfl k
  · cases h; exact lv_bipush hx hb hd rfl k
  · cases h; exact lv_sipush hx hb hd rfl k
  · cases h; exact lv_lconst hx hb hd rfl k
  · cases h; exact lv_iadd hx hb hd k
  · cases h; exact lv_isub hx hb hd k
  · cases h; exact lv_imul hx hb hd k
  · cases h; exact lv_iand hx hb hd k
  · cases h; exact lv_ior hx hb hd k
  · cases h; exact lv_ixor hx hb hd k
  · cases h; exact lv_ishl hx hb hd k
  · cases h; exact lv_ishr hx hb hd k
  · cases h; exact lv_iushr hx hb hd rfl k
  · split at h
    · cases h
    · rename_i hy; cases h; exact lv_idiv hx hb hd hy k
  · cases h; exact lv_ineg hx hb hd k
  · cases h; exact lv_i2l hx hb hd rfl k
  · cases h; exact lv_ladd hx hb hd k
  · cases h; exact lv_lsub hx hb hd k
  · cases h; exact lv_lmul hx hb hd k
  · split at h
    · cases h
    · rename_i hy; cases h; exact lv_ldiv hx hb hd hy k
  · cases h; exact lv_lneg hx hb hd k
  · cases h; exact lv_lshl hx hb hd rfl k
  · cases h; exact W.lcmp hx hb hd k
  · cases h; exact lv_dup hx hb hd rfl k
  · cases h; exact lv_dup hx hb hd rfl k
  · cases h; exact lv_dup2_11 hx hb hd rfl rfl k
  · cases h; exact lv_dup2_11 hx hb hd rfl rfl k
  · cases h; exact lv_dup2_2 hx hb hd rfl k
  · cases h; exact lv_pop hx hb hd rfl k
  · cases h; exact lv_pop2_2 hx hb hd rfl k
  · cases h
theorem mv_ldI_ok {L st L' st' : List Value} {k : Nat} (h : mv_ldI L k st = some (L', st')) : ∃ x, L[k]? = some (.int x) ∧ L' = L ∧ st' = .int x :: st := by
  unfold mv_ldI at h
  split at h
  · rename_i x hx; cases h; exact ⟨x, hx, rfl, rfl⟩
  · cases h
theorem mv_ldL_ok {L st L' st' : List Value} {k : Nat} (h : mv_ldL L k st = some (L', st')) : ∃ x, L[k]? = some (.long x) ∧ L' = L ∧ st' = .long x :: st := by
  unfold mv_ldL at h
  split at h
  · rename_i x hx; cases h; exact ⟨x, hx, rfl, rfl⟩
  · cases h
theorem mv_ldA_ok {L st L' st' : List Value} {k : Nat} (h : mv_ldA L k st = some (L', st')) : ∃ v, L[k]? = some v ∧ L' = L ∧ st' = v :: st ∧ v ≠ .retAddr 0 ∧ ∃ a, mv_tv base b v = .ref a := by
  unfold mv_ldA at h
  split at h
  · rename_i x hx; cases h; exact ⟨_, hx, rfl, rfl, (fun h => by cases h), _, rfl⟩
  · rename_i hx; cases h; exact ⟨_, hx, rfl, rfl, (fun h => by cases h), _, rfl⟩
  · cases h
theorem mv_sto_ok {L r L' st' : List Value} {k : Nat} {v : Value} (h : mv_sto L k v r = some (L', st')) : k < L.length ∧ L' = mv_st1 L k v ∧ st' = r := by
  unfold mv_sto at h
  split at h
  · rename_i x hx; cases h; exact ⟨(List.getElem?_eq_some_iff.mp hx).1, rfl, rfl⟩
  · cases h
theorem mv_stl_ok {L r L' st' : List Value} {k : Nat} {v : Value} (h : mv_stl L k v r = some (L', st')) : k + 1 < L.length ∧ L' = mv_st2 L k v ∧ st' = r := by
  unfold mv_stl at h
  split at h
  · rename_i x hx; cases h; exact ⟨(List.getElem?_eq_some_iff.mp hx).1, rfl, rfl⟩
  · cases h
theorem mv_loc_ok (hx : p.tables.exec = Jvm.exec) (hb : c.code = cc) {nL : Nat} {i : Instr} {n : Nat} {L st L' st' : List Value} (h : mv_loc i n L st = some (L', st')) (hd : decode cc pc = .ok (i, n)) (hl : mv_ls base b nL ls L)
    (k : ∀ ls', mv_ls base b nL ls' L' → W p l e R s m args below meth c H locs cells slots Q (F0 m (pc + n) ls' (st'.map (mv_tv base b)))) : W p l e R s m args below meth c H locs cells slots Q (F0 m pc ls (st.map (mv_tv base b))) := by
  unfold mv_loc at h
  split at h
  · obtain ⟨x, h1, rfl, rfl⟩ := mv_ldI_ok h
    exact lv_iload hx hb hd (mv_ls_at hl h1 (fun h => by cases h)) (k ls hl)
  · obtain ⟨x, h1, rfl, rfl⟩ := mv_ldI_ok h
    exact lv_iload_n hx hb hd rfl (mv_ls_at hl h1 (fun h => by cases h)) (k ls hl)
  · obtain ⟨x, h1, rfl, rfl⟩ := mv_ldL_ok h
    exact lv_lload hx hb hd (mv_ls_at hl h1 (fun h => by cases h)) (k ls hl)
  · obtain ⟨x, h1, rfl, rfl⟩ := mv_ldL_ok h
    exact lv_lload_n hx hb hd rfl (mv_ls_at hl h1 (fun h => by cases h)) (k ls hl)
  · obtain ⟨v, h1, rfl, rfl, h2, a, ha⟩ := mv_ldA_ok (base := base) (b := b) h
    have h3 := mv_ls_at hl h1 h2
    have k := k ls hl
    rw [List.map_cons, ha] at k
    rw [ha] at h3
    exact lv_aload hx hb hd h3 k
  · obtain ⟨v, h1, rfl, rfl, h2, a, ha⟩ := mv_ldA_ok (base := base) (b := b) h
    have h3 := mv_ls_at hl h1 h2
    have k := k ls hl
    rw [List.map_cons, ha] at k
    rw [ha] at h3
    exact lv_aload_n hx hb hd rfl h3 k
  · obtain ⟨h1, rfl, rfl⟩ := mv_sto_ok h
    exact lv_istore hx hb hd hl.1 (by rw [← hl.2]; exact h1) rfl (fun ls' h' => k ls' (mv_ls_st1 hl h'))
  · obtain ⟨h1, rfl, rfl⟩ := mv_sto_ok h
    exact lv_istore_n hx hb hd rfl hl.1 (by rw [← hl.2]; exact h1) rfl (fun ls' h' => k ls' (mv_ls_st1 hl h'))
  · obtain ⟨h1, rfl, rfl⟩ := mv_stl_ok h
    exact lv_lstore hx hb hd hl.1 (by rw [← hl.2]; exact h1) rfl (fun ls' h' => k ls' (mv_ls_st2 hl h'))
  · obtain ⟨h1, rfl, rfl⟩ := mv_stl_ok h
    exact lv_lstore_n hx hb hd rfl hl.1 (by rw [← hl.2]; exact h1) rfl (fun ls' h' => k ls' (mv_ls_st2 hl h'))
  · obtain ⟨h1, rfl, rfl⟩ := mv_sto_ok h
    exact lv_astore hx hb hd hl.1 (by rw [← hl.2]; exact h1) rfl (fun ls' h' => k ls' (mv_ls_st1 (v := .ref _) hl h'))
  · obtain ⟨h1, rfl, rfl⟩ := mv_sto_ok h
    exact lv_astore_n hx hb hd rfl hl.1 (by rw [← hl.2]; exact h1) rfl (fun ls' h' => k ls' (mv_ls_st1 (v := .ref _) hl h'))
  · split at h
    · rename_i x h1
      cases h
      have h2 : (_, mv_tv base b (.int x)) ∈ mv_pr base b L := mv_pr_mem.mpr ⟨.int x, h1, (fun h => by cases h), rfl⟩
      obtain ⟨k0, hk0⟩ := List.mem_iff_getElem?.mp h2
      exact lv_iinc hx hb hd hl.1 hk0 rfl (by rw [← hl.2]; exact (List.getElem?_eq_some_iff.mp h1).1) rfl (fun ls' h' => k ls' (mv_ls_st1 (v := .int _) hl h'))
    · cases h
  · cases h
theorem mv_ifs_ok {t : Nat} {o : Int} {r st' : List Value} {g : Prop} [Decidable g] (h : mv_ifs pc o r g = some (t, st')) : ∃ u : Nat, (pc : Int) + o = (u : Int) ∧ st' = r ∧ (g → t = u) ∧ (¬ g → t = pc + 3) := by
  unfold mv_ifs at h
  split at h
  · rename_i u hu
    cases h
    exact ⟨u, mv_tgt_eq hu, rfl, fun h => if_pos h, fun h => if_neg h⟩
  · cases h
theorem mv_br_ok (hx : p.tables.exec = Jvm.exec) (hb : c.code = cc) {i : Instr} {n t : Nat} {st st' : List Value} (h : mv_br i n pc st = some (t, st')) (hd : decode cc pc = .ok (i, n))
    (k : W p l e R s m args below meth c H locs cells slots Q (F0 m t ls (st'.map (mv_tv base b)))) : W p l e R s m args below meth c H locs cells slots Q (F0 m pc ls (st.map (mv_tv base b))) := by
  unfold mv_br at h
  split at h
  · split at h
    · rename_i u hu; cases h; exact lv_goto hx hb hd (mv_tgt_eq hu) k
    · cases h
  · obtain ⟨u, hu, rfl, h1, h2⟩ := mv_ifs_ok h
    exact lv_if_eq hx hb hd hu (fun g => by rw [h1 g] at k; exact k) (fun g => by rw [h2 g] at k; exact k)
  · obtain ⟨u, hu, rfl, h1, h2⟩ := mv_ifs_ok h
    exact lv_if_ne hx hb hd hu (fun g => by rw [h1 g] at k; exact k) (fun g => by rw [h2 (fun z => z g)] at k; exact k)
  · obtain ⟨u, hu, rfl, h1, h2⟩ := mv_ifs_ok h
    exact lv_if_lt hx hb hd hu (fun g => by rw [h1 g] at k; exact k) (fun g => by rw [h2 g] at k; exact k)
  · obtain ⟨u, hu, rfl, h1, h2⟩ := mv_ifs_ok h
    exact lv_if_ge hx hb hd hu (fun g => by rw [h1 g] at k; exact k) (fun g => by rw [h2 g] at k; exact k)
  · obtain ⟨u, hu, rfl, h1, h2⟩ := mv_ifs_ok h
    exact lv_if_gt hx hb hd hu (fun g => by rw [h1 g] at k; exact k) (fun g => by rw [h2 g] at k; exact k)
  · obtain ⟨u, hu, rfl, h1, h2⟩ := mv_ifs_ok h
    exact lv_if_le hx hb hd hu (fun g => by rw [h1 g] at k; exact k) (fun g => by rw [h2 g] at k; exact k)
  · obtain ⟨u, hu, rfl, h1, h2⟩ := mv_ifs_ok h
    exact lv_icmp_eq hx hb hd hu (fun g => by rw [h1 g] at k; exact k) (fun g => by rw [h2 g] at k; exact k)
  · obtain ⟨u, hu, rfl, h1, h2⟩ := mv_ifs_ok h
    exact lv_icmp_ne hx hb hd hu (fun g => by rw [h1 g] at k; exact k) (fun g => by rw [h2 (fun z => z g)] at k; exact k)
  · obtain ⟨u, hu, rfl, h1, h2⟩ := mv_ifs_ok h
    exact lv_icmp_lt hx hb hd hu (fun g => by rw [h1 g] at k; exact k) (fun g => by rw [h2 g] at k; exact k)
  · obtain ⟨u, hu, rfl, h1, h2⟩ := mv_ifs_ok h
    exact lv_icmp_ge hx hb hd hu (fun g => by rw [h1 g] at k; exact k) (fun g => by rw [h2 g] at k; exact k)
  · obtain ⟨u, hu, rfl, h1, h2⟩ := mv_ifs_ok h
    exact lv_icmp_gt hx hb hd hu (fun g => by rw [h1 g] at k; exact k) (fun g => by rw [h2 g] at k; exact k)
  · obtain ⟨u, hu, rfl, h1, h2⟩ := mv_ifs_ok h
    exact lv_icmp_le hx hb hd hu (fun g => by rw [h1 g] at k; exact k) (fun g => by rw [h2 g] at k; exact k)
  · split at h
    · rename_i ho
      split at h
      · rename_i u hu; cases h; exact lv_tableOut hx hb hd ho (mv_tgt_eq hu) k
      · cases h
    · rename_i ho
      split at h
      · rename_i off hoff
        split at h
        · rename_i u hu; cases h; exact lv_tableIn hx hb hd (fun g => ho (Or.inl g)) (fun g => ho (Or.inr g)) hoff (mv_tgt_eq hu) k
        · cases h
      · cases h
  · cases h
end MV1
end
section
/-! classes and fields: what the tables say of them -/
theorem mv_cls_ok : ∀ (ci : Nat), ci < 7 → vwCl[ci]? = some (mv_cl ci) ∧ (mv_cl ci).1 = mv_nm ci ∧ (∀ w ∈ u_ws (mv_cl ci).1 (mv_cl ci).2.1 (mv_cl ci).2.2, w ∈ mv_Ts) ∧ (∀ k, k < (mv_cl ci).2.2 → parseFieldDescriptor ((mv_cl ci).2.1 k).2.2.1 = some (mv_ty ci k)) ∧ (∀ a, a < (mv_cl ci).2.2 → ∀ b, b < (mv_cl ci).2.2 → a ≠ b → ((mv_cl ci).2.1 a).2.1 ≠ ((mv_cl ci).2.1 b).2.1) := by
  intro ci h
  have hw : ∀ q ∈ vwCl, ∀ w ∈ u_ws q.1 q.2.1 q.2.2, w ∈ mv_Ts := by
    intro q hq w hw
    unfold mv_Ts
    simp only [List.mem_append]
    refine Or.inr (Or.inr (Or.inr (Or.inr (Or.inr (Or.inl ?_)))))
    exact List.mem_flatMap.mpr ⟨q, hq, hw⟩
  match ci, h with
  | 0, _ => exact ⟨rfl, rfl, hw _ (List.mem_of_getElem? (i := 0) rfl), tyX0_ok, nmX0⟩
  | 1, _ => exact ⟨rfl, rfl, hw _ (List.mem_of_getElem? (i := 1) rfl), tyX1_ok, nmX1⟩
  | 2, _ => exact ⟨rfl, rfl, hw _ (List.mem_of_getElem? (i := 2) rfl), tyX2_ok, nmX2⟩
  | 3, _ => exact ⟨rfl, rfl, hw _ (List.mem_of_getElem? (i := 3) rfl), tyX3_ok, nmX3⟩
  | 4, _ => exact ⟨rfl, rfl, hw _ (List.mem_of_getElem? (i := 4) rfl), tyX4_ok, nmX4⟩
  | 5, _ => exact ⟨rfl, rfl, hw _ (List.mem_of_getElem? (i := 5) rfl), tyX5_ok, nmX5⟩
  | 6, _ => exact ⟨rfl, rfl, hw _ (List.mem_of_getElem? (i := 6) rfl), tyX6_ok, nmX6⟩
theorem mv_flds_ok : ∀ f ∈ mv_flds, f.2.2.1 < 7 ∧ f.2.2.2 < (mv_cl f.2.2.1).2.2 ∧ ((mv_cl f.2.2.1).2.1 f.2.2.2).1 = mv_nm f.2.2.1 := by decide +kernel
theorem mv_news_ok : ∀ f ∈ mv_news, f.2.2 < 7 := by decide +kernel
theorem mv_tyok : ∀ ci, ci < 7 → ∀ k, k < (mv_cl ci).2.2 → (match mv_ty ci k with | .int => true | .object _ => true | .array _ => true | _ => false) = true := by decide +kernel
theorem mv_in_fld {f : Nat × Nat × Nat × Nat} (h : f ∈ mv_flds) : Cond.fieldLink (mv_nm f.1) f.2.1 ((mv_cl f.2.2.1).2.1 f.2.2.2).1 ((mv_cl f.2.2.1).2.1 f.2.2.2).2.1 ((mv_cl f.2.2.1).2.1 f.2.2.2).2.2.1 ∈ mv_Ts := by
  unfold mv_Ts
  exact List.mem_append_left _ (List.mem_map.mpr ⟨f, h, rfl⟩)
theorem mv_in5w {w : Cond} (h : w ∈ mv_Ts5) : w ∈ mv_Ts := by
  unfold mv_Ts
  simp only [List.mem_append]
  exact Or.inr (Or.inr (Or.inr (Or.inr (Or.inl h))))
theorem mv_in8w {w : Cond} (h : w ∈ mv_Ts8) : w ∈ mv_Ts := by
  unfold mv_Ts
  simp only [List.mem_append]
  exact Or.inr (Or.inr (Or.inr (Or.inr (Or.inr (Or.inr (Or.inr (Or.inl h)))))))
theorem mv_in9w {w : Cond} (h : w ∈ mv_Ts9) : w ∈ mv_Ts := by
  unfold mv_Ts
  simp only [List.mem_append]
  exact Or.inr (Or.inr (Or.inr (Or.inr (Or.inr (Or.inr (Or.inr (Or.inr h)))))))
theorem mv_in_math {f : Nat × Nat × Nat} (h : f ∈ mv_maths) : Cond.methodLink (mv_nm f.1) f.2.1 (mv_mn f.2.2) ∈ mv_Ts := mv_in8w (List.mem_append_left _ (List.mem_map.mpr ⟨f, h, rfl⟩))
theorem mv_in_new {f : Nat × Nat × Nat} (h : f ∈ mv_news) : Cond.classLink (mv_nm f.1) f.2.1 (mv_nm f.2.2) ∈ mv_Ts := mv_in5w (by
  unfold mv_Ts5
  simp only [List.mem_append]
  exact Or.inl (Or.inl (Or.inl (Or.inl (Or.inl (Or.inl (List.mem_map.mpr ⟨f, h, rfl⟩)))))))
theorem mv_in_inst {c : Nat} (h : c < 7) : Cond.instantiable (mv_nm c) (mv_cl c).2.2 ∈ mv_Ts := mv_in5w (by
  unfold mv_Ts5
  simp only [List.mem_append]
  exact Or.inl (Or.inl (Or.inl (Or.inl (Or.inl (Or.inr (List.mem_map.mpr ⟨c, List.mem_range.mpr h, rfl⟩)))))))
theorem mv_in_init {c : Nat} (h : c < 10) : Cond.initialized (mv_nm c) ∈ mv_Ts := mv_in5w (by
  unfold mv_Ts5
  simp only [List.mem_append]
  exact Or.inl (Or.inl (Or.inl (Or.inl (Or.inr (List.mem_map.mpr ⟨c, List.mem_range.mpr h, rfl⟩))))))
theorem mv_in_ldc {f : Nat × Nat × Int32} (h : f ∈ mv_ldcs) : Cond.constant (mv_nm f.1) f.2.1 f.2.2 ∈ mv_Ts := mv_in5w (by
  unfold mv_Ts5
  simp only [List.mem_append]
  exact Or.inl (Or.inl (Or.inl (Or.inr (List.mem_map.mpr ⟨f, h, rfl⟩)))))
theorem mv_in_ldc2 {f : Nat × Nat × Int64} (h : f ∈ mv_ldc2) : Cond.constantLong (mv_nm f.1) f.2.1 f.2.2 ∈ mv_Ts := mv_in5w (by
  unfold mv_Ts5
  simp only [List.mem_append]
  exact Or.inl (Or.inl (Or.inr (List.mem_map.mpr ⟨f, h, rfl⟩))))
theorem mv_in_obj {f : Nat × Nat} (h : f ∈ mv_objs) : Cond.methodLink (mv_nm f.1) f.2 objectInit ∈ mv_Ts := mv_in5w (by
  unfold mv_Ts5
  simp only [List.mem_append]
  exact Or.inl (Or.inr (List.mem_map.mpr ⟨f, h, rfl⟩)))
theorem mv_in_last {w : Cond} (h : w ∈ [Cond.instanceMethod objectInit, Cond.arrayClass .int, Cond.arrayClass .long, Cond.classLink "BagTrees$Orders" 9 "[[I"]) : w ∈ mv_Ts := mv_in5w (by
  unfold mv_Ts5
  simp only [List.mem_append]
  exact Or.inr h)
/-! the state at a method's start: classes, array classes, nest links, the script -/
def mv_tys (cA : Nat → ClassId) : List (ClassId × FieldType) := [(cA 0, .int), (cA 1, .long), (cA 2, .array .int)]
def mv_Nst (U : State) : Prop := ∀ q ∈ mv_nest, va_Nw (.methodLinkNest (mv_nm q.1) q.2.1 (mv_y q.2.2) "BagTrees") U
def mv_Ao (U : State) : Prop := (Cond.arrayOver (.array .int)).before #[] U = true
def mv_X (D : va_G) (base b Ls : Nat) (xs : Nat → Int32) (cA : Nat → ClassId) (U : State) : Prop := va_K D vwCl (mv_tys cA) U ∧ mv_Nst U ∧ mv_Ao U ∧ va_X b Ls xs U U.heap ∧ b < base
section MV2
variable {p : Program} {l : Launch} {e : Env} {R : Room} {s : State} {m : MethodId} {args : Array Value} {below : List Frame} {meth : Method} {c : Code} {H : Heap} {locs : List Loc} {cells slots : Nat} {Q : State → Prop} {cc : ByteArray} {pc : Nat} {ls : Array Slot} {base b : Nat} {D : va_G} {cA : Nat → ClassId} {xs : Nat → Int32} {Ls nL cls : Nat} {ini : Bool}
theorem mv_W_size {g : JFrame} (k : H.size ≤ s.heap.size + cells → W p l e R s m args below meth c H locs cells slots Q g) : W p l e R s m args below meth c H locs cells slots Q g :=
  fun T hT X => k (by rw [← hT]; exact X.heapSize) T hT X
theorem mv_P_size {w : mv_W} (hP : va_P D vwCl (mv_tw base b cA w) H) (h0 : base ≤ H.size) : base + w.length ≤ H.size := by
  cases hw : w with
  | nil => exact h0
  | cons x r =>
    have h1 : w[r.length]? = some (w[r.length]'(by rw [hw]; simp)) := List.getElem?_eq_getElem _
    have h2 := (hP r.length _ (mv_tw_get h1)).lt
    rw [List.length_cons]
    have h3 : base + r.length < H.size := h2
    omega
/-- the heap's size at a point of a run -/
theorem mv_size {w : mv_W} {g : JFrame} (hP : va_P D vwCl (mv_tw base b cA w) H) (hS : va_S (fun q => base ≤ q) s.heap H locs) (hb0 : base ≤ s.heap.size) (hcw : s.heap.size + cells = base + w.length)
    (k : H.size = base + w.length → W p l e R s m args below meth c H locs cells slots Q g) : W p l e R s m args below meth c H locs cells slots Q g :=
  mv_W_size (fun h => k (Nat.le_antisymm (by omega) (mv_P_size hP (Nat.le_trans hb0 hS.1))))
theorem mv_fits_ok {ty : FieldType} {v : Value} (h : mv_fits ty v = true) : narrow ty (mv_tv base b v) = mv_tv base b v ∧ fits ty (mv_tv base b v) = true := by
  unfold mv_fits at h
  split at h
  · exact ⟨rfl, rfl⟩
  · exact ⟨rfl, rfl⟩
  · exact ⟨rfl, rfl⟩
  · cases h
theorem mv_put_ok (S : CallFix p m c cc nL s args mv_Ts (mv_nm cls)) (hini : ini = true → meth.name = "<init>") (hK : va_K D vwCl (mv_tys cA) s) {x ci k a dc dk : Nat} {v : Value} {fs r st' : List Value} {w w' : mv_W}
    (h : mv_put cls ini ci k a v fs r w = some (st', w', dc, dk)) (hf : (cls, x, ci, k) ∈ mv_flds) (hw : w[a]? = some (.inr (ci, fs))) (hk : k < fs.length) (hd : decode cc pc = .ok (.putfield x, 3)) (hP : va_P D vwCl (mv_tw base b cA w) H) (hS : va_S (fun q => base ≤ q) s.heap H locs)
    (kk : ∀ (H' : Heap) (locs' : List Loc), va_P D vwCl (mv_tw base b cA w') H' → va_S (fun q => base ≤ q) s.heap H' locs' → W p l e R s m args below meth c H' locs' (cells + dc) (slots + dk) Q (F0 m (pc + 3) ls (st'.map (mv_tv base b)))) :
    W p l e R s m args below meth c H locs cells slots Q (F0 m pc ls ((v :: .ref a :: r).map (mv_tv base b))) := by
  obtain ⟨hx, hb, hml, hown, hts⟩ := S
  obtain ⟨hci, hkN, hdecl⟩ := mv_flds_ok _ hf
  dsimp only at hci hkN hdecl
  obtain ⟨c1, c2, c3, c4, c5⟩ := mv_cls_ok ci hci
  have hg := mv_tw_get (base := base) (b := b) (cA := cA) hw
  unfold mv_put at h
  split at h
  · rename_i hft
    obtain ⟨n1, n2⟩ := mv_fits_ok (base := base) (b := b) hft
    split at h
    · rename_i hfin
      cases h
      refine va_put (D := D) (C := (mv_cl ci).1) (T := (mv_cl ci).2.1) (N := (mv_cl ci).2.2) hx hb hts c3 (mv_ty ci) c4 c5 hown hK hP mv_tw_D hS a hg c1 k hkN (hts _ (mv_in_fld hf)) (fun _ h9 => h9) hfin (c4 k hkN) n1 n2 (by rw [List.length_map]; exact hk) hd (fun H1 locs1 q1 q2 q3 => ?_)
      refine kk H1 locs1 ?_ q3
      rw [← mv_tw_set]
      show va_P D vwCl ((mv_tw base b cA w).set a (base + a, .inr (ci, (fs.set k v).map (mv_tv base b)))) H1
      rw [List.map_set]
      exact q1
    · rename_i hfin
      split at h
      · rename_i hi hcc
        have hcc := Nat.eq_of_beq_eq_true hcc
        subst hcc
        cases h
        refine va_putF (D := D) (C := (mv_cl cls).1) (T := (mv_cl cls).2.1) (N := (mv_cl cls).2.2) hx hb hts c3 (mv_ty cls) c4 c5 hown hK hP mv_tw_D hS a hg c1 k hkN (hts _ (mv_in_fld hf)) (fun _ h9 => h9) hfin (hini rfl) hdecl (c4 k hkN) n1 n2 (by rw [List.length_map]; exact hk) hd (fun H1 locs1 q1 q2 q3 => ?_)
        refine kk H1 locs1 ?_ q3
        rw [← mv_tw_set]
        show va_P D vwCl ((mv_tw base b cA w).set a (base + a, .inr (cls, (fs.set k v).map (mv_tv base b)))) H1
        rw [List.map_set]
        exact q1
      · cases h
  · cases h
end MV2
end
section
/-- new int[n][k]: a rule that rests on a part of the library of its own; proved in a later part -/
def mv_MnaOk : Prop := ∀ (p : Program) (l : Launch) (e : Env) (R : Room) (s : State) (m : MethodId) (args : Array Value) (below : List Frame) (meth : Method) (c : Code) (H : Heap) (locs : List Loc) (cells slots : Nat) (Q : State → Prop) (cc : ByteArray) (pc : Nat) (ls : Array Slot) (base b : Nat) (D : va_G) (cA : Nat → ClassId) (xs : Nat → Int32) (Ls nL : Nat) (w : mv_W) (k n : Int32) (r : List Value),
  CallFix p m c cc nL s args mv_Ts (mv_nm 4) → mv_X D base b Ls xs cA s → decode cc pc = .ok (.multianewarray 9 2, 4) → va_P D vwCl (mv_tw base b cA w) H → va_S (fun q => base ≤ q) s.heap H locs → base ≤ s.heap.size → H.size = base + w.length →
  ¬ k < 0 → ¬ n < 0 → k.toNatClampNeg < 1048576 → n.toNatClampNeg < 1048576 → cells + (1 + n.toNatClampNeg) ≤ R.cells → slots + (n.toNatClampNeg + n.toNatClampNeg * k.toNatClampNeg) ≤ R.slots →
  (∀ (H' : Heap) (locs' : List Loc), va_P D vwCl (mv_tw base b cA ((w ++ [.inl (2, n.toNatClampNeg, .inr (.inr (.inr (.inr (fun j => if j < n.toNatClampNeg then some (w.length + 1 + j) else none)))))]) ++ List.replicate n.toNatClampNeg (.inl (0, k.toNatClampNeg, .inl (fun _ => 0))))) H' → va_S (fun q => base ≤ q) s.heap H' locs' →
    W p l e R s m args below meth c H' locs' (cells + (1 + n.toNatClampNeg)) (slots + (n.toNatClampNeg + n.toNatClampNeg * k.toNatClampNeg)) Q (F0 m (pc + 4) ls (.ref (base + w.length) :: r))) →
  W p l e R s m args below meth c H locs cells slots Q (F0 m pc ls (.int k :: .int n :: r))
section MV3
variable {p : Program} {l : Launch} {e : Env} {R : Room} {s : State} {m : MethodId} {args : Array Value} {below : List Frame} {meth : Method} {c : Code} {H : Heap} {locs : List Loc} {cells slots : Nat} {Q : State → Prop} {cc : ByteArray} {pc : Nat} {ls : Array Slot} {base b : Nat} {D : va_G} {cA : Nat → ClassId} {xs : Nat → Int32} {Ls nL cls : Nat} {ini : Bool}
theorem mv_new_ok (S : CallFix p m c cc nL s args mv_Ts (mv_nm cls)) (hK : va_K D vwCl (mv_tys cA) s) {x ci : Nat} {r : List Value} {w : mv_W} (hf : (cls, x, ci) ∈ mv_news) (hd : decode cc pc = .ok (.new x, 3)) (hP : va_P D vwCl (mv_tw base b cA w) H) (hS : va_S (fun q => base ≤ q) s.heap H locs)
    (hz : H.size = base + w.length) (hc : cells + 1 ≤ R.cells) (hk : slots + (mv_cl ci).2.2 ≤ R.slots)
    (kk : ∀ (H' : Heap) (locs' : List Loc), va_P D vwCl (mv_tw base b cA (w ++ [.inr (ci, (List.range (mv_cl ci).2.2).map (fun k => mv_dfl (mv_ty ci k)))])) H' → va_S (fun q => base ≤ q) s.heap H' locs' → W p l e R s m args below meth c H' locs' (cells + 1) (slots + (mv_cl ci).2.2) Q (F0 m (pc + 3) ls (.ref (base + w.length) :: r))) :
    W p l e R s m args below meth c H locs cells slots Q (F0 m pc ls r) := by
  obtain ⟨hx, hb, hml, hown, hts⟩ := S
  have hci : ci < 7 := mv_news_ok _ hf
  obtain ⟨c1, c2, c3, c4, c5⟩ := mv_cls_ok ci hci
  have hKn := hK.1 ci _ c1
  refine W.newcK hx hb hown (hts _ (mv_in_new hf)) (by have := hts _ (mv_in_inst hci); exact this) (hts _ (mv_in_init (c := ci) (by omega))) rfl hd hc hk (by rw [← c2]; exact hKn.2.1) hz fun H1 kC hkC e1 z1 o1 => ?_
  have hk9 : ∀ (k : Nat) (y : Nat × va_E), (mv_tw base b cA w)[k]? = some y → H1[y.1]? = H[y.1]? := fun k y hy => o1 y.1 (by rw [← hz]; exact (hP k y hy).lt)
  refine kk H1 locs ?_ ⟨Nat.le_trans hS.1 (by omega), fun y h1 h2 => (o1 y (by rw [← hz]; exact Nat.lt_of_lt_of_le h1 hS.1)).trans (hS.2.1 y h1 h2), hS.2.2⟩
  rw [mv_tw_app]
  refine (hP.kept hk9).app (fun k y hy => ?_)
  have hz0 : k < 1 := (List.getElem?_eq_some_iff.mp hy).1
  rw [show k = 0 by omega] at hy
  cases hy
  refine ⟨_, c1, (u_born (mv_ty ci) hts c3 hKn hkC e1 c4).to (fun j hj => ?_)⟩
  have ht := mv_tyok ci hci j hj
  simp only [vp_V]
  rw [List.getD_eq_getElem?_getD, List.getElem?_map, List.getElem?_map, List.getElem?_range hj]
  show defaultValue (mv_ty ci j) = mv_tv base b (mv_dfl (mv_ty ci j))
  generalize mv_ty ci j = t at ht ⊢
  cases t <;> first | rfl | cases ht
theorem mv_newa_ok (S : CallFix p m c cc nL s args mv_Ts (mv_nm cls)) (hK : va_K D vwCl (mv_tys cA) s) {at1 : ArrayType} {t : Nat} {ty : FieldType} {x : Int32} {a0 : vp_A} {r : List Value} {w : mv_W} (ht : (mv_tys cA)[t]? = some (cA t, ty)) (hty : newarray.typeOf at1 = ty) (hob : ∀ C, ty ≠ .object C) (hcl : (Cond.arrayClass ty).before args s = true) (hd : decode cc pc = .ok (.newarray at1, 2)) (hP : va_P D vwCl (mv_tw base b cA w) H) (hS : va_S (fun q => base ≤ q) s.heap H locs)
    (ha : vp_cell (cA t) (mv_ta base a0) = arrV (cA t) x.toNatClampNeg (fun _ => defaultValue ty)) (hz : H.size = base + w.length) (hn : ¬ x < 0) (hbytes : x.toNatClampNeg * componentBytes ty ≤ 536870912) (hc : cells + 1 ≤ R.cells) (hk : slots + x.toNatClampNeg ≤ R.slots)
    (kk : ∀ (H' : Heap) (locs' : List Loc), va_P D vwCl (mv_tw base b cA (w ++ [.inl (t, a0)])) H' → va_S (fun q => base ≤ q) s.heap H' locs' → W p l e R s m args below meth c H' locs' (cells + 1) (slots + x.toNatClampNeg) Q (F0 m (pc + 2) ls (.ref (base + w.length) :: r))) :
    W p l e R s m args below meth c H locs cells slots Q (F0 m pc ls (.int x :: r)) := by
  obtain ⟨hx, hb, hml, hown, hts⟩ := S
  subst hty
  refine va_newaK hx hb hcl rfl hd rfl hn rfl hbytes hc hk hz fun H1 cB e1 z1 o1 hAr hNm => ?_
  have hRA : s.vm.findClass ("[" ++ (newarray.typeOf at1).toString) = some (cA t) := by
    have := (hK.2 t _ ht).2
    dsimp only at this
    cases at1 <;> exact this
  have hcc : cB = cA t := Option.some.inj (hNm.symm.trans hRA)
  subst hcc
  have hk9 : ∀ (k : Nat) (y : Nat × va_E), (mv_tw base b cA w)[k]? = some y → H1[y.1]? = H[y.1]? := fun k y hy => o1 y.1 (by rw [← hz]; exact (hP k y hy).lt)
  refine kk H1 locs ?_ ⟨Nat.le_trans hS.1 (by omega), fun y h1 h2 => (o1 y (by rw [← hz]; exact Nat.lt_of_lt_of_le h1 hS.1)).trans (hS.2.1 y h1 h2), hS.2.2⟩
  rw [mv_tw_app]
  refine (hP.kept hk9).app (fun k y hy => ?_)
  have hz0 : k < 1 := (List.getElem?_eq_some_iff.mp hy).1
  rw [show k = 0 by omega] at hy
  cases hy
  show H1[base + w.length]? = some (vp_cell (cA t) (mv_ta base a0))
  rw [ha]
  exact e1
theorem mv_mf_ok (S : CallFix p m c cc nL s args mv_Ts (mv_nm cls)) (hR : 1 ≤ R.frames ∧ 40 ≤ R.locals) (hls : ls.size = nL) {x k : Nat} {st st' : List Value} (h : mv_mf k st = some st') (hf : (cls, x, k) ∈ mv_maths) (hd : decode cc pc = .ok (.invokestatic x, 3)) (hc : cells ≤ R.cells) (hk : slots ≤ R.slots)
    (kk : W p l e R s m args below meth c H locs cells slots Q (F0 m (pc + 3) ls (st'.map (mv_tv base b)))) : W p l e R s m args below meth c H locs cells slots Q (F0 m pc ls (st.map (mv_tv base b))) := by
  obtain ⟨hx, hb, hml, hown, hts⟩ := S
  have hin : (Cond.initialized "java/lang/Math").before args s = true := hts _ (mv_in_init (c := 9) (by omega))
  have hl := hts _ (mv_in_math hf)
  have hcat : ∀ r : List Value, (r.map fun v => v.category).sum ≤ 8 → ((r.map (mv_tv base b)).map fun v => v.category).sum ≤ 8 := by
    intro r h
    have e : ((r.map (mv_tv base b)).map fun v => v.category) = (r.map fun v => v.category) := by
      rw [List.map_map]
      apply List.map_congr_left
      intro v _
      exact mv_tv_cat base b v
    rw [e]
    exact h
  have hml' : c.maxLocals = ls.size := by rw [hml, hls]
  unfold mv_mf at h
  split at h
  · split at h
    · rename_i hb8
      cases h
      have h8 := hcat _ (Nat.le_of_ble_eq_true hb8)
      exact va_mmax hx hb hml' hown hl (hts _ (mv_in8w (List.mem_append_right _ List.mem_cons_self))) hin (hts _ (mv_in9w List.mem_cons_self)) hR.1 (by have := hR.2; omega) hc hk hd kk
    · cases h
  · split at h
    · rename_i hb8
      cases h
      have h8 := hcat _ (Nat.le_of_ble_eq_true hb8)
      exact va_mmin hx hb hml' hown hl (hts _ (mv_in8w (List.mem_append_right _ (List.mem_cons_of_mem _ List.mem_cons_self)))) hin (hts _ (mv_in9w (List.mem_cons_of_mem _ List.mem_cons_self))) hR.1 (by have := hR.2; omega) hc hk hd kk
    · cases h
  · split at h
    · rename_i hb8
      cases h
      have h8 := hcat _ (Nat.le_of_ble_eq_true hb8)
      exact va_mabs_long hx hb hml' hown hl (hts _ (mv_in8w (List.mem_append_right _ (List.mem_cons_of_mem _ (List.mem_cons_of_mem _ List.mem_cons_self))))) hin (hts _ (mv_in9w (List.mem_cons_of_mem _ (List.mem_cons_of_mem _ List.mem_cons_self)))) hR.1 (by have := hR.2; omega) hc hk hd kk
    · cases h
  · cases h
theorem mv_heap_ok (hM : mv_MnaOk) (hR : 1 ≤ R.frames ∧ 40 ≤ R.locals) (hls : ls.size = nL) (S : CallFix p m c cc nL s args mv_Ts (mv_nm cls)) (hini : ini = true → meth.name = "<init>") (hX : mv_X D base b Ls xs cA s) (hb0 : base ≤ s.heap.size) {i : Instr} {n dc dk : Nat} {st st' : List Value} {w w' : mv_W}
    (h : mv_heap cls ini xs Ls i n st w = some (st', w', dc, dk)) (hd : decode cc pc = .ok (i, n)) (hP : va_P D vwCl (mv_tw base b cA w) H) (hS : va_S (fun q => base ≤ q) s.heap H locs) (hcw : s.heap.size + cells = base + w.length) (hc : cells + dc ≤ R.cells) (hk : slots + dk ≤ R.slots)
    (kk : ∀ (H' : Heap) (locs' : List Loc), va_P D vwCl (mv_tw base b cA w') H' → va_S (fun q => base ≤ q) s.heap H' locs' → W p l e R s m args below meth c H' locs' (cells + dc) (slots + dk) Q (F0 m (pc + n) ls (st'.map (mv_tv base b)))) :
    W p l e R s m args below meth c H locs cells slots Q (F0 m pc ls (st.map (mv_tv base b))) := by
  have S' := S
  obtain ⟨hx, hb, hml, hown, hts⟩ := S
  obtain ⟨hK, hN, hA, hXs, hbb⟩ := hX
  have hbA : ¬ base ≤ b := by omega
  have hbl : b < s.heap.size := by omega
  unfold mv_heap at h
  split at h
  · -- getfield
    split at h
    · rename_i ci k hl
      have hf := mv_l2_mem hl
      obtain ⟨hci, hkN, hdecl⟩ := mv_flds_ok _ hf
      dsimp only at hci hkN hdecl
      obtain ⟨c1, c2, c3, c4, c5⟩ := mv_cls_ok ci hci
      split at h
      · rename_i c' fs hw
        split at h
        · rename_i hcc
          have hcc := Nat.eq_of_beq_eq_true hcc
          subst hcc
          split at h
          · rename_i v hv
            cases h
            exact va_get (D := D) (C := (mv_cl c').1) (T := (mv_cl c').2.1) (N := (mv_cl c').2.2) hx hb hts c3 hown hK hP _ (mv_tw_get hw) c1 k hkN (hts _ (mv_in_fld hf)) (fun _ h9 => h9) (by rw [List.getElem?_map, hv]; rfl) hd (kk H locs hP hS)
          · cases h
        · cases h
      · cases h
    · cases h
  · -- putfield
    split at h
    · rename_i ci k hl
      have hf := mv_l2_mem hl
      split at h
      · rename_i c' fs hw
        split at h
        · rename_i hcc
          have hcc := Nat.eq_of_beq_eq_true hcc
          subst hcc
          split at h
          · rename_i v0 hv
            exact mv_put_ok S' hini hK h hf hw (List.getElem?_eq_some_iff.mp hv).1 hd hP hS kk
          · cases h
        · cases h
      · cases h
    · cases h
  · -- iaload
    split at h
    · rename_i m0 f hw
      split at h
      · cases h
      · rename_i hin
        cases h
        exact va_iald hx hb hK hP _ 0 (mv_tw_get hw) rfl hin hd (kk H locs hP hS)
    · cases h
  · -- the script
    split at h
    · cases h
    · rename_i hin
      cases h
      exact va_sld hx hb hXs hbl hbA hS hin hd (kk H locs hP hS)
  · -- laload
    split at h
    · rename_i m0 f hw
      split at h
      · cases h
      · rename_i hin
        cases h
        exact va_lald hx hb hK hP _ 1 (mv_tw_get hw) rfl hin hd (kk H locs hP hS)
    · cases h
  · -- aaload
    rename_i x a r
    split at h
    · rename_i m0 f hw
      split at h
      · cases h
      · rename_i hin
        cases h
        have hlt : x.toNatClampNeg < m0 := Nat.not_le.mp fun q => hin (Or.inr q)
        have e1 : mv_tv base b (va_rf (f x.toNatClampNeg)) = va_rf ((f x.toNatClampNeg).map (fun k => base + k)) := by cases f x.toNatClampNeg <;> rfl
        have kk := kk H locs hP hS
        rw [List.map_cons, e1] at kk
        exact W.aald (v := va_rf ((f x.toNatClampNeg).map (fun k => base + k))) (ty := .array .int) hx hb (hP _ _ (mv_tw_get hw)) ((hK.2 2 _ rfl).1 m0 (fun j => va_rf ((f j).map (fun k => base + k)))) rfl (fun q => by cases q) (by show ¬ (x < 0 ∨ (arrV _ _ _).slots.size ≤ _); rw [arrV_size]; exact hin) (by show (arrV (cA 2) m0 (fun j => va_rf ((f j).map (fun k => base + k)))).slots[x.toNatClampNeg]? = _; rw [arrV_read _ _ hlt]) rfl rfl hd kk
    · cases h
  · -- iastore
    split at h
    · rename_i m0 f hw
      split at h
      · cases h
      · rename_i hin
        cases h
        refine va_iast hx hb hK hP mv_tw_D hS _ 0 (mv_tw_get hw) rfl hin hd (fun H1 locs1 q1 q2 q3 => kk H1 locs1 ?_ q3)
        rw [← mv_tw_set]
        exact q1
    · cases h
  · -- lastore
    split at h
    · rename_i m0 f hw
      split at h
      · cases h
      · rename_i hin
        cases h
        refine va_last hx hb hK hP mv_tw_D hS _ 1 (mv_tw_get hw) rfl hin hd (fun H1 locs1 q1 q2 q3 => kk H1 locs1 ?_ q3)
        rw [← mv_tw_set]
        exact q1
    · cases h
  · cases h
    exact va_slen hx hb hXs hbl hbA hS hd (kk H locs hP hS)
  · split at h
    · rename_i v hv
      cases h
      exact lv_ldcw hx hb hown (hts _ (mv_in_ldc (mv_l2_mem hv))) hd (kk H locs hP hS)
    · cases h
  · split at h
    · rename_i v hv
      cases h
      exact lv_ldc2 hx hb hown (hts _ (mv_in_ldc2 (mv_l2_mem hv))) hd (kk H locs hP hS)
    · cases h
  · split at h
    · rename_i k0 hk0
      split at h
      · rename_i st2 hst2
        cases h
        exact mv_mf_ok S' hR hls hst2 (mv_l2_mem hk0) hd (by omega) (by omega) (kk H locs hP hS)
      · cases h
    · cases h
  · split at h
    · rename_i ci hci
      cases h
      exact mv_size hP hS hb0 hcw (fun hz => mv_new_ok S' hK (mv_l2_mem hci) hd hP hS hz hc hk kk)
    · cases h
  · split at h
    · cases h
    · rename_i hin
      cases h
      exact mv_size hP hS hb0 hcw (fun hz => mv_newa_ok (t := 0) (ty := .int) S' hK rfl rfl (fun _ h => by cases h) (hts _ (mv_in_last (by simp))) hd hP hS rfl hz (fun g => hin (Or.inl g)) (by have : ¬ 1048576 ≤ _ := fun g => hin (Or.inr g); show _ * 4 ≤ _; omega) hc hk kk)
  · split at h
    · cases h
    · rename_i hin
      cases h
      exact mv_size hP hS hb0 hcw (fun hz => mv_newa_ok (t := 1) (ty := .long) S' hK rfl rfl (fun _ h => by cases h) (hts _ (mv_in_last (by simp))) hd hP hS rfl hz (fun g => hin (Or.inl g)) (by have : ¬ 1048576 ≤ _ := fun g => hin (Or.inr g); show _ * 8 ≤ _; omega) hc hk kk)
  · split at h
    · rename_i hc4 hx9
      have hc4 := Nat.eq_of_beq_eq_true hc4
      have hx9 := Nat.eq_of_beq_eq_true hx9
      subst hc4 hx9
      split at h
      · cases h
      · rename_i hin
        cases h
        exact mv_size hP hS hb0 hcw (fun hz => hM _ _ _ _ _ _ _ _ _ _ _ _ _ _ _ _ _ _ _ _ _ _ _ _ _ _ _ _ _ S' ⟨hK, hN, hA, hXs, hbb⟩ hd hP hS hb0 hz (fun g => hin (Or.inl (Or.inl g))) (fun g => hin (Or.inl (Or.inr g))) (Nat.not_le.mp fun g => hin (Or.inr (Or.inl g))) (Nat.not_le.mp fun g => hin (Or.inr (Or.inr g))) hc hk kk)
    · cases h
  · cases h
end MV3
end
section
theorem mv_prog_ok : ∀ M ∈ mv_prog, M.2.1.cls = mv_nm M.1 ∧ (M.2.1.cls ≠ "java/lang/invoke/MethodHandle" ∧ M.2.1.cls ≠ "java/lang/invoke/VarHandle" ∧ (parseMethodDescriptor M.2.1.desc).map (fun d => d.parameters.length) = some M.2.2.2.2.2.2) ∧ M.1 < 10 ∧ M.2.2.2.1 ≤ 20 ∧ plainName M.2.1.cls = true ∧ (M.2.2.2.2.2.1 = 2 → M.2.1.name = "<init>" ∧ M.2.2.2.2.1 = none) := by decide +kernel
theorem mv_nest_ok : ∀ q ∈ mv_nest, ∀ M, mv_prog[q.2.2]? = some M → ¬ M.2.2.2.2.2.1 = 1 := by
  have h : ∀ q ∈ mv_nest, (match mv_prog[q.2.2]? with | some M => !(Nat.beq M.2.2.2.2.2.1 1) | none => true) = true := by decide +kernel
  intro q hq M hM e
  have := h q hq
  rw [hM] at this
  dsimp only at this
  rw [e] at this
  cases this
def mv_ws (M : mv_T) : List Cond := .code M.2.1 M.2.2.1 M.2.2.2.1 M.2.2.2.2.1 :: mv_Ts
def mv_rm (d mc ms : Nat) : Room := { frames := d, cells := mc, slots := ms, locals := d * 40 }
theorem mv_in_code {M : mv_T} (h : M ∈ mv_prog) : Cond.code M.2.1 M.2.2.1 M.2.2.2.1 M.2.2.2.2.1 ∈ mv_Ts := by
  unfold mv_Ts
  simp only [List.mem_append]
  exact Or.inr (Or.inr (Or.inl (List.mem_map.mpr ⟨M, h, rfl⟩)))
theorem mv_in_kw {M : mv_T} (h : M ∈ mv_prog) {w : Cond} (hw : w ∈ mv_kw M) : w ∈ mv_Ts := by
  unfold mv_Ts
  simp only [List.mem_append]
  exact Or.inr (Or.inr (Or.inr (Or.inl (List.mem_flatMap.mpr ⟨M, h, hw⟩))))
theorem mv_in_mth {f : Nat × Nat × Nat} (h : f ∈ mv_mths) : Cond.methodLink (mv_nm f.1) f.2.1 (mv_y f.2.2) ∈ mv_Ts := by
  unfold mv_Ts
  simp only [List.mem_append]
  exact Or.inr (Or.inl (List.mem_map.mpr ⟨f, h, rfl⟩))
theorem mv_good {ws : List Cond} (h : ∀ w ∈ ws, w ∈ mv_Ts) : GoodIn mv_Ts ws := fun w hw => ⟨h w hw, good_of_word (List.all_eq_true.mp mv_ok w (h w hw))⟩
theorem mv_good_ws {M : mv_T} (h : M ∈ mv_prog) : ∀ w ∈ mv_ws M, w ∈ mv_Ts := fun w hw => by
  rcases List.mem_cons.mp hw with e | e
  · rw [e]; exact mv_in_code h
  · exact e
theorem mv_y_eq {j : Nat} {M : mv_T} (h : mv_prog[j]? = some M) : mv_y j = M.2.1 := by simp [mv_y, h]
theorem mv_Ao.moved {u U : State} (hvm : u.vm.Alike U.vm) (h : mv_Ao u) : mv_Ao U := by
  obtain ⟨comp, c, k, h1, h2, h3, h4, h5⟩ := arrayOverA_spec h
  obtain ⟨k', hk', he⟩ := hvm.2.2 _ _ h3
  have e1 := va_idx_bare U.vm comp
  have e2 := va_idx_bare u.vm comp
  have e3 : U.vm.bare = u.vm.bare := by first | exact hvm.bare_eq | exact hvm.bare_eq.symm
  rw [e3] at e1
  have hi := (e1.symm.trans e2).trans h2
  have hkind : k'.kind = .array comp (.array .int) := by rw [he]; exact h4
  have f1 : U.vm.findClass (FieldType.array .int).toString = some comp := by rw [hvm.findClass]; exact h1
  have f2 : U.vm.findClass ("[" ++ (FieldType.array .int).toString) = some c := by rw [hvm.findClass]; exact h5
  unfold mv_Ao Cond.before Cond.holds
  simp only [Cond.value]
  rw [f1, Option.bind_some]
  refine (congrArg (fun o : Option Nat => (o.bind (fun c => (U.vm.classes[c]?).map fun (k : Class) => match k.kind with | .array _ ty => decide (ty = FieldType.array .int) && decide (U.vm.findClass ("[" ++ (FieldType.array .int).toString) = some c) | _ => false) == some true)) hi).trans ?_
  simp [hk', hkind, f2]
def mv_Pre (D : va_G) (base b Ls : Nat) (xs : Nat → Int32) (cA : Nat → ClassId) (w : mv_W) (U : State) : Prop := va_P D vwCl (mv_tw base b cA w) U.heap ∧ U.heap.size = base + w.length ∧ mv_X D base b Ls xs cA U
def mv_Qc (D : va_G) (base b : Nat) (cA : Nat → ClassId) (r : Option Value) (w : mv_W) : Array Value → State → Outcome → State → Prop := fun _ st o t => o = .returned (r.map (mv_tv base b)) ∧ va_P D vwCl (mv_tw base b cA w) t.heap ∧ va_F (fun q => base ≤ q) st t
def mv_Con (l : Launch) (D : va_G) (base b Ls : Nat) (xs : Nat → Int32) (cA : Nat → ClassId) (d : Nat) (M : mv_T) (as : List Value) (w : mv_W) (r : Option Value) (w' : mv_W) (mc ms : Nat) : Prop :=
  Met l M.2.1 (mv_ws M) (mv_rm d mc ms) (va_Pc (as.map (mv_tv base b)) (mv_Pre D base b Ls xs cA w)) (mv_Qc D base b cA r w') mc ms (fun q => base ≤ q)
def mv_Ok (l : Launch) (D : va_G) (base b Ls : Nat) (xs : Nat → Int32) (cA : Nat → ClassId) (d : Nat) (call : mv_C) : Prop := ∀ (j : Nat) (as : List Value) (w : mv_W) (r : Option Value) (w' : mv_W) (mc ms : Nat) (M : mv_T), mv_prog[j]? = some M → call j as w = some (r, w', mc, ms) → mv_Con l D base b Ls xs cA d M as w r w' mc ms
theorem mv_X.moved {D : va_G} {base b Ls : Nat} {xs : Nat → Int32} {cA : Nat → ClassId} {u U : State} (hw : u.WarmedH U.vm) (hk : U.heap[b]? = u.heap[b]?) (h : mv_X D base b Ls xs cA u) : mv_X D base b Ls xs cA U := by
  obtain ⟨h1, h2, h3, h4, h5⟩ := h
  exact ⟨va_K.moved hw.alike h1, fun q hq => va_Nw.warmM hw (h2 q hq), mv_Ao.moved hw.alike h3, (h4.moved hw.alike).kept hk, h5⟩
theorem mv_blind {D : va_G} {base b Ls : Nat} {xs : Nat → Int32} {cA : Nat → ClassId} {w : mv_W} {av : List Value} : FrameBlind (va_Pc av (mv_Pre D base b Ls xs cA w)) := by
  intro a U g mk q
  obtain ⟨q0, q1, q2, q3, q4, q5, q6, q7⟩ := q
  exact ⟨q0, q1, q2, va_K.moved (u := U) (U := U.calling g mk a) (Vm.Alike.refl U.vm) q3, fun q hq => va_Nw.same rfl (u := U) rfl (q4 q hq), mv_Ao.moved (u := U) (U := U.calling g mk a) (Vm.Alike.refl U.vm) q5, q6.moved (u := U) (U := U.calling g mk a) (Vm.Alike.refl U.vm), q7⟩
section MV4
variable {p : Program} {l : Launch} {e : Env} {R : Room} {s : State} {m : MethodId} {args : Array Value} {below : List Frame} {meth : Method} {c : Code} {H : Heap} {locs : List Loc} {cells slots : Nat} {Q : State → Prop} {cc : ByteArray} {pc : Nat} {ls : Array Slot} {base b : Nat} {D : va_G} {cA : Nat → ClassId} {xs : Nat → Int32} {Ls nL cls : Nat}
theorem mv_go {mc ms : Nat} {st0 rest : List Value} {r : Option Value} {w' : mv_W} {a : Array Value} (hr : va_Run p l e R s m args below meth c H locs cells slots mc ms (F0 m pc ls st0) rest (mv_Qc D base b cA r w' a) (fun q => base ≤ q)) (hS : va_S (fun q => base ≤ q) s.heap H locs)
    (kk : ∀ (H1 : Heap) (locs1 : List Loc), va_P D vwCl (mv_tw base b cA w') H1 → va_S (fun q => base ≤ q) s.heap H1 locs1 → W p l e R s m args below meth c H1 locs1 (cells + mc) (slots + ms) Q (F0 m (pc + 3) ls ((r.map (mv_tv base b)).toList ++ rest))) : W p l e R s m args below meth c H locs cells slots Q (F0 m pc ls st0) := by
  intro T hT X
  obtain ⟨v, st₀, t, T', L, h0, X', hL, e1, e2, ⟨hv, hP', hz, hk⟩, st⟩ := hr T hT X
  have hv : v = r.map (mv_tv base b) := by cases hv; rfl
  subst hv
  rw [h0] at hz hk
  obtain ⟨t2, a1, b1⟩ := kk T'.heap (locs ++ L) (by rw [e1]; exact hP')
    ⟨Nat.le_trans hS.1 (by rw [e1]; exact hz), fun q h1 h2 => by rw [e1, hk q (Nat.lt_of_lt_of_le h1 hS.1) h2]; exact hS.2.1 q h1 h2, fun q hq => by
      rcases List.mem_append.mp hq with h | h
      · exact hS.2.2 q h
      · exact hL q h⟩ T' rfl X'
  exact ⟨t2, st t2 a1, b1⟩
theorem mv_PreU {w : mv_W} (hX : mv_X D base b Ls xs cA s) (hb0 : base ≤ s.heap.size) (hP : va_P D vwCl (mv_tw base b cA w) H) (hS : va_S (fun q => base ≤ q) s.heap H locs) (hz : H.size = base + w.length) : ∀ U : State, U.heap = H → s.WarmedH U.vm → mv_Pre D base b Ls xs cA w U := by
  intro U hU hW
  have hbb := hX.2.2.2.2
  refine ⟨by rw [hU]; exact hP, by rw [hU]; exact hz, hX.moved hW ?_⟩
  rw [hU]
  exact hS.2.1 b (by omega) (by omega)
theorem mv_out_ok {rest st' : List Value} {o : Option mv_R} {w' : mv_W} {dc dk : Nat} (h : mv_out rest o = some (st', w', dc, dk)) : ∃ v, o = some (v, w', dc, dk) ∧ (rest.map fun v => v.category).sum ≤ 8 ∧ st' = v.toList ++ rest := by
  unfold mv_out at h
  split at h
  · split at h
    · rename_i hb
      cases h
      exact ⟨_, rfl, Nat.le_of_ble_eq_true hb, rfl⟩
    · cases h
  · cases h
theorem mv_catsum (rest : List Value) : ((rest.map (mv_tv base b)).map fun v => v.category).sum = (rest.map fun v => v.category).sum := by
  rw [List.map_map]
  congr 1
  apply List.map_congr_left
  intro v _
  exact mv_tv_cat base b v
theorem mv_lnk_ok {d : Nat} (S : CallFix p m c cc nL s args mv_Ts (mv_nm cls)) (hX : mv_X D base b Ls xs cA s) (hb0 : base ≤ s.heap.size) (hR : d + 1 ≤ R.frames ∧ (d + 1) * 40 ≤ R.locals) (hls : ls.size = nL) {call : mv_C} (hcall : mv_Ok l D base b Ls xs cA d call) {kd x dc dk : Nat} {st st' : List Value} {w w' : mv_W}
    (h : mv_lnk kd call cls x st w = some (st', w', dc, dk)) (hP : va_P D vwCl (mv_tw base b cA w) H) (hS : va_S (fun q => base ≤ q) s.heap H locs) (hz : H.size = base + w.length) (hf : cells + dc ≤ R.cells ∧ slots + dk ≤ R.slots)
    (hd : (kd = 1 ∧ decode cc pc = .ok (.invokevirtual x, 3)) ∨ (kd = 0 ∧ decode cc pc = .ok (.invokestatic x, 3)) ∨ (kd = 2 ∧ decode cc pc = .ok (.invokespecial x, 3)))
    (kk : ∀ (H' : Heap) (locs' : List Loc), va_P D vwCl (mv_tw base b cA w') H' → va_S (fun q => base ≤ q) s.heap H' locs' → W p l e R s m args below meth c H' locs' (cells + dc) (slots + dk) Q (F0 m (pc + 3) ls (st'.map (mv_tv base b)))) :
    W p l e R s m args below meth c H locs cells slots Q (F0 m pc ls (st.map (mv_tv base b))) := by
  have S' := S
  obtain ⟨hx, hb, hml, hown, hts⟩ := S
  unfold mv_lnk at h
  split at h
  · rename_i j hj
    split at h
    · rename_i M hM
      have hmem : M ∈ mv_prog := List.mem_of_getElem? hM
      obtain ⟨m1, m2, m3, m4, m5, m6⟩ := mv_prog_ok M hmem
      have hy := mv_y_eq hM
      have hroom : (mv_rm d dc dk).frames + 1 ≤ R.frames ∧ 8 + (M.2.2.2.1 + 11) + (mv_rm d dc dk).locals ≤ R.locals := ⟨hR.1, by show 8 + (M.2.2.2.1 + 11) + d * 40 ≤ R.locals; have := hR.2; omega⟩
      have hini : (Cond.initialized M.2.1.cls).before args s = true := by rw [m1]; exact hts _ (mv_in_init m3)
      -- the link: plain, or of a nest mate
      have hlink : Cond.methodLink (mv_nm cls) x M.2.1 ∈ mv_Ts ∨ ((cls, x, j) ∈ mv_nest ∧ va_Nw (.methodLinkNest (mv_nm cls) x M.2.1 "BagTrees") s) := by
        split at hj
        · rename_i j' hj'
          cases hj
          have := mv_in_mth (mv_l2_mem hj')
          dsimp only at this
          rw [hy] at this
          exact Or.inl this
        · have h2 := mv_l2_mem hj
          have h3 := hX.2.1 _ h2
          dsimp only at h3
          rw [hy] at h3
          exact Or.inr ⟨h2, h3⟩
      split at h
      · rename_i hkd
        have hkd := Nat.eq_of_beq_eq_true hkd
        unfold mv_do at h
        split at h
        · cases h
        · rename_i hlenb
          have hlen := Nat.eq_of_beq_eq_true hlenb
          clear hlenb
          have hsplit : st = st.take M.2.2.2.2.2.2 ++ st.drop M.2.2.2.2.2.2 := (List.take_append_drop _ _).symm
          generalize hna : M.2.2.2.2.2.2 = na at h hlen hsplit m2
          generalize hT : st.take na = tk at h hlen hsplit
          generalize hDr : st.drop na = dr at h hsplit
          subst hsplit
          split at h
          · -- static
            rename_i dr k1 k0 hk0
            obtain ⟨v, h1, h2, rfl⟩ := mv_out_ok h
            have hC := hcall _ _ _ _ _ _ _ M hM h1
            have hkd0 : kd = 0 := by omega
            have hd0 : decode cc pc = .ok (.invokestatic x, 3) := by rcases hd with g | g | g <;> first | exact g.2 | (have := g.1; omega)
            have hst : Cond.static M.2.1 ∈ mv_Ts := mv_in_kw hmem (by unfold mv_kw; rw [hk0]; exact List.mem_cons_self)
            have hp : PreS s H (va_Pc (tk.reverse.map (mv_tv base b)) (mv_Pre D base b Ls xs cA w)) (tk.reverse.map (mv_tv base b)) := ⟨mv_blind, fun U hU hW => ⟨rfl, mv_PreU hX hb0 hP hS hz U hU hW⟩⟩
            have hstk : (F0 m pc ls ((tk ++ dr).map (mv_tv base b))).stack = (tk.reverse.map (mv_tv base b)).reverse ++ dr.map (mv_tv base b) := by
              show (tk ++ dr).map (mv_tv base b) = _
              rw [List.map_append, List.map_reverse, List.reverse_reverse]
            have hrm : 2 * (F0 m pc ls ((tk ++ dr).map (mv_tv base b))).monitorRoom + ((dr.map (mv_tv base b)).map fun v => v.category).sum ≤ 8 := by
              rw [mv_catsum]; show 2 * 0 + _ ≤ 8; omega
            have hln : (tk.reverse.map (mv_tv base b)).length = na := by simp [hlen]
            have kk2 : ∀ (H1 : Heap) (locs1 : List Loc), va_P D vwCl (mv_tw base b cA w') H1 → va_S (fun q => base ≤ q) s.heap H1 locs1 → W p l e R s m args below meth c H1 locs1 (cells + dc) (slots + dk) Q (F0 m (pc + 3) ls ((v.map (mv_tv base b)).toList ++ dr.map (mv_tv base b))) := fun H1 locs1 a1 a2 => by
              have := kk H1 locs1 a1 a2
              rw [List.map_append] at this
              cases v <;> exact this
            rcases hlink with hl | ⟨-, hl⟩
            · exact mv_go (va_runS S' hC (va_cwS na hts (mv_good (fun w hw => by
                rcases List.mem_append.mp hw with g | g
                · simp only [List.mem_cons, List.not_mem_nil, or_false] at g
                  rcases g with g | g | g
                  · rw [g]; exact hl
                  · rw [g]; exact hst
                  · rw [g, m1]; exact mv_in_init m3
                · exact mv_good_ws hmem w g)) rfl rfl rfl m2 hroom) hp rfl hln hls hstk hrm hd0 hf) hS kk2
            · exact mv_go (va_runSN S' hC ⟨va_cnB na hts (mv_good (mv_good_ws hmem)) rfl rfl rfl hl hini m2 hroom, hts _ hst, trivial⟩ hp rfl hln hls hstk hrm hd0 hf) hS kk2
          · -- on an object
            rename_i k0 a0 rest hk0
            split at h
            · rename_i c' fs hw
              split at h
              · rename_i hcc
                have hcc := Nat.eq_of_beq_eq_true hcc
                subst hcc
                obtain ⟨v, h1, h2, rfl⟩ := mv_out_ok h
                have hC := hcall _ _ _ _ _ _ _ M hM h1
                have hkd1 : kd = 1 := by omega
                have hd1 : decode cc pc = .ok (.invokevirtual x, 3) := by rcases hd with g | g | g <;> first | exact g.2 | (have := g.1; omega)
                have hin : Cond.instanceMethod M.2.1 ∈ mv_Ts := mv_in_kw hmem (by unfold mv_kw; rw [hk0]; exact List.mem_cons_self)
                have hse : Cond.selects (mv_nm M.1) M.2.1 M.2.1 ∈ mv_Ts := mv_in_kw hmem (by unfold mv_kw; rw [hk0]; exact List.mem_cons_of_mem _ List.mem_cons_self)
                have hc7 : M.1 < 7 := by
                  obtain ⟨r9, h9, -⟩ := hP _ _ (mv_tw_get hw)
                  have := (List.getElem?_eq_some_iff.mp h9).1
                  exact this
                obtain ⟨c1, c2, c3, c4, c5⟩ := mv_cls_ok M.1 hc7
                have hrc := va_recv hX.1 hP c1 (mv_tw_get hw)
                rw [c2] at hrc
                have hp : PreV s H (mv_nm M.1) (base + a0) (va_Pc ((.ref a0 :: tk.reverse).map (mv_tv base b)) (mv_Pre D base b Ls xs cA w)) (tk.reverse.map (mv_tv base b)) := ⟨mv_blind, hrc, fun U hU hW => ⟨rfl, mv_PreU hX hb0 hP hS hz U hU hW⟩⟩
                have hstk : (F0 m pc ls ((tk ++ .ref a0 :: rest).map (mv_tv base b))).stack = (tk.reverse.map (mv_tv base b)).reverse ++ .ref (base + a0) :: rest.map (mv_tv base b) := by
                  show (tk ++ .ref a0 :: rest).map (mv_tv base b) = _
                  rw [List.map_append, List.map_reverse, List.reverse_reverse]
                  rfl
                have hrm : 2 * (F0 m pc ls ((tk ++ .ref a0 :: rest).map (mv_tv base b))).monitorRoom + ((rest.map (mv_tv base b)).map fun v => v.category).sum ≤ 8 := by
                  rw [mv_catsum]; show 2 * 0 + _ ≤ 8; omega
                have hln : (tk.reverse.map (mv_tv base b)).length = na := by simp [hlen]
                have kk2 : ∀ (H1 : Heap) (locs1 : List Loc), va_P D vwCl (mv_tw base b cA w') H1 → va_S (fun q => base ≤ q) s.heap H1 locs1 → W p l e R s m args below meth c H1 locs1 (cells + dc) (slots + dk) Q (F0 m (pc + 3) ls ((v.map (mv_tv base b)).toList ++ rest.map (mv_tv base b))) := fun H1 locs1 a1 a2 => by
                  have := kk H1 locs1 a1 a2
                  rw [List.map_append] at this
                  cases v <;> exact this
                rcases hlink with hl | ⟨hl, -⟩
                · exact mv_go (va_runV S' hC (cwV na hts (mv_good (fun w hw => by
                    rcases List.mem_append.mp hw with g | g
                    · simp only [List.mem_cons, List.not_mem_nil, or_false] at g
                      rcases g with g | g | g | g
                      · rw [g]; exact hl
                      · rw [g]; exact hin
                      · rw [g]; exact hse
                      · rw [g]; exact mv_in_init m3
                    · exact mv_good_ws hmem w g)) rfl rfl rfl ⟨m1, m2⟩ hroom) hp rfl hln hls hstk hrm hd1 hf) hS kk2
                · exact absurd hk0 (mv_nest_ok _ hl M hM)
              · cases h
            · cases h
          · -- a constructor
            rename_i k0 a0 rest hk0
            obtain ⟨v, h1, h2, rfl⟩ := mv_out_ok h
            have hC := hcall _ _ _ _ _ _ _ M hM h1
            have hkd2 : kd = 2 := by omega
            have hd2 : decode cc pc = .ok (.invokespecial x, 3) := by rcases hd with g | g | g <;> first | exact g.2 | (have := g.1; omega)
            have hin : Cond.instanceMethod M.2.1 ∈ mv_Ts := mv_in_kw hmem (by unfold mv_kw; rw [hk0]; exact List.mem_cons_self)
            obtain ⟨m7, m8⟩ := m6 hk0
            have hp : PreS s H (va_Pc ((.ref a0 :: tk.reverse).map (mv_tv base b)) (mv_Pre D base b Ls xs cA w)) (.ref (base + a0) :: tk.reverse.map (mv_tv base b)) := ⟨mv_blind, fun U hU hW => ⟨rfl, mv_PreU hX hb0 hP hS hz U hU hW⟩⟩
            have hstk : (F0 m pc ls ((tk ++ .ref a0 :: rest).map (mv_tv base b))).stack = (tk.reverse.map (mv_tv base b)).reverse ++ .ref (base + a0) :: rest.map (mv_tv base b) := by
              show (tk ++ .ref a0 :: rest).map (mv_tv base b) = _
              rw [List.map_append, List.map_reverse, List.reverse_reverse]
              rfl
            have hrm : 2 * (F0 m pc ls ((tk ++ .ref a0 :: rest).map (mv_tv base b))).monitorRoom + ((rest.map (mv_tv base b)).map fun v => v.category).sum ≤ 8 := by
              rw [mv_catsum]; show 2 * 0 + _ ≤ 8; omega
            have hln : (tk.reverse.map (mv_tv base b)).length = na := by simp [hlen]
            have kk2 : ∀ (H1 : Heap) (locs1 : List Loc), va_P D vwCl (mv_tw base b cA w') H1 → va_S (fun q => base ≤ q) s.heap H1 locs1 → W p l e R s m args below meth c H1 locs1 (cells + dc) (slots + dk) Q (F0 m (pc + 3) ls ((v.map (mv_tv base b)).toList ++ rest.map (mv_tv base b))) := fun H1 locs1 a1 a2 => by
              have := kk H1 locs1 a1 a2
              rw [List.map_append] at this
              cases v <;> exact this
            have hws : mv_ws M = Cond.code M.2.1 M.2.2.1 M.2.2.2.1 none :: mv_Ts := by unfold mv_ws; rw [m8]
            rcases hlink with hl | ⟨-, hl⟩
            · exact mv_go (va_runI S' hC (cwI na hts (mv_good (mv_good_ws hmem)) hws rfl rfl hini (hts _ hl) (hts _ hin) m7 m2 hroom) hp rfl hln hls hstk hrm hd2 hf) hS kk2
            · exact mv_go (va_runIN S' hC ⟨va_cnB na hts (mv_good (mv_good_ws hmem)) hws rfl rfl hl hini m2 hroom, m7, hts _ hin⟩ hp rfl hln hls hstk hrm hd2 hf) hS kk2
          · cases h
      · cases h
    · cases h
  · cases h
end MV4
end
section
/-! how many cells are new -/
def mv_Cn (call : mv_C) : Prop := ∀ (j : Nat) (as : List Value) (w : mv_W) (r : Option Value) (w' : mv_W) (mc ms : Nat), call j as w = some (r, w', mc, ms) → w'.length = w.length + mc
theorem mv_put_cnt {cls : Nat} {ini : Bool} {ci k a dc dk : Nat} {v : Value} {fs r st' : List Value} {w w' : mv_W} (h : mv_put cls ini ci k a v fs r w = some (st', w', dc, dk)) : w'.length = w.length + dc := by
  unfold mv_put at h
  repeat' split at h
  all_goals first | (cases h; simp) | cases h
set_option maxHeartbeats 1000000 in
theorem mv_heap_cnt {cls : Nat} {ini : Bool} {xs : Nat → Int32} {Ls : Nat} {i : Instr} {n dc dk : Nat} {st st' : List Value} {w w' : mv_W} (h : mv_heap cls ini xs Ls i n st w = some (st', w', dc, dk)) : w'.length = w.length + dc := by
  unfold mv_heap at h
  repeat' split at h
  all_goals first | (cases h; done) | (exact mv_put_cnt h) | (cases h; simp; done) | (cases h; simp; omega)
theorem mv_lnk_cnt {call : mv_C} (hc : mv_Cn call) {kd cls x dc dk : Nat} {st st' : List Value} {w w' : mv_W} (h : mv_lnk kd call cls x st w = some (st', w', dc, dk)) : w'.length = w.length + dc := by
  unfold mv_lnk at h
  split at h
  · split at h
    · split at h
      · unfold mv_do at h
        repeat' split at h
        all_goals first | (cases h; done) | (obtain ⟨v, h1, -, -⟩ := mv_out_ok h; exact hc _ _ _ _ _ _ _ h1)
      · cases h
    · cases h
  · cases h
theorem mv_inv_cnt {call : mv_C} (hc : mv_Cn call) {cls : Nat} {i : Instr} {n dc dk : Nat} {st st' : List Value} {w w' : mv_W} (h : mv_inv cls call i n st w = some (st', w', dc, dk)) : w'.length = w.length + dc := by
  unfold mv_inv at h
  split at h
  · exact mv_lnk_cnt hc h
  · exact mv_lnk_cnt hc h
  · split at h
    · split at h
      · cases h; simp
      · cases h
    · cases h
    · exact mv_lnk_cnt hc h
  · cases h
theorem mv_step_cnt {call : mv_C} (hc : mv_Cn call) {cls : Nat} {ini : Bool} {ret : Option FieldType} {xs : Nat → Int32} {Ls : Nat} {i : Instr} {n : Nat} {s s' : mv_F} (h : mv_step cls ini ret xs Ls call i n s = some (.inl s')) : s'.2.2.2.1.length + s.2.2.2.2.1 = s.2.2.2.1.length + s'.2.2.2.2.1 ∧ s.2.2.2.2.1 ≤ s'.2.2.2.2.1 ∧ s.2.2.2.2.2 ≤ s'.2.2.2.2.2 := by
  obtain ⟨pc, L, st, w, c, k⟩ := s
  unfold mv_step at h
  split at h
  · rename_i s2 h2
    cases h
    unfold mv_one at h2
    dsimp only at h2
    split at h2
    · cases h2; exact ⟨rfl, Nat.le_refl _, Nat.le_refl _⟩
    · split at h2
      · cases h2; exact ⟨rfl, Nat.le_refl _, Nat.le_refl _⟩
      · split at h2
        · cases h2; exact ⟨rfl, Nat.le_refl _, Nat.le_refl _⟩
        · split at h2
          · rename_i hh
            have := mv_heap_cnt hh
            cases h2
            dsimp only
            omega
          · cases h2
  · dsimp only at h
    split at h
    · rename_i hh
      have := mv_inv_cnt hc hh
      cases h
      dsimp only
      omega
    · split at h
      · cases h
      · cases h
theorem mv_step_ret {call : mv_C} {cls : Nat} {ini : Bool} {ret : Option FieldType} {xs : Nat → Int32} {Ls : Nat} {i : Instr} {n : Nat} {s : mv_F} {r : mv_R} (h : mv_step cls ini ret xs Ls call i n s = some (.inr r)) : mv_ret ret i n s.2.2.1 = some r.1 ∧ r.2 = s.2.2.2 := by
  obtain ⟨pc, L, st, w, c, k⟩ := s
  unfold mv_step at h
  split at h
  · cases h
  · dsimp only at h
    split at h
    · cases h
    · split at h
      · rename_i hh
        cases h
        exact ⟨hh, rfl⟩
      · cases h
theorem mv_run_cnt {call : mv_C} (hc : mv_Cn call) {cls : Nat} {ini : Bool} {ret : Option FieldType} {xs : Nat → Int32} {Ls : Nat} {code : List (Nat × Instr × Nat)} : ∀ (n : Nat) (s : mv_F) (r : mv_R), mv_run cls ini ret xs Ls call code n s = some r → r.2.1.length + s.2.2.2.2.1 = s.2.2.2.1.length + r.2.2.1 ∧ s.2.2.2.2.1 ≤ r.2.2.1 ∧ s.2.2.2.2.2 ≤ r.2.2.2
  | 0, s, r, h => by cases h
  | n + 1, s, r, h => by
    unfold mv_run at h
    split at h
    · cases h
    · split at h
      · rename_i s' hs
        have h1 := mv_step_cnt hc hs
        have h2 := mv_run_cnt hc n s' r h
        omega
      · rename_i r' hs
        cases h
        obtain ⟨-, h2⟩ := mv_step_ret hs
        rw [h2]
        exact ⟨rfl, Nat.le_refl _, Nat.le_refl _⟩
      · cases h
theorem mv_call_cnt (xs : Nat → Int32) (Ls N : Nat) : ∀ d, mv_Cn (mv_call xs Ls N d)
  | 0 => fun _ _ _ _ _ _ _ h => by cases h
  | d + 1 => fun j as w r w' mc ms h => by
    unfold mv_call at h
    split at h
    · cases h
    · split at h
      · have := mv_run_cnt (mv_call_cnt xs Ls N d) _ _ _ h
        dsimp only at this
        omega
      · cases h
theorem mv_ret_len {ret : Option FieldType} {i : Instr} {n : Nat} {st : List Value} {r : Option Value} (h : mv_ret ret i n st = some r) : n = 1 := by
  unfold mv_ret at h
  split at h
  · rfl
  · rfl
  · rfl
  · rfl
  · cases h
/-! THE SMALL MACHINE'S RUN IS THE REAL ONE -/
section MV5
variable {p : Program} {l : Launch} {e : Env} {R : Room} {s : State} {m : MethodId} {args : Array Value} {below : List Frame} {meth : Method} {c : Code} {Q : State → Prop} {cc : ByteArray} {base b : Nat} {D : va_G} {cA : Nat → ClassId} {xs : Nat → Int32} {Ls nL cls : Nat} {ini : Bool}
theorem mv_run_ok {d : Nat} (hM : mv_MnaOk) (S : CallFix p m c cc nL s args mv_Ts (mv_nm cls)) (hini : ini = true → meth.name = "<init>") (hX : mv_X D base b Ls xs cA s) (hb0 : base ≤ s.heap.size) (hR : d + 1 ≤ R.frames ∧ (d + 1) * 40 ≤ R.locals) {call : mv_C} (hcall : mv_Ok l D base b Ls xs cA d call) (hcn : mv_Cn call)
    {code : List (Nat × Instr × Nat)} (hcode : ∀ q ∈ code, decode cc q.1 = .ok (q.2.1, q.2.2)) {ret : Option FieldType} {r : Option Value} {w1 : mv_W} {c1 k1 : Nat} (hc1 : c1 ≤ R.cells) (hk1 : k1 ≤ R.slots)
    (fin : ∀ (pc : Nat) (ls : Array Slot) (H : Heap) (locs : List Loc) (i : Instr) (st : List Value), decode cc pc = .ok (i, 1) → mv_ret ret i 1 st = some r → va_P D vwCl (mv_tw base b cA w1) H → va_S (fun q => base ≤ q) s.heap H locs → W p l e R s m args below meth c H locs c1 k1 Q (F0 m pc ls (st.map (mv_tv base b)))) :
    ∀ (n pc : Nat) (L st : List Value) (w : mv_W) (cs ks : Nat), mv_run cls ini ret xs Ls call code n (pc, L, st, w, cs, ks) = some (r, w1, c1, k1) → ∀ (H : Heap) (locs : List Loc) (ls : Array Slot), mv_ls base b nL ls L → va_P D vwCl (mv_tw base b cA w) H → va_S (fun q => base ≤ q) s.heap H locs → s.heap.size + cs = base + w.length → W p l e R s m args below meth c H locs cs ks Q (F0 m pc ls (st.map (mv_tv base b)))
  | 0, pc, L, st, w, cs, ks, h => by cases h
  | n + 1, pc, L, st, w, cs, ks, h => by
    intro H locs ls hl hP hS hcw
    have hx := S.1
    have hb := S.2.1
    unfold mv_run at h
    split at h
    · cases h
    · rename_i i len hg
      have hm9 : (pc, i, len) ∈ code := mv_get_mem hg
      have hd : decode cc pc = .ok (i, len) := hcode (pc, i, len) hm9
      split at h
      · rename_i s' hs
        have ih := mv_run_ok hM S hini hX hb0 hR hcall hcn hcode hc1 hk1 fin n s'.1 s'.2.1 s'.2.2.1 s'.2.2.2.1 s'.2.2.2.2.1 s'.2.2.2.2.2 h
        obtain ⟨k1', k2', k3'⟩ := mv_step_cnt hcn hs
        obtain ⟨-, k4', k5'⟩ := mv_run_cnt hcn _ _ _ h
        dsimp only at k1' k2' k3' k4' k5'
        have hcw' : s.heap.size + s'.2.2.2.2.1 = base + s'.2.2.2.1.length := by omega
        unfold mv_step at hs
        split at hs
        · rename_i s2 h2
          cases hs
          unfold mv_one at h2
          dsimp only at h2
          split at h2
          · rename_i st' ha
            cases h2
            exact mv_alu_ok hx hb ha hd (ih H locs ls hl hP hS hcw')
          · split at h2
            · rename_i L' st' ha
              cases h2
              exact mv_loc_ok hx hb ha hd hl (fun ls' hl' => ih H locs ls' hl' hP hS hcw')
            · split at h2
              · rename_i pc' st' ha
                cases h2
                exact mv_br_ok hx hb ha hd (ih H locs ls hl hP hS hcw')
              · split at h2
                · rename_i st' w' dc dk ha
                  cases h2
                  dsimp only at k4' k5'
                  exact mv_heap_ok hM ⟨by omega, by omega⟩ hl.1.1 S hini hX hb0 ha hd hP hS hcw (by omega) (by omega) (fun H' locs' a1 a2 => ih H' locs' ls hl a1 a2 hcw')
                · cases h2
        · dsimp only at hs
          split at hs
          · rename_i st' w' dc dk ha
            cases hs
            dsimp only at k4' k5'
            unfold mv_inv at ha
            split at ha
            · exact mv_size hP hS hb0 hcw (fun hz => mv_lnk_ok S hX hb0 hR hl.1.1 hcall ha hP hS hz ⟨by omega, by omega⟩ (Or.inl ⟨rfl, hd⟩) (fun H' locs' a1 a2 => ih H' locs' ls hl a1 a2 hcw'))
            · exact mv_size hP hS hb0 hcw (fun hz => mv_lnk_ok S hX hb0 hR hl.1.1 hcall ha hP hS hz ⟨by omega, by omega⟩ (Or.inr (Or.inl ⟨rfl, hd⟩)) (fun H' locs' a1 a2 => ih H' locs' ls hl a1 a2 hcw'))
            · split at ha
              · rename_i hob hone
                split at ha
                · rename_i h8
                  cases ha
                  refine W.objInit hx hb S.2.2.2.1 (S.2.2.2.2 _ (mv_in_obj (mv_l1_mem hob))) (S.2.2.2.2 _ (mv_in_last (by simp))) (S.2.2.2.2 _ (by unfold mv_Ts; simp only [List.mem_append]; exact Or.inr (Or.inr (Or.inr (Or.inr (Or.inr (Or.inr (Or.inl List.mem_cons_self)))))))) rfl (by rw [S.2.2.1]; exact hl.1.1) rfl hd (by omega) ?_ ?_
                  · have h8 := Nat.le_of_ble_eq_true h8
                    rw [mv_catsum]
                    show 2 * 0 + _ + 12 ≤ R.locals
                    omega
                  · exact ih H locs ls hl hP hS hcw'
                · cases ha
              · cases ha
              · exact mv_size hP hS hb0 hcw (fun hz => mv_lnk_ok S hX hb0 hR hl.1.1 hcall ha hP hS hz ⟨by omega, by omega⟩ (Or.inr (Or.inr ⟨rfl, hd⟩)) (fun H' locs' a1 a2 => ih H' locs' ls hl a1 a2 hcw'))
            · cases ha
          · split at hs
            · cases hs
            · cases hs
      · rename_i r' hs
        cases h
        obtain ⟨h1, h2⟩ := mv_step_ret hs
        dsimp only at h1 h2
        have hl1 := mv_ret_len h1
        subst hl1
        cases h2
        exact fin pc ls H locs i st hd h1 hP hS
      · cases h
end MV5
end
section
theorem mv_sl_args {base b : Nat} : ∀ (as : List Value) (i j : Nat) (u : Value), (mv_sl as)[j]? = some u → u ≠ .retAddr 0 → (i + j, mv_tv base b u) ∈ lv_args i (as.map (mv_tv base b))
  | [], i, j, u, h, hu => by simp [mv_sl] at h
  | v :: r, i, j, u, h, hu => by
    by_cases hc : v.category = 2
    · have e : mv_sl (v :: r) = v :: .retAddr 0 :: mv_sl r := by cases v <;> first | rfl | exact absurd hc (by simp [Value.category])
      rw [e] at h
      simp only [List.map_cons, lv_args]
      rw [if_pos (by rw [mv_tv_cat]; exact hc)]
      match j, h with
      | 0, h => cases h; exact List.mem_cons_self
      | 1, h => cases h; exact absurd rfl hu
      | j + 2, h =>
        have := mv_sl_args (base := base) (b := b) r (i + 2) j u h hu
        rw [show i + (j + 2) = i + 2 + j by omega]
        exact List.mem_cons_of_mem _ this
    · have e : mv_sl (v :: r) = v :: mv_sl r := by cases v <;> first | rfl | exact absurd rfl hc
      rw [e] at h
      simp only [List.map_cons, lv_args]
      rw [if_neg (by rw [mv_tv_cat]; exact hc)]
      match j, h with
      | 0, h => cases h; exact List.mem_cons_self
      | j + 1, h =>
        have := mv_sl_args (base := base) (b := b) r (i + 1) j u h hu
        rw [show i + (j + 1) = i + 1 + j by omega]
        exact List.mem_cons_of_mem _ this
theorem mv_sl_len {base b : Nat} : ∀ (as : List Value), (lg_sl (as.map (mv_tv base b))).length = (mv_sl as).length
  | [] => rfl
  | v :: r => by
    have ih := mv_sl_len (base := base) (b := b) r
    by_cases hc : v.category = 2
    · have e : mv_sl (v :: r) = v :: .retAddr 0 :: mv_sl r := by cases v <;> first | rfl | exact absurd hc (by simp [Value.category])
      rw [e]
      simp only [lg_sl, List.map_cons, List.flatMap_cons, List.length_append, List.length_cons] at ih ⊢
      rw [if_pos (by rw [mv_tv_cat]; exact hc), ih]
      simp only [List.length_cons, List.length_nil]
      omega
    · have e : mv_sl (v :: r) = v :: mv_sl r := by cases v <;> first | rfl | exact absurd rfl hc
      rw [e]
      simp only [lg_sl, List.map_cons, List.flatMap_cons, List.length_append, List.length_cons] at ih ⊢
      rw [if_neg (by rw [mv_tv_cat]; exact hc), ih]
      simp only [List.length_cons, List.length_nil]
      omega
theorem mv_entry_ls {base b : Nat} (as : List Value) {n : Nat} (h : (mv_sl as).length ≤ n) : mv_ls base b n ((lg_sl (as.map (mv_tv base b)) ++ List.replicate (n - (lg_sl (as.map (mv_tv base b))).length) Slot.unset).toArray) (mv_loc0 as n) := by
  have h0 := lv_entry (as.map (mv_tv base b)) (n := n) (by rw [mv_sl_len]; exact h)
  refine ⟨⟨h0.1, h0.2.1, fun q hq => h0.2.2 q ?_⟩, by simp [mv_loc0]; omega⟩
  obtain ⟨v, h1, h2, h3⟩ := mv_pr_mem.mp hq
  unfold mv_loc0 at h1
  by_cases hj : q.1 < (mv_sl as).length
  · rw [List.getElem?_append_left hj] at h1
    have := mv_sl_args (base := base) (b := b) as 0 q.1 v h1 h2
    rw [Nat.zero_add, ← h3] at this
    exact this
  · rw [List.getElem?_append_right (by omega), List.getElem?_replicate] at h1
    split at h1
    · cases h1; exact absurd rfl h2
    · cases h1
set_option maxHeartbeats 1000000 in
/-- a call of the small machine that ends is a contract of the real method -/
theorem mv_call_ok (hM : mv_MnaOk) (l : Launch) (D : va_G) (base b Ls : Nat) (xs : Nat → Int32) (cA : Nat → ClassId) (N : Nat) : ∀ d, mv_Ok l D base b Ls xs cA d (mv_call xs Ls N d)
  | 0 => fun j as w r w' mc ms M hMj h => by cases h
  | d + 1 => fun j as w r w' mc ms M hMj h => by
    have ih := mv_call_ok hM l D base b Ls xs cA N d
    unfold mv_call at h
    rw [hMj] at h
    dsimp only at h
    split at h
    · rename_i hlen
      have hlen := Nat.le_of_ble_eq_true hlen
      obtain ⟨m1, m2, m3, m4, m5, m6⟩ := mv_prog_ok M (List.mem_of_getElem? hMj)
      unfold mv_Con
      refine Met.ofW (cc := M.2.2.1) (maxL := M.2.2.2.1) (ret := M.2.2.2.2.1) m5 rfl ?_
      intro p e s m args below meth c s₁ B hml hv
      obtain ⟨rfl, hP, hz, hX⟩ := hv
      have hts := atoms_spec (ws := mv_ws M) B.pre
      have hown : s.vm.findClass (mv_nm M.1) = some m.cls := by rw [← m1]; exact findClass_of_methodNamed B.named
      have hlocks := B.notSynchronized
      have hx := B.exec
      have hb := B.bytes
      have hr := B.returns
      rw [lg_entry_eq]
      refine mv_run_ok (R := mv_rm (d + 1) mc ms) (d := d) (nL := M.2.2.2.1) (cls := M.1) hM ⟨hx, hb, hml, hown, fun w hw => hts w (List.mem_cons_of_mem _ hw)⟩ ?_ hX (by omega) ⟨Nat.le_refl _, Nat.le_refl _⟩ ih (mv_call_cnt xs Ls N d) (mv_dec j M hMj) (Nat.le_refl _) (Nat.le_refl _) ?_ N 0 _ [] w 0 0 h s.heap [] _ (mv_entry_ls as hlen) hP va_S.rf (by omega)
      · intro hi
        rw [(name_of_methodNamed B.named B.method).1]
        exact (m6 (Nat.eq_of_beq_eq_true hi)).1
      · intro pc ls H locs i st hd hrt hP' hS'
        generalize hre : M.2.2.2.2.1 = ret at hrt
        rw [hre] at hr
        unfold mv_ret at hrt
        split at hrt
        · cases hrt
          exact W.iret hx hb hr (fun t ht hW => ⟨rfl, by rw [ht]; exact hP', hS'.F ht⟩) hS'.2.2 hd
        · split at hrt
          · rename_i h01
            cases hrt
            exact W.zret hx hb hr (by rcases h01 with g | g <;> (rw [g]; rfl)) (fun t ht hW => ⟨rfl, by rw [ht]; exact hP', hS'.F ht⟩) hS'.2.2 hd
          · cases hrt
        · cases hrt
          exact W.lret hx hb hr (fun t ht hW => ⟨rfl, by rw [ht]; exact hP', hS'.F ht⟩) hS'.2.2 hd
        · cases hrt
          exact W.vret hx hb hr (fun t ht hW => ⟨rfl, by rw [ht]; exact hP', hS'.F ht⟩) hS'.2.2 hd
        · cases hrt
    · cases h
end
section
/-! THE CLAIM OUT OF ONE WALK OF THE LAW'S BODY. Your part is whole_start (and what it stands on); all else here is the same for every law, but numbers. -/
def R_law : String := "BagTreesLaw"
def lw_P (b : Addr) (xs : List Int32) (args : Array Value) (s : State) : Prop := args = #[.ref b] ∧ s.IntsAt b xs ∧ xs.length ≤ 1536 ∧ (Jvm.Cond.and given_1 narrow_1).before args s = true
def lw_Q (_ : Array Value) (s : State) (o : Outcome) (t : State) : Prop := o = .returned (some (.int 1)) ∧ Framed s o t [] 600000 7302250
def lw_Z (below : List Frame) (a : Array Value) (s : State) : State → Prop := fun t => ∃ o, t.status = .running ∧ Ended t below o ∧ lw_Q a s o t
/-- the law's own end, with 1 on the stack, nothing written that was there before, its room as the claim has it -/
theorem lw_ret {p : Program} {l : Launch} {e : Env} {s : State} {m : MethodId} {below : List Frame} {meth : Method} {c : Code} {b : Nat} (hx : p.tables.exec = Jvm.exec) (hb : c.code = code) (hr : meth.sig.returnType = ret) (hlocks : meth.locks = false) {pc : Nat} {H : Heap} {ls : Array Slot} (hdg : decode code pc = .ok (.ireturn, 1)) : W p l e room_1 s m #[Value.ref b] below meth c H [] 600000 7302250 (lw_Z below #[Value.ref b] s) (F0 m pc ls [.int 1]) := by
  intro T hT X
  obtain ⟨fs, hret, hrun, hended, hW, hframe⟩ := X.leave (v := some (.int 1)) (hlocks := hlocks) (fun h => by rw [hr] at h; cases h)
  have hmeth' : T.vm.method? m = some meth := X.method'
  refine ⟨T.setFrames fs, ?_, .returned (some (.int 1)), hrun, hended, rfl, ⟨_, rfl⟩, hW, hframe⟩
  jvm_step X.here [X.here.top, hx, hb, hdg, hmeth', hr, ret, narrow_b1]
  (try refine ⟨rfl, ?_⟩); (try refine ⟨rfl, ?_⟩)
  first | (intro acts; rw [hret _ acts rfl rfl rfl]) | rw [hret _ _ rfl rfl rfl]
  exact Steps.refl _
/-- what holds at the law's entry: the machine, the code, the tables' words (any of lw_tbl by 'hts w (by decide +kernel)'), the script of L ints xs at the cell b, what the Statement gives of the start (any of its parts by flat_of_before) -/
def lw_At (p : Program) (s : State) (m : MethodId) (meth : Method) (c : Code) (b L : Nat) (xs : Nat → Int32) : Prop :=
  p.tables.exec = Jvm.exec ∧ c.code = code ∧ meth.sig.returnType = ret ∧ c.maxLocals = 4 ∧ s.vm.findClass R_law = some m.cls ∧ (∀ w ∈ lw_tbl, w.before #[Value.ref b] s = true) ∧ va_X b L xs s s.heap ∧ b < s.heap.size ∧ meth.locks = false ∧ (Jvm.Cond.and given_1 narrow_1).before #[Value.ref b] s = true
/-! THE CLAIM OUT OF THE SMALL MACHINE: what is left to prove is mv_Pure, of pure functions alone -/
def mv_Pure : Prop := ∀ (Ls : Nat) (xs : Nat → Int32), Ls ≤ 1536 → ∃ (N d c k : Nat) (w : mv_W), d ≤ 2000 ∧ c ≤ 600000 ∧ k ≤ 7302250 ∧ mv_run 7 false (some .boolean) xs Ls (mv_call xs Ls N d) mv_c138 N (0, mv_loc0 [.retAddr 1] 4, [], [], 0, 0) = some (some (.int 1), w, c, k)
theorem mv_nest_in : ∀ q ∈ mv_nest, Cond.methodLinkNest (mv_nm q.1) q.2.1 (mv_y q.2.2) "BagTrees" ∈ lw_tbl := by decide +kernel
theorem mv_over_in : Cond.arrayOver (.array .int) ∈ lw_tbl := by decide +kernel
theorem mv_start {s : State} {b Ls : Nat} {xs : Nat → Int32} (hts : ∀ w ∈ lw_tbl, w.before #[Value.ref b] s = true) (hX : va_X b Ls xs s s.heap) (hbl : b < s.heap.size) : ∃ (D : va_G) (cA : Nat → ClassId), mv_X D s.heap.size b Ls xs cA s := by
  have h7 : ∀ ci : Nat, ∃ (cC : ClassId) (iS : Nat → Nat), ∀ q, vwCl[ci]? = some q → u_Kn s q.1 q.2.1 q.2.2 cC iS := by
    intro ci
    by_cases h : ci < 7
    · obtain ⟨c1, c2, c3, c4, c5⟩ := mv_cls_ok ci h
      obtain ⟨cC, iS, hK⟩ := u_known (n := (mv_cl ci).2.2) hts (fun w hw => mv_in w (c3 w hw)) (by rw [c2]; exact hts _ (mv_in _ (mv_in_inst h)))
      refine ⟨cC, iS, fun q hq => ?_⟩
      have : q = mv_cl ci := Option.some.inj (hq.symm.trans c1)
      rw [this]
      exact hK
    · refine ⟨0, fun _ => 0, fun q hq => ?_⟩
      have := (List.getElem?_eq_some_iff.mp hq).1
      exact absurd this h
  obtain ⟨c0, k0, p0, a1, a2, a3⟩ := Cond.arrayClass_spec (hts (.arrayClass .int) (mv_in _ (mv_in_last (by simp))))
  obtain ⟨c1, k1, p1, b1, b2, b3⟩ := Cond.arrayClass_spec (hts (.arrayClass .long) (mv_in _ (mv_in_last (by simp))))
  have ho := hts _ mv_over_in
  obtain ⟨p2, c2, k2, d1, d2, d3, d4, d5⟩ := arrayOverA_spec ho
  refine ⟨(fun ci => (h7 ci).choose, fun ci => (h7 ci).choose_spec.choose), (fun t => match t with | 0 => c0 | 1 => c1 | _ => c2), ⟨fun ci q hq => (h7 ci).choose_spec.choose_spec q hq, fun k q hk => ?_⟩, fun q hq => va_Nw.of rfl (hts _ (mv_nest_in q hq)), ho, hX, hbl⟩
  match k, hk with
  | 0, hk => cases hk; exact ⟨fun N z => ⟨(fun q hq => by cases hq), k0, a2, p0, a3⟩, a1⟩
  | 1, hk => cases hk; exact ⟨fun N z => ⟨(fun q hq => by cases hq), k1, b2, p1, b3⟩, b1⟩
  | 2, hk => cases hk; exact ⟨fun N z => ⟨(fun q hq => by cases hq), k2, d3, p2, d4⟩, d5⟩
  | k + 3, hk => cases hk
theorem whole_start_of (hM : mv_MnaOk) (hpure : mv_Pure) {p : Program} {e : Env} {s : State} {m : MethodId} {below : List Frame} {meth : Method} {c : Code} (l : Launch) {b L : Nat} {xs : Nat → Int32} (hL : L ≤ 1536) (C0 : lw_At p s m meth c b L xs) : W p l e room_1 s m #[Value.ref b] below meth c s.heap [] 0 0 (lw_Z below #[Value.ref b] s) (entryFrame m ([Value.ref b] : List Value).toArray 4) := by
  obtain ⟨hx, hb, hr, hml, hown, hts, hX, hbl, hlocks, hgv⟩ := C0
  obtain ⟨D, cA, hXX⟩ := mv_start hts hX hbl
  obtain ⟨N, d, c1, k1, w1, hd, hc1, hk1, hrun⟩ := hpure L xs hL
  rw [lg_entry_eq]
  refine mv_run_ok (R := room_1) (base := s.heap.size) (b := b) (D := D) (cA := cA) (d := d) (nL := 4) (cls := 7) hM ⟨hx, hb, hml, hown, fun w hw => hts w (mv_in w hw)⟩ (fun h => by cases h) hXX (Nat.le_refl _) ⟨by show d + 1 ≤ 2048; omega, by show (d + 1) * 40 ≤ 84000; omega⟩ (mv_call_ok hM l D s.heap.size b L xs cA N d) (mv_call_cnt xs L N d) mv_d138 (c1 := c1) (k1 := k1) (w1 := w1) hc1 hk1 ?_ N 0 _ [] [] 0 0 hrun s.heap [] _ (mv_entry_ls [.retAddr 1] (by decide)) (fun k q h => by cases h) va_S.rf rfl
  intro pc ls H locs i st hd hrt hP hS
  unfold mv_ret at hrt
  split at hrt
  · rename_i h9; cases h9
  · split at hrt
    · cases hrt
      refine va_forget (fun q hq => hS.2.2 q hq) ?_
      refine W.widen (k := 600000) (n := 7302250) hc1 hk1 ?_
      exact lw_ret hx hb hr hlocks hd
    · cases hrt
  · rename_i h9; cases h9
  · rename_i h9; cases h9
  · cases hrt
end
section
/-! HOW THE SMALL MACHINE IS WALKED. Wp: from this frame the run ends with r; Ev: this call ends with r (with enough fuel, at depth d). -/
def mv_Wp (xs : Nat → Int32) (Ls d cls : Nat) (ini : Bool) (ret : Option FieldType) (code : List (Nat × Instr × Nat)) (f : mv_F) (r : mv_R) : Prop := ∃ N0 : Nat, ∀ N n : Nat, N0 ≤ N → N0 ≤ n → mv_run cls ini ret xs Ls (mv_call xs Ls N d) code n f = some r
def mv_Ev (xs : Nat → Int32) (Ls d j : Nat) (as : List Value) (w : mv_W) (r : mv_R) : Prop := ∃ N0 : Nat, ∀ N : Nat, N0 ≤ N → mv_call xs Ls N d j as w = some r
def mv_gos (cls : Nat) (ini : Bool) (xs : Nat → Int32) (Ls : Nat) (code : List (Nat × Instr × Nat)) : Nat → mv_F → Option mv_F
  | 0, f => some f
  | n + 1, f => match mv_get code f.1 with
    | some (i, len) => match mv_one cls ini xs Ls i len f with
      | some f' => mv_gos cls ini xs Ls code n f'
      | none => none
    | none => none
/-- a call: which method, its arguments, what stays on the stack -/
def mv_chk (j : Nat) (as rest : List Value) : Option (Nat × List Value × List Value) := match Nat.ble ((rest.map fun v => v.category).sum) 8 with
  | true => some (j, as, rest)
  | false => none
def mv_askd (kd cls x : Nat) (st : List Value) (w : mv_W) : Option (Nat × List Value × List Value) :=
  match (match mv_l2 mv_mths cls x with
    | some j => some j
    | none => mv_l2 mv_nest cls x) with
  | some j => match mv_prog[j]? with
    | some M => match Nat.beq M.2.2.2.2.2.1 kd with
      | true => match Nat.beq (st.take M.2.2.2.2.2.2).length M.2.2.2.2.2.2 with
        | false => none
        | true => match M.2.2.2.2.2.1, st.drop M.2.2.2.2.2.2 with
          | 0, rest => mv_chk j (st.take M.2.2.2.2.2.2).reverse rest
          | 1, .ref a :: rest => match w[a]? with
            | some (.inr (c', _)) => match Nat.beq c' M.1 with
              | true => mv_chk j (.ref a :: (st.take M.2.2.2.2.2.2).reverse) rest
              | false => none
            | _ => none
          | 2, .ref a :: rest => mv_chk j (.ref a :: (st.take M.2.2.2.2.2.2).reverse) rest
          | _, _ => none
      | false => none
    | none => none
  | none => none
def mv_ask (cls : Nat) (i : Instr) (n : Nat) (st : List Value) (w : mv_W) : Option (Nat × List Value × List Value) := match i, n with
  | .invokevirtual x, 3 => mv_askd 1 cls x st w
  | .invokestatic x, 3 => mv_askd 0 cls x st w
  | .invokespecial x, 3 => match mv_l1 mv_objs cls x with
    | true => none
    | false => mv_askd 2 cls x st w
  | _, _ => none
theorem mv_chk_ok {j j0 : Nat} {as as0 rest rest0 : List Value} (h : mv_chk j0 as0 rest0 = some (j, as, rest)) : j0 = j ∧ as0 = as ∧ rest0 = rest ∧ Nat.ble ((rest.map fun v => v.category).sum) 8 = true := by
  unfold mv_chk at h
  split at h
  · rename_i hb; cases h; exact ⟨rfl, rfl, rfl, hb⟩
  · cases h
theorem mv_ask2_ok {call : mv_C} {kd j1 j dc dk : Nat} {st as rest : List Value} {w w' : mv_W} {v : Option Value} (hc : call j as w = some (v, w', dc, dk)) (h : (match mv_prog[j1]? with
    | some M => match Nat.beq M.2.2.2.2.2.1 kd with
      | true => match Nat.beq (st.take M.2.2.2.2.2.2).length M.2.2.2.2.2.2 with
        | false => none
        | true => match M.2.2.2.2.2.1, st.drop M.2.2.2.2.2.2 with
          | 0, rest => mv_chk j1 (st.take M.2.2.2.2.2.2).reverse rest
          | 1, .ref a :: rest => match w[a]? with
            | some (.inr (c', _)) => match Nat.beq c' M.1 with
              | true => mv_chk j1 (.ref a :: (st.take M.2.2.2.2.2.2).reverse) rest
              | false => none
            | _ => none
          | 2, .ref a :: rest => mv_chk j1 (.ref a :: (st.take M.2.2.2.2.2.2).reverse) rest
          | _, _ => none
      | false => none
    | none => none) = some (j, as, rest)) : (match mv_prog[j1]? with
    | some M => match Nat.beq M.2.2.2.2.2.1 kd with
      | true => mv_do call j1 M st w
      | false => none
    | none => none) = some (v.toList ++ rest, w', dc, dk) := by
  have hout : ∀ {j0 : Nat} {as0 rest0 : List Value}, mv_chk j0 as0 rest0 = some (j, as, rest) → mv_out rest0 (call j0 as0 w) = some (v.toList ++ rest, w', dc, dk) := by
    intro j0 as0 rest0 h
    obtain ⟨rfl, rfl, rfl, hb⟩ := mv_chk_ok h
    unfold mv_out
    rw [hc]
    dsimp only
    rw [hb]
  cases hM : mv_prog[j1]? with
  | none => rw [hM] at h; cases h
  | some M =>
    rw [hM] at h
    dsimp only at h ⊢
    cases hk : Nat.beq M.2.2.2.2.2.1 kd with
    | false => rw [hk] at h; cases h
    | true =>
      rw [hk] at h
      dsimp only at h ⊢
      unfold mv_do
      cases hl : Nat.beq (st.take M.2.2.2.2.2.2).length M.2.2.2.2.2.2 with
      | false => rw [hl] at h; cases h
      | true =>
        rw [hl] at h
        dsimp only at h ⊢
        split at h
        · rename_i hk0
          rw [hk0]
          exact hout h
        · rename_i hk0 hdr
          rw [hk0, hdr]
          try dsimp only
          split at h
          · rename_i hw
            try rw [hw]
            try dsimp only
            split at h
            · rename_i hcc
              simp only [hw, hcc]
              exact hout h
            · cases h
          · cases h
        · rename_i hk0 hdr
          rw [hk0, hdr]
          exact hout h
        · cases h
theorem mv_askd_ok {call : mv_C} {kd cls x j dc dk : Nat} {st as rest : List Value} {w w' : mv_W} {v : Option Value} (h : mv_askd kd cls x st w = some (j, as, rest)) (hc : call j as w = some (v, w', dc, dk)) : mv_lnk kd call cls x st w = some (v.toList ++ rest, w', dc, dk) := by
  unfold mv_askd at h
  unfold mv_lnk
  cases hm : mv_l2 mv_mths cls x with
  | some j1 =>
    rw [hm] at h
    exact mv_ask2_ok hc h
  | none =>
    rw [hm] at h
    dsimp only at h ⊢
    cases hn : mv_l2 mv_nest cls x with
    | none => rw [hn] at h; cases h
    | some j1 =>
      rw [hn] at h
      exact mv_ask2_ok hc h
/-! more depth does no harm -/
def mv_Le (a b : mv_C) : Prop := ∀ j as w r, a j as w = some r → b j as w = some r
theorem mv_out_le {rest : List Value} {a b : Option mv_R} {q : List Value × mv_W × Nat × Nat} (h : ∀ r, a = some r → b = some r) (hq : mv_out rest a = some q) : mv_out rest b = some q := by
  cases ha : a with
  | none => rw [ha] at hq; cases hq
  | some r => rw [ha] at hq; rw [h r ha]; exact hq
theorem mv_lnk_le {a b : mv_C} (hab : mv_Le a b) {kd cls x : Nat} {st : List Value} {w : mv_W} {q : List Value × mv_W × Nat × Nat} (h : mv_lnk kd a cls x st w = some q) : mv_lnk kd b cls x st w = some q := by
  unfold mv_lnk at h ⊢
  split at h
  · rename_i j1 hj1
    try rw [hj1]
    try dsimp only
    split at h
    · rename_i M hM
      try rw [hM]
      try dsimp only
      split at h
      · rename_i hk
        try rw [hk]
        try dsimp only
        unfold mv_do at h ⊢
        split at h
        · cases h
        · rename_i hl
          try rw [hl]
          try dsimp only
          split at h
          · exact mv_out_le (hab _ _ _) h
          · split at h
            · rename_i hw
              split at h
              · rename_i hcc
                try rw [hw]
                try dsimp only
                try rw [hcc]
                exact mv_out_le (hab _ _ _) h
              · cases h
            · cases h
          · exact mv_out_le (hab _ _ _) h
          · cases h
      · cases h
    · cases h
  · cases h
theorem mv_inv_le {a b : mv_C} (hab : mv_Le a b) {cls : Nat} {i : Instr} {n : Nat} {st : List Value} {w : mv_W} {q : List Value × mv_W × Nat × Nat} (h : mv_inv cls a i n st w = some q) : mv_inv cls b i n st w = some q := by
  unfold mv_inv at h ⊢
  split at h
  · exact mv_lnk_le hab h
  · exact mv_lnk_le hab h
  · split at h
    · exact h
    · cases h
    · exact mv_lnk_le hab h
  · cases h
theorem mv_inv_plain {a b : mv_C} {cls : Nat} {i : Instr} {n : Nat} {st : List Value} {w : mv_W} {ret : Option FieldType} {r : Option Value} (h : mv_ret ret i n st = some r) : mv_inv cls a i n st w = none := by
  unfold mv_ret at h
  split at h
  all_goals first | rfl | cases h
theorem mv_run_le {a b : mv_C} (hab : mv_Le a b) {xs : Nat → Int32} {Ls cls : Nat} {ini : Bool} {ret : Option FieldType} {code : List (Nat × Instr × Nat)} : ∀ (n : Nat) (f : mv_F) (r : mv_R), mv_run cls ini ret xs Ls a code n f = some r → mv_run cls ini ret xs Ls b code n f = some r
  | 0, f, r, h => by cases h
  | n + 1, f, r, h => by
    unfold mv_run at h ⊢
    split at h
    · cases h
    · rename_i i len hg
      try rw [hg]
      try dsimp only
      obtain ⟨pc, L, st, w, c, k⟩ := f
      unfold mv_step at h ⊢
      cases ho : mv_one cls ini xs Ls i len (pc, L, st, w, c, k) with
      | some f' =>
        rw [ho] at h
        exact mv_run_le hab n f' r h
      | none =>
        rw [ho] at h
        dsimp only at h ⊢
        cases hi : mv_inv cls a i len st w with
        | some q =>
          rw [hi] at h
          rw [mv_inv_le hab hi]
          obtain ⟨q1, q2, q3, q4⟩ := q
          exact mv_run_le hab n _ r h
        | none =>
          rw [hi] at h
          dsimp only at h
          cases hr : mv_ret ret i len st with
          | none => rw [hr] at h; cases h
          | some v =>
            rw [hr] at h
            rw [mv_inv_plain (a := b) (b := b) hr]
            try dsimp only
            try rw [hr]
            exact h
theorem mv_call_le (xs : Nat → Int32) (Ls N : Nat) : ∀ d, mv_Le (mv_call xs Ls N d) (mv_call xs Ls N (d + 1))
  | 0 => fun j as w r h => by cases h
  | d + 1 => fun j as w r h => by
    unfold mv_call at h ⊢
    split at h
    · cases h
    · rename_i M hM
      try rw [hM]
      try dsimp only
      split at h
      · rename_i hl
        try rw [hl]
        exact mv_run_le (mv_call_le xs Ls N d) _ _ _ h
      · cases h
theorem mv_call_up {xs : Nat → Int32} {Ls d e : Nat} (N : Nat) (h : d ≤ e) : mv_Le (mv_call xs Ls N d) (mv_call xs Ls N e) := by
  induction e with
  | zero => cases (Nat.le_zero.mp h); exact fun _ _ _ _ h => h
  | succ e ih =>
    by_cases hde : d = e + 1
    · subst hde; exact fun _ _ _ _ h => h
    · exact fun j as w r h2 => mv_call_le xs Ls N e j as w r (ih (by omega) j as w r h2)
section WP
variable {xs : Nat → Int32} {Ls d cls : Nat} {ini : Bool} {ret : Option FieldType} {code : List (Nat × Instr × Nat)}
theorem mv_step_of_one {call : mv_C} {i : Instr} {n : Nat} {f f' : mv_F} (h : mv_one cls ini xs Ls i n f = some f') : mv_step cls ini ret xs Ls call i n f = some (.inl f') := by
  unfold mv_step
  try rw [h]
theorem wp_go (n : Nat) {f f' : mv_F} {r : mv_R} (h : mv_gos cls ini xs Ls code n f = some f') (k : mv_Wp xs Ls d cls ini ret code f' r) : mv_Wp xs Ls d cls ini ret code f r := by
  induction n generalizing f with
  | zero => cases h; exact k
  | succ n ih =>
    unfold mv_gos at h
    split at h
    · rename_i i len hg
      split at h
      · rename_i f2 h1
        obtain ⟨N0, h2⟩ := ih h
        refine ⟨N0 + 1, fun N n hN hn => ?_⟩
        obtain ⟨n', rfl⟩ : ∃ n', n = n' + 1 := ⟨n - 1, by omega⟩
        unfold mv_run
        try rw [hg]
        try dsimp only
        rw [mv_step_of_one h1]
        exact h2 N n' (by omega) (by omega)
      · cases h
    · cases h
theorem wp_ret {pc : Nat} {L st : List Value} {w : mv_W} {c k len : Nat} {i : Instr} {v : Option Value} (hg : mv_get code pc = some (i, len)) (h : mv_ret ret i len st = some v) (ho : mv_one cls ini xs Ls i len (pc, L, st, w, c, k) = none) (hi : ∀ call, mv_inv cls call i len st w = none) : mv_Wp xs Ls d cls ini ret code (pc, L, st, w, c, k) (v, w, c, k) := by
  refine ⟨1, fun N n hN hn => ?_⟩
  obtain ⟨n', rfl⟩ : ∃ n', n = n' + 1 := ⟨n - 1, by omega⟩
  unfold mv_run
  try dsimp only
  try rw [hg]
  try dsimp only
  unfold mv_step
  try rw [ho]
  try dsimp only
  try rw [hi]
  try dsimp only
  try rw [h]
theorem wp_iret {pc : Nat} {L : List Value} {w : mv_W} {c k : Nat} {x : Int32} (hg : mv_get code pc = some (.ireturn, 1)) : mv_Wp xs Ls d cls ini (some .int) code (pc, L, [.int x], w, c, k) (some (.int x), w, c, k) := wp_ret hg rfl rfl (fun _ => rfl)
theorem wp_zret {pc : Nat} {L : List Value} {w : mv_W} {c k : Nat} {x : Int32} (hg : mv_get code pc = some (.ireturn, 1)) (hx : x = 0 ∨ x = 1) : mv_Wp xs Ls d cls ini (some .boolean) code (pc, L, [.int x], w, c, k) (some (.int x), w, c, k) := wp_ret hg (if_pos hx) rfl (fun _ => rfl)
theorem wp_lret {pc : Nat} {L : List Value} {w : mv_W} {c k : Nat} {x : Int64} (hg : mv_get code pc = some (.lreturn, 1)) : mv_Wp xs Ls d cls ini (some .long) code (pc, L, [.long x], w, c, k) (some (.long x), w, c, k) := wp_ret hg rfl rfl (fun _ => rfl)
theorem wp_vret {pc : Nat} {L : List Value} {w : mv_W} {c k : Nat} (hg : mv_get code pc = some (.return_, 1)) : mv_Wp xs Ls d cls ini none code (pc, L, [], w, c, k) (none, w, c, k) := wp_ret hg rfl rfl (fun _ => rfl)
theorem ev_of_wp {j : Nat} {as : List Value} {w : mv_W} {r : mv_R} {y : MethodName} {bts : ByteArray} {nL kd na : Nat} (hM : mv_prog[j]? = some (cls, y, bts, nL, ret, kd, na)) (hc : mv_code j = code) (hl : Nat.ble (mv_sl as).length nL = true) (k : mv_Wp xs Ls d cls (Nat.beq kd 2) ret code (0, mv_loc0 as nL, [], w, 0, 0) r) : mv_Ev xs Ls (d + 1) j as w r := by
  obtain ⟨N0, h⟩ := k
  refine ⟨N0, fun N hN => ?_⟩
  unfold mv_call
  try rw [hM]
  try dsimp only
  try rw [hl]
  try dsimp only
  try rw [hc]
  exact h N N hN hN
theorem wp_call {pc : Nat} {L st as rest : List Value} {w w' : mv_W} {c k j dc dk len : Nat} {i : Instr} {v : Option Value} {r : mv_R} (hg : mv_get code pc = some (i, len)) (ho : mv_one cls ini xs Ls i len (pc, L, st, w, c, k) = none) (ha : mv_ask cls i len st w = some (j, as, rest)) (he : mv_Ev xs Ls d j as w (v, w', dc, dk)) (kk : mv_Wp xs Ls d cls ini ret code (pc + 3, L, v.toList ++ rest, w', c + dc, k + dk) r) : mv_Wp xs Ls d cls ini ret code (pc, L, st, w, c, k) r := by
  obtain ⟨N1, h1⟩ := he
  obtain ⟨N2, h2⟩ := kk
  refine ⟨N1 + N2 + 1, fun N n hN hn => ?_⟩
  obtain ⟨n', rfl⟩ : ∃ n', n = n' + 1 := ⟨n - 1, by omega⟩
  have hcl := h1 N (by omega)
  have hinv : mv_inv cls (mv_call xs Ls N d) i len st w = some (v.toList ++ rest, w', dc, dk) := by
    unfold mv_ask at ha
    unfold mv_inv
    split at ha
    · exact mv_askd_ok ha hcl
    · exact mv_askd_ok ha hcl
    · split at ha
      · cases ha
      · rename_i hob
        have h3 := mv_askd_ok ha hcl
        show (match mv_l1 mv_objs cls _, st with
          | true, Value.ref _ :: r => (match Nat.ble ((r.map fun (v : Value) => v.category).sum) 8 with
            | true => some (r, w, 0, 0)
            | false => none)
          | true, _ => none
          | false, st => mv_lnk 2 (mv_call xs Ls N d) cls _ st w) = _
        rw [hob]
        exact h3
    · cases ha
  unfold mv_run
  try dsimp only
  try rw [hg]
  try dsimp only
  unfold mv_step
  try rw [ho]
  try dsimp only
  try rw [hinv]
  exact h2 N n' (by omega) (by omega)
theorem ev_up {j e : Nat} {as : List Value} {w : mv_W} {r : mv_R} (h : mv_Ev xs Ls d j as w r) (hde : d ≤ e) : mv_Ev xs Ls e j as w r := by
  obtain ⟨N0, h⟩ := h
  exact ⟨N0, fun N hN => mv_call_up N hde j as w r (h N hN)⟩
end WP
end
section
/-! the world of the law's loop: 42 cells. A: the arrays of ints, B: of longs (25 row, 26 spare, wherever they lie), F: int fields
(0 vertices, 1 edges, 2 changes, 3 changesAtRows, 4 settled, 5 changesAtSettled; the reference: 6 n, 7 edges, 8 found) -/
def mv_sw (b : Bool) (x y : Nat) : Nat := match b with
  | false => x
  | true => y
def mv_sx {α : Type} (b : Bool) (x y : α) : α := match b with
  | false => x
  | true => y
def MW (A : Nat → Nat → Int32) (B : Nat → Nat → Int64) (F : Nat → Int32) (sw : Bool) : mv_W := [
  .inr (5, [.ref 1, .ref 7, .ref 23, .ref 24]),
  .inr (2, [.ref 2, .ref 3, .ref 4, .ref 5, .ref 6, .int (F 0), .int (F 1), .int (F 2), .int (F 3)]),
  .inl (0, 10, .inl (A 2)),
  .inl (0, 10, .inl (A 3)),
  .inl (0, 1024, .inl (A 4)),
  .inl (0, 1024, .inl (A 5)),
  .inl (0, 1024, .inl (A 6)),
  .inr (4, [.ref 1, .ref 17, .ref 8, .ref 15, .ref 16, .int (F 4), .int (F 5)]),
  .inl (2, 6, .inr (.inr (.inr (.inr (fun j => if j < 6 then some (9 + j) else none))))),
  .inl (0, 10, .inl (A 9)),
  .inl (0, 10, .inl (A 10)),
  .inl (0, 10, .inl (A 11)),
  .inl (0, 10, .inl (A 12)),
  .inl (0, 10, .inl (A 13)),
  .inl (0, 10, .inl (A 14)),
  .inl (0, 6, .inl (A 15)),
  .inl (0, 1024, .inl (A 16)),
  .inr (3, [.ref 1, .ref 18, .ref 19, .ref 20, .ref 21, .ref 22]),
  .inl (0, 10, .inl (A 18)),
  .inl (0, 10, .inl (A 19)),
  .inl (0, 10, .inl (A 20)),
  .inl (0, 1024, .inl (A 21)),
  .inl (0, 1024, .inl (A 22)),
  .inr (1, [.ref 1]),
  .inr (0, [.ref 1, .ref (mv_sw sw 25 26), .ref (mv_sw sw 26 25), .ref 27]),
  .inl (1, 1024, .inr (.inl (mv_sx sw (B 25) (B 26)))),
  .inl (1, 1024, .inr (.inl (mv_sx sw (B 26) (B 25)))),
  .inl (1, 4608, .inr (.inl (B 27))),
  .inr (6, [.int (F 6), .ref 29, .ref 30, .int (F 7), .ref 31, .ref 32, .ref 33, .ref 34, .ref 35, .ref 36, .ref 37, .ref 38, .ref 39, .ref 40, .ref 41, .int (F 8)]),
  .inl (0, 10, .inl (A 29)),
  .inl (0, 10, .inl (A 30)),
  .inl (0, 1024, .inl (A 31)),
  .inl (0, 10, .inl (A 32)),
  .inl (0, 10, .inl (A 33)),
  .inl (0, 1024, .inl (A 34)),
  .inl (0, 10, .inl (A 35)),
  .inl (0, 10, .inl (A 36)),
  .inl (0, 10, .inl (A 37)),
  .inl (1, 1024, .inr (.inl (B 38))),
  .inl (1, 1024, .inr (.inl (B 39))),
  .inl (1, 10240, .inr (.inl (B 40))),
  .inl (1, 100, .inr (.inl (B 41)))]
def upA (A : Nat → Nat → Int32) (k : Nat) (f : Nat → Int32) : Nat → Nat → Int32 := fun i => match Nat.beq i k with
  | true => f
  | false => A i
def upB (B : Nat → Nat → Int64) (k : Nat) (f : Nat → Int64) : Nat → Nat → Int64 := fun i => match Nat.beq i k with
  | true => f
  | false => B i
def upF (F : Nat → Int32) (k : Nat) (x : Int32) : Nat → Int32 := fun i => match Nat.beq i k with
  | true => x
  | false => F i
section WP2
variable {xs : Nat → Int32} {Ls d cls : Nat} {ini : Bool} {ret : Option FieldType} {code : List (Nat × Instr × Nat)} {pc : Nat} {L st : List Value} {w : mv_W} {c k : Nat} {r : mv_R}
theorem wp_ite {g : Prop} [Decidable g] {t e : Nat} (ht : g → mv_Wp xs Ls d cls ini ret code (t, L, st, w, c, k) r) (he : ¬ g → mv_Wp xs Ls d cls ini ret code (e, L, st, w, c, k) r) : mv_Wp xs Ls d cls ini ret code ((if g then t else e), L, st, w, c, k) r := by
  by_cases h : g
  · rw [if_pos h]; exact ht h
  · rw [if_neg h]; exact he h
theorem wp_eq {f f' : mv_F} (h : f = f') (kk : mv_Wp xs Ls d cls ini ret code f' r) : mv_Wp xs Ls d cls ini ret code f r := h ▸ kk
theorem nI_idx {i m : Nat} (hi : i < m) (hm : m ≤ 1048576) : ¬ (nI i < 0 ∨ m ≤ (nI i).toNatClampNeg) := nI_in hi (by omega)
theorem wp_iald {a m i : Nat} {f : Nat → Int32} (hg : mv_get code pc = some (.iaload, 1)) (hw : w[a]? = some (.inl (0, m, .inl f))) (hi : i < m) (hm : m ≤ 1048576) (kk : mv_Wp xs Ls d cls ini ret code (pc + 1, L, .int (f i) :: st, w, c, k) r) : mv_Wp xs Ls d cls ini ret code (pc, L, .int (nI i) :: .ref a :: st, w, c, k) r := by
  refine wp_go 1 ?_ kk
  have hc := nI_clamp (show i < 2 ^ 31 by omega)
  have hx := nI_idx hi hm
  rw [hc] at hx
  unfold mv_gos
  dsimp only
  rw [hg]
  simp only [mv_one, mv_alu, mv_loc, mv_br, mv_heap, hw, hc, if_neg hx]
  rfl
theorem wp_lald {a m i : Nat} {f : Nat → Int64} (hg : mv_get code pc = some (.laload, 1)) (hw : w[a]? = some (.inl (1, m, .inr (.inl f)))) (hi : i < m) (hm : m ≤ 1048576) (kk : mv_Wp xs Ls d cls ini ret code (pc + 1, L, .long (f i) :: st, w, c, k) r) : mv_Wp xs Ls d cls ini ret code (pc, L, .int (nI i) :: .ref a :: st, w, c, k) r := by
  refine wp_go 1 ?_ kk
  have hc := nI_clamp (show i < 2 ^ 31 by omega)
  have hx := nI_idx hi hm
  rw [hc] at hx
  unfold mv_gos
  dsimp only
  rw [hg]
  simp only [mv_one, mv_alu, mv_loc, mv_br, mv_heap, hw, hc, if_neg hx]
  rfl
theorem wp_aald {a m i : Nat} {f : Nat → Option Nat} (hg : mv_get code pc = some (.aaload, 1)) (hw : w[a]? = some (.inl (2, m, .inr (.inr (.inr (.inr f)))))) (hi : i < m) (hm : m ≤ 1048576) (kk : mv_Wp xs Ls d cls ini ret code (pc + 1, L, va_rf (f i) :: st, w, c, k) r) : mv_Wp xs Ls d cls ini ret code (pc, L, .int (nI i) :: .ref a :: st, w, c, k) r := by
  refine wp_go 1 ?_ kk
  have hc := nI_clamp (show i < 2 ^ 31 by omega)
  have hx := nI_idx hi hm
  rw [hc] at hx
  unfold mv_gos
  dsimp only
  rw [hg]
  simp only [mv_one, mv_alu, mv_loc, mv_br, mv_heap, hw, hc, if_neg hx]
  rfl
theorem wp_iast {a m i : Nat} {f : Nat → Int32} {x : Int32} (hg : mv_get code pc = some (.iastore, 1)) (hw : w[a]? = some (.inl (0, m, .inl f))) (hi : i < m) (hm : m ≤ 1048576) (kk : mv_Wp xs Ls d cls ini ret code (pc + 1, L, st, w.set a (.inl (0, m, .inl (upd f i x))), c, k) r) : mv_Wp xs Ls d cls ini ret code (pc, L, .int x :: .int (nI i) :: .ref a :: st, w, c, k) r := by
  refine wp_go 1 ?_ kk
  have hc := nI_clamp (show i < 2 ^ 31 by omega)
  have hx := nI_idx hi hm
  rw [hc] at hx
  unfold mv_gos
  dsimp only
  rw [hg]
  simp only [mv_one, mv_alu, mv_loc, mv_br, mv_heap, hw, hc, if_neg hx]
  rfl
theorem wp_last {a m i : Nat} {f : Nat → Int64} {x : Int64} (hg : mv_get code pc = some (.lastore, 1)) (hw : w[a]? = some (.inl (1, m, .inr (.inl f)))) (hi : i < m) (hm : m ≤ 1048576) (kk : mv_Wp xs Ls d cls ini ret code (pc + 1, L, st, w.set a (.inl (1, m, .inr (.inl (vp_updL f i x)))), c, k) r) : mv_Wp xs Ls d cls ini ret code (pc, L, .long x :: .int (nI i) :: .ref a :: st, w, c, k) r := by
  refine wp_go 1 ?_ kk
  have hc := nI_clamp (show i < 2 ^ 31 by omega)
  have hx := nI_idx hi hm
  rw [hc] at hx
  unfold mv_gos
  dsimp only
  rw [hg]
  simp only [mv_one, mv_alu, mv_loc, mv_br, mv_heap, hw, hc, if_neg hx]
  rfl
end WP2
/-! a loop that counts: k = 0, 1 .. n - 1 -/
def forN {α : Type} (f : Nat → α → α) : Nat → α → α
  | 0, a => a
  | n + 1, a => f n (forN f n a)
theorem for_ind {α : Type} {P : Nat → α → Prop} {f : Nat → α → α} {n : Nat} (hs : ∀ k a, k < n → P (k + 1) (f k a) → P k a) : ∀ (j : Nat) (a : α), j ≤ n → P j (forN f j a) → P 0 a := by
  intro j
  induction j with
  | zero => intro a _ h; exact h
  | succ j ih => intro a hj h; exact ih a (by omega) (hs j _ (by omega) h)
/-- what M.ones answers: the reference's count of the ten lowest bits -/
def onesI (s : Int32) : Int32 := forN (fun k m => m + (s >>> (nI k &&& 31) &&& 1)) 10 0
theorem ev_ones {xs : Nat → Int32} {Ls d : Nat} (s : Int32) (w : mv_W) : mv_Ev xs Ls (d + 1) 97 [.int s] w (some (.int (onesI s)), w, 0, 0) := by
  refine ev_of_wp rfl rfl rfl ?_
  refine wp_go (f' := (4, [.int s, .int 0, .int (nI 0)], [], w, 0, 0)) 4 rfl ?_
  refine for_ind (P := fun k m => mv_Wp xs Ls d 6 false (some .int) mv_c97 (4, [.int s, .int m, .int (nI k)], [], w, 0, 0) (some (.int (onesI s)), w, 0, 0)) (f := fun k m => m + (s >>> (nI k &&& 31) &&& 1)) (n := 10) ?_ 10 0 (Nat.le_refl _) ?_
  · intro k m hk ih
    refine wp_go (f' := ((if nI 10 ≤ nI k then 24 else 10), [.int s, .int m, .int (nI k)], [], w, 0, 0)) 3 rfl ?_
    refine wp_ite (fun h => absurd h (nI_ge hk (by omega))) (fun _ => ?_)
    refine wp_go (f' := (4, [.int s, .int (m + (s >>> (nI k &&& 31) &&& 1)), .int (nI k + 1)], [], w, 0, 0)) 10 rfl ?_
    rw [nI_1]
    exact ih
  · refine wp_go (f' := ((if nI 10 ≤ nI 10 then 24 else 10), [.int s, .int (onesI s), .int (nI 10)], [], w, 0, 0)) 3 rfl ?_
    refine wp_ite (fun _ => ?_) (fun h => absurd (nI_le (Nat.le_refl _) (by omega)) h)
    refine wp_go (f' := (25, [.int s, .int (onesI s), .int (nI 10)], [.int (onesI s)], w, 0, 0)) 1 rfl ?_
    exact wp_iret rfl
end
section
/-! sets of at most ten vertices as numbers: nI under the class's bit tricks -/
theorem bx_and (a b : Nat) : nI a &&& nI b = nI (a &&& b) := by
  apply Int32.toBitVec_inj.1
  show BitVec.ofNat 32 a &&& BitVec.ofNat 32 b = BitVec.ofNat 32 (a &&& b)
  apply BitVec.eq_of_getLsbD_eq
  intro i hi
  simp [hi]
theorem bx_or (a b : Nat) : nI a ||| nI b = nI (a ||| b) := by
  apply Int32.toBitVec_inj.1
  show BitVec.ofNat 32 a ||| BitVec.ofNat 32 b = BitVec.ofNat 32 (a ||| b)
  apply BitVec.eq_of_getLsbD_eq
  intro i hi
  simp [hi]
theorem bx_xor (a b : Nat) : nI a ^^^ nI b = nI (a ^^^ b) := by
  apply Int32.toBitVec_inj.1
  show BitVec.ofNat 32 a ^^^ BitVec.ofNat 32 b = BitVec.ofNat 32 (a ^^^ b)
  apply BitVec.eq_of_getLsbD_eq
  intro i hi
  simp [hi]
theorem bx_sl : ∀ n, n < 32 → ((nI n &&& 31).toBitVec.smod 32).toNat = n := by decide +kernel
theorem bx_shr {s k : Nat} (hs : s < 2 ^ 31) (hk : k < 32) : nI s >>> (nI k &&& 31) = nI (s / 2 ^ k) := pk_shrN hs _ k (bx_sl k hk)
theorem bx_shl {a k : Nat} (hk : k < 32) (h : a * 2 ^ k < 2 ^ 32) : nI a <<< (nI k &&& 31) = nI (a * 2 ^ k) := pk_shlN _ k (bx_sl k hk) h
theorem bx_one {k : Nat} (hk : k < 31) : nI 1 <<< (nI k &&& 31) = nI (2 ^ k) := by
  rw [bx_shl (by omega) (by rw [Nat.one_mul]; exact Nat.pow_lt_pow_right (by omega) (by omega)), Nat.one_mul]
/-- 1 if it holds, 0 if not -/
def bI (p : Bool) : Int32 := match p with
  | true => 1
  | false => 0
theorem bI_t {p : Bool} (h : p = true) : bI p = 1 := by rw [h]; rfl
theorem bI_f {p : Bool} (h : p = false) : bI p = 0 := by rw [h]; rfl
theorem bI_01 (p : Bool) : bI p = 0 ∨ bI p = 1 := by cases p <;> simp [bI]
theorem bI_0 {p : Bool} : bI p = 0 ↔ p = false := by cases p <;> simp [bI]
theorem bI_1 {p : Bool} : bI p = 1 ↔ p = true := by cases p <;> simp [bI]
/-- bit k of a set -/
theorem bx_bit {s k : Nat} (hs : s < 2 ^ 31) (hk : k < 31) : (nI s >>> (nI k &&& 31)) &&& nI 1 = bI (s.testBit k) := by
  rw [bx_shr hs (by omega), bx_and, Nat.and_one_is_mod]
  have : (s / 2 ^ k) % 2 = (s.testBit k).toNat := by rw [Nat.toNat_testBit]
  rw [this]
  cases s.testBit k <;> rfl
/-- a without b, of at most ten vertices -/
def sd (a b : Nat) : Nat := a &&& (b ^^^ 1023)
theorem bx_not (b : Nat) : nI b ^^^ (-1) = nI (b ^^^ 4294967295) := by
  rw [show (-1 : Int32) = nI 4294967295 by decide, bx_xor]
theorem bt_1023 (i : Nat) : Nat.testBit 1023 i = decide (i < 10) := by
  rw [show 1023 = 2 ^ 10 - 1 by decide, Nat.testBit_two_pow_sub_one]
theorem bt_all1 (i : Nat) : Nat.testBit 4294967295 i = decide (i < 32) := by
  rw [show 4294967295 = 2 ^ 32 - 1 by decide, Nat.testBit_two_pow_sub_one]
theorem bt_big {s i n : Nat} (hs : s < 2 ^ n) (hi : n ≤ i) : s.testBit i = false := Nat.testBit_lt_two_pow (Nat.lt_of_lt_of_le hs (Nat.pow_le_pow_right (by omega) hi))
theorem sd_bit (a b i : Nat) (ha : a < 1024) : (sd a b).testBit i = (a.testBit i && !b.testBit i) := by
  unfold sd
  rw [Nat.testBit_and, Nat.testBit_xor, bt_1023]
  by_cases h : i < 10
  · simp [h]
  · rw [bt_big (n := 10) ha (by omega)]; simp
theorem sd_lt {a b : Nat} (ha : a < 1024) : sd a b < 1024 := Nat.lt_of_le_of_lt Nat.and_le_left ha
theorem sd_le {a b : Nat} : sd a b ≤ a := Nat.and_le_left
/-- a & ~b -/
theorem bx_sd {a b : Nat} (ha : a < 1024) : nI a &&& (nI b ^^^ (-1)) = nI (sd a b) := by
  rw [bx_not, bx_and]
  congr 1
  apply Nat.eq_of_testBit_eq
  intro i
  rw [sd_bit a b i ha, Nat.testBit_and, Nat.testBit_xor, bt_all1]
  by_cases h : i < 32
  · simp [h]
  · rw [bt_big (n := 10) ha (by omega)]; simp
theorem or_lt {a b : Nat} (ha : a < 1024) (hb : b < 1024) : a ||| b < 1024 := Nat.or_lt_two_pow (n := 10) ha hb
theorem and_lt {a b : Nat} (ha : a < 1024) : a &&& b < 1024 := Nat.lt_of_le_of_lt Nat.and_le_left ha
theorem pow_lt {k : Nat} (hk : k < 10) : 2 ^ k < 1024 := Nat.pow_lt_pow_right (n := 10) (by omega) hk
theorem bx_all {n : Nat} (hn : n ≤ 10) : nI (2 ^ n) - nI 1 = nI (2 ^ n - 1) := pk_sub (Nat.one_le_two_pow)
theorem all_bit (n i : Nat) : (2 ^ n - 1).testBit i = decide (i < n) := Nat.testBit_two_pow_sub_one n i
theorem all_lt {n : Nat} (hn : n ≤ 10) : 2 ^ n - 1 < 1024 := by
  have := Nat.pow_le_pow_right (n := 2) (by omega) hn
  omega
/-- how many vertices -/
def pop (s : Nat) : Nat := forN (fun k m => m + (s.testBit k).toNat) 10 0
/-- the lowest vertex of a set that is not empty (10 of the empty one) -/
def low (s : Nat) : Nat := if s.testBit 0 then 0 else if s.testBit 1 then 1 else if s.testBit 2 then 2 else if s.testBit 3 then 3 else if s.testBit 4 then 4 else if s.testBit 5 then 5 else if s.testBit 6 then 6 else if s.testBit 7 then 7 else if s.testBit 8 then 8 else if s.testBit 9 then 9 else 10
set_option maxRecDepth 100000 in
theorem ones_pop : ∀ s, s < 1024 → onesI (nI s) = nI (pop s) := by decide +kernel
theorem low_lt {s : Nat} (hs : s < 1024) (h0 : s ≠ 0) : low s < 10 := by
  have h : ∀ s, s < 1024 → s ≠ 0 → low s < 10 := by decide +kernel
  exact h s hs h0
theorem low_bit {s : Nat} (hs : s < 1024) (h0 : s ≠ 0) : s.testBit (low s) = true := by
  have h : ∀ s, s < 1024 → s ≠ 0 → s.testBit (low s) = true := by decide +kernel
  exact h s hs h0
theorem low_min {s : Nat} (hs : s < 1024) (k : Nat) (hk : k < low s) : s.testBit k = false := by
  have h : ∀ s, s < 1024 → (List.range (low s)).all (fun k => !s.testBit k) = true := by decide +kernel
  have := List.all_eq_true.mp (h s hs) k (List.mem_range.mpr hk)
  simpa using this
theorem pop_le {s : Nat} (hs : s < 1024) : pop s ≤ 10 := by
  have h : ∀ s, s < 1024 → pop s ≤ 10 := by decide +kernel
  exact h s hs
end
section
/-! the reference's small methods -/
theorem wh_ind {α : Type} {P : α → Prop} (μ : α → Nat) (hs : ∀ a, (∀ b, μ b < μ a → P b) → P a) (a : α) : P a := by
  have h : ∀ n a, μ a < n → P a := by
    intro n
    induction n with
    | zero => intro a h; exact absurd h (Nat.not_lt_zero _)
    | succ n ih => intro a h; exact hs a (fun b hb => ih b (by omega))
  exact h (μ a + 1) a (by omega)
theorem bI_n0 {p : Bool} (h : ¬ bI p = 0) : p = true := by cases p <;> simp_all [bI]
theorem bI_n1 {p : Bool} (h : ¬ bI p = 1) : p = false := by cases p <;> simp_all [bI]
/-- what the reference's object holds of the graph: n vertices, nb v: the neighbours of v -/
def MI (A : Nat → Nat → Int32) (F : Nat → Int32) (n : Nat) (nb : Nat → Nat) : Prop := n ≤ 10 ∧ F 6 = nI n ∧ (∀ v, v < 10 → A 29 v = nI (nb v)) ∧ ∀ v, v < 10 → nb v < 1024
section MM
variable {xs : Nat → Int32} {Ls : Nat} {A : Nat → Nat → Int32} {B : Nat → Nat → Int64} {F : Nat → Int32} {sw : Bool} {n : Nat} {nb : Nat → Nat}
theorem ev_isIn (v lo hi : Int32) (w : mv_W) : mv_Ev xs Ls 1 85 [.int v, .int lo, .int hi] w (some (.int (bI (decide (lo ≤ v) && decide (v ≤ hi)))), w, 0, 0) := by
  refine ev_of_wp rfl rfl rfl ?_
  refine wp_go (f' := ((if v < lo then 14 else 5), [.int v, .int lo, .int hi], [], w, 0, 0)) 3 rfl ?_
  refine wp_ite (fun h1 => ?_) (fun h1 => ?_)
  · skip
    refine wp_go (f' := (15, [.int v, .int lo, .int hi], [.int (nI 0)], w, 0, 0)) 1 rfl ?_
    rw [show bI (decide (lo ≤ v) && decide (v ≤ hi)) = nI 0 from ?_]
    · exact wp_zret rfl (by first | exact Or.inl rfl | exact Or.inr rfl)
    · first | (simp [bI, Int32.not_le.mpr h1] <;> rfl) | (simp [bI, Int32.not_lt.mp h1, Int32.not_le.mpr h2] <;> rfl) | (simp [bI, Int32.not_lt.mp h1, Int32.not_lt.mp h2] <;> rfl)
  · skip
    refine wp_go (f' := ((if hi < v then 14 else 10), [.int v, .int lo, .int hi], [], w, 0, 0)) 3 rfl ?_
    refine wp_ite (fun h2 => ?_) (fun h2 => ?_)
    · skip
      refine wp_go (f' := (15, [.int v, .int lo, .int hi], [.int (nI 0)], w, 0, 0)) 1 rfl ?_
      rw [show bI (decide (lo ≤ v) && decide (v ≤ hi)) = nI 0 from ?_]
      · exact wp_zret rfl (by first | exact Or.inl rfl | exact Or.inr rfl)
      · first | (simp [bI, Int32.not_le.mpr h1] <;> rfl) | (simp [bI, Int32.not_lt.mp h1, Int32.not_le.mpr h2] <;> rfl) | (simp [bI, Int32.not_lt.mp h1, Int32.not_lt.mp h2] <;> rfl)
    · skip
      refine wp_go (f' := (15, [.int v, .int lo, .int hi], [.int (nI 1)], w, 0, 0)) 2 rfl ?_
      rw [show bI (decide (lo ≤ v) && decide (v ≤ hi)) = nI 1 from ?_]
      · exact wp_zret rfl (by first | exact Or.inl rfl | exact Or.inr rfl)
      · first | (simp [bI, Int32.not_le.mpr h1] <;> rfl) | (simp [bI, Int32.not_lt.mp h1, Int32.not_le.mpr h2] <;> rfl) | (simp [bI, Int32.not_lt.mp h1, Int32.not_lt.mp h2] <;> rfl)
theorem ev_isVertex (v : Int32) : mv_Ev xs Ls 2 87 [.ref 28, .int v] (MW A B F sw) (some (.int (bI (decide (nI 0 ≤ v) && decide (v ≤ F 6 - nI 1)))), MW A B F sw, 0, 0) := by
  refine ev_of_wp rfl rfl rfl ?_
  refine wp_go (f' := (8, [.ref 28, .int v], [.int ((F 6) - (nI 1)), .int (nI 0), .int v], MW A B F sw, 0, 0)) 6 rfl ?_
  refine wp_call rfl rfl rfl (ev_up (ev_isIn v (nI 0) ((F 6) - (nI 1)) _) (by decide)) ?_
  refine wp_eq (f' := (11, [.ref 28, .int v], [.int (bI (decide ((nI 0) ≤ v) && decide (v ≤ ((F 6) - (nI 1)))))], MW A B F sw, 0, 0)) rfl ?_
  exact wp_zret rfl (bI_01 _)
theorem ev_all (hM : MI A F n nb) : mv_Ev xs Ls 1 93 [.ref 28] (MW A B F sw) (some (.int (nI (2 ^ n - 1))), MW A B F sw, 0, 0) := by
  refine ev_of_wp rfl rfl rfl ?_
  have hn := hM.1
  refine wp_go (f' := (5, [.ref 28], [.int (F 6), .int (nI 1)], MW A B F sw, 0, 0)) 3 rfl ?_
  rw [hM.2.1]
  refine wp_go (f' := (6, [.ref 28], [.int ((nI 1) <<< ((nI n) &&& 31))], MW A B F sw, 0, 0)) 1 rfl ?_
  rw [bx_one (by omega)]
  refine wp_go (f' := (8, [.ref 28], [.int ((nI (2 ^ n)) - (nI 1))], MW A B F sw, 0, 0)) 2 rfl ?_
  rw [pk_sub Nat.one_le_two_pow]
  exact wp_iret rfl
theorem ev_isEdge (hM : MI A F n nb) (a b : Nat) (ha : a < 10) (hb : b < 10) : mv_Ev xs Ls 1 88 [.ref 28, .int (nI a), .int (nI b)] (MW A B F sw) (some (.int (bI ((nb a).testBit b))), MW A B F sw, 0, 0) := by
  refine ev_of_wp rfl rfl rfl ?_
  have hn := hM.1
  have hb2 := hM.2.2.2 a (by omega)
  refine wp_go (f' := (5, [.ref 28, .int (nI a), .int (nI b)], [.int (nI a), .ref 29], MW A B F sw, 0, 0)) 3 rfl ?_
  refine wp_iald rfl rfl (by omega) (by decide) ?_
  rw [hM.2.2.1 a (by omega)]
  refine wp_go (f' := (10, [.ref 28, .int (nI a), .int (nI b)], [.int (((nI (nb a)) >>> ((nI b) &&& 31)) &&& (nI 1))], MW A B F sw, 0, 0)) 4 rfl ?_
  rw [bx_bit (by omega) (by omega)]
  refine wp_go (f' := ((if ¬ (bI ((nb a).testBit b)) = (nI 1) then 18 else 14), [.ref 28, .int (nI a), .int (nI b)], [], MW A B F sw, 0, 0)) 2 rfl ?_
  refine wp_ite (fun h1 => ?_) (fun h1 => ?_)
  · have h1 := bI_n1 h1
    refine wp_go (f' := (19, [.ref 28, .int (nI a), .int (nI b)], [.int (nI 0)], MW A B F sw, 0, 0)) 1 rfl ?_
    rw [show bI ((nb a).testBit b) = nI 0 by simp [h1, bI, nI] <;> rfl]
    exact wp_zret rfl (by first | exact Or.inl rfl | exact Or.inr rfl)
  · have h1 := Classical.not_not.mp h1; have h1 := bI_1.mp h1
    refine wp_go (f' := (19, [.ref 28, .int (nI a), .int (nI b)], [.int (nI 1)], MW A B F sw, 0, 0)) 2 rfl ?_
    rw [show bI ((nb a).testBit b) = nI 1 by simp [h1, bI, nI] <;> rfl]
    exact wp_zret rfl (by first | exact Or.inl rfl | exact Or.inr rfl)
theorem ev_onesN {s : Nat} (hs : s < 1024) (w : mv_W) : mv_Ev xs Ls 1 97 [.int (nI s)] w (some (.int (nI (pop s))), w, 0, 0) := by
  have h := ev_ones (xs := xs) (Ls := Ls) (d := 0) (nI s) w
  rw [ones_pop s hs] at h
  exact h
theorem ev_lowest {s : Nat} (hs : s < 1024) (h0 : s ≠ 0) (w : mv_W) : mv_Ev xs Ls 1 95 [.int (nI s)] w (some (.int (nI (low s))), w, 0, 0) := by
  refine ev_of_wp rfl rfl rfl ?_
  have hl := low_lt hs h0
  refine wp_go (f' := (2, [.int (nI s), .int (nI 0)], [], w, 0, 0)) 2 rfl ?_
  refine wh_ind (P := fun (k : Nat) => k ≤ low s → mv_Wp xs Ls 0 6 false (some .int) mv_c95 (2, [.int (nI s), .int (nI k)], [], w, 0, 0) (some (.int (nI (low s))), w, 0, 0)) (fun k => 10 - k) ?_ 0 (Nat.zero_le _)
  intro k ih hk
  refine wp_go (f' := (7, [.int (nI s), .int (nI k)], [.int (((nI s) >>> ((nI k) &&& 31)) &&& (nI 1))], w, 0, 0)) 5 rfl ?_
  rw [bx_bit (by omega) (by omega)]
  refine wp_go (f' := ((if ¬ (bI (s.testBit k)) = 0 then 16 else 10), [.int (nI s), .int (nI k)], [], w, 0, 0)) 1 rfl ?_
  refine wp_ite (fun h1 => ?_) (fun h1 => ?_)
  · have h1 := bI_n0 h1
    refine wp_go (f' := (17, [.int (nI s), .int (nI k)], [.int (nI k)], w, 0, 0)) 1 rfl ?_
    have h9 : k = low s := by
      rcases Nat.lt_or_ge k (low s) with g | g
      · rw [low_min hs k g] at h1; cases h1
      · omega
    subst h9
    exact wp_iret rfl
  · have h1 := Classical.not_not.mp h1; have h1 := bI_0.mp h1
    refine wp_go (f' := (13, [.int (nI s), .int ((nI k) + 1)], [], w, 0, 0)) 1 rfl ?_
    rw [nI_1]
    refine wp_go (f' := (2, [.int (nI s), .int (nI (k + 1))], [], w, 0, 0)) 1 rfl ?_
    have h9 : k ≠ low s := fun e => by rw [e, low_bit hs h0] at h1; cases h1
    exact ih (k + 1) (by omega) (by omega)
/-- all that some vertex of s is joined to -/
def reachN (n : Nat) (nb : Nat → Nat) (s : Nat) : Nat := forN (fun k g => if s.testBit k then g ||| nb k else g) n 0
theorem forN_inv {α : Type} {I : Nat → α → Prop} {f : Nat → α → α} {n : Nat} {a : α} (h0 : I 0 a) (hs : ∀ k a, k < n → I k a → I (k + 1) (f k a)) : ∀ j, j ≤ n → I j (forN f j a) := by
  intro j
  induction j with
  | zero => intro _; exact h0
  | succ j ih => intro hj; exact hs j _ (by omega) (ih (by omega))
theorem reachN_lt (hn : n ≤ 10) (hb : ∀ v, v < 10 → nb v < 1024) (s : Nat) : reachN n nb s < 1024 := by
  refine forN_inv (I := fun _ g => g < 1024) (by decide) (fun k g hk hg => ?_) n (Nat.le_refl _)
  split
  · exact or_lt hg (hb k (by omega))
  · exact hg
theorem ev_around (hM : MI A F n nb) {s : Nat} (hs : s < 1024) : mv_Ev xs Ls 1 103 [.ref 28, .int (nI s)] (MW A B F sw) (some (.int (nI (sd (reachN n nb s) s))), MW A B F sw, 0, 0) := by
  refine ev_of_wp rfl rfl rfl ?_
  have hn := hM.1
  refine wp_go (f' := (4, [.ref 28, .int (nI s), .int (nI 0), .int (nI 0)], [], MW A B F sw, 0, 0)) 4 rfl ?_
  refine for_ind (P := fun (k : Nat) (g : Nat) => mv_Wp xs Ls 0 6 false (some .int) mv_c103 (4, [.ref 28, .int (nI s), .int (nI g), .int (nI k)], [], MW A B F sw, 0, 0) (some (.int (nI (sd (reachN n nb s) s))), MW A B F sw, 0, 0)) (f := fun k g => if s.testBit k then g ||| nb k else g) (n := n) ?_ n 0 (Nat.le_refl _) ?_
  · intro k g hk ih
    refine wp_go (f' := (9, [.ref 28, .int (nI s), .int (nI g), .int (nI k)], [.int (F 6), .int (nI k)], MW A B F sw, 0, 0)) 3 rfl ?_
    rw [hM.2.1]
    refine wp_go (f' := ((if (nI n) ≤ (nI k) then 40 else 12), [.ref 28, .int (nI s), .int (nI g), .int (nI k)], [], MW A B F sw, 0, 0)) 1 rfl ?_
    refine wp_ite (fun h9 => absurd h9 (nI_ge hk (by omega))) (fun _ => ?_)
    refine wp_go (f' := (18, [.ref 28, .int (nI s), .int (nI g), .int (nI k)], [.int (((nI s) >>> ((nI k) &&& 31)) &&& (nI 1)), .int (nI g)], MW A B F sw, 0, 0)) 6 rfl ?_
    rw [bx_bit (by omega) (by omega)]
    refine wp_go (f' := ((if ¬ (bI (s.testBit k)) = (nI 1) then 31 else 22), [.ref 28, .int (nI s), .int (nI g), .int (nI k)], [.int (nI g)], MW A B F sw, 0, 0)) 2 rfl ?_
    refine wp_ite (fun h1 => ?_) (fun h1 => ?_)
    · have h1 := bI_n1 h1
      refine wp_go (f' := (33, [.ref 28, .int (nI s), .int (nI g), .int (nI k)], [.int ((nI g) ||| (nI 0))], MW A B F sw, 0, 0)) 2 rfl ?_
      rw [bx_or]
      refine wp_go (f' := (37, [.ref 28, .int (nI s), .int (nI (g ||| 0)), .int ((nI k) + 1)], [], MW A B F sw, 0, 0)) 2 rfl ?_
      rw [nI_1]
      refine wp_go (f' := (4, [.ref 28, .int (nI s), .int (nI (g ||| 0)), .int (nI (k + 1))], [], MW A B F sw, 0, 0)) 1 rfl ?_
      refine wp_eq ?_ ih
      simp [h1]
    · have h1 := Classical.not_not.mp h1; have h1 := bI_1.mp h1
      refine wp_go (f' := (27, [.ref 28, .int (nI s), .int (nI g), .int (nI k)], [.int (nI k), .ref 29, .int (nI g)], MW A B F sw, 0, 0)) 3 rfl ?_
      refine wp_iald rfl rfl (by omega) (by decide) ?_
      rw [hM.2.2.1 k (by omega)]
      refine wp_go (f' := (33, [.ref 28, .int (nI s), .int (nI g), .int (nI k)], [.int ((nI g) ||| (nI (nb k)))], MW A B F sw, 0, 0)) 2 rfl ?_
      rw [bx_or]
      refine wp_go (f' := (37, [.ref 28, .int (nI s), .int (nI (g ||| (nb k))), .int ((nI k) + 1)], [], MW A B F sw, 0, 0)) 2 rfl ?_
      rw [nI_1]
      refine wp_go (f' := (4, [.ref 28, .int (nI s), .int (nI (g ||| (nb k))), .int (nI (k + 1))], [], MW A B F sw, 0, 0)) 1 rfl ?_
      refine wp_eq ?_ ih
      simp [h1]
  · have hr : reachN n nb s < 1024 := reachN_lt hM.1 hM.2.2.2 s
    refine wp_go (f' := (9, [.ref 28, .int (nI s), .int (nI (reachN n nb s)), .int (nI n)], [.int (F 6), .int (nI n)], MW A B F sw, 0, 0)) 3 rfl ?_
    rw [hM.2.1]
    refine wp_go (f' := ((if (nI n) ≤ (nI n) then 40 else 12), [.ref 28, .int (nI s), .int (nI (reachN n nb s)), .int (nI n)], [], MW A B F sw, 0, 0)) 1 rfl ?_
    refine wp_ite (fun _ => ?_) (fun h9 => absurd (nI_le (Nat.le_refl _) (by omega)) h9)
    refine wp_go (f' := (45, [.ref 28, .int (nI s), .int (nI (reachN n nb s)), .int (nI n)], [.int ((nI (reachN n nb s)) &&& ((nI s) ^^^ (-1)))], MW A B F sw, 0, 0)) 5 rfl ?_
    rw [bx_sd (by omega)]
    exact wp_iret rfl
end MM
end
section
/-! iterating, the reference's hang -/
def itN (f : Nat → Nat) : Nat → Nat → Nat
  | 0, x => x
  | k + 1, x => f (itN f k x)
theorem itN_comm (f : Nat → Nat) : ∀ k x, itN f k (f x) = f (itN f k x)
  | 0, x => rfl
  | k + 1, x => by simp only [itN]; rw [itN_comm f k x]
theorem itN_fix {f : Nat → Nat} {x : Nat} (h : f x = x) : ∀ k, itN f k x = x
  | 0 => rfl
  | k + 1 => by simp only [itN]; rw [itN_fix h k, h]
theorem itN_lt {f : Nat → Nat} {m : Nat} (hf : ∀ x, x < m → f x < m) {x : Nat} (hx : x < m) : ∀ k, itN f k x < m
  | 0 => hx
  | k + 1 => hf _ (itN_lt hf hx k)
theorem itN_end {f : Nat → Nat} {m : Nat} (hf : ∀ x, x < m → f x < m) (hg : ∀ x, x < m → x ≤ f x) {x : Nat} (hx : x < m) : f (itN f m x) = itN f m x := by
  have h : ∀ k, f (itN f k x) = itN f k x ∨ x + k ≤ itN f k x := by
    intro k
    induction k with
    | zero => exact Or.inr (Nat.le_refl _)
    | succ k ih =>
      rcases ih with h | h
      · left; simp only [itN]; rw [h, h]
      · by_cases e : f (itN f k x) = itN f k x
        · left; simp only [itN]; rw [e, e]
        · right
          have := hg _ (itN_lt hf hx k)
          simp only [itN]
          omega
  rcases h m with h | h
  · exact h
  · have := itN_lt hf hx m
    omega
/-- one round of hang -/
def hstep (n : Nat) (nb : Nat → Nat) (s g : Nat) : Nat := forN (fun k x => if g.testBit k then x ||| (nb k &&& s) else x) n g
/-- the vertices of s that hang together with v -/
def hangN (n : Nat) (nb : Nat → Nat) (v s : Nat) : Nat := itN (hstep n nb s) 1024 (2 ^ v)
theorem hstep_lt {n : Nat} {nb : Nat → Nat} {s g : Nat} (hs : s < 1024) (hg : g < 1024) : hstep n nb s g < 1024 := by
  refine forN_inv (I := fun _ x => x < 1024) hg (fun k x hk hx => ?_) n (Nat.le_refl _)
  split
  · exact or_lt hx (Nat.lt_of_le_of_lt Nat.and_le_right hs)
  · exact hx
theorem hstep_ge (n : Nat) (nb : Nat → Nat) (s g : Nat) : g ≤ hstep n nb s g := by
  refine forN_inv (I := fun _ x => g ≤ x) (Nat.le_refl _) (fun k x hk hx => ?_) n (Nat.le_refl _)
  split
  · exact Nat.le_trans hx Nat.left_le_or
  · exact hx
theorem hang_end {n : Nat} {nb : Nat → Nat} {s g : Nat} (hs : s < 1024) (hg : g < 1024) : hstep n nb s (itN (hstep n nb s) 1024 g) = itN (hstep n nb s) 1024 g := itN_end (fun x hx => hstep_lt hs hx) (fun x _ => hstep_ge n nb s x) hg
theorem hangN_lt {n : Nat} {nb : Nat → Nat} {v s : Nat} (hv : v < 10) (hs : s < 1024) : hangN n nb v s < 1024 := itN_lt (fun x hx => hstep_lt hs hx) (pow_lt hv) 1024
section MM
variable {xs : Nat → Int32} {Ls : Nat} {A : Nat → Nat → Int32} {B : Nat → Nat → Int64} {F : Nat → Int32} {sw : Bool} {n : Nat} {nb : Nat → Nat}
theorem ev_hang (hM : MI A F n nb) {v s : Nat} (hv : v < 10) (hs : s < 1024) : mv_Ev xs Ls 1 96 [.ref 28, .int (nI v), .int (nI s)] (MW A B F sw) (some (.int (nI (hangN n nb v s))), MW A B F sw, 0, 0) := by
  refine ev_of_wp rfl rfl rfl ?_
  have hn := hM.1
  have hbs := hM.2.2.2
  refine wp_go (f' := (3, [.ref 28, .int (nI v), .int (nI s), .retAddr 0, .retAddr 0, .retAddr 0, .retAddr 0], [.int ((nI 1) <<< ((nI v) &&& 31))], MW A B F sw, 0, 0)) 3 rfl ?_
  rw [bx_one (by omega)]
  refine wp_go (f' := (7, [.ref 28, .int (nI v), .int (nI s), .int (nI (2 ^ v)), .int (nI 1), .retAddr 0, .retAddr 0], [], MW A B F sw, 0, 0)) 3 rfl ?_
  refine wh_ind (P := fun (g : Nat) => g < 1024 → ∀ (d5 d6 : Value), mv_Wp xs Ls 0 6 false (some .int) mv_c96 (7, [.ref 28, .int (nI v), .int (nI s), .int (nI g), .int (nI 1), d5, d6], [], MW A B F sw, 0, 0) (some (.int (nI (itN (hstep n nb s) 1024 g))), MW A B F sw, 0, 0)) (fun g => 1024 - g) ?_ (2 ^ v) (pow_lt hv) _ _
  intro g ih hg d5 d6
  refine wp_go (f' := ((if (nI 1) = 0 then 76 else 12), [.ref 28, .int (nI v), .int (nI s), .int (nI g), .int (nI 1), d5, d6], [], MW A B F sw, 0, 0)) 2 rfl ?_
  refine wp_ite (fun h9 => absurd h9 (by decide : ¬ nI 1 = 0)) (fun _ => ?_)
  refine wp_go (f' := (18, [.ref 28, .int (nI v), .int (nI s), .int (nI g), .int (nI 1), .int (nI g), .int (nI 0)], [], MW A B F sw, 0, 0)) 4 rfl ?_
  refine for_ind (P := fun (k : Nat) (x : Nat) => mv_Wp xs Ls 0 6 false (some .int) mv_c96 (18, [.ref 28, .int (nI v), .int (nI s), .int (nI g), .int (nI 1), .int (nI x), .int (nI k)], [], MW A B F sw, 0, 0) (some (.int (nI (itN (hstep n nb s) 1024 g))), MW A B F sw, 0, 0)) (f := fun k x => if g.testBit k then x ||| (nb k &&& s) else x) (n := n) ?_ n g (Nat.le_refl _) ?_
  · intro k x hk ih2
    refine wp_go (f' := (24, [.ref 28, .int (nI v), .int (nI s), .int (nI g), .int (nI 1), .int (nI x), .int (nI k)], [.int (F 6), .int (nI k)], MW A B F sw, 0, 0)) 3 rfl ?_
    rw [hM.2.1]
    refine wp_go (f' := ((if (nI n) ≤ (nI k) then 57 else 27), [.ref 28, .int (nI v), .int (nI s), .int (nI g), .int (nI 1), .int (nI x), .int (nI k)], [], MW A B F sw, 0, 0)) 1 rfl ?_
    refine wp_ite (fun h9 => absurd h9 (nI_ge hk (by omega))) (fun _ => ?_)
    refine wp_go (f' := (33, [.ref 28, .int (nI v), .int (nI s), .int (nI g), .int (nI 1), .int (nI x), .int (nI k)], [.int (((nI g) >>> ((nI k) &&& 31)) &&& (nI 1))], MW A B F sw, 0, 0)) 5 rfl ?_
    rw [bx_bit (by omega) (by omega)]
    refine wp_go (f' := ((if ¬ (bI (g.testBit k)) = (nI 1) then 51 else 37), [.ref 28, .int (nI v), .int (nI s), .int (nI g), .int (nI 1), .int (nI x), .int (nI k)], [], MW A B F sw, 0, 0)) 2 rfl ?_
    refine wp_ite (fun h1 => ?_) (fun h1 => ?_)
    · have h1 := bI_n1 h1
      refine wp_go (f' := (54, [.ref 28, .int (nI v), .int (nI s), .int (nI g), .int (nI 1), .int (nI x), .int ((nI k) + 1)], [], MW A B F sw, 0, 0)) 1 rfl ?_
      rw [nI_1]
      refine wp_go (f' := (18, [.ref 28, .int (nI v), .int (nI s), .int (nI g), .int (nI 1), .int (nI x), .int (nI (k + 1))], [], MW A B F sw, 0, 0)) 1 rfl ?_
      refine wp_eq ?_ ih2
      simp [h1]
    · have h1 := Classical.not_not.mp h1; have h1 := bI_1.mp h1
      refine wp_go (f' := (45, [.ref 28, .int (nI v), .int (nI s), .int (nI g), .int (nI 1), .int (nI x), .int (nI k)], [.int (nI k), .ref 29, .int (nI x)], MW A B F sw, 0, 0)) 4 rfl ?_
      refine wp_iald rfl rfl (by omega) (by decide) ?_
      rw [hM.2.2.1 k (by omega)]
      refine wp_go (f' := (48, [.ref 28, .int (nI v), .int (nI s), .int (nI g), .int (nI 1), .int (nI x), .int (nI k)], [.int ((nI (nb k)) &&& (nI s)), .int (nI x)], MW A B F sw, 0, 0)) 2 rfl ?_
      rw [bx_and]
      refine wp_go (f' := (49, [.ref 28, .int (nI v), .int (nI s), .int (nI g), .int (nI 1), .int (nI x), .int (nI k)], [.int ((nI x) ||| (nI ((nb k) &&& s)))], MW A B F sw, 0, 0)) 1 rfl ?_
      rw [bx_or]
      refine wp_go (f' := (54, [.ref 28, .int (nI v), .int (nI s), .int (nI g), .int (nI 1), .int (nI (x ||| ((nb k) &&& s))), .int ((nI k) + 1)], [], MW A B F sw, 0, 0)) 2 rfl ?_
      rw [nI_1]
      refine wp_go (f' := (18, [.ref 28, .int (nI v), .int (nI s), .int (nI g), .int (nI 1), .int (nI (x ||| ((nb k) &&& s))), .int (nI (k + 1))], [], MW A B F sw, 0, 0)) 1 rfl ?_
      refine wp_eq ?_ ih2
      simp [h1]
  · have hlt := hstep_lt (n := n) (nb := nb) hs hg
    have hge := hstep_ge n nb s g
    refine wp_go (f' := (24, [.ref 28, .int (nI v), .int (nI s), .int (nI g), .int (nI 1), .int (nI (hstep n nb s g)), .int (nI n)], [.int (F 6), .int (nI n)], MW A B F sw, 0, 0)) 3 rfl ?_
    rw [hM.2.1]
    refine wp_go (f' := ((if (nI n) ≤ (nI n) then 57 else 27), [.ref 28, .int (nI v), .int (nI s), .int (nI g), .int (nI 1), .int (nI (hstep n nb s g)), .int (nI n)], [], MW A B F sw, 0, 0)) 1 rfl ?_
    refine wp_ite (fun _ => ?_) (fun h9 => absurd (nI_le (Nat.le_refl _) (by omega)) h9)
    refine wp_go (f' := ((if (nI (hstep n nb s g)) = (nI g) then 67 else 63), [.ref 28, .int (nI v), .int (nI s), .int (nI g), .int (nI 1), .int (nI (hstep n nb s g)), .int (nI n)], [], MW A B F sw, 0, 0)) 3 rfl ?_
    refine wp_ite (fun h1 => ?_) (fun h1 => ?_)
    · have h1 : hstep n nb s g = g := (nI_eq (by omega) (by omega)).mp h1
      refine wp_go (f' := (7, [.ref 28, .int (nI v), .int (nI s), .int (nI (hstep n nb s g)), .int (nI 0), .int (nI (hstep n nb s g)), .int (nI n)], [], MW A B F sw, 0, 0)) 5 rfl ?_
      rw [itN_fix h1]
      rw [h1]
      refine wp_go (f' := ((if (nI 0) = 0 then 76 else 12), [.ref 28, .int (nI v), .int (nI s), .int (nI g), .int (nI 0), .int (nI g), .int (nI n)], [], MW A B F sw, 0, 0)) 2 rfl ?_
      refine wp_ite (fun _ => ?_) (fun h9 => absurd (rfl : nI 0 = 0) h9)
      refine wp_go (f' := (77, [.ref 28, .int (nI v), .int (nI s), .int (nI g), .int (nI 0), .int (nI g), .int (nI n)], [.int (nI g)], MW A B F sw, 0, 0)) 1 rfl ?_
      exact wp_iret rfl
    · have h1 : ¬ (hstep n nb s g = g) := fun h9 => h1 ((nI_eq (by omega) (by omega)).mpr h9)
      refine wp_go (f' := (7, [.ref 28, .int (nI v), .int (nI s), .int (nI (hstep n nb s g)), .int (nI 1), .int (nI (hstep n nb s g)), .int (nI n)], [], MW A B F sw, 0, 0)) 6 rfl ?_
      have h8 := ih (hstep n nb s g) (by omega) hlt (.int (nI (hstep n nb s g))) (.int (nI n))
      rw [itN_comm, hang_end hs hg] at h8
      exact h8
end MM
end
section
theorem and_lt_r {a b : Nat} (hb : b < 1024) : a &&& b < 1024 := Nat.lt_of_le_of_lt Nat.and_le_right hb
theorem nI1 : nI 1 = 1 := rfl
theorem nI0 : nI 0 = 0 := rfl
theorem bIT : bI true = 1 := rfl
theorem bIF : bI false = 0 := rfl
/-- s hangs together -/
def wholeN (n : Nat) (nb : Nat → Nat) (s : Nat) : Bool := decide (s = 0) || decide (hangN n nb (low s) s = s)
/-- no two of s are joined -/
def apartN (n : Nat) (nb : Nat → Nat) (s : Nat) : Bool := forN (fun k b => b && (!(s.testBit k) || decide (nb k &&& s = 0))) n true
/-- a clique to which no other comes -/
def cliqueN (n : Nat) (nb : Nat → Nat) (s : Nat) : Bool := forN (fun k b => b && (if s.testBit k then decide (nb k &&& s = sd s (2 ^ k)) else decide (¬ nb k &&& s = s))) n (decide (¬ s = 0))
/-- a hole -/
def holeN (n : Nat) (nb : Nat → Nat) (s : Nat) : Bool := forN (fun k b => b && (!(s.testBit k) || decide (pop (nb k &&& s) = 2))) n (decide (3 < pop s) && wholeN n nb s)
/-- twice the edges within s -/
def degsN (n : Nat) (nb : Nat → Nat) (s : Nat) : Nat := forN (fun k m => m + (if s.testBit k then pop (nb k &&& s) else 0)) n 0
section MM
variable {xs : Nat → Int32} {Ls : Nat} {A : Nat → Nat → Int32} {B : Nat → Nat → Int64} {F : Nat → Int32} {sw : Bool} {n : Nat} {nb : Nat → Nat}
theorem ev_isWhole (hM : MI A F n nb) {s : Nat} (hs : s < 1024) : mv_Ev xs Ls 2 100 [.ref 28, .int (nI s)] (MW A B F sw) (some (.int (bI (wholeN n nb s))), MW A B F sw, 0, 0) := by
  refine ev_of_wp rfl rfl rfl ?_
  have hn := hM.1
  refine wp_go (f' := ((if (nI s) = 0 then 17 else 4), [.ref 28, .int (nI s)], [], MW A B F sw, 0, 0)) 2 rfl ?_
  refine wp_ite (fun h1 => ?_) (fun h1 => ?_)
  · have h1 : s = 0 := (nI_eq (a := s) (b := 0) (by omega) (by omega)).mp h1
    refine wp_go (f' := (22, [.ref 28, .int (nI s)], [.int (nI 1)], MW A B F sw, 0, 0)) 2 rfl ?_
    rw [show bI (wholeN n nb s) = nI 1 by simp [wholeN, h1, bIT, bIF, nI1, nI0]]
    exact wp_zret rfl (by first | exact Or.inl rfl | exact Or.inr rfl)
  · have h1 : ¬ (s = 0) := fun h9 => h1 ((nI_eq (a := s) (b := 0) (by omega) (by omega)).mpr h9)
    refine wp_go (f' := (6, [.ref 28, .int (nI s)], [.int (nI s), .ref 28], MW A B F sw, 0, 0)) 2 rfl ?_
    refine wp_call rfl rfl rfl (ev_up (ev_lowest (s := s) (by omega) (by omega) _) (by decide)) ?_
    refine wp_eq (f' := (9, [.ref 28, .int (nI s)], [.int (nI (low s)), .ref 28], MW A B F sw, 0, 0)) rfl ?_
    have hlw := low_lt (s := s) (by omega) (by omega)
    refine wp_go (f' := (10, [.ref 28, .int (nI s)], [.int (nI s), .int (nI (low s)), .ref 28], MW A B F sw, 0, 0)) 1 rfl ?_
    refine wp_call rfl rfl rfl (ev_up (ev_hang hM (v := low s) (s := s) (by omega) (by omega)) (by decide)) ?_
    refine wp_eq (f' := (13, [.ref 28, .int (nI s)], [.int (nI (hangN n nb (low s) s))], MW A B F sw, 0, 0)) rfl ?_
    have hhg := hangN_lt (n := n) (nb := nb) (v := low s) (s := s) (by omega) (by omega)
    refine wp_go (f' := ((if ¬ (nI (hangN n nb (low s) s)) = (nI s) then 21 else 17), [.ref 28, .int (nI s)], [], MW A B F sw, 0, 0)) 2 rfl ?_
    refine wp_ite (fun h2 => ?_) (fun h2 => ?_)
    · have h2 : ¬ (hangN n nb (low s) s = s) := fun h9 => h2 ((nI_eq (a := hangN n nb (low s) s) (b := s) (by omega) (by omega)).mpr h9)
      refine wp_go (f' := (22, [.ref 28, .int (nI s)], [.int (nI 0)], MW A B F sw, 0, 0)) 1 rfl ?_
      rw [show bI (wholeN n nb s) = nI 0 by simp [wholeN, h1, h2, bIT, bIF, nI1, nI0]]
      exact wp_zret rfl (by first | exact Or.inl rfl | exact Or.inr rfl)
    · have h2 := Classical.not_not.mp h2; have h2 : hangN n nb (low s) s = s := (nI_eq (a := hangN n nb (low s) s) (b := s) (by omega) (by omega)).mp h2
      refine wp_go (f' := (22, [.ref 28, .int (nI s)], [.int (nI 1)], MW A B F sw, 0, 0)) 2 rfl ?_
      rw [show bI (wholeN n nb s) = nI 1 by simp [wholeN, h1, h2, bIT, bIF, nI1, nI0]]
      exact wp_zret rfl (by first | exact Or.inl rfl | exact Or.inr rfl)
theorem ev_isApart (hM : MI A F n nb) {s : Nat} (hs : s < 1024) : mv_Ev xs Ls 1 122 [.ref 28, .int (nI s)] (MW A B F sw) (some (.int (bI (apartN n nb s))), MW A B F sw, 0, 0) := by
  refine ev_of_wp rfl rfl rfl ?_
  have hn := hM.1
  refine wp_go (f' := (4, [.ref 28, .int (nI s), .int (nI 1), .int (nI 0)], [], MW A B F sw, 0, 0)) 4 rfl ?_
  refine for_ind (P := fun (k : Nat) (b : Bool) => mv_Wp xs Ls 0 6 false (some .boolean) mv_c122 (4, [.ref 28, .int (nI s), .int (bI b), .int (nI k)], [], MW A B F sw, 0, 0) (some (.int (bI (apartN n nb s))), MW A B F sw, 0, 0)) (f := fun k b => b && (!(s.testBit k) || decide (nb k &&& s = 0))) (n := n) ?_ n true (Nat.le_refl _) ?_
  · intro k b hk ih
    refine wp_go (f' := (9, [.ref 28, .int (nI s), .int (bI b), .int (nI k)], [.int (F 6), .int (nI k)], MW A B F sw, 0, 0)) 3 rfl ?_
    rw [hM.2.1]
    refine wp_go (f' := ((if (nI n) ≤ (nI k) then 47 else 12), [.ref 28, .int (nI s), .int (bI b), .int (nI k)], [], MW A B F sw, 0, 0)) 1 rfl ?_
    refine wp_ite (fun h9 => absurd h9 (nI_ge hk (by omega))) (fun _ => ?_)
    refine wp_go (f' := ((if (bI b) = 0 then 39 else 16), [.ref 28, .int (nI s), .int (bI b), .int (nI k)], [], MW A B F sw, 0, 0)) 2 rfl ?_
    refine wp_ite (fun h1 => ?_) (fun h1 => ?_)
    · have h1 := bI_0.mp h1
      refine wp_go (f' := (44, [.ref 28, .int (nI s), .int (nI 0), .int ((nI k) + 1)], [], MW A B F sw, 0, 0)) 3 rfl ?_
      rw [nI_1]
      refine wp_go (f' := (4, [.ref 28, .int (nI s), .int (nI 0), .int (nI (k + 1))], [], MW A B F sw, 0, 0)) 1 rfl ?_
      refine wp_eq ?_ ih
      simp [h1, bIT, bIF, nI1, nI0]
    · have h1 := bI_n0 h1
      refine wp_go (f' := (21, [.ref 28, .int (nI s), .int (bI b), .int (nI k)], [.int (((nI s) >>> ((nI k) &&& 31)) &&& (nI 1))], MW A B F sw, 0, 0)) 5 rfl ?_
      rw [bx_bit (by omega) (by omega)]
      refine wp_go (f' := ((if (bI (s.testBit k)) = 0 then 35 else 24), [.ref 28, .int (nI s), .int (bI b), .int (nI k)], [], MW A B F sw, 0, 0)) 1 rfl ?_
      refine wp_ite (fun h2 => ?_) (fun h2 => ?_)
      · have h2 := bI_0.mp h2
        refine wp_go (f' := (44, [.ref 28, .int (nI s), .int (nI 1), .int ((nI k) + 1)], [], MW A B F sw, 0, 0)) 4 rfl ?_
        rw [nI_1]
        refine wp_go (f' := (4, [.ref 28, .int (nI s), .int (nI 1), .int (nI (k + 1))], [], MW A B F sw, 0, 0)) 1 rfl ?_
        refine wp_eq ?_ ih
        simp [h1, h2, bIT, bIF, nI1, nI0]
      · have h2 := bI_n0 h2
        refine wp_go (f' := (29, [.ref 28, .int (nI s), .int (bI b), .int (nI k)], [.int (nI k), .ref 29], MW A B F sw, 0, 0)) 3 rfl ?_
        refine wp_iald rfl rfl (by omega) (by decide) ?_
        rw [hM.2.2.1 k (by omega)]
        have hnb := hM.2.2.2 k (by omega)
        refine wp_go (f' := (32, [.ref 28, .int (nI s), .int (bI b), .int (nI k)], [.int ((nI (nb k)) &&& (nI s))], MW A B F sw, 0, 0)) 2 rfl ?_
        rw [bx_and]
        have hb1 : (nb k) &&& s < 1024 := by first | omega | exact or_lt (by omega) (by omega) | exact and_lt (by omega) | exact and_lt_r (by omega) | exact sd_lt (by omega) | exact pow_lt (by omega)
        refine wp_go (f' := ((if ¬ (nI ((nb k) &&& s)) = 0 then 39 else 35), [.ref 28, .int (nI s), .int (bI b), .int (nI k)], [], MW A B F sw, 0, 0)) 1 rfl ?_
        refine wp_ite (fun h3 => ?_) (fun h3 => ?_)
        · have h3 : ¬ ((nb k) &&& s = 0) := fun h9 => h3 ((nI_eq (a := (nb k) &&& s) (b := 0) (by omega) (by omega)).mpr h9)
          refine wp_go (f' := (44, [.ref 28, .int (nI s), .int (nI 0), .int ((nI k) + 1)], [], MW A B F sw, 0, 0)) 3 rfl ?_
          rw [nI_1]
          refine wp_go (f' := (4, [.ref 28, .int (nI s), .int (nI 0), .int (nI (k + 1))], [], MW A B F sw, 0, 0)) 1 rfl ?_
          refine wp_eq ?_ ih
          simp [h1, h2, h3, bIT, bIF, nI1, nI0]
        · have h3 := Classical.not_not.mp h3; have h3 : (nb k) &&& s = 0 := (nI_eq (a := (nb k) &&& s) (b := 0) (by omega) (by omega)).mp h3
          refine wp_go (f' := (44, [.ref 28, .int (nI s), .int (nI 1), .int ((nI k) + 1)], [], MW A B F sw, 0, 0)) 4 rfl ?_
          rw [nI_1]
          refine wp_go (f' := (4, [.ref 28, .int (nI s), .int (nI 1), .int (nI (k + 1))], [], MW A B F sw, 0, 0)) 1 rfl ?_
          refine wp_eq ?_ ih
          simp [h1, h2, h3, bIT, bIF, nI1, nI0]
  · have hn2 := hn
    refine wp_go (f' := (9, [.ref 28, .int (nI s), .int (bI (apartN n nb s)), .int (nI n)], [.int (F 6), .int (nI n)], MW A B F sw, 0, 0)) 3 rfl ?_
    rw [hM.2.1]
    refine wp_go (f' := ((if (nI n) ≤ (nI n) then 47 else 12), [.ref 28, .int (nI s), .int (bI (apartN n nb s)), .int (nI n)], [], MW A B F sw, 0, 0)) 1 rfl ?_
    refine wp_ite (fun _ => ?_) (fun h9 => absurd (nI_le (Nat.le_refl _) (by omega)) h9)
    refine wp_go (f' := (48, [.ref 28, .int (nI s), .int (bI (apartN n nb s)), .int (nI n)], [.int (bI (apartN n nb s))], MW A B F sw, 0, 0)) 1 rfl ?_
    exact wp_zret rfl (bI_01 _)
theorem ev_isCover (hM : MI A F n nb) {s : Nat} (hs : s < 1024) : mv_Ev xs Ls 2 134 [.ref 28, .int (nI s)] (MW A B F sw) (some (.int (bI (apartN n nb (sd (2 ^ n - 1) s)))), MW A B F sw, 0, 0) := by
  refine ev_of_wp rfl rfl rfl ?_
  have hn := hM.1
  have hal := all_lt hn
  refine wp_go (f' := (2, [.ref 28, .int (nI s)], [.ref 28, .ref 28], MW A B F sw, 0, 0)) 2 rfl ?_
  refine wp_call rfl rfl rfl (ev_up (ev_all hM) (by decide)) ?_
  refine wp_eq (f' := (5, [.ref 28, .int (nI s)], [.int (nI (2 ^ n - 1)), .ref 28], MW A B F sw, 0, 0)) rfl ?_
  refine wp_go (f' := (9, [.ref 28, .int (nI s)], [.int ((nI (2 ^ n - 1)) &&& ((nI s) ^^^ (-1))), .ref 28], MW A B F sw, 0, 0)) 4 rfl ?_
  rw [bx_sd (by omega)]
  have hb1 : sd (2 ^ n - 1) s < 1024 := by first | omega | exact or_lt (by omega) (by omega) | exact and_lt (by omega) | exact and_lt_r (by omega) | exact sd_lt (by omega) | exact pow_lt (by omega)
  refine wp_call rfl rfl rfl (ev_up (ev_isApart hM (s := sd (2 ^ n - 1) s) (by omega)) (by decide)) ?_
  refine wp_eq (f' := (12, [.ref 28, .int (nI s)], [.int (bI (apartN n nb (sd (2 ^ n - 1) s)))], MW A B F sw, 0, 0)) rfl ?_
  exact wp_zret rfl (bI_01 _)
/-- each vertex is in s or joined to one in it -/
def nearAllN (n : Nat) (nb : Nat → Nat) (s : Nat) : Bool := decide ((s ||| sd (reachN n nb s) s) = 2 ^ n - 1)
theorem ev_isNearAll (hM : MI A F n nb) {s : Nat} (hs : s < 1024) : mv_Ev xs Ls 2 130 [.ref 28, .int (nI s)] (MW A B F sw) (some (.int (bI (nearAllN n nb s))), MW A B F sw, 0, 0) := by
  refine ev_of_wp rfl rfl rfl ?_
  have hn := hM.1
  have hal := all_lt hn
  refine wp_go (f' := (3, [.ref 28, .int (nI s)], [.int (nI s), .ref 28, .int (nI s)], MW A B F sw, 0, 0)) 3 rfl ?_
  refine wp_call rfl rfl rfl (ev_up (ev_around hM (s := s) (by omega)) (by decide)) ?_
  refine wp_eq (f' := (6, [.ref 28, .int (nI s)], [.int (nI (sd (reachN n nb s) s)), .int (nI s)], MW A B F sw, 0, 0)) rfl ?_
  have hra := sd_lt (b := s) (reachN_lt hM.1 hM.2.2.2 s)
  refine wp_go (f' := (7, [.ref 28, .int (nI s)], [.int ((nI s) ||| (nI (sd (reachN n nb s) s)))], MW A B F sw, 0, 0)) 1 rfl ?_
  rw [bx_or]
  have hb1 : s ||| (sd (reachN n nb s) s) < 1024 := by first | omega | exact or_lt (by omega) (by omega) | exact and_lt (by omega) | exact and_lt_r (by omega) | exact sd_lt (by omega) | exact pow_lt (by omega)
  refine wp_go (f' := (8, [.ref 28, .int (nI s)], [.ref 28, .int (nI (s ||| (sd (reachN n nb s) s)))], MW A B F sw, 0, 0)) 1 rfl ?_
  refine wp_call rfl rfl rfl (ev_up (ev_all hM) (by decide)) ?_
  refine wp_eq (f' := (11, [.ref 28, .int (nI s)], [.int (nI (2 ^ n - 1)), .int (nI (s ||| (sd (reachN n nb s) s)))], MW A B F sw, 0, 0)) rfl ?_
  refine wp_go (f' := ((if ¬ (nI (s ||| (sd (reachN n nb s) s))) = (nI (2 ^ n - 1)) then 18 else 14), [.ref 28, .int (nI s)], [], MW A B F sw, 0, 0)) 1 rfl ?_
  refine wp_ite (fun h1 => ?_) (fun h1 => ?_)
  · have h1 : ¬ (s ||| (sd (reachN n nb s) s) = 2 ^ n - 1) := fun h9 => h1 ((nI_eq (a := s ||| (sd (reachN n nb s) s)) (b := 2 ^ n - 1) (by omega) (by omega)).mpr h9)
    refine wp_go (f' := (19, [.ref 28, .int (nI s)], [.int (nI 0)], MW A B F sw, 0, 0)) 1 rfl ?_
    rw [show bI (nearAllN n nb s) = nI 0 by simp [nearAllN, h1, bIT, bIF, nI1, nI0]]
    exact wp_zret rfl (by first | exact Or.inl rfl | exact Or.inr rfl)
  · have h1 := Classical.not_not.mp h1; have h1 : s ||| (sd (reachN n nb s) s) = 2 ^ n - 1 := (nI_eq (a := s ||| (sd (reachN n nb s) s)) (b := 2 ^ n - 1) (by omega) (by omega)).mp h1
    refine wp_go (f' := (19, [.ref 28, .int (nI s)], [.int (nI 1)], MW A B F sw, 0, 0)) 2 rfl ?_
    rw [show bI (nearAllN n nb s) = nI 1 by simp [nearAllN, h1, bIT, bIF, nI1, nI0]]
    exact wp_zret rfl (by first | exact Or.inl rfl | exact Or.inr rfl)
end MM
end
section
section MM
variable {xs : Nat → Int32} {Ls : Nat} {A : Nat → Nat → Int32} {B : Nat → Nat → Int64} {F : Nat → Int32} {sw : Bool} {n : Nat} {nb : Nat → Nat}
theorem lp_isClique (hM : MI A F n nb) {s : Nat} (hs : s < 1024) (b0 : Bool) (d4 : Value) : mv_Wp xs Ls 0 6 false (some .boolean) mv_c105 (12, [.ref 28, .int (nI s), .int (bI b0), .int (nI 0), d4], [], MW A B F sw, 0, 0) (some (.int (bI (forN (fun k b => b && (if s.testBit k then decide (nb k &&& s = sd s (2 ^ k)) else decide (¬ nb k &&& s = s))) n b0))), MW A B F sw, 0, 0) := by
  have hn := hM.1
  refine for_ind (P := fun (k : Nat) (b : Bool) => ∀ (d4 : Value), mv_Wp xs Ls 0 6 false (some .boolean) mv_c105 (12, [.ref 28, .int (nI s), .int (bI b), .int (nI k), d4], [], MW A B F sw, 0, 0) (some (.int (bI (forN (fun k b => b && (if s.testBit k then decide (nb k &&& s = sd s (2 ^ k)) else decide (¬ nb k &&& s = s))) n b0))), MW A B F sw, 0, 0)) (f := fun k b => b && (if s.testBit k then decide (nb k &&& s = sd s (2 ^ k)) else decide (¬ nb k &&& s = s))) (n := n) ?_ n b0 (Nat.le_refl _) ?_ d4
  · intro k b hk ih d4
    refine wp_go (f' := (17, [.ref 28, .int (nI s), .int (bI b), .int (nI k), d4], [.int (F 6), .int (nI k)], MW A B F sw, 0, 0)) 3 rfl ?_
    rw [hM.2.1]
    refine wp_go (f' := ((if (nI n) ≤ (nI k) then 76 else 20), [.ref 28, .int (nI s), .int (bI b), .int (nI k), d4], [], MW A B F sw, 0, 0)) 1 rfl ?_
    refine wp_ite (fun h9 => absurd h9 (nI_ge hk (by omega))) (fun _ => ?_)
    refine wp_go (f' := (25, [.ref 28, .int (nI s), .int (bI b), .int (nI k), d4], [.int (nI k), .ref 29], MW A B F sw, 0, 0)) 3 rfl ?_
    refine wp_iald rfl rfl (by omega) (by decide) ?_
    rw [hM.2.2.1 k (by omega)]
    have hnb := hM.2.2.2 k (by omega)
    refine wp_go (f' := (28, [.ref 28, .int (nI s), .int (bI b), .int (nI k), d4], [.int ((nI (nb k)) &&& (nI s))], MW A B F sw, 0, 0)) 2 rfl ?_
    rw [bx_and]
    have hb1 : (nb k) &&& s < 1024 := by first | omega | exact or_lt (by omega) (by omega) | exact and_lt (by omega) | exact and_lt_r (by omega) | exact sd_lt (by omega) | exact pow_lt (by omega)
    refine wp_go (f' := ((if (bI b) = 0 then 68 else 34), [.ref 28, .int (nI s), .int (bI b), .int (nI k), .int (nI ((nb k) &&& s))], [], MW A B F sw, 0, 0)) 3 rfl ?_
    refine wp_ite (fun h1 => ?_) (fun h1 => ?_)
    · have h1 := bI_0.mp h1
      refine wp_go (f' := (73, [.ref 28, .int (nI s), .int (nI 0), .int ((nI k) + 1), .int (nI ((nb k) &&& s))], [], MW A B F sw, 0, 0)) 3 rfl ?_
      rw [nI_1]
      refine wp_go (f' := (12, [.ref 28, .int (nI s), .int (nI 0), .int (nI (k + 1)), .int (nI ((nb k) &&& s))], [], MW A B F sw, 0, 0)) 1 rfl ?_
      refine wp_eq ?_ (ih (.int (nI ((nb k) &&& s))))
      simp [h1, bIT, bIF, nI1, nI0]
    · have h1 := bI_n0 h1
      refine wp_go (f' := (39, [.ref 28, .int (nI s), .int (bI b), .int (nI k), .int (nI ((nb k) &&& s))], [.int (((nI s) >>> ((nI k) &&& 31)) &&& (nI 1))], MW A B F sw, 0, 0)) 5 rfl ?_
      rw [bx_bit (by omega) (by omega)]
      refine wp_go (f' := ((if ¬ (bI (s.testBit k)) = (nI 1) then 58 else 43), [.ref 28, .int (nI s), .int (bI b), .int (nI k), .int (nI ((nb k) &&& s))], [], MW A B F sw, 0, 0)) 2 rfl ?_
      refine wp_ite (fun h2 => ?_) (fun h2 => ?_)
      · have h2 := bI_n1 h2
        refine wp_go (f' := ((if (nI ((nb k) &&& s)) = (nI s) then 68 else 64), [.ref 28, .int (nI s), .int (bI b), .int (nI k), .int (nI ((nb k) &&& s))], [], MW A B F sw, 0, 0)) 3 rfl ?_
        refine wp_ite (fun h3 => ?_) (fun h3 => ?_)
        · have h3 : (nb k) &&& s = s := (nI_eq (a := (nb k) &&& s) (b := s) (by omega) (by omega)).mp h3
          refine wp_go (f' := (73, [.ref 28, .int (nI s), .int (nI 0), .int ((nI k) + 1), .int (nI ((nb k) &&& s))], [], MW A B F sw, 0, 0)) 3 rfl ?_
          rw [nI_1]
          refine wp_go (f' := (12, [.ref 28, .int (nI s), .int (nI 0), .int (nI (k + 1)), .int (nI ((nb k) &&& s))], [], MW A B F sw, 0, 0)) 1 rfl ?_
          refine wp_eq ?_ (ih (.int (nI ((nb k) &&& s))))
          simp [h1, h2, h3, bIT, bIF, nI1, nI0]
        · have h3 : ¬ ((nb k) &&& s = s) := fun h9 => h3 ((nI_eq (a := (nb k) &&& s) (b := s) (by omega) (by omega)).mpr h9)
          refine wp_go (f' := (73, [.ref 28, .int (nI s), .int (nI 1), .int ((nI k) + 1), .int (nI ((nb k) &&& s))], [], MW A B F sw, 0, 0)) 4 rfl ?_
          rw [nI_1]
          refine wp_go (f' := (12, [.ref 28, .int (nI s), .int (nI 1), .int (nI (k + 1)), .int (nI ((nb k) &&& s))], [], MW A B F sw, 0, 0)) 1 rfl ?_
          refine wp_eq ?_ (ih (.int (nI ((nb k) &&& s))))
          simp [h1, h2, h3, bIT, bIF, nI1, nI0]
      · have h2 := Classical.not_not.mp h2; have h2 := bI_1.mp h2
        refine wp_go (f' := (49, [.ref 28, .int (nI s), .int (bI b), .int (nI k), .int (nI ((nb k) &&& s))], [.int ((nI 1) <<< ((nI k) &&& 31)), .int (nI s), .int (nI ((nb k) &&& s))], MW A B F sw, 0, 0)) 5 rfl ?_
        rw [bx_one (by omega)]
        have hb2 : 2 ^ k < 1024 := by first | omega | exact or_lt (by omega) (by omega) | exact and_lt (by omega) | exact and_lt_r (by omega) | exact sd_lt (by omega) | exact pow_lt (by omega)
        refine wp_go (f' := (52, [.ref 28, .int (nI s), .int (bI b), .int (nI k), .int (nI ((nb k) &&& s))], [.int ((nI s) &&& ((nI (2 ^ k)) ^^^ (-1))), .int (nI ((nb k) &&& s))], MW A B F sw, 0, 0)) 3 rfl ?_
        rw [bx_sd (by omega)]
        have hb3 : sd s (2 ^ k) < 1024 := by first | omega | exact or_lt (by omega) (by omega) | exact and_lt (by omega) | exact and_lt_r (by omega) | exact sd_lt (by omega) | exact pow_lt (by omega)
        refine wp_go (f' := ((if ¬ (nI ((nb k) &&& s)) = (nI (sd s (2 ^ k))) then 68 else 55), [.ref 28, .int (nI s), .int (bI b), .int (nI k), .int (nI ((nb k) &&& s))], [], MW A B F sw, 0, 0)) 1 rfl ?_
        refine wp_ite (fun h4 => ?_) (fun h4 => ?_)
        · have h4 : ¬ ((nb k) &&& s = sd s (2 ^ k)) := fun h9 => h4 ((nI_eq (a := (nb k) &&& s) (b := sd s (2 ^ k)) (by omega) (by omega)).mpr h9)
          refine wp_go (f' := (73, [.ref 28, .int (nI s), .int (nI 0), .int ((nI k) + 1), .int (nI ((nb k) &&& s))], [], MW A B F sw, 0, 0)) 3 rfl ?_
          rw [nI_1]
          refine wp_go (f' := (12, [.ref 28, .int (nI s), .int (nI 0), .int (nI (k + 1)), .int (nI ((nb k) &&& s))], [], MW A B F sw, 0, 0)) 1 rfl ?_
          refine wp_eq ?_ (ih (.int (nI ((nb k) &&& s))))
          simp [h1, h2, h4, bIT, bIF, nI1, nI0]
        · have h4 := Classical.not_not.mp h4; have h4 : (nb k) &&& s = sd s (2 ^ k) := (nI_eq (a := (nb k) &&& s) (b := sd s (2 ^ k)) (by omega) (by omega)).mp h4
          refine wp_go (f' := (73, [.ref 28, .int (nI s), .int (nI 1), .int ((nI k) + 1), .int (nI ((nb k) &&& s))], [], MW A B F sw, 0, 0)) 5 rfl ?_
          rw [nI_1]
          refine wp_go (f' := (12, [.ref 28, .int (nI s), .int (nI 1), .int (nI (k + 1)), .int (nI ((nb k) &&& s))], [], MW A B F sw, 0, 0)) 1 rfl ?_
          refine wp_eq ?_ (ih (.int (nI ((nb k) &&& s))))
          simp [h1, h2, h4, bIT, bIF, nI1, nI0]
  · intro d4
    refine wp_go (f' := (17, [.ref 28, .int (nI s), .int (bI (forN (fun k b => b && (if s.testBit k then decide (nb k &&& s = sd s (2 ^ k)) else decide (¬ nb k &&& s = s))) n b0)), .int (nI n), d4], [.int (F 6), .int (nI n)], MW A B F sw, 0, 0)) 3 rfl ?_
    rw [hM.2.1]
    refine wp_go (f' := ((if (nI n) ≤ (nI n) then 76 else 20), [.ref 28, .int (nI s), .int (bI (forN (fun k b => b && (if s.testBit k then decide (nb k &&& s = sd s (2 ^ k)) else decide (¬ nb k &&& s = s))) n b0)), .int (nI n), d4], [], MW A B F sw, 0, 0)) 1 rfl ?_
    refine wp_ite (fun _ => ?_) (fun h9 => absurd (nI_le (Nat.le_refl _) (by omega)) h9)
    refine wp_go (f' := (77, [.ref 28, .int (nI s), .int (bI (forN (fun k b => b && (if s.testBit k then decide (nb k &&& s = sd s (2 ^ k)) else decide (¬ nb k &&& s = s))) n b0)), .int (nI n), d4], [.int (bI (forN (fun k b => b && (if s.testBit k then decide (nb k &&& s = sd s (2 ^ k)) else decide (¬ nb k &&& s = s))) n b0))], MW A B F sw, 0, 0)) 1 rfl ?_
    exact wp_zret rfl (bI_01 _)
theorem ev_isClique (hM : MI A F n nb) {s : Nat} (hs : s < 1024) : mv_Ev xs Ls 1 105 [.ref 28, .int (nI s)] (MW A B F sw) (some (.int (bI (cliqueN n nb s))), MW A B F sw, 0, 0) := by
  refine ev_of_wp rfl rfl rfl ?_
  refine wp_go (f' := ((if (nI s) = 0 then 8 else 4), [.ref 28, .int (nI s), .retAddr 0, .retAddr 0, .retAddr 0], [], MW A B F sw, 0, 0)) 2 rfl ?_
  refine wp_ite (fun h1 => ?_) (fun h1 => ?_)
  · have h1 : s = 0 := (nI_eq (a := s) (b := 0) (by omega) (by omega)).mp h1
    refine wp_go (f' := (12, [.ref 28, .int (nI s), .int (nI 0), .int (nI 0), .retAddr 0], [], MW A B F sw, 0, 0)) 4 rfl ?_
    unfold cliqueN
    rw [show decide (¬ s = 0) = false by simp [h1]]
    exact lp_isClique hM hs false (.retAddr 0)
  · have h1 : ¬ (s = 0) := fun h9 => h1 ((nI_eq (a := s) (b := 0) (by omega) (by omega)).mpr h9)
    refine wp_go (f' := (12, [.ref 28, .int (nI s), .int (nI 1), .int (nI 0), .retAddr 0], [], MW A B F sw, 0, 0)) 5 rfl ?_
    unfold cliqueN
    rw [show decide (¬ s = 0) = true by simp [h1]]
    exact lp_isClique hM hs true (.retAddr 0)
theorem lp_isHole (hM : MI A F n nb) {s : Nat} (hs : s < 1024) (b0 : Bool)  : mv_Wp xs Ls 2 6 false (some .boolean) mv_c99 (24, [.ref 28, .int (nI s), .int (bI b0), .int (nI 0)], [], MW A B F sw, 0, 0) (some (.int (bI (forN (fun k b => b && (!(s.testBit k) || decide (pop (nb k &&& s) = 2))) n b0))), MW A B F sw, 0, 0) := by
  have hn := hM.1
  refine for_ind (P := fun (k : Nat) (b : Bool) => mv_Wp xs Ls 2 6 false (some .boolean) mv_c99 (24, [.ref 28, .int (nI s), .int (bI b), .int (nI k)], [], MW A B F sw, 0, 0) (some (.int (bI (forN (fun k b => b && (!(s.testBit k) || decide (pop (nb k &&& s) = 2))) n b0))), MW A B F sw, 0, 0)) (f := fun k b => b && (!(s.testBit k) || decide (pop (nb k &&& s) = 2))) (n := n) ?_ n b0 (Nat.le_refl _) ?_ 
  · intro k b hk ih 
    refine wp_go (f' := (29, [.ref 28, .int (nI s), .int (bI b), .int (nI k)], [.int (F 6), .int (nI k)], MW A B F sw, 0, 0)) 3 rfl ?_
    rw [hM.2.1]
    refine wp_go (f' := ((if (nI n) ≤ (nI k) then 71 else 32), [.ref 28, .int (nI s), .int (bI b), .int (nI k)], [], MW A B F sw, 0, 0)) 1 rfl ?_
    refine wp_ite (fun h9 => absurd h9 (nI_ge hk (by omega))) (fun _ => ?_)
    refine wp_go (f' := ((if (bI b) = 0 then 63 else 36), [.ref 28, .int (nI s), .int (bI b), .int (nI k)], [], MW A B F sw, 0, 0)) 2 rfl ?_
    refine wp_ite (fun h1 => ?_) (fun h1 => ?_)
    · have h1 := bI_0.mp h1
      refine wp_go (f' := (68, [.ref 28, .int (nI s), .int (nI 0), .int ((nI k) + 1)], [], MW A B F sw, 0, 0)) 3 rfl ?_
      rw [nI_1]
      refine wp_go (f' := (24, [.ref 28, .int (nI s), .int (nI 0), .int (nI (k + 1))], [], MW A B F sw, 0, 0)) 1 rfl ?_
      refine wp_eq ?_ ih
      simp [h1, bIT, bIF, nI1, nI0]
    · have h1 := bI_n0 h1
      refine wp_go (f' := (41, [.ref 28, .int (nI s), .int (bI b), .int (nI k)], [.int (((nI s) >>> ((nI k) &&& 31)) &&& (nI 1))], MW A B F sw, 0, 0)) 5 rfl ?_
      rw [bx_bit (by omega) (by omega)]
      refine wp_go (f' := ((if (bI (s.testBit k)) = 0 then 59 else 44), [.ref 28, .int (nI s), .int (bI b), .int (nI k)], [], MW A B F sw, 0, 0)) 1 rfl ?_
      refine wp_ite (fun h2 => ?_) (fun h2 => ?_)
      · have h2 := bI_0.mp h2
        refine wp_go (f' := (68, [.ref 28, .int (nI s), .int (nI 1), .int ((nI k) + 1)], [], MW A B F sw, 0, 0)) 4 rfl ?_
        rw [nI_1]
        refine wp_go (f' := (24, [.ref 28, .int (nI s), .int (nI 1), .int (nI (k + 1))], [], MW A B F sw, 0, 0)) 1 rfl ?_
        refine wp_eq ?_ ih
        simp [h1, h2, bIT, bIF, nI1, nI0]
      · have h2 := bI_n0 h2
        refine wp_go (f' := (49, [.ref 28, .int (nI s), .int (bI b), .int (nI k)], [.int (nI k), .ref 29], MW A B F sw, 0, 0)) 3 rfl ?_
        refine wp_iald rfl rfl (by omega) (by decide) ?_
        rw [hM.2.2.1 k (by omega)]
        have hnb := hM.2.2.2 k (by omega)
        refine wp_go (f' := (52, [.ref 28, .int (nI s), .int (bI b), .int (nI k)], [.int ((nI (nb k)) &&& (nI s))], MW A B F sw, 0, 0)) 2 rfl ?_
        rw [bx_and]
        have hb1 : (nb k) &&& s < 1024 := by first | omega | exact or_lt (by omega) (by omega) | exact and_lt (by omega) | exact and_lt_r (by omega) | exact sd_lt (by omega) | exact pow_lt (by omega)
        refine wp_call rfl rfl rfl (ev_up (ev_onesN (s := (nb k) &&& s) (by omega) _) (by decide)) ?_
        refine wp_eq (f' := (55, [.ref 28, .int (nI s), .int (bI b), .int (nI k)], [.int (nI (pop ((nb k) &&& s)))], MW A B F sw, 0, 0)) rfl ?_
        have hpp := pop_le (s := (nb k) &&& s) (by omega)
        refine wp_go (f' := ((if ¬ (nI (pop ((nb k) &&& s))) = (nI 2) then 63 else 59), [.ref 28, .int (nI s), .int (bI b), .int (nI k)], [], MW A B F sw, 0, 0)) 2 rfl ?_
        refine wp_ite (fun h3 => ?_) (fun h3 => ?_)
        · have h3 : ¬ (pop ((nb k) &&& s) = 2) := fun h9 => h3 ((nI_eq (a := pop ((nb k) &&& s)) (b := 2) (by omega) (by omega)).mpr h9)
          refine wp_go (f' := (68, [.ref 28, .int (nI s), .int (nI 0), .int ((nI k) + 1)], [], MW A B F sw, 0, 0)) 3 rfl ?_
          rw [nI_1]
          refine wp_go (f' := (24, [.ref 28, .int (nI s), .int (nI 0), .int (nI (k + 1))], [], MW A B F sw, 0, 0)) 1 rfl ?_
          refine wp_eq ?_ ih
          simp [h1, h2, h3, bIT, bIF, nI1, nI0]
        · have h3 := Classical.not_not.mp h3; have h3 : pop ((nb k) &&& s) = 2 := (nI_eq (a := pop ((nb k) &&& s)) (b := 2) (by omega) (by omega)).mp h3
          refine wp_go (f' := (68, [.ref 28, .int (nI s), .int (nI 1), .int ((nI k) + 1)], [], MW A B F sw, 0, 0)) 4 rfl ?_
          rw [nI_1]
          refine wp_go (f' := (24, [.ref 28, .int (nI s), .int (nI 1), .int (nI (k + 1))], [], MW A B F sw, 0, 0)) 1 rfl ?_
          refine wp_eq ?_ ih
          simp [h1, h2, h3, bIT, bIF, nI1, nI0]
  · skip
    refine wp_go (f' := (29, [.ref 28, .int (nI s), .int (bI (forN (fun k b => b && (!(s.testBit k) || decide (pop (nb k &&& s) = 2))) n b0)), .int (nI n)], [.int (F 6), .int (nI n)], MW A B F sw, 0, 0)) 3 rfl ?_
    rw [hM.2.1]
    refine wp_go (f' := ((if (nI n) ≤ (nI n) then 71 else 32), [.ref 28, .int (nI s), .int (bI (forN (fun k b => b && (!(s.testBit k) || decide (pop (nb k &&& s) = 2))) n b0)), .int (nI n)], [], MW A B F sw, 0, 0)) 1 rfl ?_
    refine wp_ite (fun _ => ?_) (fun h9 => absurd (nI_le (Nat.le_refl _) (by omega)) h9)
    refine wp_go (f' := (72, [.ref 28, .int (nI s), .int (bI (forN (fun k b => b && (!(s.testBit k) || decide (pop (nb k &&& s) = 2))) n b0)), .int (nI n)], [.int (bI (forN (fun k b => b && (!(s.testBit k) || decide (pop (nb k &&& s) = 2))) n b0))], MW A B F sw, 0, 0)) 1 rfl ?_
    exact wp_zret rfl (bI_01 _)
theorem ev_isHole (hM : MI A F n nb) {s : Nat} (hs : s < 1024) : mv_Ev xs Ls 3 99 [.ref 28, .int (nI s)] (MW A B F sw) (some (.int (bI (holeN n nb s))), MW A B F sw, 0, 0) := by
  refine ev_of_wp rfl rfl rfl ?_
  have hn := hM.1
  refine wp_go (f' := (1, [.ref 28, .int (nI s), .retAddr 0, .retAddr 0], [.int (nI s)], MW A B F sw, 0, 0)) 1 rfl ?_
  refine wp_call rfl rfl rfl (ev_up (ev_onesN (s := s) (by omega) _) (by decide)) ?_
  refine wp_eq (f' := (4, [.ref 28, .int (nI s), .retAddr 0, .retAddr 0], [.int (nI (pop s))], MW A B F sw, 0, 0)) rfl ?_
  have hpp := pop_le (s := s) (by omega)
  refine wp_go (f' := ((if (nI (pop s)) ≤ (nI 3) then 20 else 8), [.ref 28, .int (nI s), .retAddr 0, .retAddr 0], [], MW A B F sw, 0, 0)) 2 rfl ?_
  refine wp_ite (fun h1 => ?_) (fun h1 => ?_)
  · have h1 : pop s ≤ 3 := (nI_leI (a := pop s) (b := 3) (by omega) (by omega)).mp h1
    refine wp_go (f' := (24, [.ref 28, .int (nI s), .int (nI 0), .int (nI 0)], [], MW A B F sw, 0, 0)) 4 rfl ?_
    unfold holeN
    rw [show (decide (3 < pop s) && wholeN n nb s) = false by simp [h1] <;> omega]
    exact lp_isHole hM hs false
  · have h1 : ¬ (pop s ≤ 3) := fun h9 => h1 ((nI_leI (a := pop s) (b := 3) (by omega) (by omega)).mpr h9)
    refine wp_go (f' := (10, [.ref 28, .int (nI s), .retAddr 0, .retAddr 0], [.int (nI s), .ref 28], MW A B F sw, 0, 0)) 2 rfl ?_
    refine wp_call rfl rfl rfl (ev_up (ev_isWhole hM (s := s) (by omega)) (by decide)) ?_
    refine wp_eq (f' := (13, [.ref 28, .int (nI s), .retAddr 0, .retAddr 0], [.int (bI (wholeN n nb s))], MW A B F sw, 0, 0)) rfl ?_
    refine wp_go (f' := ((if (bI (wholeN n nb s)) = 0 then 20 else 16), [.ref 28, .int (nI s), .retAddr 0, .retAddr 0], [], MW A B F sw, 0, 0)) 1 rfl ?_
    refine wp_ite (fun h2 => ?_) (fun h2 => ?_)
    · have h2 := bI_0.mp h2
      refine wp_go (f' := (24, [.ref 28, .int (nI s), .int (nI 0), .int (nI 0)], [], MW A B F sw, 0, 0)) 4 rfl ?_
      unfold holeN
      rw [show (decide (3 < pop s) && wholeN n nb s) = false by simp [h1, h2]]
      exact lp_isHole hM hs false
    · have h2 := bI_n0 h2
      refine wp_go (f' := (24, [.ref 28, .int (nI s), .int (nI 1), .int (nI 0)], [], MW A B F sw, 0, 0)) 5 rfl ?_
      unfold holeN
      rw [show (decide (3 < pop s) && wholeN n nb s) = true by simp [h1, h2] <;> omega]
      exact lp_isHole hM hs true
theorem degsN_le {n : Nat} {nb : Nat → Nat} (hn : n ≤ 10) {s : Nat} (hs : s < 1024) : degsN n nb s ≤ 10 * n := by
  refine forN_inv (I := fun k m => m ≤ 10 * k) (Nat.le_refl _) (fun k m hk hm => ?_) n (Nat.le_refl _)
  split
  · have := pop_le (s := nb k &&& s) (and_lt_r hs)
    omega
  · omega
/-- the edges within s -/
def edgesN (n : Nat) (nb : Nat → Nat) (s : Nat) : Nat := degsN n nb s / 2
theorem ev_edgesIn (hM : MI A F n nb) {s : Nat} (hs : s < 1024) : mv_Ev xs Ls 2 128 [.ref 28, .int (nI s)] (MW A B F sw) (some (.int (nI (edgesN n nb s))), MW A B F sw, 0, 0) := by
  refine ev_of_wp rfl rfl rfl ?_
  have hn := hM.1
  have hdg := degsN_le (nb := nb) hM.1 hs
  refine wp_go (f' := (4, [.ref 28, .int (nI s), .int (nI 0), .int (nI 0)], [], MW A B F sw, 0, 0)) 4 rfl ?_
  refine for_ind (P := fun (k : Nat) (m : Nat) => mv_Wp xs Ls 1 6 false (some .int) mv_c128 (4, [.ref 28, .int (nI s), .int (nI m), .int (nI k)], [], MW A B F sw, 0, 0) (some (.int (nI (edgesN n nb s))), MW A B F sw, 0, 0)) (f := fun k m => m + (if s.testBit k then pop (nb k &&& s) else 0)) (n := n) ?_ n 0 (Nat.le_refl _) ?_
  · intro k m hk ih
    refine wp_go (f' := (9, [.ref 28, .int (nI s), .int (nI m), .int (nI k)], [.int (F 6), .int (nI k)], MW A B F sw, 0, 0)) 3 rfl ?_
    rw [hM.2.1]
    refine wp_go (f' := ((if (nI n) ≤ (nI k) then 45 else 12), [.ref 28, .int (nI s), .int (nI m), .int (nI k)], [], MW A B F sw, 0, 0)) 1 rfl ?_
    refine wp_ite (fun h9 => absurd h9 (nI_ge hk (by omega))) (fun _ => ?_)
    refine wp_go (f' := (18, [.ref 28, .int (nI s), .int (nI m), .int (nI k)], [.int (((nI s) >>> ((nI k) &&& 31)) &&& (nI 1)), .int (nI m)], MW A B F sw, 0, 0)) 6 rfl ?_
    rw [bx_bit (by omega) (by omega)]
    refine wp_go (f' := ((if ¬ (bI (s.testBit k)) = (nI 1) then 36 else 22), [.ref 28, .int (nI s), .int (nI m), .int (nI k)], [.int (nI m)], MW A B F sw, 0, 0)) 2 rfl ?_
    refine wp_ite (fun h1 => ?_) (fun h1 => ?_)
    · have h1 := bI_n1 h1
      refine wp_go (f' := (38, [.ref 28, .int (nI s), .int (nI m), .int (nI k)], [.int ((nI m) + (nI 0))], MW A B F sw, 0, 0)) 2 rfl ?_
      rw [nI_add]
      refine wp_go (f' := (42, [.ref 28, .int (nI s), .int (nI (m + 0)), .int ((nI k) + 1)], [], MW A B F sw, 0, 0)) 2 rfl ?_
      rw [nI_1]
      refine wp_go (f' := (4, [.ref 28, .int (nI s), .int (nI (m + 0)), .int (nI (k + 1))], [], MW A B F sw, 0, 0)) 1 rfl ?_
      refine wp_eq ?_ ih
      simp [h1, nI_add]
    · have h1 := Classical.not_not.mp h1; have h1 := bI_1.mp h1
      refine wp_go (f' := (27, [.ref 28, .int (nI s), .int (nI m), .int (nI k)], [.int (nI k), .ref 29, .int (nI m)], MW A B F sw, 0, 0)) 3 rfl ?_
      refine wp_iald rfl rfl (by omega) (by decide) ?_
      rw [hM.2.2.1 k (by omega)]
      have hnb := hM.2.2.2 k (by omega)
      refine wp_go (f' := (30, [.ref 28, .int (nI s), .int (nI m), .int (nI k)], [.int ((nI (nb k)) &&& (nI s)), .int (nI m)], MW A B F sw, 0, 0)) 2 rfl ?_
      rw [bx_and]
      have hb1 : (nb k) &&& s < 1024 := by first | omega | exact or_lt (by omega) (by omega) | exact and_lt (by omega) | exact and_lt_r (by omega) | exact sd_lt (by omega) | exact pow_lt (by omega)
      refine wp_call rfl rfl rfl (ev_up (ev_onesN (s := (nb k) &&& s) (by omega) _) (by decide)) ?_
      refine wp_eq (f' := (33, [.ref 28, .int (nI s), .int (nI m), .int (nI k)], [.int (nI (pop ((nb k) &&& s))), .int (nI m)], MW A B F sw, 0, 0)) rfl ?_
      have hpp := pop_le (s := (nb k) &&& s) (by omega)
      refine wp_go (f' := (38, [.ref 28, .int (nI s), .int (nI m), .int (nI k)], [.int ((nI m) + (nI (pop ((nb k) &&& s))))], MW A B F sw, 0, 0)) 2 rfl ?_
      rw [nI_add]
      refine wp_go (f' := (42, [.ref 28, .int (nI s), .int (nI (m + (pop ((nb k) &&& s)))), .int ((nI k) + 1)], [], MW A B F sw, 0, 0)) 2 rfl ?_
      rw [nI_1]
      refine wp_go (f' := (4, [.ref 28, .int (nI s), .int (nI (m + (pop ((nb k) &&& s)))), .int (nI (k + 1))], [], MW A B F sw, 0, 0)) 1 rfl ?_
      refine wp_eq ?_ ih
      simp [h1, nI_add]
  · skip
    refine wp_go (f' := (9, [.ref 28, .int (nI s), .int (nI (degsN n nb s)), .int (nI n)], [.int (F 6), .int (nI n)], MW A B F sw, 0, 0)) 3 rfl ?_
    rw [hM.2.1]
    refine wp_go (f' := ((if (nI n) ≤ (nI n) then 45 else 12), [.ref 28, .int (nI s), .int (nI (degsN n nb s)), .int (nI n)], [], MW A B F sw, 0, 0)) 1 rfl ?_
    refine wp_ite (fun _ => ?_) (fun h9 => absurd (nI_le (Nat.le_refl _) (by omega)) h9)
    refine wp_go (f' := (48, [.ref 28, .int (nI s), .int (nI (degsN n nb s)), .int (nI n)], [.int ((nI (degsN n nb s)) / (nI 2))], MW A B F sw, 0, 0)) 3 rfl ?_
    rw [pk_div (a := degsN n nb s) (d := 2) (by omega) (by decide) (by decide)]
    exact wp_iret rfl
theorem edgesN_le {n : Nat} {nb : Nat → Nat} (hn : n ≤ 10) {s : Nat} (hs : s < 1024) : edgesN n nb s ≤ 50 := by
  have := degsN_le (nb := nb) hn hs
  unfold edgesN
  omega
/-- the least degree within s (10 of the empty one) -/
def leastN (n : Nat) (nb : Nat → Nat) (s : Nat) : Nat := forN (fun k m => if s.testBit k = true ∧ pop (nb k &&& s) < m then pop (nb k &&& s) else m) n 10
theorem ev_leastDegree (hM : MI A F n nb) {s : Nat} (hs : s < 1024) : mv_Ev xs Ls 2 98 [.ref 28, .int (nI s)] (MW A B F sw) (some (.int (nI (leastN n nb s))), MW A B F sw, 0, 0) := by
  refine ev_of_wp rfl rfl rfl ?_
  have hn := hM.1
  refine wp_go (f' := (5, [.ref 28, .int (nI s), .int (nI 10), .int (nI 0), .retAddr 0], [], MW A B F sw, 0, 0)) 4 rfl ?_
  refine for_ind (P := fun (k m : Nat) => m ≤ 10 → ∀ d4 : Value, mv_Wp xs Ls 1 6 false (some .int) mv_c98 (5, [.ref 28, .int (nI s), .int (nI m), .int (nI k), d4], [], MW A B F sw, 0, 0) (some (.int (nI (leastN n nb s))), MW A B F sw, 0, 0)) (f := fun k m => if s.testBit k = true ∧ pop (nb k &&& s) < m then pop (nb k &&& s) else m) (n := n) ?_ n 10 (Nat.le_refl _) ?_ (Nat.le_refl _) _
  · intro k m hk ih hm d4
    refine wp_go (f' := (10, [.ref 28, .int (nI s), .int (nI m), .int (nI k), d4], [.int (F 6), .int (nI k)], MW A B F sw, 0, 0)) 3 rfl ?_
    rw [hM.2.1]
    refine wp_go (f' := ((if (nI n) ≤ (nI k) then 54 else 13), [.ref 28, .int (nI s), .int (nI m), .int (nI k), d4], [], MW A B F sw, 0, 0)) 1 rfl ?_
    refine wp_ite (fun h9 => absurd h9 (nI_ge hk (by omega))) (fun _ => ?_)
    refine wp_go (f' := (18, [.ref 28, .int (nI s), .int (nI m), .int (nI k), d4], [.int (nI k), .ref 29], MW A B F sw, 0, 0)) 3 rfl ?_
    refine wp_iald rfl rfl (by omega) (by decide) ?_
    rw [hM.2.2.1 k (by omega)]
    have hnb := hM.2.2.2 k (by omega)
    refine wp_go (f' := (21, [.ref 28, .int (nI s), .int (nI m), .int (nI k), d4], [.int ((nI (nb k)) &&& (nI s))], MW A B F sw, 0, 0)) 2 rfl ?_
    rw [bx_and]
    have hb1 : (nb k) &&& s < 1024 := by first | omega | exact or_lt (by omega) (by omega) | exact and_lt (by omega) | exact and_lt_r (by omega) | exact sd_lt (by omega) | exact pow_lt (by omega)
    refine wp_call rfl rfl rfl (ev_up (ev_onesN (s := (nb k) &&& s) (by omega) _) (by decide)) ?_
    refine wp_eq (f' := (24, [.ref 28, .int (nI s), .int (nI m), .int (nI k), d4], [.int (nI (pop ((nb k) &&& s)))], MW A B F sw, 0, 0)) rfl ?_
    have hpp := pop_le (s := (nb k) &&& s) (by omega)
    refine wp_go (f' := (31, [.ref 28, .int (nI s), .int (nI m), .int (nI k), .int (nI (pop ((nb k) &&& s)))], [.int (((nI s) >>> ((nI k) &&& 31)) &&& (nI 1))], MW A B F sw, 0, 0)) 6 rfl ?_
    rw [bx_bit (by omega) (by omega)]
    refine wp_go (f' := ((if ¬ (bI (s.testBit k)) = (nI 1) then 46 else 35), [.ref 28, .int (nI s), .int (nI m), .int (nI k), .int (nI (pop ((nb k) &&& s)))], [], MW A B F sw, 0, 0)) 2 rfl ?_
    refine wp_ite (fun h1 => ?_) (fun h1 => ?_)
    · have h1 := bI_n1 h1
      refine wp_go (f' := (51, [.ref 28, .int (nI s), .int (nI m), .int ((nI k) + 1), .int (nI (pop ((nb k) &&& s)))], [], MW A B F sw, 0, 0)) 3 rfl ?_
      rw [nI_1]
      refine wp_go (f' := (5, [.ref 28, .int (nI s), .int (nI m), .int (nI (k + 1)), .int (nI (pop ((nb k) &&& s)))], [], MW A B F sw, 0, 0)) 1 rfl ?_
      have e9 : (if s.testBit k = true ∧ pop (nb k &&& s) < m then pop (nb k &&& s) else m) = m := by simp [h1]; try omega
      have h8 := ih (by rw [e9]; omega) (.int (nI (pop ((nb k) &&& s))))
      rw [e9] at h8
      exact h8
    · have h1 := Classical.not_not.mp h1; have h1 := bI_1.mp h1
      refine wp_go (f' := ((if (nI m) ≤ (nI (pop ((nb k) &&& s))) then 46 else 41), [.ref 28, .int (nI s), .int (nI m), .int (nI k), .int (nI (pop ((nb k) &&& s)))], [], MW A B F sw, 0, 0)) 3 rfl ?_
      refine wp_ite (fun h2 => ?_) (fun h2 => ?_)
      · have h2 : m ≤ pop ((nb k) &&& s) := (nI_leI (a := m) (b := pop ((nb k) &&& s)) (by omega) (by omega)).mp h2
        refine wp_go (f' := (51, [.ref 28, .int (nI s), .int (nI m), .int ((nI k) + 1), .int (nI (pop ((nb k) &&& s)))], [], MW A B F sw, 0, 0)) 3 rfl ?_
        rw [nI_1]
        refine wp_go (f' := (5, [.ref 28, .int (nI s), .int (nI m), .int (nI (k + 1)), .int (nI (pop ((nb k) &&& s)))], [], MW A B F sw, 0, 0)) 1 rfl ?_
        have e9 : (if s.testBit k = true ∧ pop (nb k &&& s) < m then pop (nb k &&& s) else m) = m := by simp [h1, h2]; try omega
        have h8 := ih (by rw [e9]; omega) (.int (nI (pop ((nb k) &&& s))))
        rw [e9] at h8
        exact h8
      · have h2 : ¬ (m ≤ pop ((nb k) &&& s)) := fun h9 => h2 ((nI_leI (a := m) (b := pop ((nb k) &&& s)) (by omega) (by omega)).mpr h9)
        refine wp_go (f' := (51, [.ref 28, .int (nI s), .int (nI (pop ((nb k) &&& s))), .int ((nI k) + 1), .int (nI (pop ((nb k) &&& s)))], [], MW A B F sw, 0, 0)) 4 rfl ?_
        rw [nI_1]
        refine wp_go (f' := (5, [.ref 28, .int (nI s), .int (nI (pop ((nb k) &&& s))), .int (nI (k + 1)), .int (nI (pop ((nb k) &&& s)))], [], MW A B F sw, 0, 0)) 1 rfl ?_
        have e9 : (if s.testBit k = true ∧ pop (nb k &&& s) < m then pop (nb k &&& s) else m) = pop ((nb k) &&& s) := by simp [h1, h2]; try omega
        have h8 := ih (by rw [e9]; omega) (.int (nI (pop ((nb k) &&& s))))
        rw [e9] at h8
        exact h8
  · intro hm d4
    refine wp_go (f' := (10, [.ref 28, .int (nI s), .int (nI (leastN n nb s)), .int (nI n), d4], [.int (F 6), .int (nI n)], MW A B F sw, 0, 0)) 3 rfl ?_
    rw [hM.2.1]
    refine wp_go (f' := ((if (nI n) ≤ (nI n) then 54 else 13), [.ref 28, .int (nI s), .int (nI (leastN n nb s)), .int (nI n), d4], [], MW A B F sw, 0, 0)) 1 rfl ?_
    refine wp_ite (fun _ => ?_) (fun h9 => absurd (nI_le (Nat.le_refl _) (by omega)) h9)
    refine wp_go (f' := (55, [.ref 28, .int (nI s), .int (nI (leastN n nb s)), .int (nI n), d4], [.int (nI (leastN n nb s))], MW A B F sw, 0, 0)) 1 rfl ?_
    exact wp_iret rfl
end MM
end
section
theorem hstep_bit {n : Nat} {nb : Nat → Nat} {s g i : Nat} (h : g.testBit i = true) : (hstep n nb s g).testBit i = true := by
  refine forN_inv (I := fun _ (x : Nat) => x.testBit i = true) h (fun k x hk hx => ?_) n (Nat.le_refl _)
  split
  · rw [Nat.testBit_or, hx]; rfl
  · exact hx
theorem hang_self (n : Nat) (nb : Nat → Nat) (v s : Nat) : (hangN n nb v s).testBit v = true := by
  have h : ∀ k, (itN (hstep n nb s) k (2 ^ v)).testBit v = true := by
    intro k
    induction k with
    | zero => exact Nat.testBit_two_pow_self
    | succ k ih => exact hstep_bit ih
  exact h 1024
theorem sd_less {a b i : Nat} (ha : a < 1024) (h1 : a.testBit i = true) (h2 : b.testBit i = true) : sd a b < a := by
  rcases Nat.lt_or_ge (sd a b) a with h | h
  · exact h
  · have e : sd a b = a := Nat.le_antisymm sd_le h
    have := sd_bit a b i ha
    rw [e, h1, h2] at this
    cases this
/-- taking away, part by part, the parts of s: m and how many there are -/
def partsC (n : Nat) (nb : Nat → Nat) (s : Nat) : Nat → Nat → Nat → Nat
  | 0, _, m => m
  | f + 1, r, m => if r = 0 then m else partsC n nb s f (sd r (hangN n nb (low r) s)) (m + 1)
def partsN (n : Nat) (nb : Nat → Nat) (s : Nat) : Nat := partsC n nb s 1024 s 0
def sepC (n : Nat) (nb : Nat → Nat) (s left : Nat) : Nat → Nat → Nat → Nat
  | 0, _, m => m
  | f + 1, r, m => if r = 0 then m else sepC n nb s left f (sd r (hangN n nb (low r) left)) (m + (if sd (reachN n nb (hangN n nb (low r) left)) (hangN n nb (low r) left) = s then 1 else 0))
/-- a separator -/
def sepN (n : Nat) (nb : Nat → Nat) (s : Nat) : Bool := decide (1 < sepC n nb s (sd (2 ^ n - 1) s) 1024 (sd (2 ^ n - 1) s) 0)
theorem partsC_0 (n : Nat) (nb : Nat → Nat) (s f m : Nat) : partsC n nb s f 0 m = m := by cases f <;> simp [partsC]
theorem sepC_0 (n : Nat) (nb : Nat → Nat) (s left f m : Nat) : sepC n nb s left f 0 m = m := by cases f <;> simp [sepC]
section MM
variable {xs : Nat → Int32} {Ls : Nat} {A : Nat → Nat → Int32} {B : Nat → Nat → Int64} {F : Nat → Int32} {sw : Bool} {n : Nat} {nb : Nat → Nat}
theorem ev_parts (hM : MI A F n nb) {s : Nat} (hs : s < 1024) : mv_Ev xs Ls 2 94 [.ref 28, .int (nI s)] (MW A B F sw) (some (.int (nI (partsN n nb s))), MW A B F sw, 0, 0) := by
  refine ev_of_wp rfl rfl rfl ?_
  have hn := hM.1
  refine wp_go (f' := (4, [.ref 28, .int (nI s), .int (nI 0), .int (nI s)], [], MW A B F sw, 0, 0)) 4 rfl ?_
  refine wh_ind (P := fun (r : Nat) => r < 1024 → ∀ m f : Nat, r ≤ f → mv_Wp xs Ls 1 6 false (some .int) mv_c94 (4, [.ref 28, .int (nI s), .int (nI m), .int (nI r)], [], MW A B F sw, 0, 0) (some (.int (nI (partsC n nb s f r m))), MW A B F sw, 0, 0)) (fun r => r) ?_ s hs 0 1024 (by omega)
  intro r ih hr m f hf
  refine wp_go (f' := ((if (nI r) = 0 then 28 else 8), [.ref 28, .int (nI s), .int (nI m), .int (nI r)], [], MW A B F sw, 0, 0)) 2 rfl ?_
  refine wp_ite (fun h1 => ?_) (fun h1 => ?_)
  · have h1 : r = 0 := (nI_eq (a := r) (b := 0) (by omega) (by omega)).mp h1
    refine wp_go (f' := (29, [.ref 28, .int (nI s), .int (nI m), .int (nI r)], [.int (nI m)], MW A B F sw, 0, 0)) 1 rfl ?_
    subst h1
    rw [partsC_0]
    exact wp_iret rfl
  · have h1 : ¬ (r = 0) := fun h9 => h1 ((nI_eq (a := r) (b := 0) (by omega) (by omega)).mpr h9)
    refine wp_go (f' := (11, [.ref 28, .int (nI s), .int (nI m), .int (nI r)], [.int (nI r), .ref 28, .int (nI r)], MW A B F sw, 0, 0)) 3 rfl ?_
    refine wp_call rfl rfl rfl (ev_up (ev_lowest (s := r) (by omega) (by omega) _) (by decide)) ?_
    refine wp_eq (f' := (14, [.ref 28, .int (nI s), .int (nI m), .int (nI r)], [.int (nI (low r)), .ref 28, .int (nI r)], MW A B F sw, 0, 0)) rfl ?_
    have hlw := low_lt (s := r) (by omega) (by omega)
    refine wp_go (f' := (15, [.ref 28, .int (nI s), .int (nI m), .int (nI r)], [.int (nI s), .int (nI (low r)), .ref 28, .int (nI r)], MW A B F sw, 0, 0)) 1 rfl ?_
    refine wp_call rfl rfl rfl (ev_up (ev_hang hM (v := low r) (s := s) (by omega) (by omega)) (by decide)) ?_
    refine wp_eq (f' := (18, [.ref 28, .int (nI s), .int (nI m), .int (nI r)], [.int (nI (hangN n nb (low r) s)), .int (nI r)], MW A B F sw, 0, 0)) rfl ?_
    have hhg := hangN_lt (n := n) (nb := nb) (v := low r) (s := s) (by omega) (by omega)
    refine wp_go (f' := (21, [.ref 28, .int (nI s), .int (nI m), .int (nI r)], [.int ((nI r) &&& ((nI (hangN n nb (low r) s)) ^^^ (-1)))], MW A B F sw, 0, 0)) 3 rfl ?_
    rw [bx_sd (by omega)]
    have hb1 : sd r (hangN n nb (low r) s) < 1024 := by first | omega | exact or_lt (by omega) (by omega) | exact and_lt (by omega) | exact and_lt_r (by omega) | exact sd_lt (by omega) | exact pow_lt (by omega)
    refine wp_go (f' := (25, [.ref 28, .int (nI s), .int ((nI m) + 1), .int (nI (sd r (hangN n nb (low r) s)))], [], MW A B F sw, 0, 0)) 2 rfl ?_
    rw [nI_1]
    refine wp_go (f' := (4, [.ref 28, .int (nI s), .int (nI (m + 1)), .int (nI (sd r (hangN n nb (low r) s)))], [], MW A B F sw, 0, 0)) 1 rfl ?_
    obtain ⟨f, rfl⟩ : ∃ f2, f = f2 + 1 := ⟨f - 1, by omega⟩
    have h9 := sd_less hr (low_bit hr h1) (hang_self n nb (low r) s)
    simp only [partsC, if_neg h1]
    exact ih _ h9 (by omega) _ _ (by omega)
theorem ev_isSeparator (hM : MI A F n nb) {s : Nat} (hs : s < 1024) : mv_Ev xs Ls 2 102 [.ref 28, .int (nI s)] (MW A B F sw) (some (.int (bI (sepN n nb s))), MW A B F sw, 0, 0) := by
  refine ev_of_wp rfl rfl rfl ?_
  have hn := hM.1
  have hal := all_lt hn
  refine wp_go (f' := (1, [.ref 28, .int (nI s), .retAddr 0, .retAddr 0, .retAddr 0, .retAddr 0], [.ref 28], MW A B F sw, 0, 0)) 1 rfl ?_
  refine wp_call rfl rfl rfl (ev_up (ev_all hM) (by decide)) ?_
  refine wp_eq (f' := (4, [.ref 28, .int (nI s), .retAddr 0, .retAddr 0, .retAddr 0, .retAddr 0], [.int (nI (2 ^ n - 1))], MW A B F sw, 0, 0)) rfl ?_
  refine wp_go (f' := (8, [.ref 28, .int (nI s), .retAddr 0, .retAddr 0, .retAddr 0, .retAddr 0], [.int ((nI (2 ^ n - 1)) &&& ((nI s) ^^^ (-1)))], MW A B F sw, 0, 0)) 4 rfl ?_
  rw [bx_sd (by omega)]
  have hb1 : sd (2 ^ n - 1) s < 1024 := by first | omega | exact or_lt (by omega) (by omega) | exact and_lt (by omega) | exact and_lt_r (by omega) | exact sd_lt (by omega) | exact pow_lt (by omega)
  refine wp_go (f' := (14, [.ref 28, .int (nI s), .int (nI (sd (2 ^ n - 1) s)), .int (nI 0), .int (nI (sd (2 ^ n - 1) s)), .retAddr 0], [], MW A B F sw, 0, 0)) 5 rfl ?_
  have hlt := sd_lt (b := s) hal
  unfold sepN
  generalize sd (2 ^ n - 1) s = t at hlt ⊢
  refine wh_ind (P := fun (r : Nat) => r < 1024 → ∀ (m f : Nat) (d5 : Value), r ≤ f → m + r ≤ 2000 → mv_Wp xs Ls 1 6 false (some .boolean) mv_c102 (14, [.ref 28, .int (nI s), .int (nI t), .int (nI m), .int (nI r), d5], [], MW A B F sw, 0, 0) (some (.int (bI (decide (1 < sepC n nb s t f r m)))), MW A B F sw, 0, 0)) (fun r => r) ?_ t hlt 0 1024 _ (by omega) (by omega)
  intro r ih hr m f d5 hf hmr
  refine wp_go (f' := ((if (nI r) = 0 then 61 else 19), [.ref 28, .int (nI s), .int (nI t), .int (nI m), .int (nI r), d5], [], MW A B F sw, 0, 0)) 2 rfl ?_
  refine wp_ite (fun h1 => ?_) (fun h1 => ?_)
  · have h1 : r = 0 := (nI_eq (a := r) (b := 0) (by omega) (by omega)).mp h1
    refine wp_go (f' := ((if (nI m) ≤ (nI 1) then 70 else 66), [.ref 28, .int (nI s), .int (nI t), .int (nI m), .int (nI r), d5], [], MW A B F sw, 0, 0)) 3 rfl ?_
    refine wp_ite (fun h2 => ?_) (fun h2 => ?_)
    · have h2 : m ≤ 1 := (nI_leI (a := m) (b := 1) (by omega) (by omega)).mp h2
      refine wp_go (f' := (71, [.ref 28, .int (nI s), .int (nI t), .int (nI m), .int (nI r), d5], [.int (nI 0)], MW A B F sw, 0, 0)) 1 rfl ?_
      subst h1
      rw [sepC_0, show decide (1 < m) = false by simp; omega]
      exact wp_zret rfl (by first | exact Or.inl rfl | exact Or.inr rfl)
    · have h2 : ¬ (m ≤ 1) := fun h9 => h2 ((nI_leI (a := m) (b := 1) (by omega) (by omega)).mpr h9)
      refine wp_go (f' := (71, [.ref 28, .int (nI s), .int (nI t), .int (nI m), .int (nI r), d5], [.int (nI 1)], MW A B F sw, 0, 0)) 2 rfl ?_
      subst h1
      rw [sepC_0, show decide (1 < m) = true by simp; omega]
      exact wp_zret rfl (by first | exact Or.inl rfl | exact Or.inr rfl)
  · have h1 : ¬ (r = 0) := fun h9 => h1 ((nI_eq (a := r) (b := 0) (by omega) (by omega)).mpr h9)
    refine wp_go (f' := (22, [.ref 28, .int (nI s), .int (nI t), .int (nI m), .int (nI r), d5], [.int (nI r), .ref 28], MW A B F sw, 0, 0)) 2 rfl ?_
    refine wp_call rfl rfl rfl (ev_up (ev_lowest (s := r) (by omega) (by omega) _) (by decide)) ?_
    refine wp_eq (f' := (25, [.ref 28, .int (nI s), .int (nI t), .int (nI m), .int (nI r), d5], [.int (nI (low r)), .ref 28], MW A B F sw, 0, 0)) rfl ?_
    have hlw := low_lt (s := r) (by omega) (by omega)
    refine wp_go (f' := (26, [.ref 28, .int (nI s), .int (nI t), .int (nI m), .int (nI r), d5], [.int (nI t), .int (nI (low r)), .ref 28], MW A B F sw, 0, 0)) 1 rfl ?_
    refine wp_call rfl rfl rfl (ev_up (ev_hang hM (v := low r) (s := t) (by omega) (by omega)) (by decide)) ?_
    refine wp_eq (f' := (29, [.ref 28, .int (nI s), .int (nI t), .int (nI m), .int (nI r), d5], [.int (nI (hangN n nb (low r) t))], MW A B F sw, 0, 0)) rfl ?_
    have hhg := hangN_lt (n := n) (nb := nb) (v := low r) (s := t) (by omega) (by omega)
    refine wp_go (f' := (35, [.ref 28, .int (nI s), .int (nI t), .int (nI m), .int (nI r), .int (nI (hangN n nb (low r) t))], [.int (nI (hangN n nb (low r) t)), .ref 28, .int (nI m)], MW A B F sw, 0, 0)) 4 rfl ?_
    refine wp_call rfl rfl rfl (ev_up (ev_around hM (s := hangN n nb (low r) t) (by omega)) (by decide)) ?_
    refine wp_eq (f' := (38, [.ref 28, .int (nI s), .int (nI t), .int (nI m), .int (nI r), .int (nI (hangN n nb (low r) t))], [.int (nI (sd (reachN n nb (hangN n nb (low r) t)) (hangN n nb (low r) t))), .int (nI m)], MW A B F sw, 0, 0)) rfl ?_
    have hra := sd_lt (b := hangN n nb (low r) t) (reachN_lt hM.1 hM.2.2.2 (hangN n nb (low r) t))
    refine wp_go (f' := ((if ¬ (nI (sd (reachN n nb (hangN n nb (low r) t)) (hangN n nb (low r) t))) = (nI s) then 46 else 42), [.ref 28, .int (nI s), .int (nI t), .int (nI m), .int (nI r), .int (nI (hangN n nb (low r) t))], [.int (nI m)], MW A B F sw, 0, 0)) 2 rfl ?_
    refine wp_ite (fun h3 => ?_) (fun h3 => ?_)
    · have h3 : ¬ (sd (reachN n nb (hangN n nb (low r) t)) (hangN n nb (low r) t) = s) := fun h9 => h3 ((nI_eq (a := sd (reachN n nb (hangN n nb (low r) t)) (hangN n nb (low r) t)) (b := s) (by omega) (by omega)).mpr h9)
      refine wp_go (f' := (48, [.ref 28, .int (nI s), .int (nI t), .int (nI m), .int (nI r), .int (nI (hangN n nb (low r) t))], [.int ((nI m) + (nI 0))], MW A B F sw, 0, 0)) 2 rfl ?_
      rw [nI_add]
      refine wp_go (f' := (56, [.ref 28, .int (nI s), .int (nI t), .int (nI (m + 0)), .int (nI r), .int (nI (hangN n nb (low r) t))], [.int ((nI r) &&& ((nI (hangN n nb (low r) t)) ^^^ (-1)))], MW A B F sw, 0, 0)) 6 rfl ?_
      rw [bx_sd (by omega)]
      have hb1 : sd r (hangN n nb (low r) t) < 1024 := by first | omega | exact or_lt (by omega) (by omega) | exact and_lt (by omega) | exact and_lt_r (by omega) | exact sd_lt (by omega) | exact pow_lt (by omega)
      refine wp_go (f' := (14, [.ref 28, .int (nI s), .int (nI t), .int (nI (m + 0)), .int (nI (sd r (hangN n nb (low r) t))), .int (nI (hangN n nb (low r) t))], [], MW A B F sw, 0, 0)) 2 rfl ?_
      obtain ⟨f, rfl⟩ : ∃ f2, f = f2 + 1 := ⟨f - 1, by omega⟩
      have h9 := sd_less hr (low_bit hr h1) (hang_self n nb (low r) t)
      simp only [sepC, if_neg h1, if_neg h3]
      exact ih _ h9 (by omega) _ _ _ (by omega) (by omega)
    · have h3 := Classical.not_not.mp h3; have h3 : sd (reachN n nb (hangN n nb (low r) t)) (hangN n nb (low r) t) = s := (nI_eq (a := sd (reachN n nb (hangN n nb (low r) t)) (hangN n nb (low r) t)) (b := s) (by omega) (by omega)).mp h3
      refine wp_go (f' := (48, [.ref 28, .int (nI s), .int (nI t), .int (nI m), .int (nI r), .int (nI (hangN n nb (low r) t))], [.int ((nI m) + (nI 1))], MW A B F sw, 0, 0)) 3 rfl ?_
      rw [nI_add]
      refine wp_go (f' := (56, [.ref 28, .int (nI s), .int (nI t), .int (nI (m + 1)), .int (nI r), .int (nI (hangN n nb (low r) t))], [.int ((nI r) &&& ((nI (hangN n nb (low r) t)) ^^^ (-1)))], MW A B F sw, 0, 0)) 6 rfl ?_
      rw [bx_sd (by omega)]
      have hb2 : sd r (hangN n nb (low r) t) < 1024 := by first | omega | exact or_lt (by omega) (by omega) | exact and_lt (by omega) | exact and_lt_r (by omega) | exact sd_lt (by omega) | exact pow_lt (by omega)
      refine wp_go (f' := (14, [.ref 28, .int (nI s), .int (nI t), .int (nI (m + 1)), .int (nI (sd r (hangN n nb (low r) t))), .int (nI (hangN n nb (low r) t))], [], MW A B F sw, 0, 0)) 2 rfl ?_
      obtain ⟨f, rfl⟩ : ∃ f2, f = f2 + 1 := ⟨f - 1, by omega⟩
      have h9 := sd_less hr (low_bit hr h1) (hang_self n nb (low r) t)
      simp only [sepC, if_neg h1, if_pos h3]
      exact ih _ h9 (by omega) _ _ _ (by omega) (by omega)
/-- the weights that the reference's object holds -/
def MWt (A : Nat → Nat → Int32) (wt : Nat → Nat) : Prop := ∀ v, v < 10 → A 30 v = nI (wt v) ∧ wt v ≤ 1000
/-- the weight of a set -/
def weightN (n : Nat) (wt : Nat → Nat) (s : Nat) : Nat := forN (fun k m => m + (if s.testBit k then wt k else 0)) n 0
theorem ev_weightOf (hM : MI A F n nb) {s : Nat} (hs : s < 1024) {wt : Nat → Nat} (hw : MWt A wt) : mv_Ev xs Ls 1 135 [.ref 28, .int (nI s)] (MW A B F sw) (some (.int (nI (weightN n wt s))), MW A B F sw, 0, 0) := by
  refine ev_of_wp rfl rfl rfl ?_
  have hn := hM.1
  refine wp_go (f' := (4, [.ref 28, .int (nI s), .int (nI 0), .int (nI 0)], [], MW A B F sw, 0, 0)) 4 rfl ?_
  refine for_ind (P := fun (k : Nat) (m : Nat) => mv_Wp xs Ls 0 6 false (some .int) mv_c135 (4, [.ref 28, .int (nI s), .int (nI m), .int (nI k)], [], MW A B F sw, 0, 0) (some (.int (nI (weightN n wt s))), MW A B F sw, 0, 0)) (f := fun k m => m + (if s.testBit k then wt k else 0)) (n := n) ?_ n 0 (Nat.le_refl _) ?_
  · intro k m hk ih
    refine wp_go (f' := (9, [.ref 28, .int (nI s), .int (nI m), .int (nI k)], [.int (F 6), .int (nI k)], MW A B F sw, 0, 0)) 3 rfl ?_
    rw [hM.2.1]
    refine wp_go (f' := ((if (nI n) ≤ (nI k) then 40 else 12), [.ref 28, .int (nI s), .int (nI m), .int (nI k)], [], MW A B F sw, 0, 0)) 1 rfl ?_
    refine wp_ite (fun h9 => absurd h9 (nI_ge hk (by omega))) (fun _ => ?_)
    refine wp_go (f' := (18, [.ref 28, .int (nI s), .int (nI m), .int (nI k)], [.int (((nI s) >>> ((nI k) &&& 31)) &&& (nI 1)), .int (nI m)], MW A B F sw, 0, 0)) 6 rfl ?_
    rw [bx_bit (by omega) (by omega)]
    refine wp_go (f' := ((if ¬ (bI (s.testBit k)) = (nI 1) then 31 else 22), [.ref 28, .int (nI s), .int (nI m), .int (nI k)], [.int (nI m)], MW A B F sw, 0, 0)) 2 rfl ?_
    refine wp_ite (fun h1 => ?_) (fun h1 => ?_)
    · have h1 := bI_n1 h1
      refine wp_go (f' := (33, [.ref 28, .int (nI s), .int (nI m), .int (nI k)], [.int ((nI m) + (nI 0))], MW A B F sw, 0, 0)) 2 rfl ?_
      rw [nI_add]
      refine wp_go (f' := (37, [.ref 28, .int (nI s), .int (nI (m + 0)), .int ((nI k) + 1)], [], MW A B F sw, 0, 0)) 2 rfl ?_
      rw [nI_1]
      refine wp_go (f' := (4, [.ref 28, .int (nI s), .int (nI (m + 0)), .int (nI (k + 1))], [], MW A B F sw, 0, 0)) 1 rfl ?_
      refine wp_eq ?_ ih
      simp [h1, nI_add]
    · have h1 := Classical.not_not.mp h1; have h1 := bI_1.mp h1
      refine wp_go (f' := (27, [.ref 28, .int (nI s), .int (nI m), .int (nI k)], [.int (nI k), .ref 30, .int (nI m)], MW A B F sw, 0, 0)) 3 rfl ?_
      refine wp_iald rfl rfl (by omega) (by decide) ?_
      rw [(hw k (by omega)).1]
      refine wp_go (f' := (33, [.ref 28, .int (nI s), .int (nI m), .int (nI k)], [.int ((nI m) + (nI (wt k)))], MW A B F sw, 0, 0)) 2 rfl ?_
      rw [nI_add]
      refine wp_go (f' := (37, [.ref 28, .int (nI s), .int (nI (m + (wt k))), .int ((nI k) + 1)], [], MW A B F sw, 0, 0)) 2 rfl ?_
      rw [nI_1]
      refine wp_go (f' := (4, [.ref 28, .int (nI s), .int (nI (m + (wt k))), .int (nI (k + 1))], [], MW A B F sw, 0, 0)) 1 rfl ?_
      refine wp_eq ?_ ih
      simp [h1, nI_add]
  · skip
    refine wp_go (f' := (9, [.ref 28, .int (nI s), .int (nI (weightN n wt s)), .int (nI n)], [.int (F 6), .int (nI n)], MW A B F sw, 0, 0)) 3 rfl ?_
    rw [hM.2.1]
    refine wp_go (f' := ((if (nI n) ≤ (nI n) then 40 else 12), [.ref 28, .int (nI s), .int (nI (weightN n wt s)), .int (nI n)], [], MW A B F sw, 0, 0)) 1 rfl ?_
    refine wp_ite (fun _ => ?_) (fun h9 => absurd (nI_le (Nat.le_refl _) (by omega)) h9)
    refine wp_go (f' := (41, [.ref 28, .int (nI s), .int (nI (weightN n wt s)), .int (nI n)], [.int (nI (weightN n wt s))], MW A B F sw, 0, 0)) 1 rfl ?_
    exact wp_iret rfl
/-- is v a vertex -/
def isV (v : Int32) (n : Nat) : Bool := decide (nI 0 ≤ v) && decide (v ≤ nI n - nI 1)
theorem isV_t {n a : Nat} (hn : n ≤ 10) (ha : a < n) : isV (nI a) n = true := by
  unfold isV
  rw [pk_sub (by omega)]
  simp only [Bool.and_eq_true, decide_eq_true_eq]
  exact ⟨nI_le (Nat.zero_le _) (by omega), nI_le (by omega) (by omega)⟩
theorem isV_ex {n : Nat} {v : Int32} (hn : n ≤ 10) (h : isV v n = true) : ∃ a, a < n ∧ v = nI a := by
  unfold isV at h
  simp only [Bool.and_eq_true, decide_eq_true_eq] at h
  obtain ⟨a, ha, rfl⟩ := nI_of (x := v) (fun h9 => absurd h.1 (Int32.not_le.mpr h9))
  by_cases h0 : n = 0
  · subst h0
    exact absurd (Int32.le_trans h.1 h.2) (by decide)
  · rw [pk_sub (by omega)] at h
    have := (nI_leI (a := a) (b := n - 1) ha (by omega)).mp h.2
    exact ⟨a, by omega, rfl⟩
theorem ev_isV_t (hM : MI A F n nb) {a : Nat} (ha : a < n) : mv_Ev xs Ls 2 87 [.ref 28, .int (nI a)] (MW A B F sw) (some (.int (nI 1)), MW A B F sw, 0, 0) := by
  have h := ev_isVertex (xs := xs) (Ls := Ls) (A := A) (B := B) (F := F) (sw := sw) (nI a)
  rw [hM.2.1] at h
  have e := isV_t hM.1 ha
  unfold isV at e
  rw [e] at h
  exact h
theorem ev_isV_f (hM : MI A F n nb) {v : Int32} (hv : isV v n = false) : mv_Ev xs Ls 2 87 [.ref 28, .int v] (MW A B F sw) (some (.int (nI 0)), MW A B F sw, 0, 0) := by
  have h := ev_isVertex (xs := xs) (Ls := Ls) (A := A) (B := B) (F := F) (sw := sw) v
  rw [hM.2.1] at h
  unfold isV at hv
  rw [hv] at h
  exact h
theorem ev_near_f (hM : MI A F n nb) {v : Int32} (hv : isV v n = false) : mv_Ev xs Ls 3 91 [.ref 28, .int v] (MW A B F sw) (some (.int (-2)), MW A B F sw, 0, 0) := by
  refine ev_of_wp rfl rfl rfl ?_
  have hn := hM.1
  refine wp_go (f' := (2, [.ref 28, .int v], [.int v, .ref 28], MW A B F sw, 0, 0)) 2 rfl ?_
  refine wp_call rfl rfl rfl (ev_up (ev_isV_f hM hv) (by decide)) ?_
  refine wp_eq (f' := (5, [.ref 28, .int v], [.int (nI 0)], MW A B F sw, 0, 0)) rfl ?_
  refine wp_go (f' := ((if (nI 0) = 0 then 17 else 8), [.ref 28, .int v], [], MW A B F sw, 0, 0)) 1 rfl ?_
  refine wp_ite (fun _ => ?_) (fun h9 => absurd (rfl : nI 0 = 0) h9)
  refine wp_go (f' := (19, [.ref 28, .int v], [.int (-2)], MW A B F sw, 0, 0)) 1 rfl ?_
  exact wp_iret rfl
theorem ev_near_t (hM : MI A F n nb) {a : Nat} (ha : a < n) : mv_Ev xs Ls 3 91 [.ref 28, .int (nI a)] (MW A B F sw) (some (.int (nI (nb a))), MW A B F sw, 0, 0) := by
  refine ev_of_wp rfl rfl rfl ?_
  have hn := hM.1
  refine wp_go (f' := (2, [.ref 28, .int (nI a)], [.int (nI a), .ref 28], MW A B F sw, 0, 0)) 2 rfl ?_
  refine wp_call rfl rfl rfl (ev_up (ev_isV_t hM (a := a) (by omega)) (by decide)) ?_
  refine wp_eq (f' := (5, [.ref 28, .int (nI a)], [.int (nI 1)], MW A B F sw, 0, 0)) rfl ?_
  refine wp_go (f' := ((if (nI 1) = 0 then 17 else 8), [.ref 28, .int (nI a)], [], MW A B F sw, 0, 0)) 1 rfl ?_
  refine wp_ite (fun h9 => absurd h9 (by decide : ¬ nI 1 = 0)) (fun _ => ?_)
  refine wp_go (f' := (13, [.ref 28, .int (nI a)], [.int (nI a), .ref 29], MW A B F sw, 0, 0)) 3 rfl ?_
  refine wp_iald rfl rfl (by omega) (by decide) ?_
  rw [hM.2.2.1 a (by omega)]
  have hnb := hM.2.2.2 a (by omega)
  refine wp_go (f' := (19, [.ref 28, .int (nI a)], [.int (nI (nb a))], MW A B F sw, 0, 0)) 1 rfl ?_
  exact wp_iret rfl
theorem ev_join_f1 (hM : MI A F n nb) {v u : Int32} (hv : isV v n = false) : mv_Ev xs Ls 3 86 [.ref 28, .int v, .int u] (MW A B F sw) (some (.int (-2)), MW A B F sw, 0, 0) := by
  refine ev_of_wp rfl rfl rfl ?_
  have hn := hM.1
  refine wp_go (f' := (2, [.ref 28, .int v, .int u], [.int v, .ref 28], MW A B F sw, 0, 0)) 2 rfl ?_
  refine wp_call rfl rfl rfl (ev_up (ev_isV_f hM hv) (by decide)) ?_
  refine wp_eq (f' := (5, [.ref 28, .int v, .int u], [.int (nI 0)], MW A B F sw, 0, 0)) rfl ?_
  refine wp_go (f' := ((if (nI 0) = 0 then 21 else 8), [.ref 28, .int v, .int u], [], MW A B F sw, 0, 0)) 1 rfl ?_
  refine wp_ite (fun _ => ?_) (fun h9 => absurd (rfl : nI 0 = 0) h9)
  refine wp_go (f' := (23, [.ref 28, .int v, .int u], [.int (-2)], MW A B F sw, 0, 0)) 1 rfl ?_
  exact wp_iret rfl
theorem ev_join_f2 (hM : MI A F n nb) {a : Nat} {u : Int32} (ha : a < n) (hu : isV u n = false) : mv_Ev xs Ls 3 86 [.ref 28, .int (nI a), .int u] (MW A B F sw) (some (.int (-2)), MW A B F sw, 0, 0) := by
  refine ev_of_wp rfl rfl rfl ?_
  have hn := hM.1
  refine wp_go (f' := (2, [.ref 28, .int (nI a), .int u], [.int (nI a), .ref 28], MW A B F sw, 0, 0)) 2 rfl ?_
  refine wp_call rfl rfl rfl (ev_up (ev_isV_t hM (a := a) (by omega)) (by decide)) ?_
  refine wp_eq (f' := (5, [.ref 28, .int (nI a), .int u], [.int (nI 1)], MW A B F sw, 0, 0)) rfl ?_
  refine wp_go (f' := ((if (nI 1) = 0 then 21 else 8), [.ref 28, .int (nI a), .int u], [], MW A B F sw, 0, 0)) 1 rfl ?_
  refine wp_ite (fun h9 => absurd h9 (by decide : ¬ nI 1 = 0)) (fun _ => ?_)
  refine wp_go (f' := (10, [.ref 28, .int (nI a), .int u], [.int u, .ref 28], MW A B F sw, 0, 0)) 2 rfl ?_
  refine wp_call rfl rfl rfl (ev_up (ev_isV_f hM hu) (by decide)) ?_
  refine wp_eq (f' := (13, [.ref 28, .int (nI a), .int u], [.int (nI 0)], MW A B F sw, 0, 0)) rfl ?_
  refine wp_go (f' := ((if (nI 0) = 0 then 21 else 16), [.ref 28, .int (nI a), .int u], [], MW A B F sw, 0, 0)) 1 rfl ?_
  refine wp_ite (fun _ => ?_) (fun h9 => absurd (rfl : nI 0 = 0) h9)
  refine wp_go (f' := (23, [.ref 28, .int (nI a), .int u], [.int (-2)], MW A B F sw, 0, 0)) 1 rfl ?_
  exact wp_iret rfl
theorem ev_join_f3 (hM : MI A F n nb) {a : Nat} (ha : a < n) : mv_Ev xs Ls 3 86 [.ref 28, .int (nI a), .int (nI a)] (MW A B F sw) (some (.int (-2)), MW A B F sw, 0, 0) := by
  refine ev_of_wp rfl rfl rfl ?_
  have hn := hM.1
  refine wp_go (f' := (2, [.ref 28, .int (nI a), .int (nI a)], [.int (nI a), .ref 28], MW A B F sw, 0, 0)) 2 rfl ?_
  refine wp_call rfl rfl rfl (ev_up (ev_isV_t hM (a := a) (by omega)) (by decide)) ?_
  refine wp_eq (f' := (5, [.ref 28, .int (nI a), .int (nI a)], [.int (nI 1)], MW A B F sw, 0, 0)) rfl ?_
  refine wp_go (f' := ((if (nI 1) = 0 then 21 else 8), [.ref 28, .int (nI a), .int (nI a)], [], MW A B F sw, 0, 0)) 1 rfl ?_
  refine wp_ite (fun h9 => absurd h9 (by decide : ¬ nI 1 = 0)) (fun _ => ?_)
  refine wp_go (f' := (10, [.ref 28, .int (nI a), .int (nI a)], [.int (nI a), .ref 28], MW A B F sw, 0, 0)) 2 rfl ?_
  refine wp_call rfl rfl rfl (ev_up (ev_isV_t hM (a := a) (by omega)) (by decide)) ?_
  refine wp_eq (f' := (13, [.ref 28, .int (nI a), .int (nI a)], [.int (nI 1)], MW A B F sw, 0, 0)) rfl ?_
  refine wp_go (f' := ((if (nI 1) = 0 then 21 else 16), [.ref 28, .int (nI a), .int (nI a)], [], MW A B F sw, 0, 0)) 1 rfl ?_
  refine wp_ite (fun h9 => absurd h9 (by decide : ¬ nI 1 = 0)) (fun _ => ?_)
  refine wp_go (f' := ((if ¬ (nI a) = (nI a) then 24 else 21), [.ref 28, .int (nI a), .int (nI a)], [], MW A B F sw, 0, 0)) 3 rfl ?_
  refine wp_ite (fun h9 => absurd h9 (fun h8 => h8 rfl : ¬ ¬ nI a = nI a)) (fun _ => ?_)
  refine wp_go (f' := (23, [.ref 28, .int (nI a), .int (nI a)], [.int (-2)], MW A B F sw, 0, 0)) 1 rfl ?_
  exact wp_iret rfl
theorem ev_part_f1 (hM : MI A F n nb) {v u : Int32} (hv : isV v n = false) : mv_Ev xs Ls 3 89 [.ref 28, .int v, .int u] (MW A B F sw) (some (.int (-2)), MW A B F sw, 0, 0) := by
  refine ev_of_wp rfl rfl rfl ?_
  have hn := hM.1
  refine wp_go (f' := (2, [.ref 28, .int v, .int u], [.int v, .ref 28], MW A B F sw, 0, 0)) 2 rfl ?_
  refine wp_call rfl rfl rfl (ev_up (ev_isV_f hM hv) (by decide)) ?_
  refine wp_eq (f' := (5, [.ref 28, .int v, .int u], [.int (nI 0)], MW A B F sw, 0, 0)) rfl ?_
  refine wp_go (f' := ((if (nI 0) = 0 then 16 else 8), [.ref 28, .int v, .int u], [], MW A B F sw, 0, 0)) 1 rfl ?_
  refine wp_ite (fun _ => ?_) (fun h9 => absurd (rfl : nI 0 = 0) h9)
  refine wp_go (f' := (18, [.ref 28, .int v, .int u], [.int (-2)], MW A B F sw, 0, 0)) 1 rfl ?_
  exact wp_iret rfl
theorem ev_part_f2 (hM : MI A F n nb) {a : Nat} {u : Int32} (ha : a < n) (hu : isV u n = false) : mv_Ev xs Ls 3 89 [.ref 28, .int (nI a), .int u] (MW A B F sw) (some (.int (-2)), MW A B F sw, 0, 0) := by
  refine ev_of_wp rfl rfl rfl ?_
  have hn := hM.1
  refine wp_go (f' := (2, [.ref 28, .int (nI a), .int u], [.int (nI a), .ref 28], MW A B F sw, 0, 0)) 2 rfl ?_
  refine wp_call rfl rfl rfl (ev_up (ev_isV_t hM (a := a) (by omega)) (by decide)) ?_
  refine wp_eq (f' := (5, [.ref 28, .int (nI a), .int u], [.int (nI 1)], MW A B F sw, 0, 0)) rfl ?_
  refine wp_go (f' := ((if (nI 1) = 0 then 16 else 8), [.ref 28, .int (nI a), .int u], [], MW A B F sw, 0, 0)) 1 rfl ?_
  refine wp_ite (fun h9 => absurd h9 (by decide : ¬ nI 1 = 0)) (fun _ => ?_)
  refine wp_go (f' := (10, [.ref 28, .int (nI a), .int u], [.int u, .ref 28], MW A B F sw, 0, 0)) 2 rfl ?_
  refine wp_call rfl rfl rfl (ev_up (ev_isV_f hM hu) (by decide)) ?_
  refine wp_eq (f' := (13, [.ref 28, .int (nI a), .int u], [.int (nI 0)], MW A B F sw, 0, 0)) rfl ?_
  refine wp_go (f' := ((if ¬ (nI 0) = 0 then 19 else 16), [.ref 28, .int (nI a), .int u], [], MW A B F sw, 0, 0)) 1 rfl ?_
  refine wp_ite (fun h9 => absurd h9 (fun h8 => h8 rfl : ¬ ¬ nI 0 = 0)) (fun _ => ?_)
  refine wp_go (f' := (18, [.ref 28, .int (nI a), .int u], [.int (-2)], MW A B F sw, 0, 0)) 1 rfl ?_
  exact wp_iret rfl
end MM
end
section
section MM
variable {xs : Nat → Int32} {Ls : Nat} {A : Nat → Nat → Int32} {B : Nat → Nat → Int64} {F : Nat → Int32} {sw : Bool} {n : Nat} {nb : Nat → Nat}
theorem ev_join_there (hM : MI A F n nb) {ed : Nat} (hE : F 7 = nI ed) (hed : ed ≤ 20) {a b : Nat} (ha : a < n) (hb : b < n) (hab : a ≠ b) (hx : (nb a).testBit b = true) : mv_Ev xs Ls 3 86 [.ref 28, .int (nI a), .int (nI b)] (MW A B F sw) (some (.int (-4)), MW A B F sw, 0, 0) := by
  refine ev_of_wp rfl rfl rfl ?_
  have hn := hM.1
  have hna := hM.2.2.2 a (by omega)
  have hnb2 := hM.2.2.2 b (by omega)
  refine wp_go (f' := (2, [.ref 28, .int (nI a), .int (nI b)], [.int (nI a), .ref 28], MW A B F sw, 0, 0)) 2 rfl ?_
  refine wp_call rfl rfl rfl (ev_up (ev_isV_t hM (a := a) (by omega)) (by decide)) ?_
  refine wp_eq (f' := (5, [.ref 28, .int (nI a), .int (nI b)], [.int (nI 1)], MW A B F sw, 0, 0)) rfl ?_
  refine wp_go (f' := ((if (nI 1) = 0 then 21 else 8), [.ref 28, .int (nI a), .int (nI b)], [], MW A B F sw, 0, 0)) 1 rfl ?_
  refine wp_ite (fun h9 => absurd h9 (by decide : ¬ nI 1 = 0)) (fun _ => ?_)
  refine wp_go (f' := (10, [.ref 28, .int (nI a), .int (nI b)], [.int (nI b), .ref 28], MW A B F sw, 0, 0)) 2 rfl ?_
  refine wp_call rfl rfl rfl (ev_up (ev_isV_t hM (a := b) (by omega)) (by decide)) ?_
  refine wp_eq (f' := (13, [.ref 28, .int (nI a), .int (nI b)], [.int (nI 1)], MW A B F sw, 0, 0)) rfl ?_
  refine wp_go (f' := ((if (nI 1) = 0 then 21 else 16), [.ref 28, .int (nI a), .int (nI b)], [], MW A B F sw, 0, 0)) 1 rfl ?_
  refine wp_ite (fun h9 => absurd h9 (by decide : ¬ nI 1 = 0)) (fun _ => ?_)
  refine wp_go (f' := ((if ¬ (nI a) = (nI b) then 24 else 21), [.ref 28, .int (nI a), .int (nI b)], [], MW A B F sw, 0, 0)) 3 rfl ?_
  refine wp_ite (fun _ => ?_) (fun h9 => absurd (fun h8 => hab ((nI_eq (a := a) (b := b) (by omega) (by omega)).mp h8)) h9)
  refine wp_go (f' := (27, [.ref 28, .int (nI a), .int (nI b)], [.int (nI b), .int (nI a), .ref 28], MW A B F sw, 0, 0)) 3 rfl ?_
  refine wp_call rfl rfl rfl (ev_up (ev_isEdge hM a b (by omega) (by omega)) (by decide)) ?_
  refine wp_eq (f' := (30, [.ref 28, .int (nI a), .int (nI b)], [.int (bI ((nb a).testBit b))], MW A B F sw, 0, 0)) rfl ?_
  refine wp_go (f' := ((if (bI ((nb a).testBit b)) = 0 then 36 else 33), [.ref 28, .int (nI a), .int (nI b)], [], MW A B F sw, 0, 0)) 1 rfl ?_
  refine wp_ite (fun h9 => absurd h9 (by rw [bI_t hx]; decide)) (fun _ => ?_)
  refine wp_go (f' := (35, [.ref 28, .int (nI a), .int (nI b)], [.int (-4)], MW A B F sw, 0, 0)) 1 rfl ?_
  exact wp_iret rfl
theorem ev_join_full (hM : MI A F n nb) {ed : Nat} (hE : F 7 = nI ed) (hed : ed ≤ 20) {a b : Nat} (ha : a < n) (hb : b < n) (hab : a ≠ b) (hx : (nb a).testBit b = false) (h20 : ed = 20) : mv_Ev xs Ls 3 86 [.ref 28, .int (nI a), .int (nI b)] (MW A B F sw) (some (.int (-3)), MW A B F sw, 0, 0) := by
  refine ev_of_wp rfl rfl rfl ?_
  have hn := hM.1
  have hna := hM.2.2.2 a (by omega)
  have hnb2 := hM.2.2.2 b (by omega)
  refine wp_go (f' := (2, [.ref 28, .int (nI a), .int (nI b)], [.int (nI a), .ref 28], MW A B F sw, 0, 0)) 2 rfl ?_
  refine wp_call rfl rfl rfl (ev_up (ev_isV_t hM (a := a) (by omega)) (by decide)) ?_
  refine wp_eq (f' := (5, [.ref 28, .int (nI a), .int (nI b)], [.int (nI 1)], MW A B F sw, 0, 0)) rfl ?_
  refine wp_go (f' := ((if (nI 1) = 0 then 21 else 8), [.ref 28, .int (nI a), .int (nI b)], [], MW A B F sw, 0, 0)) 1 rfl ?_
  refine wp_ite (fun h9 => absurd h9 (by decide : ¬ nI 1 = 0)) (fun _ => ?_)
  refine wp_go (f' := (10, [.ref 28, .int (nI a), .int (nI b)], [.int (nI b), .ref 28], MW A B F sw, 0, 0)) 2 rfl ?_
  refine wp_call rfl rfl rfl (ev_up (ev_isV_t hM (a := b) (by omega)) (by decide)) ?_
  refine wp_eq (f' := (13, [.ref 28, .int (nI a), .int (nI b)], [.int (nI 1)], MW A B F sw, 0, 0)) rfl ?_
  refine wp_go (f' := ((if (nI 1) = 0 then 21 else 16), [.ref 28, .int (nI a), .int (nI b)], [], MW A B F sw, 0, 0)) 1 rfl ?_
  refine wp_ite (fun h9 => absurd h9 (by decide : ¬ nI 1 = 0)) (fun _ => ?_)
  refine wp_go (f' := ((if ¬ (nI a) = (nI b) then 24 else 21), [.ref 28, .int (nI a), .int (nI b)], [], MW A B F sw, 0, 0)) 3 rfl ?_
  refine wp_ite (fun _ => ?_) (fun h9 => absurd (fun h8 => hab ((nI_eq (a := a) (b := b) (by omega) (by omega)).mp h8)) h9)
  refine wp_go (f' := (27, [.ref 28, .int (nI a), .int (nI b)], [.int (nI b), .int (nI a), .ref 28], MW A B F sw, 0, 0)) 3 rfl ?_
  refine wp_call rfl rfl rfl (ev_up (ev_isEdge hM a b (by omega) (by omega)) (by decide)) ?_
  refine wp_eq (f' := (30, [.ref 28, .int (nI a), .int (nI b)], [.int (bI ((nb a).testBit b))], MW A B F sw, 0, 0)) rfl ?_
  refine wp_go (f' := ((if (bI ((nb a).testBit b)) = 0 then 36 else 33), [.ref 28, .int (nI a), .int (nI b)], [], MW A B F sw, 0, 0)) 1 rfl ?_
  refine wp_ite (fun _ => ?_) (fun h9 => absurd (bI_f hx) h9)
  refine wp_go (f' := (40, [.ref 28, .int (nI a), .int (nI b)], [.int (F 7)], MW A B F sw, 0, 0)) 2 rfl ?_
  rw [hE]
  refine wp_go (f' := ((if ¬ (nI ed) = (nI 20) then 48 else 45), [.ref 28, .int (nI a), .int (nI b)], [], MW A B F sw, 0, 0)) 2 rfl ?_
  refine wp_ite (fun h9 => absurd h9 (fun h8 => h8 (by rw [h20]))) (fun _ => ?_)
  refine wp_go (f' := (47, [.ref 28, .int (nI a), .int (nI b)], [.int (-3)], MW A B F sw, 0, 0)) 1 rfl ?_
  exact wp_iret rfl
theorem ev_join_ok (hM : MI A F n nb) {ed : Nat} (hE : F 7 = nI ed) (hed : ed ≤ 20) {a b : Nat} (ha : a < n) (hb : b < n) (hab : a ≠ b) (hx : (nb a).testBit b = false) (h20 : ed ≠ 20) : mv_Ev xs Ls 3 86 [.ref 28, .int (nI a), .int (nI b)] (MW A B F sw) (some (.int (nI (ed + 1))), MW (upA A 29 (upd (upd (A 29) a (nI (nb a ||| 2 ^ b))) b (nI (nb b ||| 2 ^ a)))) B (upF F 7 (nI (ed + 1))) sw, 0, 0) := by
  refine ev_of_wp rfl rfl rfl ?_
  have hn := hM.1
  have hna := hM.2.2.2 a (by omega)
  have hnb2 := hM.2.2.2 b (by omega)
  refine wp_go (f' := (2, [.ref 28, .int (nI a), .int (nI b)], [.int (nI a), .ref 28], MW A B F sw, 0, 0)) 2 rfl ?_
  refine wp_call rfl rfl rfl (ev_up (ev_isV_t hM (a := a) (by omega)) (by decide)) ?_
  refine wp_eq (f' := (5, [.ref 28, .int (nI a), .int (nI b)], [.int (nI 1)], MW A B F sw, 0, 0)) rfl ?_
  refine wp_go (f' := ((if (nI 1) = 0 then 21 else 8), [.ref 28, .int (nI a), .int (nI b)], [], MW A B F sw, 0, 0)) 1 rfl ?_
  refine wp_ite (fun h9 => absurd h9 (by decide : ¬ nI 1 = 0)) (fun _ => ?_)
  refine wp_go (f' := (10, [.ref 28, .int (nI a), .int (nI b)], [.int (nI b), .ref 28], MW A B F sw, 0, 0)) 2 rfl ?_
  refine wp_call rfl rfl rfl (ev_up (ev_isV_t hM (a := b) (by omega)) (by decide)) ?_
  refine wp_eq (f' := (13, [.ref 28, .int (nI a), .int (nI b)], [.int (nI 1)], MW A B F sw, 0, 0)) rfl ?_
  refine wp_go (f' := ((if (nI 1) = 0 then 21 else 16), [.ref 28, .int (nI a), .int (nI b)], [], MW A B F sw, 0, 0)) 1 rfl ?_
  refine wp_ite (fun h9 => absurd h9 (by decide : ¬ nI 1 = 0)) (fun _ => ?_)
  refine wp_go (f' := ((if ¬ (nI a) = (nI b) then 24 else 21), [.ref 28, .int (nI a), .int (nI b)], [], MW A B F sw, 0, 0)) 3 rfl ?_
  refine wp_ite (fun _ => ?_) (fun h9 => absurd (fun h8 => hab ((nI_eq (a := a) (b := b) (by omega) (by omega)).mp h8)) h9)
  refine wp_go (f' := (27, [.ref 28, .int (nI a), .int (nI b)], [.int (nI b), .int (nI a), .ref 28], MW A B F sw, 0, 0)) 3 rfl ?_
  refine wp_call rfl rfl rfl (ev_up (ev_isEdge hM a b (by omega) (by omega)) (by decide)) ?_
  refine wp_eq (f' := (30, [.ref 28, .int (nI a), .int (nI b)], [.int (bI ((nb a).testBit b))], MW A B F sw, 0, 0)) rfl ?_
  refine wp_go (f' := ((if (bI ((nb a).testBit b)) = 0 then 36 else 33), [.ref 28, .int (nI a), .int (nI b)], [], MW A B F sw, 0, 0)) 1 rfl ?_
  refine wp_ite (fun _ => ?_) (fun h9 => absurd (bI_f hx) h9)
  refine wp_go (f' := (40, [.ref 28, .int (nI a), .int (nI b)], [.int (F 7)], MW A B F sw, 0, 0)) 2 rfl ?_
  rw [hE]
  refine wp_go (f' := ((if ¬ (nI ed) = (nI 20) then 48 else 45), [.ref 28, .int (nI a), .int (nI b)], [], MW A B F sw, 0, 0)) 2 rfl ?_
  refine wp_ite (fun _ => ?_) (fun h9 => absurd (fun h8 => h20 ((nI_eq (a := ed) (b := 20) (by omega) (by omega)).mp h8)) h9)
  refine wp_go (f' := (54, [.ref 28, .int (nI a), .int (nI b)], [.int (nI a), .ref 29, .int (nI a), .ref 29], MW A B F sw, 0, 0)) 4 rfl ?_
  refine wp_iald rfl rfl (by omega) (by decide) ?_
  rw [hM.2.2.1 a (by omega)]
  have hnb := hM.2.2.2 a (by omega)
  refine wp_go (f' := (58, [.ref 28, .int (nI a), .int (nI b)], [.int ((nI 1) <<< ((nI b) &&& 31)), .int (nI (nb a)), .int (nI a), .ref 29], MW A B F sw, 0, 0)) 3 rfl ?_
  rw [bx_one (by omega)]
  have hb1 : 2 ^ b < 1024 := by first | omega | exact or_lt (by omega) (by omega) | exact and_lt (by omega) | exact and_lt_r (by omega) | exact sd_lt (by omega) | exact pow_lt (by omega)
  refine wp_go (f' := (59, [.ref 28, .int (nI a), .int (nI b)], [.int ((nI (nb a)) ||| (nI (2 ^ b))), .int (nI a), .ref 29], MW A B F sw, 0, 0)) 1 rfl ?_
  rw [bx_or]
  have hb2 : (nb a) ||| (2 ^ b) < 1024 := by first | omega | exact or_lt (by omega) (by omega) | exact and_lt (by omega) | exact and_lt_r (by omega) | exact sd_lt (by omega) | exact pow_lt (by omega)
  refine wp_iast rfl rfl (by omega) (by decide) ?_
  refine wp_eq (f' := (60, [.ref 28, .int (nI a), .int (nI b)], [], MW (upA A 29 (upd (A 29) a (nI ((nb a) ||| (2 ^ b))))) B F sw, 0, 0)) rfl ?_
  refine wp_go (f' := (66, [.ref 28, .int (nI a), .int (nI b)], [.int (nI b), .ref 29, .int (nI b), .ref 29], MW (upA A 29 (upd (A 29) a (nI ((nb a) ||| (2 ^ b))))) B F sw, 0, 0)) 4 rfl ?_
  refine wp_iald rfl rfl (by omega) (by decide) ?_
  refine wp_eq (f' := (67, [.ref 28, .int (nI a), .int (nI b)], [.int ((upd (A 29) a (nI ((nb a) ||| (2 ^ b)))) b), .int (nI b), .ref 29], MW (upA A 29 (upd (A 29) a (nI ((nb a) ||| (2 ^ b))))) B F sw, 0, 0)) rfl ?_
  rw [pk_un (fun h8 => hab h8.symm), hM.2.2.1 b (by omega)]
  refine wp_go (f' := (70, [.ref 28, .int (nI a), .int (nI b)], [.int ((nI 1) <<< ((nI a) &&& 31)), .int (nI (nb b)), .int (nI b), .ref 29], MW (upA A 29 (upd (A 29) a (nI ((nb a) ||| (2 ^ b))))) B F sw, 0, 0)) 3 rfl ?_
  rw [bx_one (by omega)]
  have hb3 : 2 ^ a < 1024 := by first | omega | exact or_lt (by omega) (by omega) | exact and_lt (by omega) | exact and_lt_r (by omega) | exact sd_lt (by omega) | exact pow_lt (by omega)
  refine wp_go (f' := (71, [.ref 28, .int (nI a), .int (nI b)], [.int ((nI (nb b)) ||| (nI (2 ^ a))), .int (nI b), .ref 29], MW (upA A 29 (upd (A 29) a (nI ((nb a) ||| (2 ^ b))))) B F sw, 0, 0)) 1 rfl ?_
  rw [bx_or]
  have hb4 : (nb b) ||| (2 ^ a) < 1024 := by first | omega | exact or_lt (by omega) (by omega) | exact and_lt (by omega) | exact and_lt_r (by omega) | exact sd_lt (by omega) | exact pow_lt (by omega)
  refine wp_iast rfl rfl (by omega) (by decide) ?_
  refine wp_eq (f' := (72, [.ref 28, .int (nI a), .int (nI b)], [], MW (upA A 29 (upd (upd (A 29) a (nI ((nb a) ||| (2 ^ b)))) b (nI ((nb b) ||| (2 ^ a))))) B F sw, 0, 0)) rfl ?_
  refine wp_go (f' := (77, [.ref 28, .int (nI a), .int (nI b)], [.int (F 7), .ref 28], MW (upA A 29 (upd (upd (A 29) a (nI ((nb a) ||| (2 ^ b)))) b (nI ((nb b) ||| (2 ^ a))))) B F sw, 0, 0)) 3 rfl ?_
  rw [hE]
  refine wp_go (f' := (79, [.ref 28, .int (nI a), .int (nI b)], [.int ((nI ed) + (nI 1)), .ref 28], MW (upA A 29 (upd (upd (A 29) a (nI ((nb a) ||| (2 ^ b)))) b (nI ((nb b) ||| (2 ^ a))))) B F sw, 0, 0)) 2 rfl ?_
  rw [nI_add]
  refine wp_go (f' := (86, [.ref 28, .int (nI a), .int (nI b)], [.int (nI (ed + 1))], MW (upA A 29 (upd (upd (A 29) a (nI ((nb a) ||| (2 ^ b)))) b (nI ((nb b) ||| (2 ^ a))))) B (upF F 7 (nI (ed + 1))) sw, 0, 0)) 3 rfl ?_
  exact wp_iret rfl
theorem ev_part_none (hM : MI A F n nb) {ed : Nat} (hE : F 7 = nI ed) (hed : ed ≤ 20) {a b : Nat} (ha : a < n) (hb : b < n) (hx : (nb a).testBit b = false) : mv_Ev xs Ls 3 89 [.ref 28, .int (nI a), .int (nI b)] (MW A B F sw) (some (.int (-1)), MW A B F sw, 0, 0) := by
  refine ev_of_wp rfl rfl rfl ?_
  have hn := hM.1
  have hna := hM.2.2.2 a (by omega)
  have hnb2 := hM.2.2.2 b (by omega)
  refine wp_go (f' := (2, [.ref 28, .int (nI a), .int (nI b)], [.int (nI a), .ref 28], MW A B F sw, 0, 0)) 2 rfl ?_
  refine wp_call rfl rfl rfl (ev_up (ev_isV_t hM (a := a) (by omega)) (by decide)) ?_
  refine wp_eq (f' := (5, [.ref 28, .int (nI a), .int (nI b)], [.int (nI 1)], MW A B F sw, 0, 0)) rfl ?_
  refine wp_go (f' := ((if (nI 1) = 0 then 16 else 8), [.ref 28, .int (nI a), .int (nI b)], [], MW A B F sw, 0, 0)) 1 rfl ?_
  refine wp_ite (fun h9 => absurd h9 (by decide : ¬ nI 1 = 0)) (fun _ => ?_)
  refine wp_go (f' := (10, [.ref 28, .int (nI a), .int (nI b)], [.int (nI b), .ref 28], MW A B F sw, 0, 0)) 2 rfl ?_
  refine wp_call rfl rfl rfl (ev_up (ev_isV_t hM (a := b) (by omega)) (by decide)) ?_
  refine wp_eq (f' := (13, [.ref 28, .int (nI a), .int (nI b)], [.int (nI 1)], MW A B F sw, 0, 0)) rfl ?_
  refine wp_go (f' := ((if ¬ (nI 1) = 0 then 19 else 16), [.ref 28, .int (nI a), .int (nI b)], [], MW A B F sw, 0, 0)) 1 rfl ?_
  refine wp_ite (fun _ => ?_) (fun h9 => absurd (by decide : ¬ nI 1 = 0) h9)
  refine wp_go (f' := (22, [.ref 28, .int (nI a), .int (nI b)], [.int (nI b), .int (nI a), .ref 28], MW A B F sw, 0, 0)) 3 rfl ?_
  refine wp_call rfl rfl rfl (ev_up (ev_isEdge hM a b (by omega) (by omega)) (by decide)) ?_
  refine wp_eq (f' := (25, [.ref 28, .int (nI a), .int (nI b)], [.int (bI ((nb a).testBit b))], MW A B F sw, 0, 0)) rfl ?_
  refine wp_go (f' := ((if ¬ (bI ((nb a).testBit b)) = 0 then 30 else 28), [.ref 28, .int (nI a), .int (nI b)], [], MW A B F sw, 0, 0)) 1 rfl ?_
  refine wp_ite (fun h9 => absurd h9 (fun h8 => h8 (bI_f hx))) (fun _ => ?_)
  refine wp_go (f' := (29, [.ref 28, .int (nI a), .int (nI b)], [.int (-1)], MW A B F sw, 0, 0)) 1 rfl ?_
  exact wp_iret rfl
theorem ev_part_ok (hM : MI A F n nb) {ed : Nat} (hE : F 7 = nI ed) (hed : ed ≤ 20) {a b : Nat} (ha : a < n) (hb : b < n) (hab : a ≠ b) (h0 : 1 ≤ ed) (hx : (nb a).testBit b = true) : mv_Ev xs Ls 3 89 [.ref 28, .int (nI a), .int (nI b)] (MW A B F sw) (some (.int (nI (ed - 1))), MW (upA A 29 (upd (upd (A 29) a (nI (sd (nb a) (2 ^ b)))) b (nI (sd (nb b) (2 ^ a))))) B (upF F 7 (nI (ed - 1))) sw, 0, 0) := by
  refine ev_of_wp rfl rfl rfl ?_
  have hn := hM.1
  have hna := hM.2.2.2 a (by omega)
  have hnb2 := hM.2.2.2 b (by omega)
  refine wp_go (f' := (2, [.ref 28, .int (nI a), .int (nI b)], [.int (nI a), .ref 28], MW A B F sw, 0, 0)) 2 rfl ?_
  refine wp_call rfl rfl rfl (ev_up (ev_isV_t hM (a := a) (by omega)) (by decide)) ?_
  refine wp_eq (f' := (5, [.ref 28, .int (nI a), .int (nI b)], [.int (nI 1)], MW A B F sw, 0, 0)) rfl ?_
  refine wp_go (f' := ((if (nI 1) = 0 then 16 else 8), [.ref 28, .int (nI a), .int (nI b)], [], MW A B F sw, 0, 0)) 1 rfl ?_
  refine wp_ite (fun h9 => absurd h9 (by decide : ¬ nI 1 = 0)) (fun _ => ?_)
  refine wp_go (f' := (10, [.ref 28, .int (nI a), .int (nI b)], [.int (nI b), .ref 28], MW A B F sw, 0, 0)) 2 rfl ?_
  refine wp_call rfl rfl rfl (ev_up (ev_isV_t hM (a := b) (by omega)) (by decide)) ?_
  refine wp_eq (f' := (13, [.ref 28, .int (nI a), .int (nI b)], [.int (nI 1)], MW A B F sw, 0, 0)) rfl ?_
  refine wp_go (f' := ((if ¬ (nI 1) = 0 then 19 else 16), [.ref 28, .int (nI a), .int (nI b)], [], MW A B F sw, 0, 0)) 1 rfl ?_
  refine wp_ite (fun _ => ?_) (fun h9 => absurd (by decide : ¬ nI 1 = 0) h9)
  refine wp_go (f' := (22, [.ref 28, .int (nI a), .int (nI b)], [.int (nI b), .int (nI a), .ref 28], MW A B F sw, 0, 0)) 3 rfl ?_
  refine wp_call rfl rfl rfl (ev_up (ev_isEdge hM a b (by omega) (by omega)) (by decide)) ?_
  refine wp_eq (f' := (25, [.ref 28, .int (nI a), .int (nI b)], [.int (bI ((nb a).testBit b))], MW A B F sw, 0, 0)) rfl ?_
  refine wp_go (f' := ((if ¬ (bI ((nb a).testBit b)) = 0 then 30 else 28), [.ref 28, .int (nI a), .int (nI b)], [], MW A B F sw, 0, 0)) 1 rfl ?_
  refine wp_ite (fun _ => ?_) (fun h9 => absurd (by rw [bI_t hx]; decide) h9)
  refine wp_go (f' := (36, [.ref 28, .int (nI a), .int (nI b)], [.int (nI a), .ref 29, .int (nI a), .ref 29], MW A B F sw, 0, 0)) 4 rfl ?_
  refine wp_iald rfl rfl (by omega) (by decide) ?_
  rw [hM.2.2.1 a (by omega)]
  have hnb := hM.2.2.2 a (by omega)
  refine wp_go (f' := (40, [.ref 28, .int (nI a), .int (nI b)], [.int ((nI 1) <<< ((nI b) &&& 31)), .int (nI (nb a)), .int (nI a), .ref 29], MW A B F sw, 0, 0)) 3 rfl ?_
  rw [bx_one (by omega)]
  have hb1 : 2 ^ b < 1024 := by first | omega | exact or_lt (by omega) (by omega) | exact and_lt (by omega) | exact and_lt_r (by omega) | exact sd_lt (by omega) | exact pow_lt (by omega)
  refine wp_go (f' := (43, [.ref 28, .int (nI a), .int (nI b)], [.int ((nI (nb a)) &&& ((nI (2 ^ b)) ^^^ (-1))), .int (nI a), .ref 29], MW A B F sw, 0, 0)) 3 rfl ?_
  rw [bx_sd (by omega)]
  have hb2 : sd (nb a) (2 ^ b) < 1024 := by first | omega | exact or_lt (by omega) (by omega) | exact and_lt (by omega) | exact and_lt_r (by omega) | exact sd_lt (by omega) | exact pow_lt (by omega)
  refine wp_iast rfl rfl (by omega) (by decide) ?_
  refine wp_eq (f' := (44, [.ref 28, .int (nI a), .int (nI b)], [], MW (upA A 29 (upd (A 29) a (nI (sd (nb a) (2 ^ b))))) B F sw, 0, 0)) rfl ?_
  refine wp_go (f' := (50, [.ref 28, .int (nI a), .int (nI b)], [.int (nI b), .ref 29, .int (nI b), .ref 29], MW (upA A 29 (upd (A 29) a (nI (sd (nb a) (2 ^ b))))) B F sw, 0, 0)) 4 rfl ?_
  refine wp_iald rfl rfl (by omega) (by decide) ?_
  refine wp_eq (f' := (51, [.ref 28, .int (nI a), .int (nI b)], [.int ((upd (A 29) a (nI (sd (nb a) (2 ^ b)))) b), .int (nI b), .ref 29], MW (upA A 29 (upd (A 29) a (nI (sd (nb a) (2 ^ b))))) B F sw, 0, 0)) rfl ?_
  rw [pk_un (fun h8 => hab h8.symm), hM.2.2.1 b (by omega)]
  refine wp_go (f' := (54, [.ref 28, .int (nI a), .int (nI b)], [.int ((nI 1) <<< ((nI a) &&& 31)), .int (nI (nb b)), .int (nI b), .ref 29], MW (upA A 29 (upd (A 29) a (nI (sd (nb a) (2 ^ b))))) B F sw, 0, 0)) 3 rfl ?_
  rw [bx_one (by omega)]
  have hb3 : 2 ^ a < 1024 := by first | omega | exact or_lt (by omega) (by omega) | exact and_lt (by omega) | exact and_lt_r (by omega) | exact sd_lt (by omega) | exact pow_lt (by omega)
  refine wp_go (f' := (57, [.ref 28, .int (nI a), .int (nI b)], [.int ((nI (nb b)) &&& ((nI (2 ^ a)) ^^^ (-1))), .int (nI b), .ref 29], MW (upA A 29 (upd (A 29) a (nI (sd (nb a) (2 ^ b))))) B F sw, 0, 0)) 3 rfl ?_
  rw [bx_sd (by omega)]
  have hb4 : sd (nb b) (2 ^ a) < 1024 := by first | omega | exact or_lt (by omega) (by omega) | exact and_lt (by omega) | exact and_lt_r (by omega) | exact sd_lt (by omega) | exact pow_lt (by omega)
  refine wp_iast rfl rfl (by omega) (by decide) ?_
  refine wp_eq (f' := (58, [.ref 28, .int (nI a), .int (nI b)], [], MW (upA A 29 (upd (upd (A 29) a (nI (sd (nb a) (2 ^ b)))) b (nI (sd (nb b) (2 ^ a))))) B F sw, 0, 0)) rfl ?_
  refine wp_go (f' := (63, [.ref 28, .int (nI a), .int (nI b)], [.int (F 7), .ref 28], MW (upA A 29 (upd (upd (A 29) a (nI (sd (nb a) (2 ^ b)))) b (nI (sd (nb b) (2 ^ a))))) B F sw, 0, 0)) 3 rfl ?_
  rw [hE]
  refine wp_go (f' := (65, [.ref 28, .int (nI a), .int (nI b)], [.int ((nI ed) - (nI 1)), .ref 28], MW (upA A 29 (upd (upd (A 29) a (nI (sd (nb a) (2 ^ b)))) b (nI (sd (nb b) (2 ^ a))))) B F sw, 0, 0)) 2 rfl ?_
  rw [pk_sub (by omega)]
  refine wp_go (f' := (72, [.ref 28, .int (nI a), .int (nI b)], [.int (nI (ed - 1))], MW (upA A 29 (upd (upd (A 29) a (nI (sd (nb a) (2 ^ b)))) b (nI (sd (nb b) (2 ^ a))))) B (upF F 7 (nI (ed - 1))) sw, 0, 0)) 3 rfl ?_
  exact wp_iret rfl
theorem ev_weigh_f1 (hM : MI A F n nb) {v x : Int32} (hv : isV v n = false) : mv_Ev xs Ls 3 90 [.ref 28, .int v, .int x] (MW A B F sw) (some (.int (-2)), MW A B F sw, 0, 0) := by
  refine ev_of_wp rfl rfl rfl ?_
  have hn := hM.1
  refine wp_go (f' := (2, [.ref 28, .int v, .int x, .retAddr 0], [.int v, .ref 28], MW A B F sw, 0, 0)) 2 rfl ?_
  refine wp_call rfl rfl rfl (ev_up (ev_isV_f hM hv) (by decide)) ?_
  refine wp_eq (f' := (5, [.ref 28, .int v, .int x, .retAddr 0], [.int (nI 0)], MW A B F sw, 0, 0)) rfl ?_
  refine wp_go (f' := ((if (nI 0) = 0 then 19 else 8), [.ref 28, .int v, .int x, .retAddr 0], [], MW A B F sw, 0, 0)) 1 rfl ?_
  refine wp_ite (fun _ => ?_) (fun h9 => absurd (rfl : nI 0 = 0) h9)
  refine wp_go (f' := (21, [.ref 28, .int v, .int x, .retAddr 0], [.int (-2)], MW A B F sw, 0, 0)) 1 rfl ?_
  exact wp_iret rfl
theorem ev_weigh_f2 (hM : MI A F n nb) {a : Nat} {x : Int32} (ha : a < n) (hx : (decide (nI 0 ≤ x) && decide (x ≤ nI 1000)) = false) : mv_Ev xs Ls 3 90 [.ref 28, .int (nI a), .int x] (MW A B F sw) (some (.int (-2)), MW A B F sw, 0, 0) := by
  refine ev_of_wp rfl rfl rfl ?_
  have hn := hM.1
  refine wp_go (f' := (2, [.ref 28, .int (nI a), .int x, .retAddr 0], [.int (nI a), .ref 28], MW A B F sw, 0, 0)) 2 rfl ?_
  refine wp_call rfl rfl rfl (ev_up (ev_isV_t hM (a := a) (by omega)) (by decide)) ?_
  refine wp_eq (f' := (5, [.ref 28, .int (nI a), .int x, .retAddr 0], [.int (nI 1)], MW A B F sw, 0, 0)) rfl ?_
  refine wp_go (f' := ((if (nI 1) = 0 then 19 else 8), [.ref 28, .int (nI a), .int x, .retAddr 0], [], MW A B F sw, 0, 0)) 1 rfl ?_
  refine wp_ite (fun h9 => absurd h9 (by decide : ¬ nI 1 = 0)) (fun _ => ?_)
  refine wp_go (f' := (13, [.ref 28, .int (nI a), .int x, .retAddr 0], [.int (nI 1000), .int (nI 0), .int x], MW A B F sw, 0, 0)) 3 rfl ?_
  refine wp_call rfl rfl rfl (ev_up (ev_isIn x (nI 0) (nI 1000) _) (by decide)) ?_
  refine wp_eq (f' := (16, [.ref 28, .int (nI a), .int x, .retAddr 0], [.int (bI (decide (nI 0 ≤ x) && decide (x ≤ nI 1000)))], MW A B F sw, 0, 0)) rfl ?_
  refine wp_go (f' := ((if ¬ (bI (decide (nI 0 ≤ x) && decide (x ≤ nI 1000))) = 0 then 22 else 19), [.ref 28, .int (nI a), .int x, .retAddr 0], [], MW A B F sw, 0, 0)) 1 rfl ?_
  refine wp_ite (fun h9 => absurd h9 (fun h8 => h8 (bI_f hx))) (fun _ => ?_)
  refine wp_go (f' := (21, [.ref 28, .int (nI a), .int x, .retAddr 0], [.int (-2)], MW A B F sw, 0, 0)) 1 rfl ?_
  exact wp_iret rfl
theorem ev_weigh_ok (hM : MI A F n nb) {wt : Nat → Nat} (hw : MWt A wt) {a : Nat} {x : Int32} (ha : a < n) (hx : (decide (nI 0 ≤ x) && decide (x ≤ nI 1000)) = true) : mv_Ev xs Ls 3 90 [.ref 28, .int (nI a), .int x] (MW A B F sw) (some (.int (nI (wt a))), MW (upA A 30 (upd (A 30) a x)) B F sw, 0, 0) := by
  refine ev_of_wp rfl rfl rfl ?_
  have hn := hM.1
  refine wp_go (f' := (2, [.ref 28, .int (nI a), .int x, .retAddr 0], [.int (nI a), .ref 28], MW A B F sw, 0, 0)) 2 rfl ?_
  refine wp_call rfl rfl rfl (ev_up (ev_isV_t hM (a := a) (by omega)) (by decide)) ?_
  refine wp_eq (f' := (5, [.ref 28, .int (nI a), .int x, .retAddr 0], [.int (nI 1)], MW A B F sw, 0, 0)) rfl ?_
  refine wp_go (f' := ((if (nI 1) = 0 then 19 else 8), [.ref 28, .int (nI a), .int x, .retAddr 0], [], MW A B F sw, 0, 0)) 1 rfl ?_
  refine wp_ite (fun h9 => absurd h9 (by decide : ¬ nI 1 = 0)) (fun _ => ?_)
  refine wp_go (f' := (13, [.ref 28, .int (nI a), .int x, .retAddr 0], [.int (nI 1000), .int (nI 0), .int x], MW A B F sw, 0, 0)) 3 rfl ?_
  refine wp_call rfl rfl rfl (ev_up (ev_isIn x (nI 0) (nI 1000) _) (by decide)) ?_
  refine wp_eq (f' := (16, [.ref 28, .int (nI a), .int x, .retAddr 0], [.int (bI (decide (nI 0 ≤ x) && decide (x ≤ nI 1000)))], MW A B F sw, 0, 0)) rfl ?_
  refine wp_go (f' := ((if ¬ (bI (decide (nI 0 ≤ x) && decide (x ≤ nI 1000))) = 0 then 22 else 19), [.ref 28, .int (nI a), .int x, .retAddr 0], [], MW A B F sw, 0, 0)) 1 rfl ?_
  refine wp_ite (fun _ => ?_) (fun h9 => absurd (by rw [bI_t hx]; decide) h9)
  refine wp_go (f' := (27, [.ref 28, .int (nI a), .int x, .retAddr 0], [.int (nI a), .ref 30], MW A B F sw, 0, 0)) 3 rfl ?_
  refine wp_iald rfl rfl (by omega) (by decide) ?_
  rw [(hw a (by omega)).1]
  refine wp_go (f' := (35, [.ref 28, .int (nI a), .int x, .int (nI (wt a))], [.int x, .int (nI a), .ref 30], MW A B F sw, 0, 0)) 5 rfl ?_
  refine wp_iast rfl rfl (by omega) (by decide) ?_
  refine wp_eq (f' := (36, [.ref 28, .int (nI a), .int x, .int (nI (wt a))], [], MW (upA A 30 (upd (A 30) a x)) B F sw, 0, 0)) rfl ?_
  refine wp_go (f' := (37, [.ref 28, .int (nI a), .int x, .int (nI (wt a))], [.int (nI (wt a))], MW (upA A 30 (upd (A 30) a x)) B F sw, 0, 0)) 1 rfl ?_
  exact wp_iret rfl
theorem ev_begin_f {v : Int32} (hv : (decide (nI 0 ≤ v) && decide (v ≤ nI 10)) = false) : mv_Ev xs Ls 2 84 [.ref 28, .int v] (MW A B F sw) (some (.int (-2)), MW A B F sw, 0, 0) := by
  refine ev_of_wp rfl rfl rfl ?_
  refine wp_go (f' := (4, [.ref 28, .int v, .retAddr 0, .retAddr 0], [.int (nI 10), .int (nI 0), .int v], MW A B F sw, 0, 0)) 3 rfl ?_
  refine wp_call rfl rfl rfl (ev_up (ev_isIn v (nI 0) (nI 10) _) (by decide)) ?_
  refine wp_eq (f' := (7, [.ref 28, .int v, .retAddr 0, .retAddr 0], [.int (bI (decide (nI 0 ≤ v) && decide (v ≤ nI 10)))], MW A B F sw, 0, 0)) rfl ?_
  refine wp_go (f' := ((if ¬ (bI (decide (nI 0 ≤ v) && decide (v ≤ nI 10))) = 0 then 13 else 10), [.ref 28, .int v, .retAddr 0, .retAddr 0], [], MW A B F sw, 0, 0)) 1 rfl ?_
  refine wp_ite (fun h9 => absurd h9 (fun h8 => h8 (bI_f hv))) (fun _ => ?_)
  refine wp_go (f' := (12, [.ref 28, .int v, .retAddr 0, .retAddr 0], [.int (-2)], MW A B F sw, 0, 0)) 1 rfl ?_
  exact wp_iret rfl
/-- ten empty rows, ten weights 1 -/
def cleared (A : Nat → Nat → Int32) (x y : Nat) : (Nat → Int32) × (Nat → Int32) := forN (fun k q => (upd q.1 k (nI 0), upd q.2 k (nI 1))) 10 (A x, A y)
theorem ev_begin_ok {v : Int32} (hv : (decide (nI 0 ≤ v) && decide (v ≤ nI 10)) = true) : mv_Ev xs Ls 2 84 [.ref 28, .int v] (MW A B F sw) (some (.int (F 6)), MW (upA (upA A 29 (cleared A 29 30).1) 30 (cleared A 29 30).2) B (upF (upF F 6 v) 7 (nI 0)) sw, 0, 0) := by
  refine ev_of_wp rfl rfl rfl ?_
  refine wp_go (f' := (4, [.ref 28, .int v, .retAddr 0, .retAddr 0], [.int (nI 10), .int (nI 0), .int v], MW A B F sw, 0, 0)) 3 rfl ?_
  refine wp_call rfl rfl rfl (ev_up (ev_isIn v (nI 0) (nI 10) _) (by decide)) ?_
  refine wp_eq (f' := (7, [.ref 28, .int v, .retAddr 0, .retAddr 0], [.int (bI (decide (nI 0 ≤ v) && decide (v ≤ nI 10)))], MW A B F sw, 0, 0)) rfl ?_
  refine wp_go (f' := ((if ¬ (bI (decide (nI 0 ≤ v) && decide (v ≤ nI 10))) = 0 then 13 else 10), [.ref 28, .int v, .retAddr 0, .retAddr 0], [], MW A B F sw, 0, 0)) 1 rfl ?_
  refine wp_ite (fun _ => ?_) (fun h9 => absurd (by rw [bI_t hv]; decide) h9)
  refine wp_go (f' := (30, [.ref 28, .int v, .int (F 6), .int (nI 0)], [], MW A B (upF (upF F 6 v) 7 (nI 0)) sw, 0, 0)) 11 rfl ?_
  refine wp_eq (f' := (30, [.ref 28, .int v, .int (F 6), .int (nI 0)], [], MW (upA (upA A 29 (A 29)) 30 (A 30)) B (upF (upF F 6 v) 7 (nI 0)) sw, 0, 0)) rfl ?_
  refine for_ind (P := fun (k : Nat) (q : (Nat → Int32) × (Nat → Int32)) => mv_Wp xs Ls 1 6 false (some .int) mv_c84 (30, [.ref 28, .int v, .int (F 6), .int (nI k)], [], MW (upA (upA A 29 q.1) 30 q.2) B (upF (upF F 6 v) 7 (nI 0)) sw, 0, 0) (some (.int (F 6)), MW (upA (upA A 29 (cleared A 29 30).1) 30 (cleared A 29 30).2) B (upF (upF F 6 v) 7 (nI 0)) sw, 0, 0)) (f := fun k q => (upd q.1 k (nI 0), upd q.2 k (nI 1))) (n := 10) ?_ 10 (A 29, A 30) (Nat.le_refl _) ?_
  · intro k q hk ih
    refine wp_go (f' := ((if (nI 10) ≤ (nI k) then 56 else 36), [.ref 28, .int v, .int (F 6), .int (nI k)], [], MW (upA (upA A 29 q.1) 30 q.2) B (upF (upF F 6 v) 7 (nI 0)) sw, 0, 0)) 3 rfl ?_
    refine wp_ite (fun h9 => absurd h9 (nI_ge hk (by omega))) (fun _ => ?_)
    refine wp_go (f' := (42, [.ref 28, .int v, .int (F 6), .int (nI k)], [.int (nI 0), .int (nI k), .ref 29], MW (upA (upA A 29 q.1) 30 q.2) B (upF (upF F 6 v) 7 (nI 0)) sw, 0, 0)) 4 rfl ?_
    refine wp_iast rfl rfl (by omega) (by decide) ?_
    refine wp_eq (f' := (43, [.ref 28, .int v, .int (F 6), .int (nI k)], [], MW (upA (upA A 30 q.2) 29 (upd q.1 k (nI 0))) B (upF (upF F 6 v) 7 (nI 0)) sw, 0, 0)) rfl ?_
    refine wp_go (f' := (49, [.ref 28, .int v, .int (F 6), .int (nI k)], [.int (nI 1), .int (nI k), .ref 30], MW (upA (upA A 30 q.2) 29 (upd q.1 k (nI 0))) B (upF (upF F 6 v) 7 (nI 0)) sw, 0, 0)) 4 rfl ?_
    refine wp_iast rfl rfl (by omega) (by decide) ?_
    refine wp_eq (f' := (50, [.ref 28, .int v, .int (F 6), .int (nI k)], [], MW (upA (upA A 29 (upd q.1 k (nI 0))) 30 (upd q.2 k (nI 1))) B (upF (upF F 6 v) 7 (nI 0)) sw, 0, 0)) rfl ?_
    refine wp_go (f' := (53, [.ref 28, .int v, .int (F 6), .int ((nI k) + 1)], [], MW (upA (upA A 29 (upd q.1 k (nI 0))) 30 (upd q.2 k (nI 1))) B (upF (upF F 6 v) 7 (nI 0)) sw, 0, 0)) 1 rfl ?_
    rw [nI_1]
    refine wp_go (f' := (30, [.ref 28, .int v, .int (F 6), .int (nI (k + 1))], [], MW (upA (upA A 29 (upd q.1 k (nI 0))) 30 (upd q.2 k (nI 1))) B (upF (upF F 6 v) 7 (nI 0)) sw, 0, 0)) 1 rfl ?_
    exact ih
  · skip
    refine wp_go (f' := ((if (nI 10) ≤ (nI 10) then 56 else 36), [.ref 28, .int v, .int (F 6), .int (nI 10)], [], MW (upA (upA A 29 (cleared A 29 30).1) 30 (cleared A 29 30).2) B (upF (upF F 6 v) 7 (nI 0)) sw, 0, 0)) 3 rfl ?_
    refine wp_ite (fun _ => ?_) (fun h9 => absurd (nI_le (Nat.le_refl _) (by omega)) h9)
    refine wp_go (f' := (57, [.ref 28, .int v, .int (F 6), .int (nI 10)], [.int (F 6)], MW (upA (upA A 29 (cleared A 29 30).1) 30 (cleared A 29 30).2) B (upF (upF F 6 v) 7 (nI 0)) sw, 0, 0)) 1 rfl ?_
    exact wp_iret rfl
/-- set k, by rising numbers from s on, of those that p names (NONE: -1) -/
def pickN (p : Nat → Bool) (k : Int32) : Nat → Nat → Nat → Int32
  | 0, _, _ => -1
  | f + 1, s, m => if p s then (if nI m = k then nI s else pickN p k f (s + 1) (m + 1)) else pickN p k f (s + 1) m
theorem pow10 {n : Nat} (hn : n ≤ 10) : 2 ^ n ≤ 1024 := Nat.pow_le_pow_right (n := 2) (by omega) hn
theorem lp_M_separator (hM : MI A F n nb) {k : Int32} (hk : ¬ k < 0) : ∀ (f s m : Nat), s + f = 2 ^ n → m ≤ s → mv_Wp xs Ls 3 6 false (some .int) mv_c101 (4, [.ref 28, .int k, .int (nI m), .int (nI s)], [], MW A B F sw, 0, 0) (some (.int (pickN (sepN n nb) k f s m)), MW A B F sw, 0, 0) := by
  have hn := hM.1
  have hp := pow10 hn
  have hp1 : 1 ≤ 2 ^ n := Nat.one_le_two_pow
  intro f
  induction f with
  | zero =>
    intro s m hs hms
    refine wp_go (f' := (6, [.ref 28, .int k, .int (nI m), .int (nI s)], [.ref 28, .int (nI s)], MW A B F sw, 0, 0)) 2 rfl ?_
    refine wp_call rfl rfl rfl (ev_up (ev_all hM) (by decide)) ?_
    refine wp_eq (f' := (9, [.ref 28, .int k, .int (nI m), .int (nI s)], [.int (nI (2 ^ n - 1)), .int (nI s)], MW A B F sw, 0, 0)) rfl ?_
    refine wp_go (f' := ((if (nI (2 ^ n - 1)) < (nI s) then 40 else 12), [.ref 28, .int k, .int (nI m), .int (nI s)], [], MW A B F sw, 0, 0)) 1 rfl ?_
    refine wp_ite (fun _ => ?_) (fun h9 => absurd (nI_lt (by omega) (by omega)) h9)
    refine wp_go (f' := (41, [.ref 28, .int k, .int (nI m), .int (nI s)], [.int (-1)], MW A B F sw, 0, 0)) 1 rfl ?_
    exact wp_iret rfl
  | succ f ih =>
    intro s m hs hms
    refine wp_go (f' := (6, [.ref 28, .int k, .int (nI m), .int (nI s)], [.ref 28, .int (nI s)], MW A B F sw, 0, 0)) 2 rfl ?_
    refine wp_call rfl rfl rfl (ev_up (ev_all hM) (by decide)) ?_
    refine wp_eq (f' := (9, [.ref 28, .int k, .int (nI m), .int (nI s)], [.int (nI (2 ^ n - 1)), .int (nI s)], MW A B F sw, 0, 0)) rfl ?_
    refine wp_go (f' := ((if (nI (2 ^ n - 1)) < (nI s) then 40 else 12), [.ref 28, .int k, .int (nI m), .int (nI s)], [], MW A B F sw, 0, 0)) 1 rfl ?_
    refine wp_ite (fun h9 => absurd h9 (nI_nlt (by omega) (by omega))) (fun _ => ?_)
    refine wp_go (f' := ((if k < 0 then 40 else 16), [.ref 28, .int k, .int (nI m), .int (nI s)], [], MW A B F sw, 0, 0)) 2 rfl ?_
    refine wp_ite (fun h9 => absurd h9 hk) (fun _ => ?_)
    refine wp_go (f' := (18, [.ref 28, .int k, .int (nI m), .int (nI s)], [.int (nI s), .ref 28], MW A B F sw, 0, 0)) 2 rfl ?_
    refine wp_call rfl rfl rfl (ev_up (ev_isSeparator hM (s := s) (by omega)) (by decide)) ?_
    refine wp_eq (f' := (21, [.ref 28, .int k, .int (nI m), .int (nI s)], [.int (bI (sepN n nb s))], MW A B F sw, 0, 0)) rfl ?_
    refine wp_go (f' := ((if (bI (sepN n nb s)) = 0 then 34 else 24), [.ref 28, .int k, .int (nI m), .int (nI s)], [], MW A B F sw, 0, 0)) 1 rfl ?_
    refine wp_ite (fun h1 => ?_) (fun h1 => ?_)
    · have h1 := bI_0.mp h1
      refine wp_go (f' := (37, [.ref 28, .int k, .int (nI m), .int ((nI s) + 1)], [], MW A B F sw, 0, 0)) 1 rfl ?_
      rw [nI_1]
      refine wp_go (f' := (4, [.ref 28, .int k, .int (nI m), .int (nI (s + 1))], [], MW A B F sw, 0, 0)) 1 rfl ?_
      simp only [pickN, h1, if_true, if_false, Bool.false_eq_true, reduceIte]
      exact ih (s + 1) m (by omega) (by omega)
    · have h1 := bI_n0 h1
      refine wp_go (f' := ((if ¬ (nI m) = k then 31 else 29), [.ref 28, .int k, .int (nI m), .int (nI s)], [], MW A B F sw, 0, 0)) 3 rfl ?_
      refine wp_ite (fun h2 => ?_) (fun h2 => ?_)
      · skip
        refine wp_go (f' := (34, [.ref 28, .int k, .int ((nI m) + 1), .int (nI s)], [], MW A B F sw, 0, 0)) 1 rfl ?_
        rw [nI_1]
        refine wp_go (f' := (37, [.ref 28, .int k, .int (nI (m + 1)), .int ((nI s) + 1)], [], MW A B F sw, 0, 0)) 1 rfl ?_
        rw [nI_1]
        refine wp_go (f' := (4, [.ref 28, .int k, .int (nI (m + 1)), .int (nI (s + 1))], [], MW A B F sw, 0, 0)) 1 rfl ?_
        simp only [pickN, h1, if_true, if_false, Bool.false_eq_true, reduceIte, if_neg h2]
        exact ih (s + 1) (m + 1) (by omega) (by omega)
      · have h2 := Classical.not_not.mp h2
        refine wp_go (f' := (30, [.ref 28, .int k, .int (nI m), .int (nI s)], [.int (nI s)], MW A B F sw, 0, 0)) 1 rfl ?_
        simp only [pickN, h1, if_true, reduceIte, if_pos h2]
        exact wp_iret rfl
theorem lp_M_clique (hM : MI A F n nb) {k : Int32} (hk : ¬ k < 0) : ∀ (f s m : Nat), s + f = 2 ^ n → m ≤ s → mv_Wp xs Ls 2 6 false (some .int) mv_c104 (4, [.ref 28, .int k, .int (nI m), .int (nI s)], [], MW A B F sw, 0, 0) (some (.int (pickN (cliqueN n nb) k f s m)), MW A B F sw, 0, 0) := by
  have hn := hM.1
  have hp := pow10 hn
  have hp1 : 1 ≤ 2 ^ n := Nat.one_le_two_pow
  intro f
  induction f with
  | zero =>
    intro s m hs hms
    refine wp_go (f' := (6, [.ref 28, .int k, .int (nI m), .int (nI s)], [.ref 28, .int (nI s)], MW A B F sw, 0, 0)) 2 rfl ?_
    refine wp_call rfl rfl rfl (ev_up (ev_all hM) (by decide)) ?_
    refine wp_eq (f' := (9, [.ref 28, .int k, .int (nI m), .int (nI s)], [.int (nI (2 ^ n - 1)), .int (nI s)], MW A B F sw, 0, 0)) rfl ?_
    refine wp_go (f' := ((if (nI (2 ^ n - 1)) < (nI s) then 40 else 12), [.ref 28, .int k, .int (nI m), .int (nI s)], [], MW A B F sw, 0, 0)) 1 rfl ?_
    refine wp_ite (fun _ => ?_) (fun h9 => absurd (nI_lt (by omega) (by omega)) h9)
    refine wp_go (f' := (41, [.ref 28, .int k, .int (nI m), .int (nI s)], [.int (-1)], MW A B F sw, 0, 0)) 1 rfl ?_
    exact wp_iret rfl
  | succ f ih =>
    intro s m hs hms
    refine wp_go (f' := (6, [.ref 28, .int k, .int (nI m), .int (nI s)], [.ref 28, .int (nI s)], MW A B F sw, 0, 0)) 2 rfl ?_
    refine wp_call rfl rfl rfl (ev_up (ev_all hM) (by decide)) ?_
    refine wp_eq (f' := (9, [.ref 28, .int k, .int (nI m), .int (nI s)], [.int (nI (2 ^ n - 1)), .int (nI s)], MW A B F sw, 0, 0)) rfl ?_
    refine wp_go (f' := ((if (nI (2 ^ n - 1)) < (nI s) then 40 else 12), [.ref 28, .int k, .int (nI m), .int (nI s)], [], MW A B F sw, 0, 0)) 1 rfl ?_
    refine wp_ite (fun h9 => absurd h9 (nI_nlt (by omega) (by omega))) (fun _ => ?_)
    refine wp_go (f' := ((if k < 0 then 40 else 16), [.ref 28, .int k, .int (nI m), .int (nI s)], [], MW A B F sw, 0, 0)) 2 rfl ?_
    refine wp_ite (fun h9 => absurd h9 hk) (fun _ => ?_)
    refine wp_go (f' := (18, [.ref 28, .int k, .int (nI m), .int (nI s)], [.int (nI s), .ref 28], MW A B F sw, 0, 0)) 2 rfl ?_
    refine wp_call rfl rfl rfl (ev_up (ev_isClique hM (s := s) (by omega)) (by decide)) ?_
    refine wp_eq (f' := (21, [.ref 28, .int k, .int (nI m), .int (nI s)], [.int (bI (cliqueN n nb s))], MW A B F sw, 0, 0)) rfl ?_
    refine wp_go (f' := ((if (bI (cliqueN n nb s)) = 0 then 34 else 24), [.ref 28, .int k, .int (nI m), .int (nI s)], [], MW A B F sw, 0, 0)) 1 rfl ?_
    refine wp_ite (fun h1 => ?_) (fun h1 => ?_)
    · have h1 := bI_0.mp h1
      refine wp_go (f' := (37, [.ref 28, .int k, .int (nI m), .int ((nI s) + 1)], [], MW A B F sw, 0, 0)) 1 rfl ?_
      rw [nI_1]
      refine wp_go (f' := (4, [.ref 28, .int k, .int (nI m), .int (nI (s + 1))], [], MW A B F sw, 0, 0)) 1 rfl ?_
      simp only [pickN, h1, if_true, if_false, Bool.false_eq_true, reduceIte]
      exact ih (s + 1) m (by omega) (by omega)
    · have h1 := bI_n0 h1
      refine wp_go (f' := ((if ¬ (nI m) = k then 31 else 29), [.ref 28, .int k, .int (nI m), .int (nI s)], [], MW A B F sw, 0, 0)) 3 rfl ?_
      refine wp_ite (fun h2 => ?_) (fun h2 => ?_)
      · skip
        refine wp_go (f' := (34, [.ref 28, .int k, .int ((nI m) + 1), .int (nI s)], [], MW A B F sw, 0, 0)) 1 rfl ?_
        rw [nI_1]
        refine wp_go (f' := (37, [.ref 28, .int k, .int (nI (m + 1)), .int ((nI s) + 1)], [], MW A B F sw, 0, 0)) 1 rfl ?_
        rw [nI_1]
        refine wp_go (f' := (4, [.ref 28, .int k, .int (nI (m + 1)), .int (nI (s + 1))], [], MW A B F sw, 0, 0)) 1 rfl ?_
        simp only [pickN, h1, if_true, if_false, Bool.false_eq_true, reduceIte, if_neg h2]
        exact ih (s + 1) (m + 1) (by omega) (by omega)
      · have h2 := Classical.not_not.mp h2
        refine wp_go (f' := (30, [.ref 28, .int k, .int (nI m), .int (nI s)], [.int (nI s)], MW A B F sw, 0, 0)) 1 rfl ?_
        simp only [pickN, h1, if_true, reduceIte, if_pos h2]
        exact wp_iret rfl
end MM
end
section
theorem wp_tsOut {xs : Nat → Int32} {Ls d cls : Nat} {ini : Bool} {ret : Option FieldType} {code : List (Nat × Instr × Nat)} {pc : Nat} {L st : List Value} {w : mv_W} {c k : Nat} {r : mv_R} {dflt lo hi : Int} {offs : Array Int} {len t : Nat} {x : Int32} (hg : mv_get code pc = some (.tableswitch dflt lo hi offs, len)) (h : x.toInt < lo ∨ hi < x.toInt) (ht : mv_tgt pc dflt = some t) (kk : mv_Wp xs Ls d cls ini ret code (t, L, st, w, c, k) r) : mv_Wp xs Ls d cls ini ret code (pc, L, .int x :: st, w, c, k) r := by
  refine wp_go 1 ?_ kk
  unfold mv_gos
  dsimp only
  rw [hg]
  simp only [mv_one, mv_alu, mv_loc, mv_br, if_pos h, ht]
  rfl
/-- x is none of 0 .. m -/
def outN (x : Int32) (m : Nat) : Bool := !(decide (nI 0 ≤ x) && decide (x ≤ nI m))
theorem out_int {x : Int32} {m : Nat} (hm : m < 1000) (h : outN x m = true) : x.toInt < 0 ∨ (m : Int) < x.toInt := by
  unfold outN at h
  rw [Bool.not_eq_true', Bool.and_eq_false_imp] at h
  by_cases g : x.toInt < 0
  · exact Or.inl g
  · right
    have h1 : nI 0 ≤ x := by rw [Int32.le_iff_toInt_le, nI_toInt (by omega)]; omega
    have h2 := h (by simpa using h1)
    rw [decide_eq_false_iff_not, Int32.le_iff_toInt_le, nI_toInt (by omega)] at h2
    omega
theorem out_in {x : Int32} {m : Nat} (hm : m < 1000) (h : outN x m = false) : ∃ c, c ≤ m ∧ x = nI c := by
  unfold outN at h
  rw [Bool.not_eq_false', Bool.and_eq_true, decide_eq_true_eq, decide_eq_true_eq] at h
  obtain ⟨c, hc, rfl⟩ := nI_of (x := x) (fun h9 => absurd h.1 (Int32.not_le.mpr h9))
  exact ⟨c, (nI_leI hc (by omega)).mp h.2, rfl⟩
theorem out_ne {x : Int32} {m c : Nat} (hm : m < 1000) (h : outN x m = true) (hc : c ≤ m) : ¬ x = nI c := by
  intro e
  rcases out_int hm h with g | g
  · rw [e, nI_toInt (by omega)] at g; omega
  · rw [e, nI_toInt (by omega)] at g; omega
section MM
variable {xs : Nat → Int32} {Ls : Nat} {A : Nat → Nat → Int32} {B : Nat → Nat → Int64} {F : Nat → Int32} {sw : Bool} {n : Nat} {nb : Nat → Nat}
theorem ev_separator_f (hM : MI A F n nb) {k : Int32} (hk : k < 0) : mv_Ev xs Ls 4 101 [.ref 28, .int k] (MW A B F sw) (some (.int (-1)), MW A B F sw, 0, 0) := by
  refine ev_of_wp rfl rfl rfl ?_
  have hn := hM.1
  have hp := pow10 hn
  have hp1 : 1 ≤ 2 ^ n := Nat.one_le_two_pow
  have hal := all_lt hn
  refine wp_go (f' := (6, [.ref 28, .int k, .int (nI 0), .int (nI 0)], [.ref 28, .int (nI 0)], MW A B F sw, 0, 0)) 6 rfl ?_
  refine wp_call rfl rfl rfl (ev_up (ev_all hM) (by decide)) ?_
  refine wp_eq (f' := (9, [.ref 28, .int k, .int (nI 0), .int (nI 0)], [.int (nI (2 ^ n - 1)), .int (nI 0)], MW A B F sw, 0, 0)) rfl ?_
  refine wp_go (f' := ((if (nI (2 ^ n - 1)) < (nI 0) then 40 else 12), [.ref 28, .int k, .int (nI 0), .int (nI 0)], [], MW A B F sw, 0, 0)) 1 rfl ?_
  refine wp_ite (fun h9 => absurd h9 (nI_nlt (by omega) (by omega))) (fun _ => ?_)
  refine wp_go (f' := ((if k < 0 then 40 else 16), [.ref 28, .int k, .int (nI 0), .int (nI 0)], [], MW A B F sw, 0, 0)) 2 rfl ?_
  refine wp_ite (fun _ => ?_) (fun h9 => absurd hk h9)
  refine wp_go (f' := (41, [.ref 28, .int k, .int (nI 0), .int (nI 0)], [.int (-1)], MW A B F sw, 0, 0)) 1 rfl ?_
  exact wp_iret rfl
theorem ev_clique_f (hM : MI A F n nb) {k : Int32} (hk : k < 0) : mv_Ev xs Ls 3 104 [.ref 28, .int k] (MW A B F sw) (some (.int (-1)), MW A B F sw, 0, 0) := by
  refine ev_of_wp rfl rfl rfl ?_
  have hn := hM.1
  have hp := pow10 hn
  have hp1 : 1 ≤ 2 ^ n := Nat.one_le_two_pow
  have hal := all_lt hn
  refine wp_go (f' := (6, [.ref 28, .int k, .int (nI 0), .int (nI 1)], [.ref 28, .int (nI 1)], MW A B F sw, 0, 0)) 6 rfl ?_
  refine wp_call rfl rfl rfl (ev_up (ev_all hM) (by decide)) ?_
  refine wp_eq (f' := (9, [.ref 28, .int k, .int (nI 0), .int (nI 1)], [.int (nI (2 ^ n - 1)), .int (nI 1)], MW A B F sw, 0, 0)) rfl ?_
  refine wp_go (f' := ((if (nI (2 ^ n - 1)) < (nI 1) then 40 else 12), [.ref 28, .int k, .int (nI 0), .int (nI 1)], [], MW A B F sw, 0, 0)) 1 rfl ?_
  refine wp_ite (fun h1 => ?_) (fun h1 => ?_)
  · have h1 : 2 ^ n - 1 < 1 := (nI_ltI (a := 2 ^ n - 1) (b := 1) (by omega) (by omega)).mp h1
    refine wp_go (f' := (41, [.ref 28, .int k, .int (nI 0), .int (nI 1)], [.int (-1)], MW A B F sw, 0, 0)) 1 rfl ?_
    exact wp_iret rfl
  · have h1 : ¬ (2 ^ n - 1 < 1) := fun h9 => h1 ((nI_ltI (a := 2 ^ n - 1) (b := 1) (by omega) (by omega)).mpr h9)
    refine wp_go (f' := ((if k < 0 then 40 else 16), [.ref 28, .int k, .int (nI 0), .int (nI 1)], [], MW A B F sw, 0, 0)) 2 rfl ?_
    refine wp_ite (fun _ => ?_) (fun h9 => absurd hk h9)
    refine wp_go (f' := (41, [.ref 28, .int k, .int (nI 0), .int (nI 1)], [.int (-1)], MW A B F sw, 0, 0)) 1 rfl ?_
    exact wp_iret rfl
theorem ev_separator_t (hM : MI A F n nb) {k : Int32} (hk : ¬ k < 0) : mv_Ev xs Ls 4 101 [.ref 28, .int k] (MW A B F sw) (some (.int (pickN (sepN n nb) k (2 ^ n) 0 0)), MW A B F sw, 0, 0) := by
  refine ev_of_wp rfl rfl rfl ?_
  have hn := hM.1
  have hp := pow10 hn
  have hp1 : 1 ≤ 2 ^ n := Nat.one_le_two_pow
  have hal := all_lt hn
  refine wp_go (f' := (4, [.ref 28, .int k, .int (nI 0), .int (nI 0)], [], MW A B F sw, 0, 0)) 4 rfl ?_
  exact lp_M_separator hM hk (2 ^ n) 0 0 (by omega) (by omega)
theorem ev_clique_t (hM : MI A F n nb) {k : Int32} (hk : ¬ k < 0) : mv_Ev xs Ls 3 104 [.ref 28, .int k] (MW A B F sw) (some (.int (pickN (cliqueN n nb) k (2 ^ n - 1) 1 0)), MW A B F sw, 0, 0) := by
  refine ev_of_wp rfl rfl rfl ?_
  have hn := hM.1
  have hp := pow10 hn
  have hp1 : 1 ≤ 2 ^ n := Nat.one_le_two_pow
  have hal := all_lt hn
  refine wp_go (f' := (4, [.ref 28, .int k, .int (nI 0), .int (nI 1)], [], MW A B F sw, 0, 0)) 4 rfl ?_
  exact lp_M_clique hM hk (2 ^ n - 1) 1 0 (by omega) (by omega)
theorem ev_count0 (hM : MI A F n nb) : mv_Ev xs Ls 1 92 [.ref 28, .int (nI 0)] (MW A B F sw) (some (.int (nI n)), MW A B F sw, 0, 0) := by
  refine ev_of_wp rfl rfl rfl ?_
  have hn := hM.1
  refine wp_go (f' := ((if ¬ (nI 0) = (nI 6) then 10 else 6), [.ref 28, .int (nI 0), .retAddr 0, .retAddr 0, .retAddr 0], [], MW A B F sw, 0, 0)) 3 rfl ?_
  refine wp_ite (fun _ => ?_) (fun h9 => absurd (by decide : ¬ nI 0 = nI 6) h9)
  refine wp_go (f' := (60, [.ref 28, .int (nI 0), .int (nI 0), .retAddr 0, .retAddr 0], [.int (F 6)], MW A B F sw, 0, 0)) 6 rfl ?_
  rw [hM.2.1]
  exact wp_iret rfl
theorem ev_count1 (hM : MI A F n nb) {ed : Nat} (hE : F 7 = nI ed) : mv_Ev xs Ls 1 92 [.ref 28, .int (nI 1)] (MW A B F sw) (some (.int (nI ed)), MW A B F sw, 0, 0) := by
  refine ev_of_wp rfl rfl rfl ?_
  have hn := hM.1
  refine wp_go (f' := ((if ¬ (nI 1) = (nI 6) then 10 else 6), [.ref 28, .int (nI 1), .retAddr 0, .retAddr 0, .retAddr 0], [], MW A B F sw, 0, 0)) 3 rfl ?_
  refine wp_ite (fun _ => ?_) (fun h9 => absurd (by decide : ¬ nI 1 = nI 6) h9)
  refine wp_go (f' := (65, [.ref 28, .int (nI 1), .int (nI 0), .retAddr 0, .retAddr 0], [.int (F 7)], MW A B F sw, 0, 0)) 6 rfl ?_
  rw [hE]
  exact wp_iret rfl
theorem ev_count2 (hM : MI A F n nb) : mv_Ev xs Ls 3 92 [.ref 28, .int (nI 2)] (MW A B F sw) (some (.int (nI (partsN n nb (2 ^ n - 1)))), MW A B F sw, 0, 0) := by
  refine ev_of_wp rfl rfl rfl ?_
  have hn := hM.1
  have hp := pow10 hn
  have hp1 : 1 ≤ 2 ^ n := Nat.one_le_two_pow
  have hal := all_lt hn
  refine wp_go (f' := ((if ¬ (nI 2) = (nI 6) then 10 else 6), [.ref 28, .int (nI 2), .retAddr 0, .retAddr 0, .retAddr 0], [], MW A B F sw, 0, 0)) 3 rfl ?_
  refine wp_ite (fun _ => ?_) (fun h9 => absurd (by decide : ¬ nI 2 = nI 6) h9)
  refine wp_go (f' := (68, [.ref 28, .int (nI 2), .int (nI 0), .retAddr 0, .retAddr 0], [.ref 28, .ref 28], MW A B F sw, 0, 0)) 6 rfl ?_
  refine wp_call rfl rfl rfl (ev_up (ev_all hM) (by decide)) ?_
  refine wp_eq (f' := (71, [.ref 28, .int (nI 2), .int (nI 0), .retAddr 0, .retAddr 0], [.int (nI (2 ^ n - 1)), .ref 28], MW A B F sw, 0, 0)) rfl ?_
  refine wp_call rfl rfl rfl (ev_up (ev_parts hM (s := 2 ^ n - 1) (by omega)) (by decide)) ?_
  refine wp_eq (f' := (74, [.ref 28, .int (nI 2), .int (nI 0), .retAddr 0, .retAddr 0], [.int (nI (partsN n nb (2 ^ n - 1)))], MW A B F sw, 0, 0)) rfl ?_
  exact wp_iret rfl
/-- the greatest degree -/
def degN (n : Nat) (nb : Nat → Nat) : Nat := forN (fun k m => if m < pop (nb k) then pop (nb k) else m) n 0
/-- the greatest least degree of a set -/
def coreN (n : Nat) (nb : Nat → Nat) : Nat := forN (fun k m => if m < leastN n nb (k + 1) then leastN n nb (k + 1) else m) (2 ^ n - 1) 0
def holesN (n : Nat) (nb : Nat → Nat) : Nat := forN (fun k m => if holeN n nb (k + 1) then m + 1 else m) (2 ^ n - 1) 0
/-- the fewest vertices of a hole, -1 if there is none -/
def shortN (n : Nat) (nb : Nat → Nat) : Int32 := forN (fun k (m : Int32) => if holeN n nb (k + 1) = true ∧ (m = -1 ∨ nI (pop (k + 1)) < m) then nI (pop (k + 1)) else m) (2 ^ n - 1) (-1)
theorem leastN_le (n : Nat) (nb : Nat → Nat) (s : Nat) : leastN n nb s ≤ 10 := by
  refine forN_inv (I := fun _ (m : Nat) => m ≤ 10) (Nat.le_refl _) (fun k m hk hm => ?_) n (Nat.le_refl _)
  split
  · rename_i h; omega
  · exact hm
theorem ev_count3 (hM : MI A F n nb) : mv_Ev xs Ls 3 92 [.ref 28, .int (nI 3)] (MW A B F sw) (some (.int (nI (degN n nb))), MW A B F sw, 0, 0) := by
  refine ev_of_wp rfl rfl rfl ?_
  have hn := hM.1
  have hp := pow10 hn
  have hp1 : 1 ≤ 2 ^ n := Nat.one_le_two_pow
  have hal := all_lt hn
  refine wp_go (f' := ((if ¬ (nI 3) = (nI 6) then 10 else 6), [.ref 28, .int (nI 3), .retAddr 0, .retAddr 0, .retAddr 0], [], MW A B F sw, 0, 0)) 3 rfl ?_
  refine wp_ite (fun _ => ?_) (fun h9 => absurd (by decide : ¬ nI 3 = nI 6) h9)
  refine wp_go (f' := (77, [.ref 28, .int (nI 3), .int (nI 0), .int (nI 0), .retAddr 0], [], MW A B F sw, 0, 0)) 6 rfl ?_
  refine for_ind (P := fun (k : Nat) (m : Nat) => m ≤ 10 → mv_Wp xs Ls 2 6 false (some .int) mv_c92 (77, [.ref 28, .int (nI 3), .int (nI m), .int (nI k), .retAddr 0], [], MW A B F sw, 0, 0) (some (.int (nI (degN n nb))), MW A B F sw, 0, 0)) (f := fun k m => if m < pop (nb k) then pop (nb k) else m) (n := n) ?_ n 0 (Nat.le_refl _) ?_ ?_ 
  · intro k m hk ih hv 
    refine wp_go (f' := (82, [.ref 28, .int (nI 3), .int (nI m), .int (nI k), .retAddr 0], [.int (F 6), .int (nI k)], MW A B F sw, 0, 0)) 3 rfl ?_
    rw [hM.2.1]
    refine wp_go (f' := ((if (nI n) ≤ (nI k) then 118 else 85), [.ref 28, .int (nI 3), .int (nI m), .int (nI k), .retAddr 0], [], MW A B F sw, 0, 0)) 1 rfl ?_
    refine wp_ite (fun h9 => absurd h9 (nI_ge hk (by omega))) (fun _ => ?_)
    refine wp_go (f' := (90, [.ref 28, .int (nI 3), .int (nI m), .int (nI k), .retAddr 0], [.int (nI k), .ref 29], MW A B F sw, 0, 0)) 3 rfl ?_
    refine wp_iald rfl rfl (by omega) (by decide) ?_
    rw [hM.2.2.1 k (by omega)]
    have hnb := hM.2.2.2 k (by omega)
    refine wp_call rfl rfl rfl (ev_up (ev_onesN (s := nb k) (by omega) _) (by decide)) ?_
    refine wp_eq (f' := (94, [.ref 28, .int (nI 3), .int (nI m), .int (nI k), .retAddr 0], [.int (nI (pop (nb k)))], MW A B F sw, 0, 0)) rfl ?_
    have hpp := pop_le (s := nb k) (by omega)
    refine wp_go (f' := ((if (nI (pop (nb k))) ≤ (nI m) then 110 else 98), [.ref 28, .int (nI 3), .int (nI m), .int (nI k), .retAddr 0], [], MW A B F sw, 0, 0)) 2 rfl ?_
    refine wp_ite (fun h1 => ?_) (fun h1 => ?_)
    · have h1 : pop (nb k) ≤ m := (nI_leI (a := pop (nb k)) (b := m) (by omega) (by omega)).mp h1
      refine wp_go (f' := (115, [.ref 28, .int (nI 3), .int (nI m), .int ((nI k) + 1), .retAddr 0], [], MW A B F sw, 0, 0)) 3 rfl ?_
      rw [nI_1]
      refine wp_go (f' := (77, [.ref 28, .int (nI 3), .int (nI m), .int (nI (k + 1)), .retAddr 0], [], MW A B F sw, 0, 0)) 1 rfl ?_
      have e9 : (if m < pop (nb k) then pop (nb k) else m) = m := by simp [h1]; try omega
      have h8 := ih (by rw [e9]; omega)
      rw [e9] at h8
      exact h8
    · have h1 : ¬ (pop (nb k) ≤ m) := fun h9 => h1 ((nI_leI (a := pop (nb k)) (b := m) (by omega) (by omega)).mpr h9)
      refine wp_go (f' := (103, [.ref 28, .int (nI 3), .int (nI m), .int (nI k), .retAddr 0], [.int (nI k), .ref 29], MW A B F sw, 0, 0)) 3 rfl ?_
      refine wp_iald rfl rfl (by omega) (by decide) ?_
      rw [hM.2.2.1 k (by omega)]
      have hnb := hM.2.2.2 k (by omega)
      refine wp_call rfl rfl rfl (ev_up (ev_onesN (s := nb k) (by omega) _) (by decide)) ?_
      refine wp_eq (f' := (107, [.ref 28, .int (nI 3), .int (nI m), .int (nI k), .retAddr 0], [.int (nI (pop (nb k)))], MW A B F sw, 0, 0)) rfl ?_
      have hpp := pop_le (s := nb k) (by omega)
      refine wp_go (f' := (115, [.ref 28, .int (nI 3), .int (nI (pop (nb k))), .int ((nI k) + 1), .retAddr 0], [], MW A B F sw, 0, 0)) 3 rfl ?_
      rw [nI_1]
      refine wp_go (f' := (77, [.ref 28, .int (nI 3), .int (nI (pop (nb k))), .int (nI (k + 1)), .retAddr 0], [], MW A B F sw, 0, 0)) 1 rfl ?_
      have e9 : (if m < pop (nb k) then pop (nb k) else m) = pop (nb k) := by simp [h1]; try omega
      have h8 := ih (by rw [e9]; omega)
      rw [e9] at h8
      exact h8
  · intro hv 
    refine wp_go (f' := (82, [.ref 28, .int (nI 3), .int (nI (degN n nb)), .int (nI n), .retAddr 0], [.int (F 6), .int (nI n)], MW A B F sw, 0, 0)) 3 rfl ?_
    rw [hM.2.1]
    refine wp_go (f' := ((if (nI n) ≤ (nI n) then 118 else 85), [.ref 28, .int (nI 3), .int (nI (degN n nb)), .int (nI n), .retAddr 0], [], MW A B F sw, 0, 0)) 1 rfl ?_
    refine wp_ite (fun _ => ?_) (fun h9 => absurd (nI_le (Nat.le_refl _) (by omega)) h9)
    refine wp_go (f' := (119, [.ref 28, .int (nI 3), .int (nI (degN n nb)), .int (nI n), .retAddr 0], [.int (nI (degN n nb))], MW A B F sw, 0, 0)) 1 rfl ?_
    exact wp_iret rfl
  · omega
theorem ev_count4 (hM : MI A F n nb) : mv_Ev xs Ls 3 92 [.ref 28, .int (nI 4)] (MW A B F sw) (some (.int (nI (coreN n nb))), MW A B F sw, 0, 0) := by
  refine ev_of_wp rfl rfl rfl ?_
  have hn := hM.1
  have hp := pow10 hn
  have hp1 : 1 ≤ 2 ^ n := Nat.one_le_two_pow
  have hal := all_lt hn
  refine wp_go (f' := ((if ¬ (nI 4) = (nI 6) then 10 else 6), [.ref 28, .int (nI 4), .retAddr 0, .retAddr 0, .retAddr 0], [], MW A B F sw, 0, 0)) 3 rfl ?_
  refine wp_ite (fun _ => ?_) (fun h9 => absurd (by decide : ¬ nI 4 = nI 6) h9)
  refine wp_go (f' := (122, [.ref 28, .int (nI 4), .int (nI 0), .int (nI 1), .retAddr 0], [], MW A B F sw, 0, 0)) 6 rfl ?_
  refine for_ind (P := fun (k : Nat) (m : Nat) => m ≤ 10 → ∀ (d4 : Value), mv_Wp xs Ls 2 6 false (some .int) mv_c92 (122, [.ref 28, .int (nI 4), .int (nI m), .int (nI (k + 1)), d4], [], MW A B F sw, 0, 0) (some (.int (nI (coreN n nb))), MW A B F sw, 0, 0)) (f := fun k m => if m < leastN n nb (k + 1) then leastN n nb (k + 1) else m) (n := (2 ^ n - 1)) ?_ (2 ^ n - 1) 0 (Nat.le_refl _) ?_ ?_ (.retAddr 0)
  · intro k m hk ih hv d4
    refine wp_go (f' := (124, [.ref 28, .int (nI 4), .int (nI m), .int (nI (k + 1)), d4], [.ref 28, .int (nI (k + 1))], MW A B F sw, 0, 0)) 2 rfl ?_
    refine wp_call rfl rfl rfl (ev_up (ev_all hM) (by decide)) ?_
    refine wp_eq (f' := (127, [.ref 28, .int (nI 4), .int (nI m), .int (nI (k + 1)), d4], [.int (nI (2 ^ n - 1)), .int (nI (k + 1))], MW A B F sw, 0, 0)) rfl ?_
    refine wp_go (f' := ((if (nI (2 ^ n - 1)) < (nI (k + 1)) then 156 else 130), [.ref 28, .int (nI 4), .int (nI m), .int (nI (k + 1)), d4], [], MW A B F sw, 0, 0)) 1 rfl ?_
    refine wp_ite (fun h9 => absurd h9 (nI_nlt (by omega) (by omega))) (fun _ => ?_)
    refine wp_go (f' := (132, [.ref 28, .int (nI 4), .int (nI m), .int (nI (k + 1)), d4], [.int (nI (k + 1)), .ref 28], MW A B F sw, 0, 0)) 2 rfl ?_
    refine wp_call rfl rfl rfl (ev_up (ev_leastDegree hM (s := k + 1) (by omega)) (by decide)) ?_
    refine wp_eq (f' := (135, [.ref 28, .int (nI 4), .int (nI m), .int (nI (k + 1)), d4], [.int (nI (leastN n nb (k + 1)))], MW A B F sw, 0, 0)) rfl ?_
    have hle := leastN_le n nb (k + 1)
    refine wp_go (f' := ((if (nI (leastN n nb (k + 1))) ≤ (nI m) then 148 else 143), [.ref 28, .int (nI 4), .int (nI m), .int (nI (k + 1)), .int (nI (leastN n nb (k + 1)))], [], MW A B F sw, 0, 0)) 4 rfl ?_
    refine wp_ite (fun h1 => ?_) (fun h1 => ?_)
    · have h1 : leastN n nb (k + 1) ≤ m := (nI_leI (a := leastN n nb (k + 1)) (b := m) (by omega) (by omega)).mp h1
      refine wp_go (f' := (153, [.ref 28, .int (nI 4), .int (nI m), .int ((nI (k + 1)) + 1), .int (nI (leastN n nb (k + 1)))], [], MW A B F sw, 0, 0)) 3 rfl ?_
      rw [nI_1]
      refine wp_go (f' := (122, [.ref 28, .int (nI 4), .int (nI m), .int (nI ((k + 1) + 1)), .int (nI (leastN n nb (k + 1)))], [], MW A B F sw, 0, 0)) 1 rfl ?_
      have e9 : (if m < leastN n nb (k + 1) then leastN n nb (k + 1) else m) = m := by simp [h1]; try omega
      have h8 := ih (by rw [e9]; omega) (.int (nI (leastN n nb (k + 1))))
      rw [e9] at h8
      exact h8
    · have h1 : ¬ (leastN n nb (k + 1) ≤ m) := fun h9 => h1 ((nI_leI (a := leastN n nb (k + 1)) (b := m) (by omega) (by omega)).mpr h9)
      refine wp_go (f' := (153, [.ref 28, .int (nI 4), .int (nI (leastN n nb (k + 1))), .int ((nI (k + 1)) + 1), .int (nI (leastN n nb (k + 1)))], [], MW A B F sw, 0, 0)) 4 rfl ?_
      rw [nI_1]
      refine wp_go (f' := (122, [.ref 28, .int (nI 4), .int (nI (leastN n nb (k + 1))), .int (nI ((k + 1) + 1)), .int (nI (leastN n nb (k + 1)))], [], MW A B F sw, 0, 0)) 1 rfl ?_
      have e9 : (if m < leastN n nb (k + 1) then leastN n nb (k + 1) else m) = leastN n nb (k + 1) := by simp [h1]; try omega
      have h8 := ih (by rw [e9]; omega) (.int (nI (leastN n nb (k + 1))))
      rw [e9] at h8
      exact h8
  · intro hv d4
    refine wp_go (f' := (124, [.ref 28, .int (nI 4), .int (nI (coreN n nb)), .int (nI (2 ^ n - 1 + 1)), d4], [.ref 28, .int (nI (2 ^ n - 1 + 1))], MW A B F sw, 0, 0)) 2 rfl ?_
    refine wp_call rfl rfl rfl (ev_up (ev_all hM) (by decide)) ?_
    refine wp_eq (f' := (127, [.ref 28, .int (nI 4), .int (nI (coreN n nb)), .int (nI (2 ^ n - 1 + 1)), d4], [.int (nI (2 ^ n - 1)), .int (nI (2 ^ n - 1 + 1))], MW A B F sw, 0, 0)) rfl ?_
    refine wp_go (f' := ((if (nI (2 ^ n - 1)) < (nI (2 ^ n - 1 + 1)) then 156 else 130), [.ref 28, .int (nI 4), .int (nI (coreN n nb)), .int (nI (2 ^ n - 1 + 1)), d4], [], MW A B F sw, 0, 0)) 1 rfl ?_
    refine wp_ite (fun _ => ?_) (fun h9 => absurd (nI_lt (by omega) (by omega)) h9)
    refine wp_go (f' := (157, [.ref 28, .int (nI 4), .int (nI (coreN n nb)), .int (nI (2 ^ n - 1 + 1)), d4], [.int (nI (coreN n nb))], MW A B F sw, 0, 0)) 1 rfl ?_
    exact wp_iret rfl
  · omega
theorem ev_count5 (hM : MI A F n nb) : mv_Ev xs Ls 4 92 [.ref 28, .int (nI 5)] (MW A B F sw) (some (.int (nI (holesN n nb))), MW A B F sw, 0, 0) := by
  refine ev_of_wp rfl rfl rfl ?_
  have hn := hM.1
  have hp := pow10 hn
  have hp1 : 1 ≤ 2 ^ n := Nat.one_le_two_pow
  have hal := all_lt hn
  refine wp_go (f' := ((if ¬ (nI 5) = (nI 6) then 10 else 6), [.ref 28, .int (nI 5), .retAddr 0, .retAddr 0, .retAddr 0], [], MW A B F sw, 0, 0)) 3 rfl ?_
  refine wp_ite (fun _ => ?_) (fun h9 => absurd (by decide : ¬ nI 5 = nI 6) h9)
  refine wp_go (f' := (160, [.ref 28, .int (nI 5), .int (nI 0), .int (nI 1), .retAddr 0], [], MW A B F sw, 0, 0)) 6 rfl ?_
  refine for_ind (P := fun (k : Nat) (m : Nat) => ∀ (d4 : Value), mv_Wp xs Ls 3 6 false (some .int) mv_c92 (160, [.ref 28, .int (nI 5), .int (nI m), .int (nI (k + 1)), d4], [], MW A B F sw, 0, 0) (some (.int (nI (holesN n nb))), MW A B F sw, 0, 0)) (f := fun k m => if holeN n nb (k + 1) then m + 1 else m) (n := (2 ^ n - 1)) ?_ (2 ^ n - 1) 0 (Nat.le_refl _) ?_  (.retAddr 0)
  · intro k m hk ih  d4
    refine wp_go (f' := (162, [.ref 28, .int (nI 5), .int (nI m), .int (nI (k + 1)), d4], [.ref 28, .int (nI (k + 1))], MW A B F sw, 0, 0)) 2 rfl ?_
    refine wp_call rfl rfl rfl (ev_up (ev_all hM) (by decide)) ?_
    refine wp_eq (f' := (165, [.ref 28, .int (nI 5), .int (nI m), .int (nI (k + 1)), d4], [.int (nI (2 ^ n - 1)), .int (nI (k + 1))], MW A B F sw, 0, 0)) rfl ?_
    refine wp_go (f' := ((if (nI (2 ^ n - 1)) < (nI (k + 1)) then 217 else 168), [.ref 28, .int (nI 5), .int (nI m), .int (nI (k + 1)), d4], [], MW A B F sw, 0, 0)) 1 rfl ?_
    refine wp_ite (fun h9 => absurd h9 (nI_nlt (by omega) (by omega))) (fun _ => ?_)
    refine wp_go (f' := (170, [.ref 28, .int (nI 5), .int (nI m), .int (nI (k + 1)), d4], [.int (nI (k + 1)), .ref 28], MW A B F sw, 0, 0)) 2 rfl ?_
    refine wp_call rfl rfl rfl (ev_up (ev_isHole hM (s := k + 1) (by omega)) (by decide)) ?_
    refine wp_eq (f' := (173, [.ref 28, .int (nI 5), .int (nI m), .int (nI (k + 1)), d4], [.int (bI (holeN n nb (k + 1)))], MW A B F sw, 0, 0)) rfl ?_
    refine wp_go (f' := ((if (bI (holeN n nb (k + 1))) = 0 then 211 else 176), [.ref 28, .int (nI 5), .int (nI m), .int (nI (k + 1)), d4], [], MW A B F sw, 0, 0)) 1 rfl ?_
    refine wp_ite (fun h1 => ?_) (fun h1 => ?_)
    · have h1 := bI_0.mp h1
      refine wp_go (f' := (214, [.ref 28, .int (nI 5), .int (nI m), .int ((nI (k + 1)) + 1), d4], [], MW A B F sw, 0, 0)) 1 rfl ?_
      rw [nI_1]
      refine wp_go (f' := (160, [.ref 28, .int (nI 5), .int (nI m), .int (nI ((k + 1) + 1)), d4], [], MW A B F sw, 0, 0)) 1 rfl ?_
      refine wp_eq ?_ (ih  d4)
      simp [h1, bIT, bIF, nI1, nI0]
    · have h1 := bI_n0 h1
      refine wp_go (f' := (177, [.ref 28, .int (nI 5), .int (nI m), .int (nI (k + 1)), d4], [.int (nI (k + 1))], MW A B F sw, 0, 0)) 1 rfl ?_
      refine wp_call rfl rfl rfl (ev_up (ev_onesN (s := k + 1) (by omega) _) (by decide)) ?_
      refine wp_eq (f' := (180, [.ref 28, .int (nI 5), .int (nI m), .int (nI (k + 1)), d4], [.int (nI (pop (k + 1)))], MW A B F sw, 0, 0)) rfl ?_
      have hpp := pop_le (s := k + 1) (by omega)
      refine wp_go (f' := ((if ¬ (nI 5) = (nI 5) then 193 else 187), [.ref 28, .int (nI 5), .int (nI m), .int (nI (k + 1)), .int (nI (pop (k + 1)))], [], MW A B F sw, 0, 0)) 4 rfl ?_
      refine wp_ite (fun h9 => absurd h9 (by decide : ¬ ¬ nI 5 = nI 5)) (fun _ => ?_)
      refine wp_go (f' := (190, [.ref 28, .int (nI 5), .int (nI m), .int (nI (k + 1)), .int (nI (pop (k + 1)))], [.int ((nI m) + (nI 1))], MW A B F sw, 0, 0)) 3 rfl ?_
      rw [nI_add]
      refine wp_go (f' := (214, [.ref 28, .int (nI 5), .int (nI (m + 1)), .int ((nI (k + 1)) + 1), .int (nI (pop (k + 1)))], [], MW A B F sw, 0, 0)) 3 rfl ?_
      rw [nI_1]
      refine wp_go (f' := (160, [.ref 28, .int (nI 5), .int (nI (m + 1)), .int (nI ((k + 1) + 1)), .int (nI (pop (k + 1)))], [], MW A B F sw, 0, 0)) 1 rfl ?_
      refine wp_eq ?_ (ih  (.int (nI (pop (k + 1)))))
      simp [h1, bIT, bIF, nI1, nI0]
  · intro  d4
    refine wp_go (f' := (162, [.ref 28, .int (nI 5), .int (nI (holesN n nb)), .int (nI (2 ^ n - 1 + 1)), d4], [.ref 28, .int (nI (2 ^ n - 1 + 1))], MW A B F sw, 0, 0)) 2 rfl ?_
    refine wp_call rfl rfl rfl (ev_up (ev_all hM) (by decide)) ?_
    refine wp_eq (f' := (165, [.ref 28, .int (nI 5), .int (nI (holesN n nb)), .int (nI (2 ^ n - 1 + 1)), d4], [.int (nI (2 ^ n - 1)), .int (nI (2 ^ n - 1 + 1))], MW A B F sw, 0, 0)) rfl ?_
    refine wp_go (f' := ((if (nI (2 ^ n - 1)) < (nI (2 ^ n - 1 + 1)) then 217 else 168), [.ref 28, .int (nI 5), .int (nI (holesN n nb)), .int (nI (2 ^ n - 1 + 1)), d4], [], MW A B F sw, 0, 0)) 1 rfl ?_
    refine wp_ite (fun _ => ?_) (fun h9 => absurd (nI_lt (by omega) (by omega)) h9)
    refine wp_go (f' := (218, [.ref 28, .int (nI 5), .int (nI (holesN n nb)), .int (nI (2 ^ n - 1 + 1)), d4], [.int (nI (holesN n nb))], MW A B F sw, 0, 0)) 1 rfl ?_
    exact wp_iret rfl
theorem ev_count6 (hM : MI A F n nb) : mv_Ev xs Ls 4 92 [.ref 28, .int (nI 6)] (MW A B F sw) (some (.int (shortN n nb)), MW A B F sw, 0, 0) := by
  refine ev_of_wp rfl rfl rfl ?_
  have hn := hM.1
  have hp := pow10 hn
  have hp1 : 1 ≤ 2 ^ n := Nat.one_le_two_pow
  have hal := all_lt hn
  refine wp_go (f' := ((if ¬ (nI 6) = (nI 6) then 10 else 6), [.ref 28, .int (nI 6), .retAddr 0, .retAddr 0, .retAddr 0], [], MW A B F sw, 0, 0)) 3 rfl ?_
  refine wp_ite (fun h9 => absurd h9 (by decide : ¬ ¬ nI 6 = nI 6)) (fun _ => ?_)
  refine wp_go (f' := (160, [.ref 28, .int (nI 6), .int (-1), .int (nI 1), .retAddr 0], [], MW A B F sw, 0, 0)) 7 rfl ?_
  refine for_ind (P := fun (k : Nat) (m : Int32) => ∀ (d4 : Value), mv_Wp xs Ls 3 6 false (some .int) mv_c92 (160, [.ref 28, .int (nI 6), .int m, .int (nI (k + 1)), d4], [], MW A B F sw, 0, 0) (some (.int (shortN n nb)), MW A B F sw, 0, 0)) (f := fun k (m : Int32) => if holeN n nb (k + 1) = true ∧ (m = -1 ∨ nI (pop (k + 1)) < m) then nI (pop (k + 1)) else m) (n := (2 ^ n - 1)) ?_ (2 ^ n - 1) (-1) (Nat.le_refl _) ?_  (.retAddr 0)
  · intro k m hk ih  d4
    refine wp_go (f' := (162, [.ref 28, .int (nI 6), .int m, .int (nI (k + 1)), d4], [.ref 28, .int (nI (k + 1))], MW A B F sw, 0, 0)) 2 rfl ?_
    refine wp_call rfl rfl rfl (ev_up (ev_all hM) (by decide)) ?_
    refine wp_eq (f' := (165, [.ref 28, .int (nI 6), .int m, .int (nI (k + 1)), d4], [.int (nI (2 ^ n - 1)), .int (nI (k + 1))], MW A B F sw, 0, 0)) rfl ?_
    refine wp_go (f' := ((if (nI (2 ^ n - 1)) < (nI (k + 1)) then 217 else 168), [.ref 28, .int (nI 6), .int m, .int (nI (k + 1)), d4], [], MW A B F sw, 0, 0)) 1 rfl ?_
    refine wp_ite (fun h9 => absurd h9 (nI_nlt (by omega) (by omega))) (fun _ => ?_)
    refine wp_go (f' := (170, [.ref 28, .int (nI 6), .int m, .int (nI (k + 1)), d4], [.int (nI (k + 1)), .ref 28], MW A B F sw, 0, 0)) 2 rfl ?_
    refine wp_call rfl rfl rfl (ev_up (ev_isHole hM (s := k + 1) (by omega)) (by decide)) ?_
    refine wp_eq (f' := (173, [.ref 28, .int (nI 6), .int m, .int (nI (k + 1)), d4], [.int (bI (holeN n nb (k + 1)))], MW A B F sw, 0, 0)) rfl ?_
    refine wp_go (f' := ((if (bI (holeN n nb (k + 1))) = 0 then 211 else 176), [.ref 28, .int (nI 6), .int m, .int (nI (k + 1)), d4], [], MW A B F sw, 0, 0)) 1 rfl ?_
    refine wp_ite (fun h1 => ?_) (fun h1 => ?_)
    · have h1 := bI_0.mp h1
      refine wp_go (f' := (214, [.ref 28, .int (nI 6), .int m, .int ((nI (k + 1)) + 1), d4], [], MW A B F sw, 0, 0)) 1 rfl ?_
      rw [nI_1]
      refine wp_go (f' := (160, [.ref 28, .int (nI 6), .int m, .int (nI ((k + 1) + 1)), d4], [], MW A B F sw, 0, 0)) 1 rfl ?_
      refine wp_eq ?_ (ih d4)
      simp [h1]
    · have h1 := bI_n0 h1
      refine wp_go (f' := (177, [.ref 28, .int (nI 6), .int m, .int (nI (k + 1)), d4], [.int (nI (k + 1))], MW A B F sw, 0, 0)) 1 rfl ?_
      refine wp_call rfl rfl rfl (ev_up (ev_onesN (s := k + 1) (by omega) _) (by decide)) ?_
      refine wp_eq (f' := (180, [.ref 28, .int (nI 6), .int m, .int (nI (k + 1)), d4], [.int (nI (pop (k + 1)))], MW A B F sw, 0, 0)) rfl ?_
      have hpp := pop_le (s := k + 1) (by omega)
      refine wp_go (f' := ((if ¬ (nI 6) = (nI 5) then 193 else 187), [.ref 28, .int (nI 6), .int m, .int (nI (k + 1)), .int (nI (pop (k + 1)))], [], MW A B F sw, 0, 0)) 4 rfl ?_
      refine wp_ite (fun _ => ?_) (fun h9 => absurd (by decide : ¬ nI 6 = nI 5) h9)
      refine wp_go (f' := ((if m = (-1) then 204 else 198), [.ref 28, .int (nI 6), .int m, .int (nI (k + 1)), .int (nI (pop (k + 1)))], [], MW A B F sw, 0, 0)) 3 rfl ?_
      refine wp_ite (fun h2 => ?_) (fun h2 => ?_)
      · skip
        refine wp_go (f' := (214, [.ref 28, .int (nI 6), .int (nI (pop (k + 1))), .int ((nI (k + 1)) + 1), .int (nI (pop (k + 1)))], [], MW A B F sw, 0, 0)) 4 rfl ?_
        rw [nI_1]
        refine wp_go (f' := (160, [.ref 28, .int (nI 6), .int (nI (pop (k + 1))), .int (nI ((k + 1) + 1)), .int (nI (pop (k + 1)))], [], MW A B F sw, 0, 0)) 1 rfl ?_
        refine wp_eq ?_ (ih (.int (nI (pop (k + 1)))))
        simp [h1, h2]
      · skip
        refine wp_go (f' := ((if m ≤ (nI (pop (k + 1))) then 209 else 204), [.ref 28, .int (nI 6), .int m, .int (nI (k + 1)), .int (nI (pop (k + 1)))], [], MW A B F sw, 0, 0)) 3 rfl ?_
        refine wp_ite (fun h3 => ?_) (fun h3 => ?_)
        · skip
          refine wp_go (f' := (214, [.ref 28, .int (nI 6), .int m, .int ((nI (k + 1)) + 1), .int (nI (pop (k + 1)))], [], MW A B F sw, 0, 0)) 3 rfl ?_
          rw [nI_1]
          refine wp_go (f' := (160, [.ref 28, .int (nI 6), .int m, .int (nI ((k + 1) + 1)), .int (nI (pop (k + 1)))], [], MW A B F sw, 0, 0)) 1 rfl ?_
          refine wp_eq ?_ (ih (.int (nI (pop (k + 1)))))
          simp [h1, h2, Int32.not_lt.mpr h3]
        · skip
          refine wp_go (f' := (214, [.ref 28, .int (nI 6), .int (nI (pop (k + 1))), .int ((nI (k + 1)) + 1), .int (nI (pop (k + 1)))], [], MW A B F sw, 0, 0)) 4 rfl ?_
          rw [nI_1]
          refine wp_go (f' := (160, [.ref 28, .int (nI 6), .int (nI (pop (k + 1))), .int (nI ((k + 1) + 1)), .int (nI (pop (k + 1)))], [], MW A B F sw, 0, 0)) 1 rfl ?_
          refine wp_eq ?_ (ih (.int (nI (pop (k + 1)))))
          simp [h1, h2, Int32.not_le.mp h3]
  · intro  d4
    refine wp_go (f' := (162, [.ref 28, .int (nI 6), .int (shortN n nb), .int (nI (2 ^ n - 1 + 1)), d4], [.ref 28, .int (nI (2 ^ n - 1 + 1))], MW A B F sw, 0, 0)) 2 rfl ?_
    refine wp_call rfl rfl rfl (ev_up (ev_all hM) (by decide)) ?_
    refine wp_eq (f' := (165, [.ref 28, .int (nI 6), .int (shortN n nb), .int (nI (2 ^ n - 1 + 1)), d4], [.int (nI (2 ^ n - 1)), .int (nI (2 ^ n - 1 + 1))], MW A B F sw, 0, 0)) rfl ?_
    refine wp_go (f' := ((if (nI (2 ^ n - 1)) < (nI (2 ^ n - 1 + 1)) then 217 else 168), [.ref 28, .int (nI 6), .int (shortN n nb), .int (nI (2 ^ n - 1 + 1)), d4], [], MW A B F sw, 0, 0)) 1 rfl ?_
    refine wp_ite (fun _ => ?_) (fun h9 => absurd (nI_lt (by omega) (by omega)) h9)
    refine wp_go (f' := (218, [.ref 28, .int (nI 6), .int (shortN n nb), .int (nI (2 ^ n - 1 + 1)), d4], [.int (shortN n nb)], MW A B F sw, 0, 0)) 1 rfl ?_
    exact wp_iret rfl
theorem ev_count_f {x : Int32} (hx : outN x 6 = true) : mv_Ev xs Ls 1 92 [.ref 28, .int x] (MW A B F sw) (some (.int (-2)), MW A B F sw, 0, 0) := by
  refine ev_of_wp rfl rfl rfl ?_
  refine wp_go (f' := ((if ¬ x = (nI 6) then 10 else 6), [.ref 28, .int x, .retAddr 0, .retAddr 0, .retAddr 0], [], MW A B F sw, 0, 0)) 3 rfl ?_
  refine wp_ite (fun _ => ?_) (fun h9 => absurd (out_ne (c := 6) (by omega) hx (by omega)) h9)
  refine wp_go (f' := (13, [.ref 28, .int x, .int (nI 0), .retAddr 0, .retAddr 0], [.int x], MW A B F sw, 0, 0)) 3 rfl ?_
  refine wp_tsOut rfl (by have h8 := out_int (m := 6) (by omega) hx; omega) rfl ?_
  refine wp_go (f' := (221, [.ref 28, .int x, .int (nI 0), .retAddr 0, .retAddr 0], [.int (-2)], MW A B F sw, 0, 0)) 1 rfl ?_
  exact wp_iret rfl
end MM
end
section
/-- what is left without s hangs together, and s isn't all -/
def restN (n : Nat) (nb : Nat → Nat) (s : Nat) : Bool := wholeN n nb (sd (2 ^ n - 1) s) && (decide (¬ s = 2 ^ n - 1) || decide (n = 0))
/-- the sets of a best, by what -/
def goodN (n : Nat) (nb : Nat → Nat) (w : Nat) (s : Nat) : Bool := match w with
  | 0 => apartN n nb s
  | 1 => nearAllN n nb s
  | 2 => apartN n nb (sd (2 ^ n - 1) s)
  | 3 => cliqueN n nb s
  | _ => restN n nb s
/-- seeking through all sets: the best weight and its set -/
def seekN (G : Nat → Bool) (W : Nat → Nat) (least : Bool) (N : Nat) : Int32 × Int32 := forN (fun s q => if G s = true ∧ (q.2 = -1 ∨ (if least = true then nI (W s) < q.1 else q.1 < nI (W s))) then (nI (W s), nI s) else q) N (-1, -1)
theorem pop_pos {s : Nat} (hs : s < 1024) (h0 : s ≠ 0) : 1 ≤ pop s := by
  have h : ∀ s, s < 1024 → s ≠ 0 → 1 ≤ pop s := by decide +kernel
  exact h s hs h0
section MM
variable {xs : Nat → Int32} {Ls : Nat} {A : Nat → Nat → Int32} {B : Nat → Nat → Int64} {F : Nat → Int32} {sw : Bool} {n : Nat} {nb : Nat → Nat}
theorem ev_isGood0 (hM : MI A F n nb) {s : Nat} (hs : s < 1024) : mv_Ev xs Ls 3 133 [.ref 28, .int (nI 0), .int (nI s)] (MW A B F sw) (some (.int (bI (goodN n nb 0 s))), MW A B F sw, 0, 0) := by
  refine ev_of_wp rfl rfl rfl ?_
  have hn := hM.1
  have hp := pow10 hn
  have hp1 : 1 ≤ 2 ^ n := Nat.one_le_two_pow
  have hal := all_lt hn
  show mv_Wp _ _ _ _ _ _ _ _ (some (.int (bI (apartN n nb s))), _, _, _)
  refine wp_go (f' := (34, [.ref 28, .int (nI 0), .int (nI s)], [.int (nI s), .ref 28], MW A B F sw, 0, 0)) 4 rfl ?_
  refine wp_call rfl rfl rfl (ev_up (ev_isApart hM (s := s) (by omega)) (by decide)) ?_
  refine wp_eq (f' := (37, [.ref 28, .int (nI 0), .int (nI s)], [.int (bI (apartN n nb s))], MW A B F sw, 0, 0)) rfl ?_
  exact wp_zret rfl (bI_01 _)
theorem ev_isGood1 (hM : MI A F n nb) {s : Nat} (hs : s < 1024) : mv_Ev xs Ls 3 133 [.ref 28, .int (nI 1), .int (nI s)] (MW A B F sw) (some (.int (bI (goodN n nb 1 s))), MW A B F sw, 0, 0) := by
  refine ev_of_wp rfl rfl rfl ?_
  have hn := hM.1
  have hp := pow10 hn
  have hp1 : 1 ≤ 2 ^ n := Nat.one_le_two_pow
  have hal := all_lt hn
  show mv_Wp _ _ _ _ _ _ _ _ (some (.int (bI (nearAllN n nb s))), _, _, _)
  refine wp_go (f' := (40, [.ref 28, .int (nI 1), .int (nI s)], [.int (nI s), .ref 28], MW A B F sw, 0, 0)) 4 rfl ?_
  refine wp_call rfl rfl rfl (ev_up (ev_isNearAll hM (s := s) (by omega)) (by decide)) ?_
  refine wp_eq (f' := (43, [.ref 28, .int (nI 1), .int (nI s)], [.int (bI (nearAllN n nb s))], MW A B F sw, 0, 0)) rfl ?_
  exact wp_zret rfl (bI_01 _)
theorem ev_isGood2 (hM : MI A F n nb) {s : Nat} (hs : s < 1024) : mv_Ev xs Ls 3 133 [.ref 28, .int (nI 2), .int (nI s)] (MW A B F sw) (some (.int (bI (goodN n nb 2 s))), MW A B F sw, 0, 0) := by
  refine ev_of_wp rfl rfl rfl ?_
  have hn := hM.1
  have hp := pow10 hn
  have hp1 : 1 ≤ 2 ^ n := Nat.one_le_two_pow
  have hal := all_lt hn
  show mv_Wp _ _ _ _ _ _ _ _ (some (.int (bI (apartN n nb (sd (2 ^ n - 1) s)))), _, _, _)
  refine wp_go (f' := (46, [.ref 28, .int (nI 2), .int (nI s)], [.int (nI s), .ref 28], MW A B F sw, 0, 0)) 4 rfl ?_
  refine wp_call rfl rfl rfl (ev_up (ev_isCover hM (s := s) (by omega)) (by decide)) ?_
  refine wp_eq (f' := (49, [.ref 28, .int (nI 2), .int (nI s)], [.int (bI (apartN n nb (sd (2 ^ n - 1) s)))], MW A B F sw, 0, 0)) rfl ?_
  exact wp_zret rfl (bI_01 _)
theorem ev_isGood3 (hM : MI A F n nb) {s : Nat} (hs : s < 1024) : mv_Ev xs Ls 3 133 [.ref 28, .int (nI 3), .int (nI s)] (MW A B F sw) (some (.int (bI (goodN n nb 3 s))), MW A B F sw, 0, 0) := by
  refine ev_of_wp rfl rfl rfl ?_
  have hn := hM.1
  have hp := pow10 hn
  have hp1 : 1 ≤ 2 ^ n := Nat.one_le_two_pow
  have hal := all_lt hn
  show mv_Wp _ _ _ _ _ _ _ _ (some (.int (bI (cliqueN n nb s))), _, _, _)
  refine wp_go (f' := (52, [.ref 28, .int (nI 3), .int (nI s)], [.int (nI s), .ref 28], MW A B F sw, 0, 0)) 4 rfl ?_
  refine wp_call rfl rfl rfl (ev_up (ev_isClique hM (s := s) (by omega)) (by decide)) ?_
  refine wp_eq (f' := (55, [.ref 28, .int (nI 3), .int (nI s)], [.int (bI (cliqueN n nb s))], MW A B F sw, 0, 0)) rfl ?_
  exact wp_zret rfl (bI_01 _)
theorem ev_isGood4 (hM : MI A F n nb) {s : Nat} (hs : s < 1024) : mv_Ev xs Ls 3 133 [.ref 28, .int (nI 4), .int (nI s)] (MW A B F sw) (some (.int (bI (goodN n nb 4 s))), MW A B F sw, 0, 0) := by
  refine ev_of_wp rfl rfl rfl ?_
  have hn := hM.1
  have hp := pow10 hn
  have hp1 : 1 ≤ 2 ^ n := Nat.one_le_two_pow
  have hal := all_lt hn
  show mv_Wp _ _ _ _ _ _ _ _ (some (.int (bI (restN n nb s))), _, _, _)
  refine wp_go (f' := (58, [.ref 28, .int (nI 4), .int (nI s)], [.ref 28, .ref 28], MW A B F sw, 0, 0)) 4 rfl ?_
  refine wp_call rfl rfl rfl (ev_up (ev_all hM) (by decide)) ?_
  refine wp_eq (f' := (61, [.ref 28, .int (nI 4), .int (nI s)], [.int (nI (2 ^ n - 1)), .ref 28], MW A B F sw, 0, 0)) rfl ?_
  refine wp_go (f' := (65, [.ref 28, .int (nI 4), .int (nI s)], [.int ((nI (2 ^ n - 1)) &&& ((nI s) ^^^ (-1))), .ref 28], MW A B F sw, 0, 0)) 4 rfl ?_
  rw [bx_sd (by omega)]
  have hb1 : sd (2 ^ n - 1) s < 1024 := by first | omega | exact or_lt (by omega) (by omega) | exact and_lt (by omega) | exact and_lt_r (by omega) | exact sd_lt (by omega) | exact pow_lt (by omega)
  refine wp_call rfl rfl rfl (ev_up (ev_isWhole hM (s := sd (2 ^ n - 1) s) (by omega)) (by decide)) ?_
  refine wp_eq (f' := (68, [.ref 28, .int (nI 4), .int (nI s)], [.int (bI (wholeN n nb (sd (2 ^ n - 1) s)))], MW A B F sw, 0, 0)) rfl ?_
  refine wp_go (f' := ((if (bI (wholeN n nb (sd (2 ^ n - 1) s))) = 0 then 90 else 71), [.ref 28, .int (nI 4), .int (nI s)], [], MW A B F sw, 0, 0)) 1 rfl ?_
  refine wp_ite (fun h1 => ?_) (fun h1 => ?_)
  · have h1 := bI_0.mp h1
    refine wp_go (f' := (91, [.ref 28, .int (nI 4), .int (nI s)], [.int (nI 0)], MW A B F sw, 0, 0)) 1 rfl ?_
    rw [show bI (restN n nb s) = nI 0 by unfold restN; rw [h1]; simp [bIT, bIF, nI1, nI0]]
    exact wp_zret rfl (by first | exact Or.inl rfl | exact Or.inr rfl)
  · have h1 := bI_n0 h1
    refine wp_go (f' := (73, [.ref 28, .int (nI 4), .int (nI s)], [.ref 28, .int (nI s)], MW A B F sw, 0, 0)) 2 rfl ?_
    refine wp_call rfl rfl rfl (ev_up (ev_all hM) (by decide)) ?_
    refine wp_eq (f' := (76, [.ref 28, .int (nI 4), .int (nI s)], [.int (nI (2 ^ n - 1)), .int (nI s)], MW A B F sw, 0, 0)) rfl ?_
    refine wp_go (f' := ((if ¬ (nI s) = (nI (2 ^ n - 1)) then 86 else 79), [.ref 28, .int (nI 4), .int (nI s)], [], MW A B F sw, 0, 0)) 1 rfl ?_
    refine wp_ite (fun h2 => ?_) (fun h2 => ?_)
    · have h2 : ¬ (s = 2 ^ n - 1) := fun h9 => h2 ((nI_eq (a := s) (b := 2 ^ n - 1) (by omega) (by omega)).mpr h9)
      refine wp_go (f' := (91, [.ref 28, .int (nI 4), .int (nI s)], [.int (nI 1)], MW A B F sw, 0, 0)) 2 rfl ?_
      rw [show bI (restN n nb s) = nI 1 by unfold restN; rw [h1]; simp [h2, bIT, bIF, nI1, nI0]]
      exact wp_zret rfl (by first | exact Or.inl rfl | exact Or.inr rfl)
    · have h2 := Classical.not_not.mp h2; have h2 : s = 2 ^ n - 1 := (nI_eq (a := s) (b := 2 ^ n - 1) (by omega) (by omega)).mp h2
      refine wp_go (f' := (83, [.ref 28, .int (nI 4), .int (nI s)], [.int (F 6)], MW A B F sw, 0, 0)) 2 rfl ?_
      rw [hM.2.1]
      refine wp_go (f' := ((if ¬ (nI n) = 0 then 90 else 86), [.ref 28, .int (nI 4), .int (nI s)], [], MW A B F sw, 0, 0)) 1 rfl ?_
      refine wp_ite (fun h3 => ?_) (fun h3 => ?_)
      · have h3 : ¬ (n = 0) := fun h9 => h3 ((nI_eq (a := n) (b := 0) (by omega) (by omega)).mpr h9)
        refine wp_go (f' := (91, [.ref 28, .int (nI 4), .int (nI s)], [.int (nI 0)], MW A B F sw, 0, 0)) 1 rfl ?_
        rw [show bI (restN n nb s) = nI 0 by unfold restN; rw [h1]; simp [h2, h3, bIT, bIF, nI1, nI0]]
        exact wp_zret rfl (by first | exact Or.inl rfl | exact Or.inr rfl)
      · have h3 := Classical.not_not.mp h3; have h3 : n = 0 := (nI_eq (a := n) (b := 0) (by omega) (by omega)).mp h3
        refine wp_go (f' := (91, [.ref 28, .int (nI 4), .int (nI s)], [.int (nI 1)], MW A B F sw, 0, 0)) 2 rfl ?_
        rw [show bI (restN n nb s) = nI 1 by unfold restN; rw [h1]; simp [h2, h3, bIT, bIF, nI1, nI0]]
        exact wp_zret rfl (by first | exact Or.inl rfl | exact Or.inr rfl)
theorem ev_seek0 (hM : MI A F n nb) {wt : Nat → Nat} (hw : MWt A wt) : mv_Ev xs Ls 4 132 [.ref 28, .int (nI 0)] (MW A B F sw) (some (.int ((seekN (goodN n nb 0) (weightN n wt) false (2 ^ n)).1)), MW A B (upF F 8 (seekN (goodN n nb 0) (weightN n wt) false (2 ^ n)).2) sw, 0, 0) := by
  refine ev_of_wp rfl rfl rfl ?_
  have hn := hM.1
  have hp := pow10 hn
  have hp1 : 1 ≤ 2 ^ n := Nat.one_le_two_pow
  have hal := all_lt hn
  refine wp_go (f' := ((if (nI 0) = (nI 1) then 10 else 5), [.ref 28, .int (nI 0), .retAddr 0, .retAddr 0, .retAddr 0, .retAddr 0], [], MW A B F sw, 0, 0)) 3 rfl ?_
  refine wp_ite (fun h9 => absurd h9 (by decide : ¬ nI 0 = nI 1)) (fun _ => ?_)
  refine wp_go (f' := ((if ¬ (nI 0) = (nI 2) then 14 else 10), [.ref 28, .int (nI 0), .retAddr 0, .retAddr 0, .retAddr 0, .retAddr 0], [], MW A B F sw, 0, 0)) 3 rfl ?_
  refine wp_ite (fun _ => ?_) (fun h9 => absurd (by decide : ¬ nI 0 = nI 2) h9)
  refine wp_go (f' := (26, [.ref 28, .int (nI 0), .int (nI 0), .int (-1), .int (nI 0), .retAddr 0], [], MW A B (upF F 8 (-1)) sw, 0, 0)) 9 rfl ?_
  refine for_ind (P := fun (k : Nat) (q : Int32 × Int32) => ∀ (d5 : Value), mv_Wp xs Ls 3 6 false (some .int) mv_c132 (26, [.ref 28, .int (nI 0), .int (nI 0), .int q.1, .int (nI k), d5], [], MW A B (upF F 8 q.2) sw, 0, 0) (some (.int ((seekN (goodN n nb 0) (weightN n wt) false (2 ^ n)).1)), MW A B (upF F 8 (seekN (goodN n nb 0) (weightN n wt) false (2 ^ n)).2) sw, 0, 0)) (f := fun k q => if goodN n nb 0 k = true ∧ (q.2 = -1 ∨ (if false = true then nI (weightN n wt k) < q.1 else q.1 < nI (weightN n wt k))) then (nI (weightN n wt k), nI k) else q) (n := (2 ^ n)) ?_ (2 ^ n) ((-1 : Int32), (-1 : Int32)) (Nat.le_refl _) ?_  (.retAddr 0)
  · intro k q hk ih  d5
    have hM := (show MI A (upF F 8 q.2) n nb from hM)
    refine wp_go (f' := (29, [.ref 28, .int (nI 0), .int (nI 0), .int q.1, .int (nI k), d5], [.ref 28, .int (nI k)], MW A B (upF F 8 q.2) sw, 0, 0)) 2 rfl ?_
    refine wp_call rfl rfl rfl (ev_up (ev_all hM) (by decide)) ?_
    refine wp_eq (f' := (32, [.ref 28, .int (nI 0), .int (nI 0), .int q.1, .int (nI k), d5], [.int (nI (2 ^ n - 1)), .int (nI k)], MW A B (upF F 8 q.2) sw, 0, 0)) rfl ?_
    refine wp_go (f' := ((if (nI (2 ^ n - 1)) < (nI k) then 95 else 35), [.ref 28, .int (nI 0), .int (nI 0), .int q.1, .int (nI k), d5], [], MW A B (upF F 8 q.2) sw, 0, 0)) 1 rfl ?_
    refine wp_ite (fun h9 => absurd h9 (nI_nlt (by omega) (by omega))) (fun _ => ?_)
    refine wp_go (f' := (39, [.ref 28, .int (nI 0), .int (nI 0), .int q.1, .int (nI k), d5], [.int (nI k), .int (nI 0), .ref 28], MW A B (upF F 8 q.2) sw, 0, 0)) 3 rfl ?_
    refine wp_call rfl rfl rfl (ev_up (ev_isGood0 hM (s := k) (by omega)) (by decide)) ?_
    refine wp_eq (f' := (42, [.ref 28, .int (nI 0), .int (nI 0), .int q.1, .int (nI k), d5], [.int (bI (goodN n nb 0 k))], MW A B (upF F 8 q.2) sw, 0, 0)) rfl ?_
    refine wp_go (f' := ((if (bI (goodN n nb 0 k)) = 0 then 89 else 45), [.ref 28, .int (nI 0), .int (nI 0), .int q.1, .int (nI k), d5], [], MW A B (upF F 8 q.2) sw, 0, 0)) 1 rfl ?_
    refine wp_ite (fun h1 => ?_) (fun h1 => ?_)
    · have h1 := bI_0.mp h1
      refine wp_go (f' := (92, [.ref 28, .int (nI 0), .int (nI 0), .int q.1, .int ((nI k) + 1), d5], [], MW A B (upF F 8 q.2) sw, 0, 0)) 1 rfl ?_
      rw [nI_1]
      refine wp_go (f' := (26, [.ref 28, .int (nI 0), .int (nI 0), .int q.1, .int (nI (k + 1)), d5], [], MW A B (upF F 8 q.2) sw, 0, 0)) 1 rfl ?_
      refine wp_eq ?_ (ih d5)
      simp [h1]
    · have h1 := bI_n0 h1
      refine wp_go (f' := (48, [.ref 28, .int (nI 0), .int (nI 0), .int q.1, .int (nI k), d5], [.int (nI k), .ref 28], MW A B (upF F 8 q.2) sw, 0, 0)) 2 rfl ?_
      refine wp_call rfl rfl rfl (ev_up (ev_weightOf hM (s := k) (by omega) hw) (by decide)) ?_
      refine wp_eq (f' := (51, [.ref 28, .int (nI 0), .int (nI 0), .int q.1, .int (nI k), d5], [.int (nI (weightN n wt k))], MW A B (upF F 8 q.2) sw, 0, 0)) rfl ?_
      refine wp_go (f' := ((if q.2 = (-1) then 80 else 61), [.ref 28, .int (nI 0), .int (nI 0), .int q.1, .int (nI k), .int (nI (weightN n wt k))], [], MW A B (upF F 8 q.2) sw, 0, 0)) 5 rfl ?_
      refine wp_ite (fun h2 => ?_) (fun h2 => ?_)
      · skip
        refine wp_go (f' := (92, [.ref 28, .int (nI 0), .int (nI 0), .int (nI (weightN n wt k)), .int ((nI k) + 1), .int (nI (weightN n wt k))], [], MW A B (upF F 8 (nI k)) sw, 0, 0)) 6 rfl ?_
        rw [nI_1]
        refine wp_go (f' := (26, [.ref 28, .int (nI 0), .int (nI 0), .int (nI (weightN n wt k)), .int (nI (k + 1)), .int (nI (weightN n wt k))], [], MW A B (upF F 8 (nI k)) sw, 0, 0)) 1 rfl ?_
        refine wp_eq ?_ (ih (.int (nI (weightN n wt k))))
        simp [h1, h2]
      · skip
        refine wp_go (f' := ((if (nI 0) = 0 then 74 else 65), [.ref 28, .int (nI 0), .int (nI 0), .int q.1, .int (nI k), .int (nI (weightN n wt k))], [], MW A B (upF F 8 q.2) sw, 0, 0)) 2 rfl ?_
        refine wp_ite (fun _ => ?_) (fun h9 => absurd (rfl : nI 0 = 0) h9)
        refine wp_go (f' := ((if (nI (weightN n wt k)) ≤ q.1 then 89 else 80), [.ref 28, .int (nI 0), .int (nI 0), .int q.1, .int (nI k), .int (nI (weightN n wt k))], [], MW A B (upF F 8 q.2) sw, 0, 0)) 3 rfl ?_
        refine wp_ite (fun h3 => ?_) (fun h3 => ?_)
        · skip
          refine wp_go (f' := (92, [.ref 28, .int (nI 0), .int (nI 0), .int q.1, .int ((nI k) + 1), .int (nI (weightN n wt k))], [], MW A B (upF F 8 q.2) sw, 0, 0)) 1 rfl ?_
          rw [nI_1]
          refine wp_go (f' := (26, [.ref 28, .int (nI 0), .int (nI 0), .int q.1, .int (nI (k + 1)), .int (nI (weightN n wt k))], [], MW A B (upF F 8 q.2) sw, 0, 0)) 1 rfl ?_
          refine wp_eq ?_ (ih (.int (nI (weightN n wt k))))
          simp [h1, h2, Int32.not_lt.mpr h3]
        · skip
          refine wp_go (f' := (92, [.ref 28, .int (nI 0), .int (nI 0), .int (nI (weightN n wt k)), .int ((nI k) + 1), .int (nI (weightN n wt k))], [], MW A B (upF F 8 (nI k)) sw, 0, 0)) 6 rfl ?_
          rw [nI_1]
          refine wp_go (f' := (26, [.ref 28, .int (nI 0), .int (nI 0), .int (nI (weightN n wt k)), .int (nI (k + 1)), .int (nI (weightN n wt k))], [], MW A B (upF F 8 (nI k)) sw, 0, 0)) 1 rfl ?_
          refine wp_eq ?_ (ih (.int (nI (weightN n wt k))))
          simp [h1, h2, Int32.not_le.mp h3]
  · intro  d5
    have hM := (show MI A (upF F 8 (seekN (goodN n nb 0) (weightN n wt) false (2 ^ n)).2) n nb from hM)
    refine wp_go (f' := (29, [.ref 28, .int (nI 0), .int (nI 0), .int ((seekN (goodN n nb 0) (weightN n wt) false (2 ^ n)).1), .int (nI (2 ^ n)), d5], [.ref 28, .int (nI (2 ^ n))], MW A B (upF F 8 (seekN (goodN n nb 0) (weightN n wt) false (2 ^ n)).2) sw, 0, 0)) 2 rfl ?_
    refine wp_call rfl rfl rfl (ev_up (ev_all hM) (by decide)) ?_
    refine wp_eq (f' := (32, [.ref 28, .int (nI 0), .int (nI 0), .int ((seekN (goodN n nb 0) (weightN n wt) false (2 ^ n)).1), .int (nI (2 ^ n)), d5], [.int (nI (2 ^ n - 1)), .int (nI (2 ^ n))], MW A B (upF F 8 (seekN (goodN n nb 0) (weightN n wt) false (2 ^ n)).2) sw, 0, 0)) rfl ?_
    refine wp_go (f' := ((if (nI (2 ^ n - 1)) < (nI (2 ^ n)) then 95 else 35), [.ref 28, .int (nI 0), .int (nI 0), .int ((seekN (goodN n nb 0) (weightN n wt) false (2 ^ n)).1), .int (nI (2 ^ n)), d5], [], MW A B (upF F 8 (seekN (goodN n nb 0) (weightN n wt) false (2 ^ n)).2) sw, 0, 0)) 1 rfl ?_
    refine wp_ite (fun _ => ?_) (fun h9 => absurd (nI_lt (by omega) (by omega)) h9)
    refine wp_go (f' := (96, [.ref 28, .int (nI 0), .int (nI 0), .int ((seekN (goodN n nb 0) (weightN n wt) false (2 ^ n)).1), .int (nI (2 ^ n)), d5], [.int ((seekN (goodN n nb 0) (weightN n wt) false (2 ^ n)).1)], MW A B (upF F 8 (seekN (goodN n nb 0) (weightN n wt) false (2 ^ n)).2) sw, 0, 0)) 1 rfl ?_
    exact wp_iret rfl
theorem ev_best0 (hM : MI A F n nb) {wt : Nat → Nat} (hw : MWt A wt) : mv_Ev xs Ls 5 131 [.ref 28, .int (nI 0)] (MW A B F sw) (some (.int ((seekN (goodN n nb 0) (weightN n wt) false (2 ^ n)).1)), MW A B (upF F 8 (seekN (goodN n nb 0) (weightN n wt) false (2 ^ n)).2) sw, 0, 0) := by
  refine ev_of_wp rfl rfl rfl ?_
  refine wp_go (f' := (3, [.ref 28, .int (nI 0)], [.int (nI 4), .int (nI 0), .int (nI 0)], MW A B F sw, 0, 0)) 3 rfl ?_
  refine wp_call rfl rfl rfl (ev_up (ev_isIn (nI 0) (nI 0) (nI 4) _) (by decide)) ?_
  refine wp_eq (f' := (6, [.ref 28, .int (nI 0)], [.int (bI (decide ((nI 0) ≤ (nI 0)) && decide ((nI 0) ≤ (nI 4))))], MW A B F sw, 0, 0)) rfl ?_
  refine wp_go (f' := ((if (bI (decide ((nI 0) ≤ (nI 0)) && decide ((nI 0) ≤ (nI 4)))) = 0 then 17 else 9), [.ref 28, .int (nI 0)], [], MW A B F sw, 0, 0)) 1 rfl ?_
  refine wp_ite (fun h9 => absurd h9 (by decide : ¬ bI (decide ((nI 0) ≤ (nI 0)) && decide ((nI 0) ≤ (nI 4))) = 0)) (fun _ => ?_)
  refine wp_go (f' := (11, [.ref 28, .int (nI 0)], [.int (nI 0), .ref 28], MW A B F sw, 0, 0)) 2 rfl ?_
  refine wp_call rfl rfl rfl (ev_up (ev_seek0 hM hw) (by decide)) ?_
  refine wp_eq (f' := (14, [.ref 28, .int (nI 0)], [.int ((seekN (goodN n nb 0) (weightN n wt) false (2 ^ n)).1)], MW A B (upF F 8 (seekN (goodN n nb 0) (weightN n wt) false (2 ^ n)).2) sw, 0, 0)) rfl ?_
  refine wp_go (f' := (19, [.ref 28, .int (nI 0)], [.int ((seekN (goodN n nb 0) (weightN n wt) false (2 ^ n)).1)], MW A B (upF F 8 (seekN (goodN n nb 0) (weightN n wt) false (2 ^ n)).2) sw, 0, 0)) 1 rfl ?_
  exact wp_iret rfl
theorem ev_which0 (hM : MI A F n nb) {wt : Nat → Nat} (hw : MWt A wt) : mv_Ev xs Ls 5 136 [.ref 28, .int (nI 0)] (MW A B F sw) (some (.int ((seekN (goodN n nb 0) (weightN n wt) false (2 ^ n)).2)), MW A B (upF F 8 (seekN (goodN n nb 0) (weightN n wt) false (2 ^ n)).2) sw, 0, 0) := by
  refine ev_of_wp rfl rfl rfl ?_
  refine wp_go (f' := (3, [.ref 28, .int (nI 0)], [.int (nI 4), .int (nI 0), .int (nI 0)], MW A B F sw, 0, 0)) 3 rfl ?_
  refine wp_call rfl rfl rfl (ev_up (ev_isIn (nI 0) (nI 0) (nI 4) _) (by decide)) ?_
  refine wp_eq (f' := (6, [.ref 28, .int (nI 0)], [.int (bI (decide ((nI 0) ≤ (nI 0)) && decide ((nI 0) ≤ (nI 4))))], MW A B F sw, 0, 0)) rfl ?_
  refine wp_go (f' := ((if ¬ (bI (decide ((nI 0) ≤ (nI 0)) && decide ((nI 0) ≤ (nI 4)))) = 0 then 12 else 9), [.ref 28, .int (nI 0)], [], MW A B F sw, 0, 0)) 1 rfl ?_
  refine wp_ite (fun _ => ?_) (fun h9 => absurd (by decide : ¬ bI (decide ((nI 0) ≤ (nI 0)) && decide ((nI 0) ≤ (nI 4))) = 0) h9)
  refine wp_go (f' := (14, [.ref 28, .int (nI 0)], [.int (nI 0), .ref 28], MW A B F sw, 0, 0)) 2 rfl ?_
  refine wp_call rfl rfl rfl (ev_up (ev_seek0 hM hw) (by decide)) ?_
  refine wp_eq (f' := (17, [.ref 28, .int (nI 0)], [.int ((seekN (goodN n nb 0) (weightN n wt) false (2 ^ n)).1)], MW A B (upF F 8 (seekN (goodN n nb 0) (weightN n wt) false (2 ^ n)).2) sw, 0, 0)) rfl ?_
  refine wp_go (f' := (22, [.ref 28, .int (nI 0)], [.int ((seekN (goodN n nb 0) (weightN n wt) false (2 ^ n)).2)], MW A B (upF F 8 (seekN (goodN n nb 0) (weightN n wt) false (2 ^ n)).2) sw, 0, 0)) 3 rfl ?_
  exact wp_iret rfl
theorem ev_seek1 (hM : MI A F n nb) {wt : Nat → Nat} (hw : MWt A wt) : mv_Ev xs Ls 4 132 [.ref 28, .int (nI 1)] (MW A B F sw) (some (.int ((seekN (goodN n nb 1) (weightN n wt) true (2 ^ n)).1)), MW A B (upF F 8 (seekN (goodN n nb 1) (weightN n wt) true (2 ^ n)).2) sw, 0, 0) := by
  refine ev_of_wp rfl rfl rfl ?_
  have hn := hM.1
  have hp := pow10 hn
  have hp1 : 1 ≤ 2 ^ n := Nat.one_le_two_pow
  have hal := all_lt hn
  refine wp_go (f' := ((if (nI 1) = (nI 1) then 10 else 5), [.ref 28, .int (nI 1), .retAddr 0, .retAddr 0, .retAddr 0, .retAddr 0], [], MW A B F sw, 0, 0)) 3 rfl ?_
  refine wp_ite (fun _ => ?_) (fun h9 => absurd (rfl : nI 1 = nI 1) h9)
  refine wp_go (f' := (26, [.ref 28, .int (nI 1), .int (nI 1), .int (-1), .int (nI 0), .retAddr 0], [], MW A B (upF F 8 (-1)) sw, 0, 0)) 10 rfl ?_
  refine for_ind (P := fun (k : Nat) (q : Int32 × Int32) => ∀ (d5 : Value), mv_Wp xs Ls 3 6 false (some .int) mv_c132 (26, [.ref 28, .int (nI 1), .int (nI 1), .int q.1, .int (nI k), d5], [], MW A B (upF F 8 q.2) sw, 0, 0) (some (.int ((seekN (goodN n nb 1) (weightN n wt) true (2 ^ n)).1)), MW A B (upF F 8 (seekN (goodN n nb 1) (weightN n wt) true (2 ^ n)).2) sw, 0, 0)) (f := fun k q => if goodN n nb 1 k = true ∧ (q.2 = -1 ∨ (if true = true then nI (weightN n wt k) < q.1 else q.1 < nI (weightN n wt k))) then (nI (weightN n wt k), nI k) else q) (n := (2 ^ n)) ?_ (2 ^ n) ((-1 : Int32), (-1 : Int32)) (Nat.le_refl _) ?_  (.retAddr 0)
  · intro k q hk ih  d5
    have hM := (show MI A (upF F 8 q.2) n nb from hM)
    refine wp_go (f' := (29, [.ref 28, .int (nI 1), .int (nI 1), .int q.1, .int (nI k), d5], [.ref 28, .int (nI k)], MW A B (upF F 8 q.2) sw, 0, 0)) 2 rfl ?_
    refine wp_call rfl rfl rfl (ev_up (ev_all hM) (by decide)) ?_
    refine wp_eq (f' := (32, [.ref 28, .int (nI 1), .int (nI 1), .int q.1, .int (nI k), d5], [.int (nI (2 ^ n - 1)), .int (nI k)], MW A B (upF F 8 q.2) sw, 0, 0)) rfl ?_
    refine wp_go (f' := ((if (nI (2 ^ n - 1)) < (nI k) then 95 else 35), [.ref 28, .int (nI 1), .int (nI 1), .int q.1, .int (nI k), d5], [], MW A B (upF F 8 q.2) sw, 0, 0)) 1 rfl ?_
    refine wp_ite (fun h9 => absurd h9 (nI_nlt (by omega) (by omega))) (fun _ => ?_)
    refine wp_go (f' := (39, [.ref 28, .int (nI 1), .int (nI 1), .int q.1, .int (nI k), d5], [.int (nI k), .int (nI 1), .ref 28], MW A B (upF F 8 q.2) sw, 0, 0)) 3 rfl ?_
    refine wp_call rfl rfl rfl (ev_up (ev_isGood1 hM (s := k) (by omega)) (by decide)) ?_
    refine wp_eq (f' := (42, [.ref 28, .int (nI 1), .int (nI 1), .int q.1, .int (nI k), d5], [.int (bI (goodN n nb 1 k))], MW A B (upF F 8 q.2) sw, 0, 0)) rfl ?_
    refine wp_go (f' := ((if (bI (goodN n nb 1 k)) = 0 then 89 else 45), [.ref 28, .int (nI 1), .int (nI 1), .int q.1, .int (nI k), d5], [], MW A B (upF F 8 q.2) sw, 0, 0)) 1 rfl ?_
    refine wp_ite (fun h1 => ?_) (fun h1 => ?_)
    · have h1 := bI_0.mp h1
      refine wp_go (f' := (92, [.ref 28, .int (nI 1), .int (nI 1), .int q.1, .int ((nI k) + 1), d5], [], MW A B (upF F 8 q.2) sw, 0, 0)) 1 rfl ?_
      rw [nI_1]
      refine wp_go (f' := (26, [.ref 28, .int (nI 1), .int (nI 1), .int q.1, .int (nI (k + 1)), d5], [], MW A B (upF F 8 q.2) sw, 0, 0)) 1 rfl ?_
      refine wp_eq ?_ (ih d5)
      simp [h1]
    · have h1 := bI_n0 h1
      refine wp_go (f' := (48, [.ref 28, .int (nI 1), .int (nI 1), .int q.1, .int (nI k), d5], [.int (nI k), .ref 28], MW A B (upF F 8 q.2) sw, 0, 0)) 2 rfl ?_
      refine wp_call rfl rfl rfl (ev_up (ev_weightOf hM (s := k) (by omega) hw) (by decide)) ?_
      refine wp_eq (f' := (51, [.ref 28, .int (nI 1), .int (nI 1), .int q.1, .int (nI k), d5], [.int (nI (weightN n wt k))], MW A B (upF F 8 q.2) sw, 0, 0)) rfl ?_
      refine wp_go (f' := ((if q.2 = (-1) then 80 else 61), [.ref 28, .int (nI 1), .int (nI 1), .int q.1, .int (nI k), .int (nI (weightN n wt k))], [], MW A B (upF F 8 q.2) sw, 0, 0)) 5 rfl ?_
      refine wp_ite (fun h2 => ?_) (fun h2 => ?_)
      · skip
        refine wp_go (f' := (92, [.ref 28, .int (nI 1), .int (nI 1), .int (nI (weightN n wt k)), .int ((nI k) + 1), .int (nI (weightN n wt k))], [], MW A B (upF F 8 (nI k)) sw, 0, 0)) 6 rfl ?_
        rw [nI_1]
        refine wp_go (f' := (26, [.ref 28, .int (nI 1), .int (nI 1), .int (nI (weightN n wt k)), .int (nI (k + 1)), .int (nI (weightN n wt k))], [], MW A B (upF F 8 (nI k)) sw, 0, 0)) 1 rfl ?_
        refine wp_eq ?_ (ih (.int (nI (weightN n wt k))))
        simp [h1, h2]
      · skip
        refine wp_go (f' := ((if (nI 1) = 0 then 74 else 65), [.ref 28, .int (nI 1), .int (nI 1), .int q.1, .int (nI k), .int (nI (weightN n wt k))], [], MW A B (upF F 8 q.2) sw, 0, 0)) 2 rfl ?_
        refine wp_ite (fun h9 => absurd h9 (by decide : ¬ nI 1 = 0)) (fun _ => ?_)
        refine wp_go (f' := ((if q.1 ≤ (nI (weightN n wt k)) then 89 else 71), [.ref 28, .int (nI 1), .int (nI 1), .int q.1, .int (nI k), .int (nI (weightN n wt k))], [], MW A B (upF F 8 q.2) sw, 0, 0)) 3 rfl ?_
        refine wp_ite (fun h3 => ?_) (fun h3 => ?_)
        · skip
          refine wp_go (f' := (92, [.ref 28, .int (nI 1), .int (nI 1), .int q.1, .int ((nI k) + 1), .int (nI (weightN n wt k))], [], MW A B (upF F 8 q.2) sw, 0, 0)) 1 rfl ?_
          rw [nI_1]
          refine wp_go (f' := (26, [.ref 28, .int (nI 1), .int (nI 1), .int q.1, .int (nI (k + 1)), .int (nI (weightN n wt k))], [], MW A B (upF F 8 q.2) sw, 0, 0)) 1 rfl ?_
          refine wp_eq ?_ (ih (.int (nI (weightN n wt k))))
          simp [h1, h2, Int32.not_lt.mpr h3]
        · skip
          refine wp_go (f' := (92, [.ref 28, .int (nI 1), .int (nI 1), .int (nI (weightN n wt k)), .int ((nI k) + 1), .int (nI (weightN n wt k))], [], MW A B (upF F 8 (nI k)) sw, 0, 0)) 7 rfl ?_
          rw [nI_1]
          refine wp_go (f' := (26, [.ref 28, .int (nI 1), .int (nI 1), .int (nI (weightN n wt k)), .int (nI (k + 1)), .int (nI (weightN n wt k))], [], MW A B (upF F 8 (nI k)) sw, 0, 0)) 1 rfl ?_
          refine wp_eq ?_ (ih (.int (nI (weightN n wt k))))
          simp [h1, h2, Int32.not_le.mp h3]
  · intro  d5
    have hM := (show MI A (upF F 8 (seekN (goodN n nb 1) (weightN n wt) true (2 ^ n)).2) n nb from hM)
    refine wp_go (f' := (29, [.ref 28, .int (nI 1), .int (nI 1), .int ((seekN (goodN n nb 1) (weightN n wt) true (2 ^ n)).1), .int (nI (2 ^ n)), d5], [.ref 28, .int (nI (2 ^ n))], MW A B (upF F 8 (seekN (goodN n nb 1) (weightN n wt) true (2 ^ n)).2) sw, 0, 0)) 2 rfl ?_
    refine wp_call rfl rfl rfl (ev_up (ev_all hM) (by decide)) ?_
    refine wp_eq (f' := (32, [.ref 28, .int (nI 1), .int (nI 1), .int ((seekN (goodN n nb 1) (weightN n wt) true (2 ^ n)).1), .int (nI (2 ^ n)), d5], [.int (nI (2 ^ n - 1)), .int (nI (2 ^ n))], MW A B (upF F 8 (seekN (goodN n nb 1) (weightN n wt) true (2 ^ n)).2) sw, 0, 0)) rfl ?_
    refine wp_go (f' := ((if (nI (2 ^ n - 1)) < (nI (2 ^ n)) then 95 else 35), [.ref 28, .int (nI 1), .int (nI 1), .int ((seekN (goodN n nb 1) (weightN n wt) true (2 ^ n)).1), .int (nI (2 ^ n)), d5], [], MW A B (upF F 8 (seekN (goodN n nb 1) (weightN n wt) true (2 ^ n)).2) sw, 0, 0)) 1 rfl ?_
    refine wp_ite (fun _ => ?_) (fun h9 => absurd (nI_lt (by omega) (by omega)) h9)
    refine wp_go (f' := (96, [.ref 28, .int (nI 1), .int (nI 1), .int ((seekN (goodN n nb 1) (weightN n wt) true (2 ^ n)).1), .int (nI (2 ^ n)), d5], [.int ((seekN (goodN n nb 1) (weightN n wt) true (2 ^ n)).1)], MW A B (upF F 8 (seekN (goodN n nb 1) (weightN n wt) true (2 ^ n)).2) sw, 0, 0)) 1 rfl ?_
    exact wp_iret rfl
theorem ev_best1 (hM : MI A F n nb) {wt : Nat → Nat} (hw : MWt A wt) : mv_Ev xs Ls 5 131 [.ref 28, .int (nI 1)] (MW A B F sw) (some (.int ((seekN (goodN n nb 1) (weightN n wt) true (2 ^ n)).1)), MW A B (upF F 8 (seekN (goodN n nb 1) (weightN n wt) true (2 ^ n)).2) sw, 0, 0) := by
  refine ev_of_wp rfl rfl rfl ?_
  refine wp_go (f' := (3, [.ref 28, .int (nI 1)], [.int (nI 4), .int (nI 0), .int (nI 1)], MW A B F sw, 0, 0)) 3 rfl ?_
  refine wp_call rfl rfl rfl (ev_up (ev_isIn (nI 1) (nI 0) (nI 4) _) (by decide)) ?_
  refine wp_eq (f' := (6, [.ref 28, .int (nI 1)], [.int (bI (decide ((nI 0) ≤ (nI 1)) && decide ((nI 1) ≤ (nI 4))))], MW A B F sw, 0, 0)) rfl ?_
  refine wp_go (f' := ((if (bI (decide ((nI 0) ≤ (nI 1)) && decide ((nI 1) ≤ (nI 4)))) = 0 then 17 else 9), [.ref 28, .int (nI 1)], [], MW A B F sw, 0, 0)) 1 rfl ?_
  refine wp_ite (fun h9 => absurd h9 (by decide : ¬ bI (decide ((nI 0) ≤ (nI 1)) && decide ((nI 1) ≤ (nI 4))) = 0)) (fun _ => ?_)
  refine wp_go (f' := (11, [.ref 28, .int (nI 1)], [.int (nI 1), .ref 28], MW A B F sw, 0, 0)) 2 rfl ?_
  refine wp_call rfl rfl rfl (ev_up (ev_seek1 hM hw) (by decide)) ?_
  refine wp_eq (f' := (14, [.ref 28, .int (nI 1)], [.int ((seekN (goodN n nb 1) (weightN n wt) true (2 ^ n)).1)], MW A B (upF F 8 (seekN (goodN n nb 1) (weightN n wt) true (2 ^ n)).2) sw, 0, 0)) rfl ?_
  refine wp_go (f' := (19, [.ref 28, .int (nI 1)], [.int ((seekN (goodN n nb 1) (weightN n wt) true (2 ^ n)).1)], MW A B (upF F 8 (seekN (goodN n nb 1) (weightN n wt) true (2 ^ n)).2) sw, 0, 0)) 1 rfl ?_
  exact wp_iret rfl
theorem ev_which1 (hM : MI A F n nb) {wt : Nat → Nat} (hw : MWt A wt) : mv_Ev xs Ls 5 136 [.ref 28, .int (nI 1)] (MW A B F sw) (some (.int ((seekN (goodN n nb 1) (weightN n wt) true (2 ^ n)).2)), MW A B (upF F 8 (seekN (goodN n nb 1) (weightN n wt) true (2 ^ n)).2) sw, 0, 0) := by
  refine ev_of_wp rfl rfl rfl ?_
  refine wp_go (f' := (3, [.ref 28, .int (nI 1)], [.int (nI 4), .int (nI 0), .int (nI 1)], MW A B F sw, 0, 0)) 3 rfl ?_
  refine wp_call rfl rfl rfl (ev_up (ev_isIn (nI 1) (nI 0) (nI 4) _) (by decide)) ?_
  refine wp_eq (f' := (6, [.ref 28, .int (nI 1)], [.int (bI (decide ((nI 0) ≤ (nI 1)) && decide ((nI 1) ≤ (nI 4))))], MW A B F sw, 0, 0)) rfl ?_
  refine wp_go (f' := ((if ¬ (bI (decide ((nI 0) ≤ (nI 1)) && decide ((nI 1) ≤ (nI 4)))) = 0 then 12 else 9), [.ref 28, .int (nI 1)], [], MW A B F sw, 0, 0)) 1 rfl ?_
  refine wp_ite (fun _ => ?_) (fun h9 => absurd (by decide : ¬ bI (decide ((nI 0) ≤ (nI 1)) && decide ((nI 1) ≤ (nI 4))) = 0) h9)
  refine wp_go (f' := (14, [.ref 28, .int (nI 1)], [.int (nI 1), .ref 28], MW A B F sw, 0, 0)) 2 rfl ?_
  refine wp_call rfl rfl rfl (ev_up (ev_seek1 hM hw) (by decide)) ?_
  refine wp_eq (f' := (17, [.ref 28, .int (nI 1)], [.int ((seekN (goodN n nb 1) (weightN n wt) true (2 ^ n)).1)], MW A B (upF F 8 (seekN (goodN n nb 1) (weightN n wt) true (2 ^ n)).2) sw, 0, 0)) rfl ?_
  refine wp_go (f' := (22, [.ref 28, .int (nI 1)], [.int ((seekN (goodN n nb 1) (weightN n wt) true (2 ^ n)).2)], MW A B (upF F 8 (seekN (goodN n nb 1) (weightN n wt) true (2 ^ n)).2) sw, 0, 0)) 3 rfl ?_
  exact wp_iret rfl
theorem ev_seek2 (hM : MI A F n nb) {wt : Nat → Nat} (hw : MWt A wt) : mv_Ev xs Ls 4 132 [.ref 28, .int (nI 2)] (MW A B F sw) (some (.int ((seekN (goodN n nb 2) (weightN n wt) true (2 ^ n)).1)), MW A B (upF F 8 (seekN (goodN n nb 2) (weightN n wt) true (2 ^ n)).2) sw, 0, 0) := by
  refine ev_of_wp rfl rfl rfl ?_
  have hn := hM.1
  have hp := pow10 hn
  have hp1 : 1 ≤ 2 ^ n := Nat.one_le_two_pow
  have hal := all_lt hn
  refine wp_go (f' := ((if (nI 2) = (nI 1) then 10 else 5), [.ref 28, .int (nI 2), .retAddr 0, .retAddr 0, .retAddr 0, .retAddr 0], [], MW A B F sw, 0, 0)) 3 rfl ?_
  refine wp_ite (fun h9 => absurd h9 (by decide : ¬ nI 2 = nI 1)) (fun _ => ?_)
  refine wp_go (f' := ((if ¬ (nI 2) = (nI 2) then 14 else 10), [.ref 28, .int (nI 2), .retAddr 0, .retAddr 0, .retAddr 0, .retAddr 0], [], MW A B F sw, 0, 0)) 3 rfl ?_
  refine wp_ite (fun h9 => absurd h9 (by decide : ¬ ¬ nI 2 = nI 2)) (fun _ => ?_)
  refine wp_go (f' := (26, [.ref 28, .int (nI 2), .int (nI 1), .int (-1), .int (nI 0), .retAddr 0], [], MW A B (upF F 8 (-1)) sw, 0, 0)) 10 rfl ?_
  refine for_ind (P := fun (k : Nat) (q : Int32 × Int32) => ∀ (d5 : Value), mv_Wp xs Ls 3 6 false (some .int) mv_c132 (26, [.ref 28, .int (nI 2), .int (nI 1), .int q.1, .int (nI k), d5], [], MW A B (upF F 8 q.2) sw, 0, 0) (some (.int ((seekN (goodN n nb 2) (weightN n wt) true (2 ^ n)).1)), MW A B (upF F 8 (seekN (goodN n nb 2) (weightN n wt) true (2 ^ n)).2) sw, 0, 0)) (f := fun k q => if goodN n nb 2 k = true ∧ (q.2 = -1 ∨ (if true = true then nI (weightN n wt k) < q.1 else q.1 < nI (weightN n wt k))) then (nI (weightN n wt k), nI k) else q) (n := (2 ^ n)) ?_ (2 ^ n) ((-1 : Int32), (-1 : Int32)) (Nat.le_refl _) ?_  (.retAddr 0)
  · intro k q hk ih  d5
    have hM := (show MI A (upF F 8 q.2) n nb from hM)
    refine wp_go (f' := (29, [.ref 28, .int (nI 2), .int (nI 1), .int q.1, .int (nI k), d5], [.ref 28, .int (nI k)], MW A B (upF F 8 q.2) sw, 0, 0)) 2 rfl ?_
    refine wp_call rfl rfl rfl (ev_up (ev_all hM) (by decide)) ?_
    refine wp_eq (f' := (32, [.ref 28, .int (nI 2), .int (nI 1), .int q.1, .int (nI k), d5], [.int (nI (2 ^ n - 1)), .int (nI k)], MW A B (upF F 8 q.2) sw, 0, 0)) rfl ?_
    refine wp_go (f' := ((if (nI (2 ^ n - 1)) < (nI k) then 95 else 35), [.ref 28, .int (nI 2), .int (nI 1), .int q.1, .int (nI k), d5], [], MW A B (upF F 8 q.2) sw, 0, 0)) 1 rfl ?_
    refine wp_ite (fun h9 => absurd h9 (nI_nlt (by omega) (by omega))) (fun _ => ?_)
    refine wp_go (f' := (39, [.ref 28, .int (nI 2), .int (nI 1), .int q.1, .int (nI k), d5], [.int (nI k), .int (nI 2), .ref 28], MW A B (upF F 8 q.2) sw, 0, 0)) 3 rfl ?_
    refine wp_call rfl rfl rfl (ev_up (ev_isGood2 hM (s := k) (by omega)) (by decide)) ?_
    refine wp_eq (f' := (42, [.ref 28, .int (nI 2), .int (nI 1), .int q.1, .int (nI k), d5], [.int (bI (goodN n nb 2 k))], MW A B (upF F 8 q.2) sw, 0, 0)) rfl ?_
    refine wp_go (f' := ((if (bI (goodN n nb 2 k)) = 0 then 89 else 45), [.ref 28, .int (nI 2), .int (nI 1), .int q.1, .int (nI k), d5], [], MW A B (upF F 8 q.2) sw, 0, 0)) 1 rfl ?_
    refine wp_ite (fun h1 => ?_) (fun h1 => ?_)
    · have h1 := bI_0.mp h1
      refine wp_go (f' := (92, [.ref 28, .int (nI 2), .int (nI 1), .int q.1, .int ((nI k) + 1), d5], [], MW A B (upF F 8 q.2) sw, 0, 0)) 1 rfl ?_
      rw [nI_1]
      refine wp_go (f' := (26, [.ref 28, .int (nI 2), .int (nI 1), .int q.1, .int (nI (k + 1)), d5], [], MW A B (upF F 8 q.2) sw, 0, 0)) 1 rfl ?_
      refine wp_eq ?_ (ih d5)
      simp [h1]
    · have h1 := bI_n0 h1
      refine wp_go (f' := (48, [.ref 28, .int (nI 2), .int (nI 1), .int q.1, .int (nI k), d5], [.int (nI k), .ref 28], MW A B (upF F 8 q.2) sw, 0, 0)) 2 rfl ?_
      refine wp_call rfl rfl rfl (ev_up (ev_weightOf hM (s := k) (by omega) hw) (by decide)) ?_
      refine wp_eq (f' := (51, [.ref 28, .int (nI 2), .int (nI 1), .int q.1, .int (nI k), d5], [.int (nI (weightN n wt k))], MW A B (upF F 8 q.2) sw, 0, 0)) rfl ?_
      refine wp_go (f' := ((if q.2 = (-1) then 80 else 61), [.ref 28, .int (nI 2), .int (nI 1), .int q.1, .int (nI k), .int (nI (weightN n wt k))], [], MW A B (upF F 8 q.2) sw, 0, 0)) 5 rfl ?_
      refine wp_ite (fun h2 => ?_) (fun h2 => ?_)
      · skip
        refine wp_go (f' := (92, [.ref 28, .int (nI 2), .int (nI 1), .int (nI (weightN n wt k)), .int ((nI k) + 1), .int (nI (weightN n wt k))], [], MW A B (upF F 8 (nI k)) sw, 0, 0)) 6 rfl ?_
        rw [nI_1]
        refine wp_go (f' := (26, [.ref 28, .int (nI 2), .int (nI 1), .int (nI (weightN n wt k)), .int (nI (k + 1)), .int (nI (weightN n wt k))], [], MW A B (upF F 8 (nI k)) sw, 0, 0)) 1 rfl ?_
        refine wp_eq ?_ (ih (.int (nI (weightN n wt k))))
        simp [h1, h2]
      · skip
        refine wp_go (f' := ((if (nI 1) = 0 then 74 else 65), [.ref 28, .int (nI 2), .int (nI 1), .int q.1, .int (nI k), .int (nI (weightN n wt k))], [], MW A B (upF F 8 q.2) sw, 0, 0)) 2 rfl ?_
        refine wp_ite (fun h9 => absurd h9 (by decide : ¬ nI 1 = 0)) (fun _ => ?_)
        refine wp_go (f' := ((if q.1 ≤ (nI (weightN n wt k)) then 89 else 71), [.ref 28, .int (nI 2), .int (nI 1), .int q.1, .int (nI k), .int (nI (weightN n wt k))], [], MW A B (upF F 8 q.2) sw, 0, 0)) 3 rfl ?_
        refine wp_ite (fun h3 => ?_) (fun h3 => ?_)
        · skip
          refine wp_go (f' := (92, [.ref 28, .int (nI 2), .int (nI 1), .int q.1, .int ((nI k) + 1), .int (nI (weightN n wt k))], [], MW A B (upF F 8 q.2) sw, 0, 0)) 1 rfl ?_
          rw [nI_1]
          refine wp_go (f' := (26, [.ref 28, .int (nI 2), .int (nI 1), .int q.1, .int (nI (k + 1)), .int (nI (weightN n wt k))], [], MW A B (upF F 8 q.2) sw, 0, 0)) 1 rfl ?_
          refine wp_eq ?_ (ih (.int (nI (weightN n wt k))))
          simp [h1, h2, Int32.not_lt.mpr h3]
        · skip
          refine wp_go (f' := (92, [.ref 28, .int (nI 2), .int (nI 1), .int (nI (weightN n wt k)), .int ((nI k) + 1), .int (nI (weightN n wt k))], [], MW A B (upF F 8 (nI k)) sw, 0, 0)) 7 rfl ?_
          rw [nI_1]
          refine wp_go (f' := (26, [.ref 28, .int (nI 2), .int (nI 1), .int (nI (weightN n wt k)), .int (nI (k + 1)), .int (nI (weightN n wt k))], [], MW A B (upF F 8 (nI k)) sw, 0, 0)) 1 rfl ?_
          refine wp_eq ?_ (ih (.int (nI (weightN n wt k))))
          simp [h1, h2, Int32.not_le.mp h3]
  · intro  d5
    have hM := (show MI A (upF F 8 (seekN (goodN n nb 2) (weightN n wt) true (2 ^ n)).2) n nb from hM)
    refine wp_go (f' := (29, [.ref 28, .int (nI 2), .int (nI 1), .int ((seekN (goodN n nb 2) (weightN n wt) true (2 ^ n)).1), .int (nI (2 ^ n)), d5], [.ref 28, .int (nI (2 ^ n))], MW A B (upF F 8 (seekN (goodN n nb 2) (weightN n wt) true (2 ^ n)).2) sw, 0, 0)) 2 rfl ?_
    refine wp_call rfl rfl rfl (ev_up (ev_all hM) (by decide)) ?_
    refine wp_eq (f' := (32, [.ref 28, .int (nI 2), .int (nI 1), .int ((seekN (goodN n nb 2) (weightN n wt) true (2 ^ n)).1), .int (nI (2 ^ n)), d5], [.int (nI (2 ^ n - 1)), .int (nI (2 ^ n))], MW A B (upF F 8 (seekN (goodN n nb 2) (weightN n wt) true (2 ^ n)).2) sw, 0, 0)) rfl ?_
    refine wp_go (f' := ((if (nI (2 ^ n - 1)) < (nI (2 ^ n)) then 95 else 35), [.ref 28, .int (nI 2), .int (nI 1), .int ((seekN (goodN n nb 2) (weightN n wt) true (2 ^ n)).1), .int (nI (2 ^ n)), d5], [], MW A B (upF F 8 (seekN (goodN n nb 2) (weightN n wt) true (2 ^ n)).2) sw, 0, 0)) 1 rfl ?_
    refine wp_ite (fun _ => ?_) (fun h9 => absurd (nI_lt (by omega) (by omega)) h9)
    refine wp_go (f' := (96, [.ref 28, .int (nI 2), .int (nI 1), .int ((seekN (goodN n nb 2) (weightN n wt) true (2 ^ n)).1), .int (nI (2 ^ n)), d5], [.int ((seekN (goodN n nb 2) (weightN n wt) true (2 ^ n)).1)], MW A B (upF F 8 (seekN (goodN n nb 2) (weightN n wt) true (2 ^ n)).2) sw, 0, 0)) 1 rfl ?_
    exact wp_iret rfl
theorem ev_best2 (hM : MI A F n nb) {wt : Nat → Nat} (hw : MWt A wt) : mv_Ev xs Ls 5 131 [.ref 28, .int (nI 2)] (MW A B F sw) (some (.int ((seekN (goodN n nb 2) (weightN n wt) true (2 ^ n)).1)), MW A B (upF F 8 (seekN (goodN n nb 2) (weightN n wt) true (2 ^ n)).2) sw, 0, 0) := by
  refine ev_of_wp rfl rfl rfl ?_
  refine wp_go (f' := (3, [.ref 28, .int (nI 2)], [.int (nI 4), .int (nI 0), .int (nI 2)], MW A B F sw, 0, 0)) 3 rfl ?_
  refine wp_call rfl rfl rfl (ev_up (ev_isIn (nI 2) (nI 0) (nI 4) _) (by decide)) ?_
  refine wp_eq (f' := (6, [.ref 28, .int (nI 2)], [.int (bI (decide ((nI 0) ≤ (nI 2)) && decide ((nI 2) ≤ (nI 4))))], MW A B F sw, 0, 0)) rfl ?_
  refine wp_go (f' := ((if (bI (decide ((nI 0) ≤ (nI 2)) && decide ((nI 2) ≤ (nI 4)))) = 0 then 17 else 9), [.ref 28, .int (nI 2)], [], MW A B F sw, 0, 0)) 1 rfl ?_
  refine wp_ite (fun h9 => absurd h9 (by decide : ¬ bI (decide ((nI 0) ≤ (nI 2)) && decide ((nI 2) ≤ (nI 4))) = 0)) (fun _ => ?_)
  refine wp_go (f' := (11, [.ref 28, .int (nI 2)], [.int (nI 2), .ref 28], MW A B F sw, 0, 0)) 2 rfl ?_
  refine wp_call rfl rfl rfl (ev_up (ev_seek2 hM hw) (by decide)) ?_
  refine wp_eq (f' := (14, [.ref 28, .int (nI 2)], [.int ((seekN (goodN n nb 2) (weightN n wt) true (2 ^ n)).1)], MW A B (upF F 8 (seekN (goodN n nb 2) (weightN n wt) true (2 ^ n)).2) sw, 0, 0)) rfl ?_
  refine wp_go (f' := (19, [.ref 28, .int (nI 2)], [.int ((seekN (goodN n nb 2) (weightN n wt) true (2 ^ n)).1)], MW A B (upF F 8 (seekN (goodN n nb 2) (weightN n wt) true (2 ^ n)).2) sw, 0, 0)) 1 rfl ?_
  exact wp_iret rfl
theorem ev_which2 (hM : MI A F n nb) {wt : Nat → Nat} (hw : MWt A wt) : mv_Ev xs Ls 5 136 [.ref 28, .int (nI 2)] (MW A B F sw) (some (.int ((seekN (goodN n nb 2) (weightN n wt) true (2 ^ n)).2)), MW A B (upF F 8 (seekN (goodN n nb 2) (weightN n wt) true (2 ^ n)).2) sw, 0, 0) := by
  refine ev_of_wp rfl rfl rfl ?_
  refine wp_go (f' := (3, [.ref 28, .int (nI 2)], [.int (nI 4), .int (nI 0), .int (nI 2)], MW A B F sw, 0, 0)) 3 rfl ?_
  refine wp_call rfl rfl rfl (ev_up (ev_isIn (nI 2) (nI 0) (nI 4) _) (by decide)) ?_
  refine wp_eq (f' := (6, [.ref 28, .int (nI 2)], [.int (bI (decide ((nI 0) ≤ (nI 2)) && decide ((nI 2) ≤ (nI 4))))], MW A B F sw, 0, 0)) rfl ?_
  refine wp_go (f' := ((if ¬ (bI (decide ((nI 0) ≤ (nI 2)) && decide ((nI 2) ≤ (nI 4)))) = 0 then 12 else 9), [.ref 28, .int (nI 2)], [], MW A B F sw, 0, 0)) 1 rfl ?_
  refine wp_ite (fun _ => ?_) (fun h9 => absurd (by decide : ¬ bI (decide ((nI 0) ≤ (nI 2)) && decide ((nI 2) ≤ (nI 4))) = 0) h9)
  refine wp_go (f' := (14, [.ref 28, .int (nI 2)], [.int (nI 2), .ref 28], MW A B F sw, 0, 0)) 2 rfl ?_
  refine wp_call rfl rfl rfl (ev_up (ev_seek2 hM hw) (by decide)) ?_
  refine wp_eq (f' := (17, [.ref 28, .int (nI 2)], [.int ((seekN (goodN n nb 2) (weightN n wt) true (2 ^ n)).1)], MW A B (upF F 8 (seekN (goodN n nb 2) (weightN n wt) true (2 ^ n)).2) sw, 0, 0)) rfl ?_
  refine wp_go (f' := (22, [.ref 28, .int (nI 2)], [.int ((seekN (goodN n nb 2) (weightN n wt) true (2 ^ n)).2)], MW A B (upF F 8 (seekN (goodN n nb 2) (weightN n wt) true (2 ^ n)).2) sw, 0, 0)) 3 rfl ?_
  exact wp_iret rfl
theorem ev_seek3 (hM : MI A F n nb) {wt : Nat → Nat} (hw : MWt A wt) : mv_Ev xs Ls 4 132 [.ref 28, .int (nI 3)] (MW A B F sw) (some (.int ((seekN (goodN n nb 3) (weightN n wt) false (2 ^ n)).1)), MW A B (upF F 8 (seekN (goodN n nb 3) (weightN n wt) false (2 ^ n)).2) sw, 0, 0) := by
  refine ev_of_wp rfl rfl rfl ?_
  have hn := hM.1
  have hp := pow10 hn
  have hp1 : 1 ≤ 2 ^ n := Nat.one_le_two_pow
  have hal := all_lt hn
  refine wp_go (f' := ((if (nI 3) = (nI 1) then 10 else 5), [.ref 28, .int (nI 3), .retAddr 0, .retAddr 0, .retAddr 0, .retAddr 0], [], MW A B F sw, 0, 0)) 3 rfl ?_
  refine wp_ite (fun h9 => absurd h9 (by decide : ¬ nI 3 = nI 1)) (fun _ => ?_)
  refine wp_go (f' := ((if ¬ (nI 3) = (nI 2) then 14 else 10), [.ref 28, .int (nI 3), .retAddr 0, .retAddr 0, .retAddr 0, .retAddr 0], [], MW A B F sw, 0, 0)) 3 rfl ?_
  refine wp_ite (fun _ => ?_) (fun h9 => absurd (by decide : ¬ nI 3 = nI 2) h9)
  refine wp_go (f' := (26, [.ref 28, .int (nI 3), .int (nI 0), .int (-1), .int (nI 0), .retAddr 0], [], MW A B (upF F 8 (-1)) sw, 0, 0)) 9 rfl ?_
  refine for_ind (P := fun (k : Nat) (q : Int32 × Int32) => ∀ (d5 : Value), mv_Wp xs Ls 3 6 false (some .int) mv_c132 (26, [.ref 28, .int (nI 3), .int (nI 0), .int q.1, .int (nI k), d5], [], MW A B (upF F 8 q.2) sw, 0, 0) (some (.int ((seekN (goodN n nb 3) (weightN n wt) false (2 ^ n)).1)), MW A B (upF F 8 (seekN (goodN n nb 3) (weightN n wt) false (2 ^ n)).2) sw, 0, 0)) (f := fun k q => if goodN n nb 3 k = true ∧ (q.2 = -1 ∨ (if false = true then nI (weightN n wt k) < q.1 else q.1 < nI (weightN n wt k))) then (nI (weightN n wt k), nI k) else q) (n := (2 ^ n)) ?_ (2 ^ n) ((-1 : Int32), (-1 : Int32)) (Nat.le_refl _) ?_  (.retAddr 0)
  · intro k q hk ih  d5
    have hM := (show MI A (upF F 8 q.2) n nb from hM)
    refine wp_go (f' := (29, [.ref 28, .int (nI 3), .int (nI 0), .int q.1, .int (nI k), d5], [.ref 28, .int (nI k)], MW A B (upF F 8 q.2) sw, 0, 0)) 2 rfl ?_
    refine wp_call rfl rfl rfl (ev_up (ev_all hM) (by decide)) ?_
    refine wp_eq (f' := (32, [.ref 28, .int (nI 3), .int (nI 0), .int q.1, .int (nI k), d5], [.int (nI (2 ^ n - 1)), .int (nI k)], MW A B (upF F 8 q.2) sw, 0, 0)) rfl ?_
    refine wp_go (f' := ((if (nI (2 ^ n - 1)) < (nI k) then 95 else 35), [.ref 28, .int (nI 3), .int (nI 0), .int q.1, .int (nI k), d5], [], MW A B (upF F 8 q.2) sw, 0, 0)) 1 rfl ?_
    refine wp_ite (fun h9 => absurd h9 (nI_nlt (by omega) (by omega))) (fun _ => ?_)
    refine wp_go (f' := (39, [.ref 28, .int (nI 3), .int (nI 0), .int q.1, .int (nI k), d5], [.int (nI k), .int (nI 3), .ref 28], MW A B (upF F 8 q.2) sw, 0, 0)) 3 rfl ?_
    refine wp_call rfl rfl rfl (ev_up (ev_isGood3 hM (s := k) (by omega)) (by decide)) ?_
    refine wp_eq (f' := (42, [.ref 28, .int (nI 3), .int (nI 0), .int q.1, .int (nI k), d5], [.int (bI (goodN n nb 3 k))], MW A B (upF F 8 q.2) sw, 0, 0)) rfl ?_
    refine wp_go (f' := ((if (bI (goodN n nb 3 k)) = 0 then 89 else 45), [.ref 28, .int (nI 3), .int (nI 0), .int q.1, .int (nI k), d5], [], MW A B (upF F 8 q.2) sw, 0, 0)) 1 rfl ?_
    refine wp_ite (fun h1 => ?_) (fun h1 => ?_)
    · have h1 := bI_0.mp h1
      refine wp_go (f' := (92, [.ref 28, .int (nI 3), .int (nI 0), .int q.1, .int ((nI k) + 1), d5], [], MW A B (upF F 8 q.2) sw, 0, 0)) 1 rfl ?_
      rw [nI_1]
      refine wp_go (f' := (26, [.ref 28, .int (nI 3), .int (nI 0), .int q.1, .int (nI (k + 1)), d5], [], MW A B (upF F 8 q.2) sw, 0, 0)) 1 rfl ?_
      refine wp_eq ?_ (ih d5)
      simp [h1]
    · have h1 := bI_n0 h1
      refine wp_go (f' := (48, [.ref 28, .int (nI 3), .int (nI 0), .int q.1, .int (nI k), d5], [.int (nI k), .ref 28], MW A B (upF F 8 q.2) sw, 0, 0)) 2 rfl ?_
      refine wp_call rfl rfl rfl (ev_up (ev_weightOf hM (s := k) (by omega) hw) (by decide)) ?_
      refine wp_eq (f' := (51, [.ref 28, .int (nI 3), .int (nI 0), .int q.1, .int (nI k), d5], [.int (nI (weightN n wt k))], MW A B (upF F 8 q.2) sw, 0, 0)) rfl ?_
      refine wp_go (f' := ((if q.2 = (-1) then 80 else 61), [.ref 28, .int (nI 3), .int (nI 0), .int q.1, .int (nI k), .int (nI (weightN n wt k))], [], MW A B (upF F 8 q.2) sw, 0, 0)) 5 rfl ?_
      refine wp_ite (fun h2 => ?_) (fun h2 => ?_)
      · skip
        refine wp_go (f' := (92, [.ref 28, .int (nI 3), .int (nI 0), .int (nI (weightN n wt k)), .int ((nI k) + 1), .int (nI (weightN n wt k))], [], MW A B (upF F 8 (nI k)) sw, 0, 0)) 6 rfl ?_
        rw [nI_1]
        refine wp_go (f' := (26, [.ref 28, .int (nI 3), .int (nI 0), .int (nI (weightN n wt k)), .int (nI (k + 1)), .int (nI (weightN n wt k))], [], MW A B (upF F 8 (nI k)) sw, 0, 0)) 1 rfl ?_
        refine wp_eq ?_ (ih (.int (nI (weightN n wt k))))
        simp [h1, h2]
      · skip
        refine wp_go (f' := ((if (nI 0) = 0 then 74 else 65), [.ref 28, .int (nI 3), .int (nI 0), .int q.1, .int (nI k), .int (nI (weightN n wt k))], [], MW A B (upF F 8 q.2) sw, 0, 0)) 2 rfl ?_
        refine wp_ite (fun _ => ?_) (fun h9 => absurd (rfl : nI 0 = 0) h9)
        refine wp_go (f' := ((if (nI (weightN n wt k)) ≤ q.1 then 89 else 80), [.ref 28, .int (nI 3), .int (nI 0), .int q.1, .int (nI k), .int (nI (weightN n wt k))], [], MW A B (upF F 8 q.2) sw, 0, 0)) 3 rfl ?_
        refine wp_ite (fun h3 => ?_) (fun h3 => ?_)
        · skip
          refine wp_go (f' := (92, [.ref 28, .int (nI 3), .int (nI 0), .int q.1, .int ((nI k) + 1), .int (nI (weightN n wt k))], [], MW A B (upF F 8 q.2) sw, 0, 0)) 1 rfl ?_
          rw [nI_1]
          refine wp_go (f' := (26, [.ref 28, .int (nI 3), .int (nI 0), .int q.1, .int (nI (k + 1)), .int (nI (weightN n wt k))], [], MW A B (upF F 8 q.2) sw, 0, 0)) 1 rfl ?_
          refine wp_eq ?_ (ih (.int (nI (weightN n wt k))))
          simp [h1, h2, Int32.not_lt.mpr h3]
        · skip
          refine wp_go (f' := (92, [.ref 28, .int (nI 3), .int (nI 0), .int (nI (weightN n wt k)), .int ((nI k) + 1), .int (nI (weightN n wt k))], [], MW A B (upF F 8 (nI k)) sw, 0, 0)) 6 rfl ?_
          rw [nI_1]
          refine wp_go (f' := (26, [.ref 28, .int (nI 3), .int (nI 0), .int (nI (weightN n wt k)), .int (nI (k + 1)), .int (nI (weightN n wt k))], [], MW A B (upF F 8 (nI k)) sw, 0, 0)) 1 rfl ?_
          refine wp_eq ?_ (ih (.int (nI (weightN n wt k))))
          simp [h1, h2, Int32.not_le.mp h3]
  · intro  d5
    have hM := (show MI A (upF F 8 (seekN (goodN n nb 3) (weightN n wt) false (2 ^ n)).2) n nb from hM)
    refine wp_go (f' := (29, [.ref 28, .int (nI 3), .int (nI 0), .int ((seekN (goodN n nb 3) (weightN n wt) false (2 ^ n)).1), .int (nI (2 ^ n)), d5], [.ref 28, .int (nI (2 ^ n))], MW A B (upF F 8 (seekN (goodN n nb 3) (weightN n wt) false (2 ^ n)).2) sw, 0, 0)) 2 rfl ?_
    refine wp_call rfl rfl rfl (ev_up (ev_all hM) (by decide)) ?_
    refine wp_eq (f' := (32, [.ref 28, .int (nI 3), .int (nI 0), .int ((seekN (goodN n nb 3) (weightN n wt) false (2 ^ n)).1), .int (nI (2 ^ n)), d5], [.int (nI (2 ^ n - 1)), .int (nI (2 ^ n))], MW A B (upF F 8 (seekN (goodN n nb 3) (weightN n wt) false (2 ^ n)).2) sw, 0, 0)) rfl ?_
    refine wp_go (f' := ((if (nI (2 ^ n - 1)) < (nI (2 ^ n)) then 95 else 35), [.ref 28, .int (nI 3), .int (nI 0), .int ((seekN (goodN n nb 3) (weightN n wt) false (2 ^ n)).1), .int (nI (2 ^ n)), d5], [], MW A B (upF F 8 (seekN (goodN n nb 3) (weightN n wt) false (2 ^ n)).2) sw, 0, 0)) 1 rfl ?_
    refine wp_ite (fun _ => ?_) (fun h9 => absurd (nI_lt (by omega) (by omega)) h9)
    refine wp_go (f' := (96, [.ref 28, .int (nI 3), .int (nI 0), .int ((seekN (goodN n nb 3) (weightN n wt) false (2 ^ n)).1), .int (nI (2 ^ n)), d5], [.int ((seekN (goodN n nb 3) (weightN n wt) false (2 ^ n)).1)], MW A B (upF F 8 (seekN (goodN n nb 3) (weightN n wt) false (2 ^ n)).2) sw, 0, 0)) 1 rfl ?_
    exact wp_iret rfl
theorem ev_best3 (hM : MI A F n nb) {wt : Nat → Nat} (hw : MWt A wt) : mv_Ev xs Ls 5 131 [.ref 28, .int (nI 3)] (MW A B F sw) (some (.int ((seekN (goodN n nb 3) (weightN n wt) false (2 ^ n)).1)), MW A B (upF F 8 (seekN (goodN n nb 3) (weightN n wt) false (2 ^ n)).2) sw, 0, 0) := by
  refine ev_of_wp rfl rfl rfl ?_
  refine wp_go (f' := (3, [.ref 28, .int (nI 3)], [.int (nI 4), .int (nI 0), .int (nI 3)], MW A B F sw, 0, 0)) 3 rfl ?_
  refine wp_call rfl rfl rfl (ev_up (ev_isIn (nI 3) (nI 0) (nI 4) _) (by decide)) ?_
  refine wp_eq (f' := (6, [.ref 28, .int (nI 3)], [.int (bI (decide ((nI 0) ≤ (nI 3)) && decide ((nI 3) ≤ (nI 4))))], MW A B F sw, 0, 0)) rfl ?_
  refine wp_go (f' := ((if (bI (decide ((nI 0) ≤ (nI 3)) && decide ((nI 3) ≤ (nI 4)))) = 0 then 17 else 9), [.ref 28, .int (nI 3)], [], MW A B F sw, 0, 0)) 1 rfl ?_
  refine wp_ite (fun h9 => absurd h9 (by decide : ¬ bI (decide ((nI 0) ≤ (nI 3)) && decide ((nI 3) ≤ (nI 4))) = 0)) (fun _ => ?_)
  refine wp_go (f' := (11, [.ref 28, .int (nI 3)], [.int (nI 3), .ref 28], MW A B F sw, 0, 0)) 2 rfl ?_
  refine wp_call rfl rfl rfl (ev_up (ev_seek3 hM hw) (by decide)) ?_
  refine wp_eq (f' := (14, [.ref 28, .int (nI 3)], [.int ((seekN (goodN n nb 3) (weightN n wt) false (2 ^ n)).1)], MW A B (upF F 8 (seekN (goodN n nb 3) (weightN n wt) false (2 ^ n)).2) sw, 0, 0)) rfl ?_
  refine wp_go (f' := (19, [.ref 28, .int (nI 3)], [.int ((seekN (goodN n nb 3) (weightN n wt) false (2 ^ n)).1)], MW A B (upF F 8 (seekN (goodN n nb 3) (weightN n wt) false (2 ^ n)).2) sw, 0, 0)) 1 rfl ?_
  exact wp_iret rfl
theorem ev_which3 (hM : MI A F n nb) {wt : Nat → Nat} (hw : MWt A wt) : mv_Ev xs Ls 5 136 [.ref 28, .int (nI 3)] (MW A B F sw) (some (.int ((seekN (goodN n nb 3) (weightN n wt) false (2 ^ n)).2)), MW A B (upF F 8 (seekN (goodN n nb 3) (weightN n wt) false (2 ^ n)).2) sw, 0, 0) := by
  refine ev_of_wp rfl rfl rfl ?_
  refine wp_go (f' := (3, [.ref 28, .int (nI 3)], [.int (nI 4), .int (nI 0), .int (nI 3)], MW A B F sw, 0, 0)) 3 rfl ?_
  refine wp_call rfl rfl rfl (ev_up (ev_isIn (nI 3) (nI 0) (nI 4) _) (by decide)) ?_
  refine wp_eq (f' := (6, [.ref 28, .int (nI 3)], [.int (bI (decide ((nI 0) ≤ (nI 3)) && decide ((nI 3) ≤ (nI 4))))], MW A B F sw, 0, 0)) rfl ?_
  refine wp_go (f' := ((if ¬ (bI (decide ((nI 0) ≤ (nI 3)) && decide ((nI 3) ≤ (nI 4)))) = 0 then 12 else 9), [.ref 28, .int (nI 3)], [], MW A B F sw, 0, 0)) 1 rfl ?_
  refine wp_ite (fun _ => ?_) (fun h9 => absurd (by decide : ¬ bI (decide ((nI 0) ≤ (nI 3)) && decide ((nI 3) ≤ (nI 4))) = 0) h9)
  refine wp_go (f' := (14, [.ref 28, .int (nI 3)], [.int (nI 3), .ref 28], MW A B F sw, 0, 0)) 2 rfl ?_
  refine wp_call rfl rfl rfl (ev_up (ev_seek3 hM hw) (by decide)) ?_
  refine wp_eq (f' := (17, [.ref 28, .int (nI 3)], [.int ((seekN (goodN n nb 3) (weightN n wt) false (2 ^ n)).1)], MW A B (upF F 8 (seekN (goodN n nb 3) (weightN n wt) false (2 ^ n)).2) sw, 0, 0)) rfl ?_
  refine wp_go (f' := (22, [.ref 28, .int (nI 3)], [.int ((seekN (goodN n nb 3) (weightN n wt) false (2 ^ n)).2)], MW A B (upF F 8 (seekN (goodN n nb 3) (weightN n wt) false (2 ^ n)).2) sw, 0, 0)) 3 rfl ?_
  exact wp_iret rfl
theorem ev_seek4 (hM : MI A F n nb) {wt : Nat → Nat} (hw : MWt A wt) : mv_Ev xs Ls 4 132 [.ref 28, .int (nI 4)] (MW A B F sw) (some (.int ((seekN (goodN n nb 4) (weightN n wt) false (2 ^ n)).1)), MW A B (upF F 8 (seekN (goodN n nb 4) (weightN n wt) false (2 ^ n)).2) sw, 0, 0) := by
  refine ev_of_wp rfl rfl rfl ?_
  have hn := hM.1
  have hp := pow10 hn
  have hp1 : 1 ≤ 2 ^ n := Nat.one_le_two_pow
  have hal := all_lt hn
  refine wp_go (f' := ((if (nI 4) = (nI 1) then 10 else 5), [.ref 28, .int (nI 4), .retAddr 0, .retAddr 0, .retAddr 0, .retAddr 0], [], MW A B F sw, 0, 0)) 3 rfl ?_
  refine wp_ite (fun h9 => absurd h9 (by decide : ¬ nI 4 = nI 1)) (fun _ => ?_)
  refine wp_go (f' := ((if ¬ (nI 4) = (nI 2) then 14 else 10), [.ref 28, .int (nI 4), .retAddr 0, .retAddr 0, .retAddr 0, .retAddr 0], [], MW A B F sw, 0, 0)) 3 rfl ?_
  refine wp_ite (fun _ => ?_) (fun h9 => absurd (by decide : ¬ nI 4 = nI 2) h9)
  refine wp_go (f' := (26, [.ref 28, .int (nI 4), .int (nI 0), .int (-1), .int (nI 0), .retAddr 0], [], MW A B (upF F 8 (-1)) sw, 0, 0)) 9 rfl ?_
  refine for_ind (P := fun (k : Nat) (q : Int32 × Int32) => ∀ (d5 : Value), mv_Wp xs Ls 3 6 false (some .int) mv_c132 (26, [.ref 28, .int (nI 4), .int (nI 0), .int q.1, .int (nI k), d5], [], MW A B (upF F 8 q.2) sw, 0, 0) (some (.int ((seekN (goodN n nb 4) (weightN n wt) false (2 ^ n)).1)), MW A B (upF F 8 (seekN (goodN n nb 4) (weightN n wt) false (2 ^ n)).2) sw, 0, 0)) (f := fun k q => if goodN n nb 4 k = true ∧ (q.2 = -1 ∨ (if false = true then nI (weightN n wt k) < q.1 else q.1 < nI (weightN n wt k))) then (nI (weightN n wt k), nI k) else q) (n := (2 ^ n)) ?_ (2 ^ n) ((-1 : Int32), (-1 : Int32)) (Nat.le_refl _) ?_  (.retAddr 0)
  · intro k q hk ih  d5
    have hM := (show MI A (upF F 8 q.2) n nb from hM)
    refine wp_go (f' := (29, [.ref 28, .int (nI 4), .int (nI 0), .int q.1, .int (nI k), d5], [.ref 28, .int (nI k)], MW A B (upF F 8 q.2) sw, 0, 0)) 2 rfl ?_
    refine wp_call rfl rfl rfl (ev_up (ev_all hM) (by decide)) ?_
    refine wp_eq (f' := (32, [.ref 28, .int (nI 4), .int (nI 0), .int q.1, .int (nI k), d5], [.int (nI (2 ^ n - 1)), .int (nI k)], MW A B (upF F 8 q.2) sw, 0, 0)) rfl ?_
    refine wp_go (f' := ((if (nI (2 ^ n - 1)) < (nI k) then 95 else 35), [.ref 28, .int (nI 4), .int (nI 0), .int q.1, .int (nI k), d5], [], MW A B (upF F 8 q.2) sw, 0, 0)) 1 rfl ?_
    refine wp_ite (fun h9 => absurd h9 (nI_nlt (by omega) (by omega))) (fun _ => ?_)
    refine wp_go (f' := (39, [.ref 28, .int (nI 4), .int (nI 0), .int q.1, .int (nI k), d5], [.int (nI k), .int (nI 4), .ref 28], MW A B (upF F 8 q.2) sw, 0, 0)) 3 rfl ?_
    refine wp_call rfl rfl rfl (ev_up (ev_isGood4 hM (s := k) (by omega)) (by decide)) ?_
    refine wp_eq (f' := (42, [.ref 28, .int (nI 4), .int (nI 0), .int q.1, .int (nI k), d5], [.int (bI (goodN n nb 4 k))], MW A B (upF F 8 q.2) sw, 0, 0)) rfl ?_
    refine wp_go (f' := ((if (bI (goodN n nb 4 k)) = 0 then 89 else 45), [.ref 28, .int (nI 4), .int (nI 0), .int q.1, .int (nI k), d5], [], MW A B (upF F 8 q.2) sw, 0, 0)) 1 rfl ?_
    refine wp_ite (fun h1 => ?_) (fun h1 => ?_)
    · have h1 := bI_0.mp h1
      refine wp_go (f' := (92, [.ref 28, .int (nI 4), .int (nI 0), .int q.1, .int ((nI k) + 1), d5], [], MW A B (upF F 8 q.2) sw, 0, 0)) 1 rfl ?_
      rw [nI_1]
      refine wp_go (f' := (26, [.ref 28, .int (nI 4), .int (nI 0), .int q.1, .int (nI (k + 1)), d5], [], MW A B (upF F 8 q.2) sw, 0, 0)) 1 rfl ?_
      refine wp_eq ?_ (ih d5)
      simp [h1]
    · have h1 := bI_n0 h1
      refine wp_go (f' := (48, [.ref 28, .int (nI 4), .int (nI 0), .int q.1, .int (nI k), d5], [.int (nI k), .ref 28], MW A B (upF F 8 q.2) sw, 0, 0)) 2 rfl ?_
      refine wp_call rfl rfl rfl (ev_up (ev_weightOf hM (s := k) (by omega) hw) (by decide)) ?_
      refine wp_eq (f' := (51, [.ref 28, .int (nI 4), .int (nI 0), .int q.1, .int (nI k), d5], [.int (nI (weightN n wt k))], MW A B (upF F 8 q.2) sw, 0, 0)) rfl ?_
      refine wp_go (f' := ((if q.2 = (-1) then 80 else 61), [.ref 28, .int (nI 4), .int (nI 0), .int q.1, .int (nI k), .int (nI (weightN n wt k))], [], MW A B (upF F 8 q.2) sw, 0, 0)) 5 rfl ?_
      refine wp_ite (fun h2 => ?_) (fun h2 => ?_)
      · skip
        refine wp_go (f' := (92, [.ref 28, .int (nI 4), .int (nI 0), .int (nI (weightN n wt k)), .int ((nI k) + 1), .int (nI (weightN n wt k))], [], MW A B (upF F 8 (nI k)) sw, 0, 0)) 6 rfl ?_
        rw [nI_1]
        refine wp_go (f' := (26, [.ref 28, .int (nI 4), .int (nI 0), .int (nI (weightN n wt k)), .int (nI (k + 1)), .int (nI (weightN n wt k))], [], MW A B (upF F 8 (nI k)) sw, 0, 0)) 1 rfl ?_
        refine wp_eq ?_ (ih (.int (nI (weightN n wt k))))
        simp [h1, h2]
      · skip
        refine wp_go (f' := ((if (nI 0) = 0 then 74 else 65), [.ref 28, .int (nI 4), .int (nI 0), .int q.1, .int (nI k), .int (nI (weightN n wt k))], [], MW A B (upF F 8 q.2) sw, 0, 0)) 2 rfl ?_
        refine wp_ite (fun _ => ?_) (fun h9 => absurd (rfl : nI 0 = 0) h9)
        refine wp_go (f' := ((if (nI (weightN n wt k)) ≤ q.1 then 89 else 80), [.ref 28, .int (nI 4), .int (nI 0), .int q.1, .int (nI k), .int (nI (weightN n wt k))], [], MW A B (upF F 8 q.2) sw, 0, 0)) 3 rfl ?_
        refine wp_ite (fun h3 => ?_) (fun h3 => ?_)
        · skip
          refine wp_go (f' := (92, [.ref 28, .int (nI 4), .int (nI 0), .int q.1, .int ((nI k) + 1), .int (nI (weightN n wt k))], [], MW A B (upF F 8 q.2) sw, 0, 0)) 1 rfl ?_
          rw [nI_1]
          refine wp_go (f' := (26, [.ref 28, .int (nI 4), .int (nI 0), .int q.1, .int (nI (k + 1)), .int (nI (weightN n wt k))], [], MW A B (upF F 8 q.2) sw, 0, 0)) 1 rfl ?_
          refine wp_eq ?_ (ih (.int (nI (weightN n wt k))))
          simp [h1, h2, Int32.not_lt.mpr h3]
        · skip
          refine wp_go (f' := (92, [.ref 28, .int (nI 4), .int (nI 0), .int (nI (weightN n wt k)), .int ((nI k) + 1), .int (nI (weightN n wt k))], [], MW A B (upF F 8 (nI k)) sw, 0, 0)) 6 rfl ?_
          rw [nI_1]
          refine wp_go (f' := (26, [.ref 28, .int (nI 4), .int (nI 0), .int (nI (weightN n wt k)), .int (nI (k + 1)), .int (nI (weightN n wt k))], [], MW A B (upF F 8 (nI k)) sw, 0, 0)) 1 rfl ?_
          refine wp_eq ?_ (ih (.int (nI (weightN n wt k))))
          simp [h1, h2, Int32.not_le.mp h3]
  · intro  d5
    have hM := (show MI A (upF F 8 (seekN (goodN n nb 4) (weightN n wt) false (2 ^ n)).2) n nb from hM)
    refine wp_go (f' := (29, [.ref 28, .int (nI 4), .int (nI 0), .int ((seekN (goodN n nb 4) (weightN n wt) false (2 ^ n)).1), .int (nI (2 ^ n)), d5], [.ref 28, .int (nI (2 ^ n))], MW A B (upF F 8 (seekN (goodN n nb 4) (weightN n wt) false (2 ^ n)).2) sw, 0, 0)) 2 rfl ?_
    refine wp_call rfl rfl rfl (ev_up (ev_all hM) (by decide)) ?_
    refine wp_eq (f' := (32, [.ref 28, .int (nI 4), .int (nI 0), .int ((seekN (goodN n nb 4) (weightN n wt) false (2 ^ n)).1), .int (nI (2 ^ n)), d5], [.int (nI (2 ^ n - 1)), .int (nI (2 ^ n))], MW A B (upF F 8 (seekN (goodN n nb 4) (weightN n wt) false (2 ^ n)).2) sw, 0, 0)) rfl ?_
    refine wp_go (f' := ((if (nI (2 ^ n - 1)) < (nI (2 ^ n)) then 95 else 35), [.ref 28, .int (nI 4), .int (nI 0), .int ((seekN (goodN n nb 4) (weightN n wt) false (2 ^ n)).1), .int (nI (2 ^ n)), d5], [], MW A B (upF F 8 (seekN (goodN n nb 4) (weightN n wt) false (2 ^ n)).2) sw, 0, 0)) 1 rfl ?_
    refine wp_ite (fun _ => ?_) (fun h9 => absurd (nI_lt (by omega) (by omega)) h9)
    refine wp_go (f' := (96, [.ref 28, .int (nI 4), .int (nI 0), .int ((seekN (goodN n nb 4) (weightN n wt) false (2 ^ n)).1), .int (nI (2 ^ n)), d5], [.int ((seekN (goodN n nb 4) (weightN n wt) false (2 ^ n)).1)], MW A B (upF F 8 (seekN (goodN n nb 4) (weightN n wt) false (2 ^ n)).2) sw, 0, 0)) 1 rfl ?_
    exact wp_iret rfl
theorem ev_best4 (hM : MI A F n nb) {wt : Nat → Nat} (hw : MWt A wt) : mv_Ev xs Ls 5 131 [.ref 28, .int (nI 4)] (MW A B F sw) (some (.int ((seekN (goodN n nb 4) (weightN n wt) false (2 ^ n)).1)), MW A B (upF F 8 (seekN (goodN n nb 4) (weightN n wt) false (2 ^ n)).2) sw, 0, 0) := by
  refine ev_of_wp rfl rfl rfl ?_
  refine wp_go (f' := (3, [.ref 28, .int (nI 4)], [.int (nI 4), .int (nI 0), .int (nI 4)], MW A B F sw, 0, 0)) 3 rfl ?_
  refine wp_call rfl rfl rfl (ev_up (ev_isIn (nI 4) (nI 0) (nI 4) _) (by decide)) ?_
  refine wp_eq (f' := (6, [.ref 28, .int (nI 4)], [.int (bI (decide ((nI 0) ≤ (nI 4)) && decide ((nI 4) ≤ (nI 4))))], MW A B F sw, 0, 0)) rfl ?_
  refine wp_go (f' := ((if (bI (decide ((nI 0) ≤ (nI 4)) && decide ((nI 4) ≤ (nI 4)))) = 0 then 17 else 9), [.ref 28, .int (nI 4)], [], MW A B F sw, 0, 0)) 1 rfl ?_
  refine wp_ite (fun h9 => absurd h9 (by decide : ¬ bI (decide ((nI 0) ≤ (nI 4)) && decide ((nI 4) ≤ (nI 4))) = 0)) (fun _ => ?_)
  refine wp_go (f' := (11, [.ref 28, .int (nI 4)], [.int (nI 4), .ref 28], MW A B F sw, 0, 0)) 2 rfl ?_
  refine wp_call rfl rfl rfl (ev_up (ev_seek4 hM hw) (by decide)) ?_
  refine wp_eq (f' := (14, [.ref 28, .int (nI 4)], [.int ((seekN (goodN n nb 4) (weightN n wt) false (2 ^ n)).1)], MW A B (upF F 8 (seekN (goodN n nb 4) (weightN n wt) false (2 ^ n)).2) sw, 0, 0)) rfl ?_
  refine wp_go (f' := (19, [.ref 28, .int (nI 4)], [.int ((seekN (goodN n nb 4) (weightN n wt) false (2 ^ n)).1)], MW A B (upF F 8 (seekN (goodN n nb 4) (weightN n wt) false (2 ^ n)).2) sw, 0, 0)) 1 rfl ?_
  exact wp_iret rfl
theorem ev_which4 (hM : MI A F n nb) {wt : Nat → Nat} (hw : MWt A wt) : mv_Ev xs Ls 5 136 [.ref 28, .int (nI 4)] (MW A B F sw) (some (.int ((seekN (goodN n nb 4) (weightN n wt) false (2 ^ n)).2)), MW A B (upF F 8 (seekN (goodN n nb 4) (weightN n wt) false (2 ^ n)).2) sw, 0, 0) := by
  refine ev_of_wp rfl rfl rfl ?_
  refine wp_go (f' := (3, [.ref 28, .int (nI 4)], [.int (nI 4), .int (nI 0), .int (nI 4)], MW A B F sw, 0, 0)) 3 rfl ?_
  refine wp_call rfl rfl rfl (ev_up (ev_isIn (nI 4) (nI 0) (nI 4) _) (by decide)) ?_
  refine wp_eq (f' := (6, [.ref 28, .int (nI 4)], [.int (bI (decide ((nI 0) ≤ (nI 4)) && decide ((nI 4) ≤ (nI 4))))], MW A B F sw, 0, 0)) rfl ?_
  refine wp_go (f' := ((if ¬ (bI (decide ((nI 0) ≤ (nI 4)) && decide ((nI 4) ≤ (nI 4)))) = 0 then 12 else 9), [.ref 28, .int (nI 4)], [], MW A B F sw, 0, 0)) 1 rfl ?_
  refine wp_ite (fun _ => ?_) (fun h9 => absurd (by decide : ¬ bI (decide ((nI 0) ≤ (nI 4)) && decide ((nI 4) ≤ (nI 4))) = 0) h9)
  refine wp_go (f' := (14, [.ref 28, .int (nI 4)], [.int (nI 4), .ref 28], MW A B F sw, 0, 0)) 2 rfl ?_
  refine wp_call rfl rfl rfl (ev_up (ev_seek4 hM hw) (by decide)) ?_
  refine wp_eq (f' := (17, [.ref 28, .int (nI 4)], [.int ((seekN (goodN n nb 4) (weightN n wt) false (2 ^ n)).1)], MW A B (upF F 8 (seekN (goodN n nb 4) (weightN n wt) false (2 ^ n)).2) sw, 0, 0)) rfl ?_
  refine wp_go (f' := (22, [.ref 28, .int (nI 4)], [.int ((seekN (goodN n nb 4) (weightN n wt) false (2 ^ n)).2)], MW A B (upF F 8 (seekN (goodN n nb 4) (weightN n wt) false (2 ^ n)).2) sw, 0, 0)) 3 rfl ?_
  exact wp_iret rfl
theorem ev_best_f {x : Int32} (hx : outN x 4 = true) : mv_Ev xs Ls 5 131 [.ref 28, .int x] (MW A B F sw) (some (.int (-2)), MW A B F sw, 0, 0) := by
  refine ev_of_wp rfl rfl rfl ?_
  refine wp_go (f' := (3, [.ref 28, .int x], [.int (nI 4), .int (nI 0), .int x], MW A B F sw, 0, 0)) 3 rfl ?_
  refine wp_call rfl rfl rfl (ev_up (ev_isIn x (nI 0) (nI 4) _) (by decide)) ?_
  refine wp_eq (f' := (6, [.ref 28, .int x], [.int (bI (decide ((nI 0) ≤ x) && decide (x ≤ (nI 4))))], MW A B F sw, 0, 0)) rfl ?_
  refine wp_go (f' := ((if (bI (decide ((nI 0) ≤ x) && decide (x ≤ (nI 4)))) = 0 then 17 else 9), [.ref 28, .int x], [], MW A B F sw, 0, 0)) 1 rfl ?_
  refine wp_ite (fun _ => ?_) (fun h9 => absurd (bI_f (by have h8 := hx; unfold outN at h8; rw [Bool.not_eq_true'] at h8; exact h8)) h9)
  refine wp_go (f' := (19, [.ref 28, .int x], [.int (-2)], MW A B F sw, 0, 0)) 1 rfl ?_
  exact wp_iret rfl
theorem ev_which_f {x : Int32} (hx : outN x 4 = true) : mv_Ev xs Ls 5 136 [.ref 28, .int x] (MW A B F sw) (some (.int (-2)), MW A B F sw, 0, 0) := by
  refine ev_of_wp rfl rfl rfl ?_
  refine wp_go (f' := (3, [.ref 28, .int x], [.int (nI 4), .int (nI 0), .int x], MW A B F sw, 0, 0)) 3 rfl ?_
  refine wp_call rfl rfl rfl (ev_up (ev_isIn x (nI 0) (nI 4) _) (by decide)) ?_
  refine wp_eq (f' := (6, [.ref 28, .int x], [.int (bI (decide ((nI 0) ≤ x) && decide (x ≤ (nI 4))))], MW A B F sw, 0, 0)) rfl ?_
  refine wp_go (f' := ((if ¬ (bI (decide ((nI 0) ≤ x) && decide (x ≤ (nI 4)))) = 0 then 12 else 9), [.ref 28, .int x], [], MW A B F sw, 0, 0)) 1 rfl ?_
  refine wp_ite (fun h9 => absurd h9 (fun h8 => h8 (bI_f (by have h8 := hx; unfold outN at h8; rw [Bool.not_eq_true'] at h8; exact h8)))) (fun _ => ?_)
  refine wp_go (f' := (11, [.ref 28, .int x], [.int (-2)], MW A B F sw, 0, 0)) 1 rfl ?_
  exact wp_iret rfl
/-- the fewest edges that join the set t (-1: they don't hang together) -/
def fewN (n : Nat) (nb : Nat → Nat) (t : Nat) : Int32 := forN (fun s (m : Int32) => if (s &&& t = t ∧ wholeN n nb s = true) ∧ (m = -1 ∨ nI (if s = 0 then 0 else pop s - 1) < m) then nI (if s = 0 then 0 else pop s - 1) else m) (2 ^ n) (-1)
theorem few_out {n : Nat} (hn : n ≤ 10) {t : Nat} (ht : t < 2 ^ 31) : nI t &&& (nI (2 ^ n - 1) ^^^ (-1)) = 0 ↔ t < 2 ^ n := by
  rw [bx_not, bx_and]
  have hlt : t &&& ((2 ^ n - 1) ^^^ 4294967295) < 2 ^ 31 := Nat.lt_of_le_of_lt Nat.and_le_left ht
  have e := nI_eq (a := t &&& ((2 ^ n - 1) ^^^ 4294967295)) (b := 0) hlt (by decide)
  constructor
  · intro h
    have h0 := e.mp h
    rcases Nat.lt_or_ge t (2 ^ n) with g | g
    · exact g
    · obtain ⟨i, hi, hb⟩ := Nat.exists_ge_and_testBit_of_ge_two_pow g
      have hi2 : i < 31 := by
        rcases Nat.lt_or_ge i 31 with q | q
        · exact q
        · rw [bt_big ht q] at hb; cases hb
      have : (t &&& ((2 ^ n - 1) ^^^ 4294967295)).testBit i = true := by
        rw [Nat.testBit_and, Nat.testBit_xor, bt_all1, all_bit, hb]
        simp [show ¬ i < n by omega, show i < 32 by omega]
      rw [h0] at this
      simp at this
  · intro h
    refine e.mpr ?_
    apply Nat.eq_of_testBit_eq
    intro i
    rw [Nat.testBit_and, Nat.testBit_xor, bt_all1, all_bit, Nat.zero_testBit]
    by_cases hi : i < n
    · simp [hi, show i < 32 by omega]
    · rw [bt_big h (by omega)]; simp
theorem ev_fewest_f1 (hM : MI A F n nb) {x : Int32} (hx : x < 0) : mv_Ev xs Ls 2 137 [.ref 28, .int x] (MW A B F sw) (some (.int (-2)), MW A B F sw, 0, 0) := by
  refine ev_of_wp rfl rfl rfl ?_
  have hn := hM.1
  refine wp_go (f' := ((if x < 0 then 15 else 4), [.ref 28, .int x, .retAddr 0, .retAddr 0, .retAddr 0], [], MW A B F sw, 0, 0)) 2 rfl ?_
  refine wp_ite (fun _ => ?_) (fun h9 => absurd hx h9)
  refine wp_go (f' := (17, [.ref 28, .int x, .retAddr 0, .retAddr 0, .retAddr 0], [.int (-2)], MW A B F sw, 0, 0)) 1 rfl ?_
  exact wp_iret rfl
theorem ev_fewest_f2 (hM : MI A F n nb) {t : Nat} (ht : t < 2 ^ 31) (h2 : ¬ t < 2 ^ n) : mv_Ev xs Ls 2 137 [.ref 28, .int (nI t)] (MW A B F sw) (some (.int (-2)), MW A B F sw, 0, 0) := by
  refine ev_of_wp rfl rfl rfl ?_
  have hn := hM.1
  have hp := pow10 hn
  have hp1 : 1 ≤ 2 ^ n := Nat.one_le_two_pow
  have hal := all_lt hn
  refine wp_go (f' := ((if (nI t) < 0 then 15 else 4), [.ref 28, .int (nI t), .retAddr 0, .retAddr 0, .retAddr 0], [], MW A B F sw, 0, 0)) 2 rfl ?_
  refine wp_ite (fun h9 => absurd h9 (nI_pos ht)) (fun _ => ?_)
  refine wp_go (f' := (6, [.ref 28, .int (nI t), .retAddr 0, .retAddr 0, .retAddr 0], [.ref 28, .int (nI t)], MW A B F sw, 0, 0)) 2 rfl ?_
  refine wp_call rfl rfl rfl (ev_up (ev_all hM) (by decide)) ?_
  refine wp_eq (f' := (9, [.ref 28, .int (nI t), .retAddr 0, .retAddr 0, .retAddr 0], [.int (nI (2 ^ n - 1)), .int (nI t)], MW A B F sw, 0, 0)) rfl ?_
  refine wp_go (f' := ((if ((nI t) &&& ((nI (2 ^ n - 1)) ^^^ (-1))) = 0 then 18 else 15), [.ref 28, .int (nI t), .retAddr 0, .retAddr 0, .retAddr 0], [], MW A B F sw, 0, 0)) 4 rfl ?_
  refine wp_ite (fun h9 => absurd h9 (fun h8 => h2 ((few_out hn ht).mp h8))) (fun _ => ?_)
  refine wp_go (f' := (17, [.ref 28, .int (nI t), .retAddr 0, .retAddr 0, .retAddr 0], [.int (-2)], MW A B F sw, 0, 0)) 1 rfl ?_
  exact wp_iret rfl
theorem ev_fewest_ok (hM : MI A F n nb) {t : Nat} (ht : t < 2 ^ n) : mv_Ev xs Ls 3 137 [.ref 28, .int (nI t)] (MW A B F sw) (some (.int (fewN n nb t)), MW A B F sw, 0, 0) := by
  refine ev_of_wp rfl rfl rfl ?_
  have hn := hM.1
  have hp := pow10 hn
  have hp1 : 1 ≤ 2 ^ n := Nat.one_le_two_pow
  have hal := all_lt hn
  refine wp_go (f' := ((if (nI t) < 0 then 15 else 4), [.ref 28, .int (nI t), .retAddr 0, .retAddr 0, .retAddr 0], [], MW A B F sw, 0, 0)) 2 rfl ?_
  refine wp_ite (fun h9 => absurd h9 (nI_pos (n := t) (by omega))) (fun _ => ?_)
  refine wp_go (f' := (6, [.ref 28, .int (nI t), .retAddr 0, .retAddr 0, .retAddr 0], [.ref 28, .int (nI t)], MW A B F sw, 0, 0)) 2 rfl ?_
  refine wp_call rfl rfl rfl (ev_up (ev_all hM) (by decide)) ?_
  refine wp_eq (f' := (9, [.ref 28, .int (nI t), .retAddr 0, .retAddr 0, .retAddr 0], [.int (nI (2 ^ n - 1)), .int (nI t)], MW A B F sw, 0, 0)) rfl ?_
  refine wp_go (f' := ((if ((nI t) &&& ((nI (2 ^ n - 1)) ^^^ (-1))) = 0 then 18 else 15), [.ref 28, .int (nI t), .retAddr 0, .retAddr 0, .retAddr 0], [], MW A B F sw, 0, 0)) 4 rfl ?_
  refine wp_ite (fun _ => ?_) (fun h9 => absurd ((few_out hn (by omega)).mpr ht) h9)
  refine wp_go (f' := (22, [.ref 28, .int (nI t), .int (-1), .int (nI 0), .retAddr 0], [], MW A B F sw, 0, 0)) 4 rfl ?_
  refine for_ind (P := fun (k : Nat) (m : Int32) => ∀ (d4 : Value), mv_Wp xs Ls 2 6 false (some .int) mv_c137 (22, [.ref 28, .int (nI t), .int m, .int (nI k), d4], [], MW A B F sw, 0, 0) (some (.int (fewN n nb t)), MW A B F sw, 0, 0)) (f := fun s (m : Int32) => if (s &&& t = t ∧ wholeN n nb s = true) ∧ (m = -1 ∨ nI (if s = 0 then 0 else pop s - 1) < m) then nI (if s = 0 then 0 else pop s - 1) else m) (n := (2 ^ n)) ?_ (2 ^ n) (-1) (Nat.le_refl _) ?_  (.retAddr 0)
  · intro k m hk ih  d4
    refine wp_go (f' := (24, [.ref 28, .int (nI t), .int m, .int (nI k), d4], [.ref 28, .int (nI k)], MW A B F sw, 0, 0)) 2 rfl ?_
    refine wp_call rfl rfl rfl (ev_up (ev_all hM) (by decide)) ?_
    refine wp_eq (f' := (27, [.ref 28, .int (nI t), .int m, .int (nI k), d4], [.int (nI (2 ^ n - 1)), .int (nI k)], MW A B F sw, 0, 0)) rfl ?_
    refine wp_go (f' := ((if (nI (2 ^ n - 1)) < (nI k) then 85 else 30), [.ref 28, .int (nI t), .int m, .int (nI k), d4], [], MW A B F sw, 0, 0)) 1 rfl ?_
    refine wp_ite (fun h9 => absurd h9 (nI_nlt (by omega) (by omega))) (fun _ => ?_)
    refine wp_go (f' := (33, [.ref 28, .int (nI t), .int m, .int (nI k), d4], [.int ((nI k) &&& (nI t))], MW A B F sw, 0, 0)) 3 rfl ?_
    rw [bx_and]
    have hb1 : k &&& t < 1024 := by first | omega | exact or_lt (by omega) (by omega) | exact and_lt (by omega) | exact and_lt_r (by omega) | exact sd_lt (by omega) | exact pow_lt (by omega)
    refine wp_go (f' := ((if ¬ (nI (k &&& t)) = (nI t) then 79 else 37), [.ref 28, .int (nI t), .int m, .int (nI k), d4], [], MW A B F sw, 0, 0)) 2 rfl ?_
    refine wp_ite (fun h1 => ?_) (fun h1 => ?_)
    · have h1 : ¬ (k &&& t = t) := fun h9 => h1 ((nI_eq (a := k &&& t) (b := t) (by omega) (by omega)).mpr h9)
      refine wp_go (f' := (82, [.ref 28, .int (nI t), .int m, .int ((nI k) + 1), d4], [], MW A B F sw, 0, 0)) 1 rfl ?_
      rw [nI_1]
      refine wp_go (f' := (22, [.ref 28, .int (nI t), .int m, .int (nI (k + 1)), d4], [], MW A B F sw, 0, 0)) 1 rfl ?_
      refine wp_eq ?_ (ih d4)
      simp [h1]
    · have h1 := Classical.not_not.mp h1; have h1 : k &&& t = t := (nI_eq (a := k &&& t) (b := t) (by omega) (by omega)).mp h1
      refine wp_go (f' := (39, [.ref 28, .int (nI t), .int m, .int (nI k), d4], [.int (nI k), .ref 28], MW A B F sw, 0, 0)) 2 rfl ?_
      refine wp_call rfl rfl rfl (ev_up (ev_isWhole hM (s := k) (by omega)) (by decide)) ?_
      refine wp_eq (f' := (42, [.ref 28, .int (nI t), .int m, .int (nI k), d4], [.int (bI (wholeN n nb k))], MW A B F sw, 0, 0)) rfl ?_
      refine wp_go (f' := ((if (bI (wholeN n nb k)) = 0 then 79 else 45), [.ref 28, .int (nI t), .int m, .int (nI k), d4], [], MW A B F sw, 0, 0)) 1 rfl ?_
      refine wp_ite (fun h2 => ?_) (fun h2 => ?_)
      · have h2 := bI_0.mp h2
        refine wp_go (f' := (82, [.ref 28, .int (nI t), .int m, .int ((nI k) + 1), d4], [], MW A B F sw, 0, 0)) 1 rfl ?_
        rw [nI_1]
        refine wp_go (f' := (22, [.ref 28, .int (nI t), .int m, .int (nI (k + 1)), d4], [], MW A B F sw, 0, 0)) 1 rfl ?_
        refine wp_eq ?_ (ih d4)
        simp [h1, h2]
      · have h2 := bI_n0 h2
        refine wp_go (f' := ((if ¬ (nI k) = 0 then 53 else 49), [.ref 28, .int (nI t), .int m, .int (nI k), d4], [], MW A B F sw, 0, 0)) 2 rfl ?_
        refine wp_ite (fun h3 => ?_) (fun h3 => ?_)
        · have h3 : ¬ (k = 0) := fun h9 => h3 ((nI_eq (a := k) (b := 0) (by omega) (by omega)).mpr h9)
          refine wp_go (f' := (54, [.ref 28, .int (nI t), .int m, .int (nI k), d4], [.int (nI k)], MW A B F sw, 0, 0)) 1 rfl ?_
          refine wp_call rfl rfl rfl (ev_up (ev_onesN (s := k) (by omega) _) (by decide)) ?_
          refine wp_eq (f' := (57, [.ref 28, .int (nI t), .int m, .int (nI k), d4], [.int (nI (pop k))], MW A B F sw, 0, 0)) rfl ?_
          have hpp := pop_le (s := k) (by omega)
          have hpq := pop_pos (s := k) (by omega) (by omega)
          refine wp_go (f' := (59, [.ref 28, .int (nI t), .int m, .int (nI k), d4], [.int ((nI (pop k)) - (nI 1))], MW A B F sw, 0, 0)) 2 rfl ?_
          rw [pk_sub (by omega)]
          refine wp_go (f' := ((if m = (-1) then 72 else 66), [.ref 28, .int (nI t), .int m, .int (nI k), .int (nI ((pop k) - 1))], [], MW A B F sw, 0, 0)) 4 rfl ?_
          refine wp_ite (fun h4 => ?_) (fun h4 => ?_)
          · skip
            refine wp_go (f' := (82, [.ref 28, .int (nI t), .int (nI ((pop k) - 1)), .int ((nI k) + 1), .int (nI ((pop k) - 1))], [], MW A B F sw, 0, 0)) 4 rfl ?_
            rw [nI_1]
            refine wp_go (f' := (22, [.ref 28, .int (nI t), .int (nI ((pop k) - 1)), .int (nI (k + 1)), .int (nI ((pop k) - 1))], [], MW A B F sw, 0, 0)) 1 rfl ?_
            refine wp_eq ?_ (ih (.int (nI ((pop k) - 1))))
            simp only [if_neg h3]
            simp [h1, h2, h4]
          · skip
            refine wp_go (f' := ((if m ≤ (nI ((pop k) - 1)) then 77 else 72), [.ref 28, .int (nI t), .int m, .int (nI k), .int (nI ((pop k) - 1))], [], MW A B F sw, 0, 0)) 3 rfl ?_
            refine wp_ite (fun h5 => ?_) (fun h5 => ?_)
            · skip
              refine wp_go (f' := (82, [.ref 28, .int (nI t), .int m, .int ((nI k) + 1), .int (nI ((pop k) - 1))], [], MW A B F sw, 0, 0)) 3 rfl ?_
              rw [nI_1]
              refine wp_go (f' := (22, [.ref 28, .int (nI t), .int m, .int (nI (k + 1)), .int (nI ((pop k) - 1))], [], MW A B F sw, 0, 0)) 1 rfl ?_
              refine wp_eq ?_ (ih (.int (nI ((pop k) - 1))))
              simp only [if_neg h3]
              simp [h1, h2, h4, Int32.not_lt.mpr h5]
            · skip
              refine wp_go (f' := (82, [.ref 28, .int (nI t), .int (nI ((pop k) - 1)), .int ((nI k) + 1), .int (nI ((pop k) - 1))], [], MW A B F sw, 0, 0)) 4 rfl ?_
              rw [nI_1]
              refine wp_go (f' := (22, [.ref 28, .int (nI t), .int (nI ((pop k) - 1)), .int (nI (k + 1)), .int (nI ((pop k) - 1))], [], MW A B F sw, 0, 0)) 1 rfl ?_
              refine wp_eq ?_ (ih (.int (nI ((pop k) - 1))))
              simp only [if_neg h3]
              simp [h1, h2, h4, Int32.not_le.mp h5]
        · have h3 := Classical.not_not.mp h3; have h3 : k = 0 := (nI_eq (a := k) (b := 0) (by omega) (by omega)).mp h3
          refine wp_go (f' := ((if m = (-1) then 72 else 66), [.ref 28, .int (nI t), .int m, .int (nI k), .int (nI 0)], [], MW A B F sw, 0, 0)) 6 rfl ?_
          refine wp_ite (fun h6 => ?_) (fun h6 => ?_)
          · skip
            refine wp_go (f' := (82, [.ref 28, .int (nI t), .int (nI 0), .int ((nI k) + 1), .int (nI 0)], [], MW A B F sw, 0, 0)) 4 rfl ?_
            rw [nI_1]
            refine wp_go (f' := (22, [.ref 28, .int (nI t), .int (nI 0), .int (nI (k + 1)), .int (nI 0)], [], MW A B F sw, 0, 0)) 1 rfl ?_
            refine wp_eq ?_ (ih (.int (nI 0)))
            simp only [if_pos h3]
            simp [h1, h2, h6]
          · skip
            refine wp_go (f' := ((if m ≤ (nI 0) then 77 else 72), [.ref 28, .int (nI t), .int m, .int (nI k), .int (nI 0)], [], MW A B F sw, 0, 0)) 3 rfl ?_
            refine wp_ite (fun h7 => ?_) (fun h7 => ?_)
            · skip
              refine wp_go (f' := (82, [.ref 28, .int (nI t), .int m, .int ((nI k) + 1), .int (nI 0)], [], MW A B F sw, 0, 0)) 3 rfl ?_
              rw [nI_1]
              refine wp_go (f' := (22, [.ref 28, .int (nI t), .int m, .int (nI (k + 1)), .int (nI 0)], [], MW A B F sw, 0, 0)) 1 rfl ?_
              refine wp_eq ?_ (ih (.int (nI 0)))
              simp only [if_pos h3]
              simp [h1, h2, h6, Int32.not_lt.mpr h7]
            · skip
              refine wp_go (f' := (82, [.ref 28, .int (nI t), .int (nI 0), .int ((nI k) + 1), .int (nI 0)], [], MW A B F sw, 0, 0)) 4 rfl ?_
              rw [nI_1]
              refine wp_go (f' := (22, [.ref 28, .int (nI t), .int (nI 0), .int (nI (k + 1)), .int (nI 0)], [], MW A B F sw, 0, 0)) 1 rfl ?_
              refine wp_eq ?_ (ih (.int (nI 0)))
              simp only [if_pos h3]
              simp [h1, h2, h6, Int32.not_le.mp h7]
  · intro  d4
    refine wp_go (f' := (24, [.ref 28, .int (nI t), .int (fewN n nb t), .int (nI (2 ^ n)), d4], [.ref 28, .int (nI (2 ^ n))], MW A B F sw, 0, 0)) 2 rfl ?_
    refine wp_call rfl rfl rfl (ev_up (ev_all hM) (by decide)) ?_
    refine wp_eq (f' := (27, [.ref 28, .int (nI t), .int (fewN n nb t), .int (nI (2 ^ n)), d4], [.int (nI (2 ^ n - 1)), .int (nI (2 ^ n))], MW A B F sw, 0, 0)) rfl ?_
    refine wp_go (f' := ((if (nI (2 ^ n - 1)) < (nI (2 ^ n)) then 85 else 30), [.ref 28, .int (nI t), .int (fewN n nb t), .int (nI (2 ^ n)), d4], [], MW A B F sw, 0, 0)) 1 rfl ?_
    refine wp_ite (fun _ => ?_) (fun h9 => absurd (nI_lt (by omega) (by omega)) h9)
    refine wp_go (f' := (86, [.ref 28, .int (nI t), .int (fewN n nb t), .int (nI (2 ^ n)), d4], [.int (fewN n nb t)], MW A B F sw, 0, 0)) 1 rfl ?_
    exact wp_iret rfl
end MM
end
section
/-- what v sees past those of s -/
def seesN (n : Nat) (nb : Nat → Nat) (s v : Nat) : Nat := sd (reachN n nb (hangN n nb v (s ||| 2 ^ v))) (hangN n nb v (s ||| 2 ^ v))
/-- how many of t are joined to one outside -/
def rowC (n : Nat) (nb : Nat → Nat) (t : Nat) : Nat := forN (fun k m => m + (if t.testBit k = true ∧ ¬ sd (nb k) t = 0 then 1 else 0)) n 0
/-- how many edges leave t -/
def cutC (n : Nat) (nb : Nat → Nat) (t : Nat) : Nat := forN (fun k m => m + (if t.testBit k then pop (sd (nb k) t) else 0)) n 0
/-- the cost of v behind those of s, by kind (0, 1, 3, 4) -/
def costN (n : Nat) (nb : Nat → Nat) (kind s v : Nat) : Nat := match kind with
  | 0 => pop (seesN n nb s v)
  | 1 => rowC n nb (s ||| 2 ^ v)
  | 3 => cutC n nb (s ||| 2 ^ v)
  | _ => pop (sd (seesN n nb s v) (nb v))
theorem seesN_lt {n : Nat} {nb : Nat → Nat} (hn : n ≤ 10) (hb : ∀ v, v < 10 → nb v < 1024) (s v : Nat) : seesN n nb s v < 1024 := sd_lt (reachN_lt hn hb _)
theorem rowC_le {n : Nat} {nb : Nat → Nat} {t : Nat} (hn : n ≤ 10) : rowC n nb t ≤ 10 * n := by
  refine forN_inv (I := fun k (m : Nat) => m ≤ 10 * k) (Nat.le_refl _) (fun k m hk hm => ?_) n (Nat.le_refl _)
  split <;> omega
theorem cutC_le {n : Nat} {nb : Nat → Nat} {t : Nat} (hn : n ≤ 10) (hb : ∀ v, v < 10 → nb v < 1024) : cutC n nb t ≤ 10 * n := by
  refine forN_inv (I := fun k (m : Nat) => m ≤ 10 * k) (Nat.le_refl _) (fun k m hk hm => ?_) n (Nat.le_refl _)
  split
  · have := pop_le (s := sd (nb k) t) (sd_lt (hb k (by omega)))
    omega
  · omega
theorem costN_le {n : Nat} {nb : Nat → Nat} {kind s v : Nat} (hn : n ≤ 10) (hb : ∀ v, v < 10 → nb v < 1024) : costN n nb kind s v ≤ 100 := by
  unfold costN
  split
  · have := pop_le (seesN_lt hn hb s v); omega
  · have := rowC_le (nb := nb) (t := s ||| 2 ^ v) hn; omega
  · have := cutC_le (t := s ||| 2 ^ v) hn hb; omega
  · have := pop_le (sd_lt (b := nb v) (seesN_lt hn hb s v)); omega
section MM
variable {xs : Nat → Int32} {Ls : Nat} {A : Nat → Nat → Int32} {B : Nat → Nat → Int64} {F : Nat → Int32} {sw : Bool} {n : Nat} {nb : Nat → Nat}
theorem ev_sees (hM : MI A F n nb) {s v : Nat} (hs : s < 1024) (hv : v < 10) : mv_Ev xs Ls 2 116 [.ref 28, .int (nI s), .int (nI v)] (MW A B F sw) (some (.int (nI (seesN n nb s v))), MW A B F sw, 0, 0) := by
  refine ev_of_wp rfl rfl rfl ?_
  have hn := hM.1
  refine wp_go (f' := (7, [.ref 28, .int (nI s), .int (nI v)], [.int ((nI 1) <<< ((nI v) &&& 31)), .int (nI s), .int (nI v), .ref 28, .ref 28], MW A B F sw, 0, 0)) 7 rfl ?_
  rw [bx_one (by omega)]
  have hb1 : 2 ^ v < 1024 := by first | omega | exact or_lt (by omega) (by omega) | exact and_lt (by omega) | exact and_lt_r (by omega) | exact sd_lt (by omega) | exact pow_lt (by omega)
  refine wp_go (f' := (8, [.ref 28, .int (nI s), .int (nI v)], [.int ((nI s) ||| (nI (2 ^ v))), .int (nI v), .ref 28, .ref 28], MW A B F sw, 0, 0)) 1 rfl ?_
  rw [bx_or]
  have hb2 : s ||| (2 ^ v) < 1024 := by first | omega | exact or_lt (by omega) (by omega) | exact and_lt (by omega) | exact and_lt_r (by omega) | exact sd_lt (by omega) | exact pow_lt (by omega)
  refine wp_call rfl rfl rfl (ev_up (ev_hang hM (v := v) (s := s ||| (2 ^ v)) (by omega) (by omega)) (by decide)) ?_
  refine wp_eq (f' := (11, [.ref 28, .int (nI s), .int (nI v)], [.int (nI (hangN n nb v (s ||| (2 ^ v)))), .ref 28], MW A B F sw, 0, 0)) rfl ?_
  have hhg := hangN_lt (n := n) (nb := nb) (v := v) (s := s ||| (2 ^ v)) (by omega) (by omega)
  refine wp_call rfl rfl rfl (ev_up (ev_around hM (s := hangN n nb v (s ||| (2 ^ v))) (by omega)) (by decide)) ?_
  refine wp_eq (f' := (14, [.ref 28, .int (nI s), .int (nI v)], [.int (nI (sd (reachN n nb (hangN n nb v (s ||| (2 ^ v)))) (hangN n nb v (s ||| (2 ^ v)))))], MW A B F sw, 0, 0)) rfl ?_
  have hra := sd_lt (b := hangN n nb v (s ||| (2 ^ v))) (reachN_lt hM.1 hM.2.2.2 (hangN n nb v (s ||| (2 ^ v))))
  exact wp_iret rfl
theorem ev_cost0 (hM : MI A F n nb) {s v : Nat} (hs : s < 1024) (hv : v < 10) : mv_Ev xs Ls 3 115 [.ref 28, .int (nI 0), .int (nI s), .int (nI v)] (MW A B F sw) (some (.int (nI (costN n nb 0 s v))), MW A B F sw, 0, 0) := by
  refine ev_of_wp rfl rfl rfl ?_
  have hn := hM.1
  have hp := pow10 hn
  have hp1 : 1 ≤ 2 ^ n := Nat.one_le_two_pow
  have hal := all_lt hn
  refine wp_go (f' := (3, [.ref 28, .int (nI 0), .int (nI s), .int (nI v), .retAddr 0, .retAddr 0, .retAddr 0, .retAddr 0], [.int (nI v), .int (nI s), .ref 28], MW A B F sw, 0, 0)) 3 rfl ?_
  refine wp_call rfl rfl rfl (ev_up (ev_sees hM (s := s) (v := v) (by omega) (by omega)) (by decide)) ?_
  refine wp_eq (f' := (6, [.ref 28, .int (nI 0), .int (nI s), .int (nI v), .retAddr 0, .retAddr 0, .retAddr 0, .retAddr 0], [.int (nI (seesN n nb s v))], MW A B F sw, 0, 0)) rfl ?_
  have hse := seesN_lt hM.1 hM.2.2.2 s v
  refine wp_go (f' := (12, [.ref 28, .int (nI 0), .int (nI s), .int (nI v), .int (nI (seesN n nb s v)), .retAddr 0, .retAddr 0, .retAddr 0], [.int ((nI 1) <<< ((nI v) &&& 31)), .int (nI s)], MW A B F sw, 0, 0)) 5 rfl ?_
  rw [bx_one (by omega)]
  have hb1 : 2 ^ v < 1024 := by first | omega | exact or_lt (by omega) (by omega) | exact and_lt (by omega) | exact and_lt_r (by omega) | exact sd_lt (by omega) | exact pow_lt (by omega)
  refine wp_go (f' := (13, [.ref 28, .int (nI 0), .int (nI s), .int (nI v), .int (nI (seesN n nb s v)), .retAddr 0, .retAddr 0, .retAddr 0], [.int ((nI s) ||| (nI (2 ^ v)))], MW A B F sw, 0, 0)) 1 rfl ?_
  rw [bx_or]
  have hb2 : s ||| (2 ^ v) < 1024 := by first | omega | exact or_lt (by omega) (by omega) | exact and_lt (by omega) | exact and_lt_r (by omega) | exact sd_lt (by omega) | exact pow_lt (by omega)
  refine wp_go (f' := (50, [.ref 28, .int (nI 0), .int (nI s), .int (nI v), .int (nI (seesN n nb s v)), .int (nI (s ||| (2 ^ v))), .int (nI 0), .retAddr 0], [.int (nI (seesN n nb s v))], MW A B F sw, 0, 0)) 6 rfl ?_
  refine wp_call rfl rfl rfl (ev_up (ev_onesN (s := seesN n nb s v) (by omega) _) (by decide)) ?_
  refine wp_eq (f' := (53, [.ref 28, .int (nI 0), .int (nI s), .int (nI v), .int (nI (seesN n nb s v)), .int (nI (s ||| (2 ^ v))), .int (nI 0), .retAddr 0], [.int (nI (pop (seesN n nb s v)))], MW A B F sw, 0, 0)) rfl ?_
  have hpp := pop_le (s := seesN n nb s v) (by omega)
  exact wp_iret rfl
theorem ev_cost1 (hM : MI A F n nb) {s v : Nat} (hs : s < 1024) (hv : v < 10) : mv_Ev xs Ls 3 115 [.ref 28, .int (nI 1), .int (nI s), .int (nI v)] (MW A B F sw) (some (.int (nI (costN n nb 1 s v))), MW A B F sw, 0, 0) := by
  refine ev_of_wp rfl rfl rfl ?_
  have hn := hM.1
  have hp := pow10 hn
  have hp1 : 1 ≤ 2 ^ n := Nat.one_le_two_pow
  have hal := all_lt hn
  refine wp_go (f' := (3, [.ref 28, .int (nI 1), .int (nI s), .int (nI v), .retAddr 0, .retAddr 0, .retAddr 0, .retAddr 0], [.int (nI v), .int (nI s), .ref 28], MW A B F sw, 0, 0)) 3 rfl ?_
  refine wp_call rfl rfl rfl (ev_up (ev_sees hM (s := s) (v := v) (by omega) (by omega)) (by decide)) ?_
  refine wp_eq (f' := (6, [.ref 28, .int (nI 1), .int (nI s), .int (nI v), .retAddr 0, .retAddr 0, .retAddr 0, .retAddr 0], [.int (nI (seesN n nb s v))], MW A B F sw, 0, 0)) rfl ?_
  have hse := seesN_lt hM.1 hM.2.2.2 s v
  refine wp_go (f' := (12, [.ref 28, .int (nI 1), .int (nI s), .int (nI v), .int (nI (seesN n nb s v)), .retAddr 0, .retAddr 0, .retAddr 0], [.int ((nI 1) <<< ((nI v) &&& 31)), .int (nI s)], MW A B F sw, 0, 0)) 5 rfl ?_
  rw [bx_one (by omega)]
  have hb1 : 2 ^ v < 1024 := by first | omega | exact or_lt (by omega) (by omega) | exact and_lt (by omega) | exact and_lt_r (by omega) | exact sd_lt (by omega) | exact pow_lt (by omega)
  refine wp_go (f' := (13, [.ref 28, .int (nI 1), .int (nI s), .int (nI v), .int (nI (seesN n nb s v)), .retAddr 0, .retAddr 0, .retAddr 0], [.int ((nI s) ||| (nI (2 ^ v)))], MW A B F sw, 0, 0)) 1 rfl ?_
  rw [bx_or]
  have hb2 : s ||| (2 ^ v) < 1024 := by first | omega | exact or_lt (by omega) (by omega) | exact and_lt (by omega) | exact and_lt_r (by omega) | exact sd_lt (by omega) | exact pow_lt (by omega)
  refine wp_go (f' := (57, [.ref 28, .int (nI 1), .int (nI s), .int (nI v), .int (nI (seesN n nb s v)), .int (nI (s ||| (2 ^ v))), .int (nI 0), .int (nI 0)], [], MW A B F sw, 0, 0)) 7 rfl ?_
  refine for_ind (P := fun (k : Nat) (m : Nat) => mv_Wp xs Ls 2 6 false (some .int) mv_c115 (57, [.ref 28, .int (nI 1), .int (nI s), .int (nI v), .int (nI (seesN n nb s v)), .int (nI (s ||| (2 ^ v))), .int (nI m), .int (nI k)], [], MW A B F sw, 0, 0) (some (.int (nI (costN n nb 1 s v))), MW A B F sw, 0, 0)) (f := fun k m => m + (if (s ||| 2 ^ v).testBit k = true ∧ ¬ sd (nb k) (s ||| 2 ^ v) = 0 then 1 else 0)) (n := n) ?_ n 0 (Nat.le_refl _) ?_  
  · intro k m hk ih  
    refine wp_go (f' := (63, [.ref 28, .int (nI 1), .int (nI s), .int (nI v), .int (nI (seesN n nb s v)), .int (nI (s ||| (2 ^ v))), .int (nI m), .int (nI k)], [.int (F 6), .int (nI k)], MW A B F sw, 0, 0)) 3 rfl ?_
    rw [hM.2.1]
    refine wp_go (f' := ((if (nI n) ≤ (nI k) then 108 else 66), [.ref 28, .int (nI 1), .int (nI s), .int (nI v), .int (nI (seesN n nb s v)), .int (nI (s ||| (2 ^ v))), .int (nI m), .int (nI k)], [], MW A B F sw, 0, 0)) 1 rfl ?_
    refine wp_ite (fun h9 => absurd h9 (nI_ge hk (by omega))) (fun _ => ?_)
    refine wp_go (f' := (75, [.ref 28, .int (nI 1), .int (nI s), .int (nI v), .int (nI (seesN n nb s v)), .int (nI (s ||| (2 ^ v))), .int (nI m), .int (nI k)], [.int (((nI (s ||| (2 ^ v))) >>> ((nI k) &&& 31)) &&& (nI 1)), .int (nI m)], MW A B F sw, 0, 0)) 6 rfl ?_
    rw [bx_bit (by omega) (by omega)]
    refine wp_go (f' := ((if ¬ (bI ((s ||| (2 ^ v)).testBit k)) = (nI 1) then 98 else 79), [.ref 28, .int (nI 1), .int (nI s), .int (nI v), .int (nI (seesN n nb s v)), .int (nI (s ||| (2 ^ v))), .int (nI m), .int (nI k)], [.int (nI m)], MW A B F sw, 0, 0)) 2 rfl ?_
    refine wp_ite (fun h1 => ?_) (fun h1 => ?_)
    · have h1 := bI_n1 h1
      refine wp_go (f' := (100, [.ref 28, .int (nI 1), .int (nI s), .int (nI v), .int (nI (seesN n nb s v)), .int (nI (s ||| (2 ^ v))), .int (nI m), .int (nI k)], [.int ((nI m) + (nI 0))], MW A B F sw, 0, 0)) 2 rfl ?_
      rw [nI_add]
      refine wp_go (f' := (105, [.ref 28, .int (nI 1), .int (nI s), .int (nI v), .int (nI (seesN n nb s v)), .int (nI (s ||| (2 ^ v))), .int (nI (m + 0)), .int ((nI k) + 1)], [], MW A B F sw, 0, 0)) 2 rfl ?_
      rw [nI_1]
      refine wp_go (f' := (57, [.ref 28, .int (nI 1), .int (nI s), .int (nI v), .int (nI (seesN n nb s v)), .int (nI (s ||| (2 ^ v))), .int (nI (m + 0)), .int (nI (k + 1))], [], MW A B F sw, 0, 0)) 1 rfl ?_
      refine wp_eq ?_ (ih  )
      simp [h1, nI_add]
    · have h1 := Classical.not_not.mp h1; have h1 := bI_1.mp h1
      refine wp_go (f' := (85, [.ref 28, .int (nI 1), .int (nI s), .int (nI v), .int (nI (seesN n nb s v)), .int (nI (s ||| (2 ^ v))), .int (nI m), .int (nI k)], [.int (nI k), .ref 29, .int (nI m)], MW A B F sw, 0, 0)) 3 rfl ?_
      refine wp_iald rfl rfl (by omega) (by decide) ?_
      rw [hM.2.2.1 k (by omega)]
      have hnb := hM.2.2.2 k (by omega)
      refine wp_go (f' := (91, [.ref 28, .int (nI 1), .int (nI s), .int (nI v), .int (nI (seesN n nb s v)), .int (nI (s ||| (2 ^ v))), .int (nI m), .int (nI k)], [.int ((nI (nb k)) &&& ((nI (s ||| (2 ^ v))) ^^^ (-1))), .int (nI m)], MW A B F sw, 0, 0)) 4 rfl ?_
      rw [bx_sd (by omega)]
      have hb1 : sd (nb k) (s ||| (2 ^ v)) < 1024 := by first | omega | exact or_lt (by omega) (by omega) | exact and_lt (by omega) | exact and_lt_r (by omega) | exact sd_lt (by omega) | exact pow_lt (by omega)
      refine wp_go (f' := ((if (nI (sd (nb k) (s ||| (2 ^ v)))) = 0 then 98 else 94), [.ref 28, .int (nI 1), .int (nI s), .int (nI v), .int (nI (seesN n nb s v)), .int (nI (s ||| (2 ^ v))), .int (nI m), .int (nI k)], [.int (nI m)], MW A B F sw, 0, 0)) 1 rfl ?_
      refine wp_ite (fun h2 => ?_) (fun h2 => ?_)
      · have h2 : sd (nb k) (s ||| (2 ^ v)) = 0 := (nI_eq (a := sd (nb k) (s ||| (2 ^ v))) (b := 0) (by omega) (by omega)).mp h2
        refine wp_go (f' := (100, [.ref 28, .int (nI 1), .int (nI s), .int (nI v), .int (nI (seesN n nb s v)), .int (nI (s ||| (2 ^ v))), .int (nI m), .int (nI k)], [.int ((nI m) + (nI 0))], MW A B F sw, 0, 0)) 2 rfl ?_
        rw [nI_add]
        refine wp_go (f' := (105, [.ref 28, .int (nI 1), .int (nI s), .int (nI v), .int (nI (seesN n nb s v)), .int (nI (s ||| (2 ^ v))), .int (nI (m + 0)), .int ((nI k) + 1)], [], MW A B F sw, 0, 0)) 2 rfl ?_
        rw [nI_1]
        refine wp_go (f' := (57, [.ref 28, .int (nI 1), .int (nI s), .int (nI v), .int (nI (seesN n nb s v)), .int (nI (s ||| (2 ^ v))), .int (nI (m + 0)), .int (nI (k + 1))], [], MW A B F sw, 0, 0)) 1 rfl ?_
        refine wp_eq ?_ (ih  )
        simp [h1, h2, nI_add]
      · have h2 : ¬ (sd (nb k) (s ||| (2 ^ v)) = 0) := fun h9 => h2 ((nI_eq (a := sd (nb k) (s ||| (2 ^ v))) (b := 0) (by omega) (by omega)).mpr h9)
        refine wp_go (f' := (100, [.ref 28, .int (nI 1), .int (nI s), .int (nI v), .int (nI (seesN n nb s v)), .int (nI (s ||| (2 ^ v))), .int (nI m), .int (nI k)], [.int ((nI m) + (nI 1))], MW A B F sw, 0, 0)) 3 rfl ?_
        rw [nI_add]
        refine wp_go (f' := (105, [.ref 28, .int (nI 1), .int (nI s), .int (nI v), .int (nI (seesN n nb s v)), .int (nI (s ||| (2 ^ v))), .int (nI (m + 1)), .int ((nI k) + 1)], [], MW A B F sw, 0, 0)) 2 rfl ?_
        rw [nI_1]
        refine wp_go (f' := (57, [.ref 28, .int (nI 1), .int (nI s), .int (nI v), .int (nI (seesN n nb s v)), .int (nI (s ||| (2 ^ v))), .int (nI (m + 1)), .int (nI (k + 1))], [], MW A B F sw, 0, 0)) 1 rfl ?_
        refine wp_eq ?_ (ih  )
        simp [h1, h2, nI_add]
  · skip
    refine wp_go (f' := (63, [.ref 28, .int (nI 1), .int (nI s), .int (nI v), .int (nI (seesN n nb s v)), .int (nI (s ||| (2 ^ v))), .int (nI (rowC n nb (s ||| 2 ^ v))), .int (nI n)], [.int (F 6), .int (nI n)], MW A B F sw, 0, 0)) 3 rfl ?_
    rw [hM.2.1]
    refine wp_go (f' := ((if (nI n) ≤ (nI n) then 108 else 66), [.ref 28, .int (nI 1), .int (nI s), .int (nI v), .int (nI (seesN n nb s v)), .int (nI (s ||| (2 ^ v))), .int (nI (rowC n nb (s ||| 2 ^ v))), .int (nI n)], [], MW A B F sw, 0, 0)) 1 rfl ?_
    refine wp_ite (fun _ => ?_) (fun h9 => absurd (nI_le (Nat.le_refl _) (by omega)) h9)
    refine wp_go (f' := (110, [.ref 28, .int (nI 1), .int (nI s), .int (nI v), .int (nI (seesN n nb s v)), .int (nI (s ||| (2 ^ v))), .int (nI (rowC n nb (s ||| 2 ^ v))), .int (nI n)], [.int (nI (rowC n nb (s ||| 2 ^ v)))], MW A B F sw, 0, 0)) 1 rfl ?_
    exact wp_iret rfl
theorem ev_cost3 (hM : MI A F n nb) {s v : Nat} (hs : s < 1024) (hv : v < 10) : mv_Ev xs Ls 3 115 [.ref 28, .int (nI 3), .int (nI s), .int (nI v)] (MW A B F sw) (some (.int (nI (costN n nb 3 s v))), MW A B F sw, 0, 0) := by
  refine ev_of_wp rfl rfl rfl ?_
  have hn := hM.1
  have hp := pow10 hn
  have hp1 : 1 ≤ 2 ^ n := Nat.one_le_two_pow
  have hal := all_lt hn
  refine wp_go (f' := (3, [.ref 28, .int (nI 3), .int (nI s), .int (nI v), .retAddr 0, .retAddr 0, .retAddr 0, .retAddr 0], [.int (nI v), .int (nI s), .ref 28], MW A B F sw, 0, 0)) 3 rfl ?_
  refine wp_call rfl rfl rfl (ev_up (ev_sees hM (s := s) (v := v) (by omega) (by omega)) (by decide)) ?_
  refine wp_eq (f' := (6, [.ref 28, .int (nI 3), .int (nI s), .int (nI v), .retAddr 0, .retAddr 0, .retAddr 0, .retAddr 0], [.int (nI (seesN n nb s v))], MW A B F sw, 0, 0)) rfl ?_
  have hse := seesN_lt hM.1 hM.2.2.2 s v
  refine wp_go (f' := (12, [.ref 28, .int (nI 3), .int (nI s), .int (nI v), .int (nI (seesN n nb s v)), .retAddr 0, .retAddr 0, .retAddr 0], [.int ((nI 1) <<< ((nI v) &&& 31)), .int (nI s)], MW A B F sw, 0, 0)) 5 rfl ?_
  rw [bx_one (by omega)]
  have hb1 : 2 ^ v < 1024 := by first | omega | exact or_lt (by omega) (by omega) | exact and_lt (by omega) | exact and_lt_r (by omega) | exact sd_lt (by omega) | exact pow_lt (by omega)
  refine wp_go (f' := (13, [.ref 28, .int (nI 3), .int (nI s), .int (nI v), .int (nI (seesN n nb s v)), .retAddr 0, .retAddr 0, .retAddr 0], [.int ((nI s) ||| (nI (2 ^ v)))], MW A B F sw, 0, 0)) 1 rfl ?_
  rw [bx_or]
  have hb2 : s ||| (2 ^ v) < 1024 := by first | omega | exact or_lt (by omega) (by omega) | exact and_lt (by omega) | exact and_lt_r (by omega) | exact sd_lt (by omega) | exact pow_lt (by omega)
  refine wp_go (f' := (114, [.ref 28, .int (nI 3), .int (nI s), .int (nI v), .int (nI (seesN n nb s v)), .int (nI (s ||| (2 ^ v))), .int (nI 0), .int (nI 0)], [], MW A B F sw, 0, 0)) 7 rfl ?_
  refine for_ind (P := fun (k : Nat) (m : Nat) => mv_Wp xs Ls 2 6 false (some .int) mv_c115 (114, [.ref 28, .int (nI 3), .int (nI s), .int (nI v), .int (nI (seesN n nb s v)), .int (nI (s ||| (2 ^ v))), .int (nI m), .int (nI k)], [], MW A B F sw, 0, 0) (some (.int (nI (costN n nb 3 s v))), MW A B F sw, 0, 0)) (f := fun k m => m + (if (s ||| 2 ^ v).testBit k then pop (sd (nb k) (s ||| 2 ^ v)) else 0)) (n := n) ?_ n 0 (Nat.le_refl _) ?_  
  · intro k m hk ih  
    refine wp_go (f' := (120, [.ref 28, .int (nI 3), .int (nI s), .int (nI v), .int (nI (seesN n nb s v)), .int (nI (s ||| (2 ^ v))), .int (nI m), .int (nI k)], [.int (F 6), .int (nI k)], MW A B F sw, 0, 0)) 3 rfl ?_
    rw [hM.2.1]
    refine wp_go (f' := ((if (nI n) ≤ (nI k) then 164 else 123), [.ref 28, .int (nI 3), .int (nI s), .int (nI v), .int (nI (seesN n nb s v)), .int (nI (s ||| (2 ^ v))), .int (nI m), .int (nI k)], [], MW A B F sw, 0, 0)) 1 rfl ?_
    refine wp_ite (fun h9 => absurd h9 (nI_ge hk (by omega))) (fun _ => ?_)
    refine wp_go (f' := (132, [.ref 28, .int (nI 3), .int (nI s), .int (nI v), .int (nI (seesN n nb s v)), .int (nI (s ||| (2 ^ v))), .int (nI m), .int (nI k)], [.int (((nI (s ||| (2 ^ v))) >>> ((nI k) &&& 31)) &&& (nI 1)), .int (nI m)], MW A B F sw, 0, 0)) 6 rfl ?_
    rw [bx_bit (by omega) (by omega)]
    refine wp_go (f' := ((if ¬ (bI ((s ||| (2 ^ v)).testBit k)) = (nI 1) then 154 else 136), [.ref 28, .int (nI 3), .int (nI s), .int (nI v), .int (nI (seesN n nb s v)), .int (nI (s ||| (2 ^ v))), .int (nI m), .int (nI k)], [.int (nI m)], MW A B F sw, 0, 0)) 2 rfl ?_
    refine wp_ite (fun h1 => ?_) (fun h1 => ?_)
    · have h1 := bI_n1 h1
      refine wp_go (f' := (156, [.ref 28, .int (nI 3), .int (nI s), .int (nI v), .int (nI (seesN n nb s v)), .int (nI (s ||| (2 ^ v))), .int (nI m), .int (nI k)], [.int ((nI m) + (nI 0))], MW A B F sw, 0, 0)) 2 rfl ?_
      rw [nI_add]
      refine wp_go (f' := (161, [.ref 28, .int (nI 3), .int (nI s), .int (nI v), .int (nI (seesN n nb s v)), .int (nI (s ||| (2 ^ v))), .int (nI (m + 0)), .int ((nI k) + 1)], [], MW A B F sw, 0, 0)) 2 rfl ?_
      rw [nI_1]
      refine wp_go (f' := (114, [.ref 28, .int (nI 3), .int (nI s), .int (nI v), .int (nI (seesN n nb s v)), .int (nI (s ||| (2 ^ v))), .int (nI (m + 0)), .int (nI (k + 1))], [], MW A B F sw, 0, 0)) 1 rfl ?_
      refine wp_eq ?_ (ih  )
      simp [h1, nI_add]
    · have h1 := Classical.not_not.mp h1; have h1 := bI_1.mp h1
      refine wp_go (f' := (142, [.ref 28, .int (nI 3), .int (nI s), .int (nI v), .int (nI (seesN n nb s v)), .int (nI (s ||| (2 ^ v))), .int (nI m), .int (nI k)], [.int (nI k), .ref 29, .int (nI m)], MW A B F sw, 0, 0)) 3 rfl ?_
      refine wp_iald rfl rfl (by omega) (by decide) ?_
      rw [hM.2.2.1 k (by omega)]
      have hnb := hM.2.2.2 k (by omega)
      refine wp_go (f' := (148, [.ref 28, .int (nI 3), .int (nI s), .int (nI v), .int (nI (seesN n nb s v)), .int (nI (s ||| (2 ^ v))), .int (nI m), .int (nI k)], [.int ((nI (nb k)) &&& ((nI (s ||| (2 ^ v))) ^^^ (-1))), .int (nI m)], MW A B F sw, 0, 0)) 4 rfl ?_
      rw [bx_sd (by omega)]
      have hb1 : sd (nb k) (s ||| (2 ^ v)) < 1024 := by first | omega | exact or_lt (by omega) (by omega) | exact and_lt (by omega) | exact and_lt_r (by omega) | exact sd_lt (by omega) | exact pow_lt (by omega)
      refine wp_call rfl rfl rfl (ev_up (ev_onesN (s := sd (nb k) (s ||| (2 ^ v))) (by omega) _) (by decide)) ?_
      refine wp_eq (f' := (151, [.ref 28, .int (nI 3), .int (nI s), .int (nI v), .int (nI (seesN n nb s v)), .int (nI (s ||| (2 ^ v))), .int (nI m), .int (nI k)], [.int (nI (pop (sd (nb k) (s ||| (2 ^ v))))), .int (nI m)], MW A B F sw, 0, 0)) rfl ?_
      have hpp := pop_le (s := sd (nb k) (s ||| (2 ^ v))) (by omega)
      refine wp_go (f' := (156, [.ref 28, .int (nI 3), .int (nI s), .int (nI v), .int (nI (seesN n nb s v)), .int (nI (s ||| (2 ^ v))), .int (nI m), .int (nI k)], [.int ((nI m) + (nI (pop (sd (nb k) (s ||| (2 ^ v))))))], MW A B F sw, 0, 0)) 2 rfl ?_
      rw [nI_add]
      refine wp_go (f' := (161, [.ref 28, .int (nI 3), .int (nI s), .int (nI v), .int (nI (seesN n nb s v)), .int (nI (s ||| (2 ^ v))), .int (nI (m + (pop (sd (nb k) (s ||| (2 ^ v)))))), .int ((nI k) + 1)], [], MW A B F sw, 0, 0)) 2 rfl ?_
      rw [nI_1]
      refine wp_go (f' := (114, [.ref 28, .int (nI 3), .int (nI s), .int (nI v), .int (nI (seesN n nb s v)), .int (nI (s ||| (2 ^ v))), .int (nI (m + (pop (sd (nb k) (s ||| (2 ^ v)))))), .int (nI (k + 1))], [], MW A B F sw, 0, 0)) 1 rfl ?_
      refine wp_eq ?_ (ih  )
      simp [h1, nI_add]
  · skip
    refine wp_go (f' := (120, [.ref 28, .int (nI 3), .int (nI s), .int (nI v), .int (nI (seesN n nb s v)), .int (nI (s ||| (2 ^ v))), .int (nI (cutC n nb (s ||| 2 ^ v))), .int (nI n)], [.int (F 6), .int (nI n)], MW A B F sw, 0, 0)) 3 rfl ?_
    rw [hM.2.1]
    refine wp_go (f' := ((if (nI n) ≤ (nI n) then 164 else 123), [.ref 28, .int (nI 3), .int (nI s), .int (nI v), .int (nI (seesN n nb s v)), .int (nI (s ||| (2 ^ v))), .int (nI (cutC n nb (s ||| 2 ^ v))), .int (nI n)], [], MW A B F sw, 0, 0)) 1 rfl ?_
    refine wp_ite (fun _ => ?_) (fun h9 => absurd (nI_le (Nat.le_refl _) (by omega)) h9)
    refine wp_go (f' := (166, [.ref 28, .int (nI 3), .int (nI s), .int (nI v), .int (nI (seesN n nb s v)), .int (nI (s ||| (2 ^ v))), .int (nI (cutC n nb (s ||| 2 ^ v))), .int (nI n)], [.int (nI (cutC n nb (s ||| 2 ^ v)))], MW A B F sw, 0, 0)) 1 rfl ?_
    exact wp_iret rfl
theorem ev_cost4 (hM : MI A F n nb) {s v : Nat} (hs : s < 1024) (hv : v < 10) : mv_Ev xs Ls 3 115 [.ref 28, .int (nI 4), .int (nI s), .int (nI v)] (MW A B F sw) (some (.int (nI (costN n nb 4 s v))), MW A B F sw, 0, 0) := by
  refine ev_of_wp rfl rfl rfl ?_
  have hn := hM.1
  have hp := pow10 hn
  have hp1 : 1 ≤ 2 ^ n := Nat.one_le_two_pow
  have hal := all_lt hn
  refine wp_go (f' := (3, [.ref 28, .int (nI 4), .int (nI s), .int (nI v), .retAddr 0, .retAddr 0, .retAddr 0, .retAddr 0], [.int (nI v), .int (nI s), .ref 28], MW A B F sw, 0, 0)) 3 rfl ?_
  refine wp_call rfl rfl rfl (ev_up (ev_sees hM (s := s) (v := v) (by omega) (by omega)) (by decide)) ?_
  refine wp_eq (f' := (6, [.ref 28, .int (nI 4), .int (nI s), .int (nI v), .retAddr 0, .retAddr 0, .retAddr 0, .retAddr 0], [.int (nI (seesN n nb s v))], MW A B F sw, 0, 0)) rfl ?_
  have hse := seesN_lt hM.1 hM.2.2.2 s v
  refine wp_go (f' := (12, [.ref 28, .int (nI 4), .int (nI s), .int (nI v), .int (nI (seesN n nb s v)), .retAddr 0, .retAddr 0, .retAddr 0], [.int ((nI 1) <<< ((nI v) &&& 31)), .int (nI s)], MW A B F sw, 0, 0)) 5 rfl ?_
  rw [bx_one (by omega)]
  have hb1 : 2 ^ v < 1024 := by first | omega | exact or_lt (by omega) (by omega) | exact and_lt (by omega) | exact and_lt_r (by omega) | exact sd_lt (by omega) | exact pow_lt (by omega)
  refine wp_go (f' := (13, [.ref 28, .int (nI 4), .int (nI s), .int (nI v), .int (nI (seesN n nb s v)), .retAddr 0, .retAddr 0, .retAddr 0], [.int ((nI s) ||| (nI (2 ^ v)))], MW A B F sw, 0, 0)) 1 rfl ?_
  rw [bx_or]
  have hb2 : s ||| (2 ^ v) < 1024 := by first | omega | exact or_lt (by omega) (by omega) | exact and_lt (by omega) | exact and_lt_r (by omega) | exact sd_lt (by omega) | exact pow_lt (by omega)
  refine wp_go (f' := (174, [.ref 28, .int (nI 4), .int (nI s), .int (nI v), .int (nI (seesN n nb s v)), .int (nI (s ||| (2 ^ v))), .int (nI 0), .retAddr 0], [.int (nI v), .ref 29, .int (nI (seesN n nb s v))], MW A B F sw, 0, 0)) 9 rfl ?_
  refine wp_iald rfl rfl (by omega) (by decide) ?_
  rw [hM.2.2.1 v (by omega)]
  have hnb := hM.2.2.2 v (by omega)
  refine wp_go (f' := (178, [.ref 28, .int (nI 4), .int (nI s), .int (nI v), .int (nI (seesN n nb s v)), .int (nI (s ||| (2 ^ v))), .int (nI 0), .retAddr 0], [.int ((nI (seesN n nb s v)) &&& ((nI (nb v)) ^^^ (-1)))], MW A B F sw, 0, 0)) 3 rfl ?_
  rw [bx_sd (by omega)]
  have hb3 : sd (seesN n nb s v) (nb v) < 1024 := by first | omega | exact or_lt (by omega) (by omega) | exact and_lt (by omega) | exact and_lt_r (by omega) | exact sd_lt (by omega) | exact pow_lt (by omega)
  refine wp_call rfl rfl rfl (ev_up (ev_onesN (s := sd (seesN n nb s v) (nb v)) (by omega) _) (by decide)) ?_
  refine wp_eq (f' := (181, [.ref 28, .int (nI 4), .int (nI s), .int (nI v), .int (nI (seesN n nb s v)), .int (nI (s ||| (2 ^ v))), .int (nI 0), .retAddr 0], [.int (nI (pop (sd (seesN n nb s v) (nb v))))], MW A B F sw, 0, 0)) rfl ?_
  have hpp := pop_le (s := sd (seesN n nb s v) (nb v)) (by omega)
  exact wp_iret rfl
theorem ev_cost {kind : Nat} (hk : kind = 0 ∨ kind = 1 ∨ kind = 3 ∨ kind = 4) (hM : MI A F n nb) {s v : Nat} (hs : s < 1024) (hv : v < 10) : mv_Ev xs Ls 3 115 [.ref 28, .int (nI kind), .int (nI s), .int (nI v)] (MW A B F sw) (some (.int (nI (costN n nb kind s v))), MW A B F sw, 0, 0) := by
  rcases hk with rfl | rfl | rfl | rfl
  · exact ev_cost0 hM hs hv
  · exact ev_cost1 hM hs hv
  · exact ev_cost3 hM hs hv
  · exact ev_cost4 hM hs hv
end MM
end
section
/-- a cost and what comes behind it -/
def comb (kind c d : Nat) : Nat := if kind = 4 then c + d else if c ≤ d then d else c
/-- one more vertex behind s: the least so far -/
def bbS (n : Nat) (nb : Nat → Nat) (kind s : Nat) (T : Nat → Nat) : Nat → Nat → Nat := fun v m => if s.testBit v then m else if comb kind (costN n nb kind s v) (T (s ||| 2 ^ v)) < m then comb kind (costN n nb kind s v) (T (s ||| 2 ^ v)) else m
def bbF (n : Nat) (nb : Nat → Nat) (kind : Nat) : Nat → Nat → Nat
  | 0, _ => 0
  | f + 1, s => forN (bbS n nb kind s (bbF n nb kind f)) n (if s = 2 ^ n - 1 then 0 else 1000)
/-- the least cost of what comes behind s -/
def bbN (n : Nat) (nb : Nat → Nat) (kind s : Nat) : Nat := bbF n nb kind (2 ^ n) s
theorem forN_congr {α : Type} {f g : Nat → α → α} {n : Nat} (h : ∀ k, k < n → ∀ a, f k a = g k a) (a : α) : ∀ j, j ≤ n → forN f j a = forN g j a
  | 0, _ => rfl
  | j + 1, hj => by simp only [forN]; rw [forN_congr h a j (by omega), h j (by omega)]
theorem or_gt {s k : Nat} (h : s.testBit k = false) : s < s ||| 2 ^ k := by
  refine Nat.lt_of_le_of_ne Nat.left_le_or (fun e => ?_)
  have := congrArg (fun x : Nat => x.testBit k) e
  simp [h, Nat.testBit_or, Nat.testBit_two_pow_self] at this
theorem or_ltn {s k n : Nat} (hs : s < 2 ^ n) (hk : k < n) : s ||| 2 ^ k < 2 ^ n := Nat.or_lt_two_pow hs (Nat.pow_lt_pow_right (by omega) hk)
theorem bbF_fuel {n : Nat} {nb : Nat → Nat} {kind : Nat} : ∀ (f g s : Nat), s < 2 ^ n → 2 ^ n ≤ s + f → 2 ^ n ≤ s + g → bbF n nb kind f s = bbF n nb kind g s
  | 0, g, s, hs, h1, h2 => by omega
  | f + 1, 0, s, hs, h1, h2 => by omega
  | f + 1, g + 1, s, hs, h1, h2 => by
    simp only [bbF]
    refine forN_congr (fun v hv m => ?_) _ n (Nat.le_refl _)
    unfold bbS
    cases hb : s.testBit v with
    | true => rfl
    | false =>
      have h3 := or_gt hb
      have h4 := or_ltn hs hv
      rw [bbF_fuel f g (s ||| 2 ^ v) h4 (by omega) (by omega)]
theorem bbN_eq {n : Nat} {nb : Nat → Nat} {kind s : Nat} (hs : s < 2 ^ n) : bbN n nb kind s = forN (bbS n nb kind s (bbN n nb kind)) n (if s = 2 ^ n - 1 then 0 else 1000) := by
  have hp1 : 1 ≤ 2 ^ n := Nat.one_le_two_pow
  obtain ⟨f, hf⟩ : ∃ f, 2 ^ n = f + 1 := ⟨2 ^ n - 1, by omega⟩
  have e : bbN n nb kind s = bbF n nb kind (f + 1) s := by unfold bbN; rw [hf]
  rw [e]
  simp only [bbF]
  refine forN_congr (fun v hv m => ?_) _ n (Nat.le_refl _)
  unfold bbS
  cases hb : s.testBit v with
  | true => rfl
  | false =>
    have h3 := or_gt hb
    have h4 := or_ltn hs hv
    unfold bbN
    rw [bbF_fuel f (2 ^ n) (s ||| 2 ^ v) h4 (by omega) (by omega)]
theorem bbN_le {n : Nat} {nb : Nat → Nat} {kind s : Nat} (hs : s < 2 ^ n) : bbN n nb kind s ≤ 1000 := by
  rw [bbN_eq hs]
  refine forN_inv (I := fun _ (m : Nat) => m ≤ 1000) (by split <;> omega) (fun k m hk hm => ?_) n (Nat.le_refl _)
  unfold bbS
  split
  · exact hm
  · split <;> omega
section MM
variable {xs : Nat → Int32} {Ls : Nat} {A : Nat → Nat → Int32} {B : Nat → Nat → Int64} {F : Nat → Int32} {sw : Bool} {n : Nat} {nb : Nat → Nat}
theorem lp_tell (hM : MI A F n nb) {kind : Nat} (hkd : kind = 0 ∨ kind = 1 ∨ kind = 3 ∨ kind = 4) {s : Nat} (hs : s < 2 ^ n) {f : Nat → Int32} (hf : ∀ j, s < j → j < 2 ^ n → f j = nI (bbN n nb kind j)) {m0 : Nat} (hm0 : m0 ≤ 1000) {r : mv_R} (hex : ∀ (d5 d6 d7 : Value), forN (bbS n nb kind s (bbN n nb kind)) n m0 ≤ 1000 → mv_Wp xs Ls 3 6 false none mv_c114 (28, [.ref 28, .int (nI kind), .int (nI s), .int (nI (forN (bbS n nb kind s (bbN n nb kind)) n m0)), .int (nI n), d5, d6, d7], [], MW (upA A 31 f) B F sw, 0, 0) r) (d5 d6 d7 : Value) : mv_Wp xs Ls 3 6 false none mv_c114 (28, [.ref 28, .int (nI kind), .int (nI s), .int (nI m0), .int (nI 0), d5, d6, d7], [], MW (upA A 31 f) B F sw, 0, 0) r := by
  have hn := hM.1
  have hp := pow10 hn
  have hp1 : 1 ≤ 2 ^ n := Nat.one_le_two_pow
  have hal := all_lt hn
  have hM31 : MI (upA A 31 f) F n nb := hM
  have hk4 : kind ≤ 4 := by omega
  refine for_ind (P := fun (k m : Nat) => m ≤ 1000 → ∀ (d5 d6 d7 : Value), mv_Wp xs Ls 3 6 false none mv_c114 (28, [.ref 28, .int (nI kind), .int (nI s), .int (nI m), .int (nI k), d5, d6, d7], [], MW (upA A 31 f) B F sw, 0, 0) r) (f := bbS n nb kind s (bbN n nb kind)) (n := n) ?_ n m0 (Nat.le_refl _) ?_ hm0 d5 d6 d7
  · intro k m hk ih hm d5 d6 d7
    refine wp_go (f' := (34, [.ref 28, .int (nI kind), .int (nI s), .int (nI m), .int (nI k), d5, d6, d7], [.int (F 6), .int (nI k)], MW (upA A 31 f) B F sw, 0, 0)) 3 rfl ?_
    rw [hM.2.1]
    refine wp_go (f' := ((if (nI n) ≤ (nI k) then 117 else 37), [.ref 28, .int (nI kind), .int (nI s), .int (nI m), .int (nI k), d5, d6, d7], [], MW (upA A 31 f) B F sw, 0, 0)) 1 rfl ?_
    refine wp_ite (fun h9 => absurd h9 (nI_ge hk (by omega))) (fun _ => ?_)
    refine wp_go (f' := (43, [.ref 28, .int (nI kind), .int (nI s), .int (nI m), .int (nI k), d5, d6, d7], [.int (((nI s) >>> ((nI k) &&& 31)) &&& (nI 1))], MW (upA A 31 f) B F sw, 0, 0)) 5 rfl ?_
    rw [bx_bit (by omega) (by omega)]
    refine wp_go (f' := ((if ¬ (bI (s.testBit k)) = 0 then 111 else 46), [.ref 28, .int (nI kind), .int (nI s), .int (nI m), .int (nI k), d5, d6, d7], [], MW (upA A 31 f) B F sw, 0, 0)) 1 rfl ?_
    refine wp_ite (fun h1 => ?_) (fun h1 => ?_)
    · have h1 := bI_n0 h1
      refine wp_go (f' := (114, [.ref 28, .int (nI kind), .int (nI s), .int (nI m), .int ((nI k) + 1), d5, d6, d7], [], MW (upA A 31 f) B F sw, 0, 0)) 1 rfl ?_
      rw [nI_1]
      refine wp_go (f' := (28, [.ref 28, .int (nI kind), .int (nI s), .int (nI m), .int (nI (k + 1)), d5, d6, d7], [], MW (upA A 31 f) B F sw, 0, 0)) 1 rfl ?_
      have e9 : bbS n nb kind s (bbN n nb kind) k m = m := by
        unfold bbS comb
        simp only [h1, if_true]
      have h8 := ih (by rw [e9]; omega) d5 d6 d7
      rw [e9] at h8
      exact h8
    · have h1 := Classical.not_not.mp h1; have h1 := bI_0.mp h1
      refine wp_go (f' := (51, [.ref 28, .int (nI kind), .int (nI s), .int (nI m), .int (nI k), d5, d6, d7], [.int (nI k), .int (nI s), .int (nI kind), .ref 28], MW (upA A 31 f) B F sw, 0, 0)) 4 rfl ?_
      refine wp_call rfl rfl rfl (ev_up (ev_cost hkd hM31 (s := s) (v := k) (by omega) (by omega)) (by decide)) ?_
      refine wp_eq (f' := (54, [.ref 28, .int (nI kind), .int (nI s), .int (nI m), .int (nI k), d5, d6, d7], [.int (nI (costN n nb kind s k))], MW (upA A 31 f) B F sw, 0, 0)) rfl ?_
      have hco := costN_le (kind := kind) (s := s) (v := k) hM.1 hM.2.2.2
      have hbit := h1
      refine wp_go (f' := (65, [.ref 28, .int (nI kind), .int (nI s), .int (nI m), .int (nI k), .int (nI (costN n nb kind s k)), d6, d7], [.int ((nI 1) <<< ((nI k) &&& 31)), .int (nI s), .ref 31], MW (upA A 31 f) B F sw, 0, 0)) 7 rfl ?_
      rw [bx_one (by omega)]
      have hb1 : 2 ^ k < 1024 := by first | omega | exact or_lt (by omega) (by omega) | exact and_lt (by omega) | exact and_lt_r (by omega) | exact sd_lt (by omega) | exact pow_lt (by omega)
      refine wp_go (f' := (66, [.ref 28, .int (nI kind), .int (nI s), .int (nI m), .int (nI k), .int (nI (costN n nb kind s k)), d6, d7], [.int ((nI s) ||| (nI (2 ^ k))), .ref 31], MW (upA A 31 f) B F sw, 0, 0)) 1 rfl ?_
      rw [bx_or]
      have hb2 : s ||| (2 ^ k) < 1024 := by first | omega | exact or_lt (by omega) (by omega) | exact and_lt (by omega) | exact and_lt_r (by omega) | exact sd_lt (by omega) | exact pow_lt (by omega)
      refine wp_iald rfl rfl (by omega) (by decide) ?_
      refine wp_eq (f' := (67, [.ref 28, .int (nI kind), .int (nI s), .int (nI m), .int (nI k), .int (nI (costN n nb kind s k)), d6, d7], [.int (f (s ||| (2 ^ k)))], MW (upA A 31 f) B F sw, 0, 0)) rfl ?_
      rw [hf (s ||| (2 ^ k)) (or_gt hbit) (or_ltn hs hk)]
      have hbd := bbN_le (nb := nb) (kind := kind) (or_ltn hs hk)
      refine wp_go (f' := ((if ¬ (nI kind) = (nI 4) then 82 else 74), [.ref 28, .int (nI kind), .int (nI s), .int (nI m), .int (nI k), .int (nI (costN n nb kind s k)), .int (nI (bbN n nb kind (s ||| (2 ^ k)))), d7], [], MW (upA A 31 f) B F sw, 0, 0)) 4 rfl ?_
      refine wp_ite (fun h2 => ?_) (fun h2 => ?_)
      · have h2 : ¬ (kind = 4) := fun h9 => h2 ((nI_eq (a := kind) (b := 4) (by omega) (by omega)).mpr h9)
        refine wp_go (f' := ((if (nI (costN n nb kind s k)) ≤ (nI (bbN n nb kind (s ||| (2 ^ k)))) then 94 else 89), [.ref 28, .int (nI kind), .int (nI s), .int (nI m), .int (nI k), .int (nI (costN n nb kind s k)), .int (nI (bbN n nb kind (s ||| (2 ^ k)))), d7], [], MW (upA A 31 f) B F sw, 0, 0)) 3 rfl ?_
        refine wp_ite (fun h3 => ?_) (fun h3 => ?_)
        · have h3 : costN n nb kind s k ≤ bbN n nb kind (s ||| (2 ^ k)) := (nI_leI (a := costN n nb kind s k) (b := bbN n nb kind (s ||| (2 ^ k))) (by omega) (by omega)).mp h3
          refine wp_go (f' := ((if (nI m) ≤ (nI (bbN n nb kind (s ||| (2 ^ k)))) then 109 else 104), [.ref 28, .int (nI kind), .int (nI s), .int (nI m), .int (nI k), .int (nI (costN n nb kind s k)), .int (nI (bbN n nb kind (s ||| (2 ^ k)))), .int (nI (bbN n nb kind (s ||| (2 ^ k))))], [], MW (upA A 31 f) B F sw, 0, 0)) 5 rfl ?_
          refine wp_ite (fun h4 => ?_) (fun h4 => ?_)
          · have h4 : m ≤ bbN n nb kind (s ||| (2 ^ k)) := (nI_leI (a := m) (b := bbN n nb kind (s ||| (2 ^ k))) (by omega) (by omega)).mp h4
            refine wp_go (f' := (114, [.ref 28, .int (nI kind), .int (nI s), .int (nI m), .int ((nI k) + 1), .int (nI (costN n nb kind s k)), .int (nI (bbN n nb kind (s ||| (2 ^ k)))), .int (nI (bbN n nb kind (s ||| (2 ^ k))))], [], MW (upA A 31 f) B F sw, 0, 0)) 3 rfl ?_
            rw [nI_1]
            refine wp_go (f' := (28, [.ref 28, .int (nI kind), .int (nI s), .int (nI m), .int (nI (k + 1)), .int (nI (costN n nb kind s k)), .int (nI (bbN n nb kind (s ||| (2 ^ k)))), .int (nI (bbN n nb kind (s ||| (2 ^ k))))], [], MW (upA A 31 f) B F sw, 0, 0)) 1 rfl ?_
            have e9 : bbS n nb kind s (bbN n nb kind) k m = m := by
              unfold bbS comb
              simp only [h1, Bool.false_eq_true, if_false]
              repeat' split
              all_goals omega
            have h8 := ih (by rw [e9]; omega) (.int (nI (costN n nb kind s k))) (.int (nI (bbN n nb kind (s ||| (2 ^ k))))) (.int (nI (bbN n nb kind (s ||| (2 ^ k)))))
            rw [e9] at h8
            exact h8
          · have h4 : ¬ (m ≤ bbN n nb kind (s ||| (2 ^ k))) := fun h9 => h4 ((nI_leI (a := m) (b := bbN n nb kind (s ||| (2 ^ k))) (by omega) (by omega)).mpr h9)
            refine wp_go (f' := (114, [.ref 28, .int (nI kind), .int (nI s), .int (nI (bbN n nb kind (s ||| (2 ^ k)))), .int ((nI k) + 1), .int (nI (costN n nb kind s k)), .int (nI (bbN n nb kind (s ||| (2 ^ k)))), .int (nI (bbN n nb kind (s ||| (2 ^ k))))], [], MW (upA A 31 f) B F sw, 0, 0)) 4 rfl ?_
            rw [nI_1]
            refine wp_go (f' := (28, [.ref 28, .int (nI kind), .int (nI s), .int (nI (bbN n nb kind (s ||| (2 ^ k)))), .int (nI (k + 1)), .int (nI (costN n nb kind s k)), .int (nI (bbN n nb kind (s ||| (2 ^ k)))), .int (nI (bbN n nb kind (s ||| (2 ^ k))))], [], MW (upA A 31 f) B F sw, 0, 0)) 1 rfl ?_
            have e9 : bbS n nb kind s (bbN n nb kind) k m = bbN n nb kind (s ||| (2 ^ k)) := by
              unfold bbS comb
              simp only [h1, Bool.false_eq_true, if_false]
              repeat' split
              all_goals omega
            have h8 := ih (by rw [e9]; omega) (.int (nI (costN n nb kind s k))) (.int (nI (bbN n nb kind (s ||| (2 ^ k))))) (.int (nI (bbN n nb kind (s ||| (2 ^ k)))))
            rw [e9] at h8
            exact h8
        · have h3 : ¬ (costN n nb kind s k ≤ bbN n nb kind (s ||| (2 ^ k))) := fun h9 => h3 ((nI_leI (a := costN n nb kind s k) (b := bbN n nb kind (s ||| (2 ^ k))) (by omega) (by omega)).mpr h9)
          refine wp_go (f' := ((if (nI m) ≤ (nI (costN n nb kind s k)) then 109 else 104), [.ref 28, .int (nI kind), .int (nI s), .int (nI m), .int (nI k), .int (nI (costN n nb kind s k)), .int (nI (bbN n nb kind (s ||| (2 ^ k)))), .int (nI (costN n nb kind s k))], [], MW (upA A 31 f) B F sw, 0, 0)) 6 rfl ?_
          refine wp_ite (fun h5 => ?_) (fun h5 => ?_)
          · have h5 : m ≤ costN n nb kind s k := (nI_leI (a := m) (b := costN n nb kind s k) (by omega) (by omega)).mp h5
            refine wp_go (f' := (114, [.ref 28, .int (nI kind), .int (nI s), .int (nI m), .int ((nI k) + 1), .int (nI (costN n nb kind s k)), .int (nI (bbN n nb kind (s ||| (2 ^ k)))), .int (nI (costN n nb kind s k))], [], MW (upA A 31 f) B F sw, 0, 0)) 3 rfl ?_
            rw [nI_1]
            refine wp_go (f' := (28, [.ref 28, .int (nI kind), .int (nI s), .int (nI m), .int (nI (k + 1)), .int (nI (costN n nb kind s k)), .int (nI (bbN n nb kind (s ||| (2 ^ k)))), .int (nI (costN n nb kind s k))], [], MW (upA A 31 f) B F sw, 0, 0)) 1 rfl ?_
            have e9 : bbS n nb kind s (bbN n nb kind) k m = m := by
              unfold bbS comb
              simp only [h1, Bool.false_eq_true, if_false]
              repeat' split
              all_goals omega
            have h8 := ih (by rw [e9]; omega) (.int (nI (costN n nb kind s k))) (.int (nI (bbN n nb kind (s ||| (2 ^ k))))) (.int (nI (costN n nb kind s k)))
            rw [e9] at h8
            exact h8
          · have h5 : ¬ (m ≤ costN n nb kind s k) := fun h9 => h5 ((nI_leI (a := m) (b := costN n nb kind s k) (by omega) (by omega)).mpr h9)
            refine wp_go (f' := (114, [.ref 28, .int (nI kind), .int (nI s), .int (nI (costN n nb kind s k)), .int ((nI k) + 1), .int (nI (costN n nb kind s k)), .int (nI (bbN n nb kind (s ||| (2 ^ k)))), .int (nI (costN n nb kind s k))], [], MW (upA A 31 f) B F sw, 0, 0)) 4 rfl ?_
            rw [nI_1]
            refine wp_go (f' := (28, [.ref 28, .int (nI kind), .int (nI s), .int (nI (costN n nb kind s k)), .int (nI (k + 1)), .int (nI (costN n nb kind s k)), .int (nI (bbN n nb kind (s ||| (2 ^ k)))), .int (nI (costN n nb kind s k))], [], MW (upA A 31 f) B F sw, 0, 0)) 1 rfl ?_
            have e9 : bbS n nb kind s (bbN n nb kind) k m = costN n nb kind s k := by
              unfold bbS comb
              simp only [h1, Bool.false_eq_true, if_false]
              repeat' split
              all_goals omega
            have h8 := ih (by rw [e9]; omega) (.int (nI (costN n nb kind s k))) (.int (nI (bbN n nb kind (s ||| (2 ^ k))))) (.int (nI (costN n nb kind s k)))
            rw [e9] at h8
            exact h8
      · have h2 := Classical.not_not.mp h2; have h2 : kind = 4 := (nI_eq (a := kind) (b := 4) (by omega) (by omega)).mp h2
        refine wp_go (f' := (79, [.ref 28, .int (nI kind), .int (nI s), .int (nI m), .int (nI k), .int (nI (costN n nb kind s k)), .int (nI (bbN n nb kind (s ||| (2 ^ k)))), d7], [.int ((nI (costN n nb kind s k)) + (nI (bbN n nb kind (s ||| (2 ^ k)))))], MW (upA A 31 f) B F sw, 0, 0)) 3 rfl ?_
        rw [nI_add]
        refine wp_go (f' := ((if (nI m) ≤ (nI ((costN n nb kind s k) + (bbN n nb kind (s ||| (2 ^ k))))) then 109 else 104), [.ref 28, .int (nI kind), .int (nI s), .int (nI m), .int (nI k), .int (nI (costN n nb kind s k)), .int (nI (bbN n nb kind (s ||| (2 ^ k)))), .int (nI ((costN n nb kind s k) + (bbN n nb kind (s ||| (2 ^ k)))))], [], MW (upA A 31 f) B F sw, 0, 0)) 5 rfl ?_
        refine wp_ite (fun h6 => ?_) (fun h6 => ?_)
        · have h6 : m ≤ (costN n nb kind s k) + (bbN n nb kind (s ||| (2 ^ k))) := (nI_leI (a := m) (b := (costN n nb kind s k) + (bbN n nb kind (s ||| (2 ^ k)))) (by omega) (by omega)).mp h6
          refine wp_go (f' := (114, [.ref 28, .int (nI kind), .int (nI s), .int (nI m), .int ((nI k) + 1), .int (nI (costN n nb kind s k)), .int (nI (bbN n nb kind (s ||| (2 ^ k)))), .int (nI ((costN n nb kind s k) + (bbN n nb kind (s ||| (2 ^ k)))))], [], MW (upA A 31 f) B F sw, 0, 0)) 3 rfl ?_
          rw [nI_1]
          refine wp_go (f' := (28, [.ref 28, .int (nI kind), .int (nI s), .int (nI m), .int (nI (k + 1)), .int (nI (costN n nb kind s k)), .int (nI (bbN n nb kind (s ||| (2 ^ k)))), .int (nI ((costN n nb kind s k) + (bbN n nb kind (s ||| (2 ^ k)))))], [], MW (upA A 31 f) B F sw, 0, 0)) 1 rfl ?_
          have e9 : bbS n nb kind s (bbN n nb kind) k m = m := by
            unfold bbS comb
            simp only [h1, Bool.false_eq_true, if_false]
            repeat' split
            all_goals omega
          have h8 := ih (by rw [e9]; omega) (.int (nI (costN n nb kind s k))) (.int (nI (bbN n nb kind (s ||| (2 ^ k))))) (.int (nI ((costN n nb kind s k) + (bbN n nb kind (s ||| (2 ^ k))))))
          rw [e9] at h8
          exact h8
        · have h6 : ¬ (m ≤ (costN n nb kind s k) + (bbN n nb kind (s ||| (2 ^ k)))) := fun h9 => h6 ((nI_leI (a := m) (b := (costN n nb kind s k) + (bbN n nb kind (s ||| (2 ^ k)))) (by omega) (by omega)).mpr h9)
          refine wp_go (f' := (114, [.ref 28, .int (nI kind), .int (nI s), .int (nI ((costN n nb kind s k) + (bbN n nb kind (s ||| (2 ^ k))))), .int ((nI k) + 1), .int (nI (costN n nb kind s k)), .int (nI (bbN n nb kind (s ||| (2 ^ k)))), .int (nI ((costN n nb kind s k) + (bbN n nb kind (s ||| (2 ^ k)))))], [], MW (upA A 31 f) B F sw, 0, 0)) 4 rfl ?_
          rw [nI_1]
          refine wp_go (f' := (28, [.ref 28, .int (nI kind), .int (nI s), .int (nI ((costN n nb kind s k) + (bbN n nb kind (s ||| (2 ^ k))))), .int (nI (k + 1)), .int (nI (costN n nb kind s k)), .int (nI (bbN n nb kind (s ||| (2 ^ k)))), .int (nI ((costN n nb kind s k) + (bbN n nb kind (s ||| (2 ^ k)))))], [], MW (upA A 31 f) B F sw, 0, 0)) 1 rfl ?_
          have e9 : bbS n nb kind s (bbN n nb kind) k m = (costN n nb kind s k) + (bbN n nb kind (s ||| (2 ^ k))) := by
            unfold bbS comb
            simp only [h1, Bool.false_eq_true, if_false]
            repeat' split
            all_goals omega
          have h8 := ih (by rw [e9]; omega) (.int (nI (costN n nb kind s k))) (.int (nI (bbN n nb kind (s ||| (2 ^ k))))) (.int (nI ((costN n nb kind s k) + (bbN n nb kind (s ||| (2 ^ k))))))
          rw [e9] at h8
          exact h8
  · exact fun hm d5 d6 d7 => hex d5 d6 d7 hm
/-- the reference's table of least costs -/
def bbA (n : Nat) (nb : Nat → Nat) (kind : Nat) (g : Nat → Int32) : Nat → Int32 := fun j => if j < 2 ^ n then nI (bbN n nb kind j) else g j
theorem lp_tell2 (hM : MI A F n nb) {kind : Nat} (hkd : kind = 0 ∨ kind = 1 ∨ kind = 3 ∨ kind = 4) : ∀ (t : Nat) (f : Nat → Int32) (d3 d4 d5 d6 d7 : Value), t ≤ 2 ^ n → (∀ j, t ≤ j → j < 2 ^ n → f j = nI (bbN n nb kind j)) → (∀ j, 2 ^ n ≤ j → f j = A 31 j) → mv_Wp xs Ls 3 6 false none mv_c114 (5, [.ref 28, .int (nI kind), .int ((nI t) + (-1)), d3, d4, d5, d6, d7], [], MW (upA A 31 f) B F sw, 0, 0) (none, MW (upA A 31 (bbA n nb kind (A 31))) B F sw, 0, 0) := by
  have hn := hM.1
  have hp := pow10 hn
  have hp1 : 1 ≤ 2 ^ n := Nat.one_le_two_pow
  have hal := all_lt hn
  have hk4 : kind ≤ 4 := by omega
  intro t
  induction t with
  | zero =>
    intro f d3 d4 d5 d6 d7 ht hf hg
    have e : f = bbA n nb kind (A 31) := by
      funext j
      unfold bbA
      split
      · rename_i h; exact hf j (Nat.zero_le _) h
      · rename_i h; exact hg j (by omega)
    subst e
    rw [show nI 0 + (-1) = (-1 : Int32) by decide]
    refine wp_go (f' := ((if (-1) < 0 then 130 else 9), [.ref 28, .int (nI kind), .int (-1), d3, d4, d5, d6, d7], [], MW (upA A 31 (bbA n nb kind (A 31))) B F sw, 0, 0)) 2 rfl ?_
    refine wp_ite (fun _ => ?_) (fun h9 => absurd (by decide : (-1 : Int32) < 0) h9)
    exact wp_vret rfl
  | succ s ih =>
    intro f d3 d4 d5 d6 d7 ht hf hg
    have hM31 : MI (upA A 31 f) F n nb := hM
    rw [pk_m1]
    refine wp_go (f' := ((if (nI s) < 0 then 130 else 9), [.ref 28, .int (nI kind), .int (nI s), d3, d4, d5, d6, d7], [], MW (upA A 31 f) B F sw, 0, 0)) 2 rfl ?_
    refine wp_ite (fun h9 => absurd h9 (nI_pos (n := s) (by omega))) (fun _ => ?_)
    refine wp_go (f' := (11, [.ref 28, .int (nI kind), .int (nI s), d3, d4, d5, d6, d7], [.ref 28, .int (nI s)], MW (upA A 31 f) B F sw, 0, 0)) 2 rfl ?_
    refine wp_call rfl rfl rfl (ev_up (ev_all hM31) (by decide)) ?_
    refine wp_eq (f' := (14, [.ref 28, .int (nI kind), .int (nI s), d3, d4, d5, d6, d7], [.int (nI (2 ^ n - 1)), .int (nI s)], MW (upA A 31 f) B F sw, 0, 0)) rfl ?_
    refine wp_go (f' := ((if ¬ (nI s) = (nI (2 ^ n - 1)) then 21 else 17), [.ref 28, .int (nI kind), .int (nI s), d3, d4, d5, d6, d7], [], MW (upA A 31 f) B F sw, 0, 0)) 1 rfl ?_
    refine wp_ite (fun h1 => ?_) (fun h1 => ?_)
    · have h1 : ¬ (s = 2 ^ n - 1) := fun h9 => h1 ((nI_eq (a := s) (b := 2 ^ n - 1) (by omega) (by omega)).mpr h9)
      refine wp_go (f' := (28, [.ref 28, .int (nI kind), .int (nI s), .int (nI 1000), .int (nI 0), d5, d6, d7], [], MW (upA A 31 f) B F sw, 0, 0)) 4 rfl ?_
      refine lp_tell (m0 := 1000) hM hkd (by omega) (fun j h1 h2 => hf j (by omega) h2) (by omega) ?_ d5 d6 d7
      intro d5 d6 d7 hle
      have e9 : forN (bbS n nb kind s (bbN n nb kind)) n 1000 = bbN n nb kind s := by rw [bbN_eq (by omega), if_neg h1]
      rw [e9]
      have hbb := bbN_le (n := n) (nb := nb) (kind := kind) (s := s) (by omega)
      refine wp_go (f' := (34, [.ref 28, .int (nI kind), .int (nI s), .int (nI (bbN n nb kind s)), .int (nI n), d5, d6, d7], [.int (F 6), .int (nI n)], MW (upA A 31 f) B F sw, 0, 0)) 3 rfl ?_
      rw [hM.2.1]
      refine wp_go (f' := ((if (nI n) ≤ (nI n) then 117 else 37), [.ref 28, .int (nI kind), .int (nI s), .int (nI (bbN n nb kind s)), .int (nI n), d5, d6, d7], [], MW (upA A 31 f) B F sw, 0, 0)) 1 rfl ?_
      refine wp_ite (fun _ => ?_) (fun h9 => absurd (nI_le (Nat.le_refl _) (by omega)) h9)
      refine wp_go (f' := (123, [.ref 28, .int (nI kind), .int (nI s), .int (nI (bbN n nb kind s)), .int (nI n), d5, d6, d7], [.int (nI (bbN n nb kind s)), .int (nI s), .ref 31], MW (upA A 31 f) B F sw, 0, 0)) 4 rfl ?_
      refine wp_iast rfl rfl (by omega) (by decide) ?_
      refine wp_eq (f' := (124, [.ref 28, .int (nI kind), .int (nI s), .int (nI (bbN n nb kind s)), .int (nI n), d5, d6, d7], [], MW (upA A 31 (upd f s (nI (bbN n nb kind s)))) B F sw, 0, 0)) rfl ?_
      refine wp_go (f' := (5, [.ref 28, .int (nI kind), .int ((nI s) + (-1)), .int (nI (bbN n nb kind s)), .int (nI n), d5, d6, d7], [], MW (upA A 31 (upd f s (nI (bbN n nb kind s)))) B F sw, 0, 0)) 2 rfl ?_
      refine ih (upd f s (nI (bbN n nb kind s))) _ _ _ _ _ (by omega) ?_ ?_
      · intro j h1 h2
        by_cases e : j = s
        · rw [e, pk_us]
        · rw [pk_un e]; exact hf j (by omega) h2
      · intro j h1
        rw [pk_un (by omega)]
        exact hg j h1
    · have h1 := Classical.not_not.mp h1; have h1 : s = 2 ^ n - 1 := (nI_eq (a := s) (b := 2 ^ n - 1) (by omega) (by omega)).mp h1
      refine wp_go (f' := (28, [.ref 28, .int (nI kind), .int (nI s), .int (nI 0), .int (nI 0), d5, d6, d7], [], MW (upA A 31 f) B F sw, 0, 0)) 5 rfl ?_
      refine lp_tell (m0 := 0) hM hkd (by omega) (fun j h1 h2 => hf j (by omega) h2) (by omega) ?_ d5 d6 d7
      intro d5 d6 d7 hle
      have e9 : forN (bbS n nb kind s (bbN n nb kind)) n 0 = bbN n nb kind s := by rw [bbN_eq (by omega), if_pos h1]
      rw [e9]
      have hbb := bbN_le (n := n) (nb := nb) (kind := kind) (s := s) (by omega)
      refine wp_go (f' := (34, [.ref 28, .int (nI kind), .int (nI s), .int (nI (bbN n nb kind s)), .int (nI n), d5, d6, d7], [.int (F 6), .int (nI n)], MW (upA A 31 f) B F sw, 0, 0)) 3 rfl ?_
      rw [hM.2.1]
      refine wp_go (f' := ((if (nI n) ≤ (nI n) then 117 else 37), [.ref 28, .int (nI kind), .int (nI s), .int (nI (bbN n nb kind s)), .int (nI n), d5, d6, d7], [], MW (upA A 31 f) B F sw, 0, 0)) 1 rfl ?_
      refine wp_ite (fun _ => ?_) (fun h9 => absurd (nI_le (Nat.le_refl _) (by omega)) h9)
      refine wp_go (f' := (123, [.ref 28, .int (nI kind), .int (nI s), .int (nI (bbN n nb kind s)), .int (nI n), d5, d6, d7], [.int (nI (bbN n nb kind s)), .int (nI s), .ref 31], MW (upA A 31 f) B F sw, 0, 0)) 4 rfl ?_
      refine wp_iast rfl rfl (by omega) (by decide) ?_
      refine wp_eq (f' := (124, [.ref 28, .int (nI kind), .int (nI s), .int (nI (bbN n nb kind s)), .int (nI n), d5, d6, d7], [], MW (upA A 31 (upd f s (nI (bbN n nb kind s)))) B F sw, 0, 0)) rfl ?_
      refine wp_go (f' := (5, [.ref 28, .int (nI kind), .int ((nI s) + (-1)), .int (nI (bbN n nb kind s)), .int (nI n), d5, d6, d7], [], MW (upA A 31 (upd f s (nI (bbN n nb kind s)))) B F sw, 0, 0)) 2 rfl ?_
      refine ih (upd f s (nI (bbN n nb kind s))) _ _ _ _ _ (by omega) ?_ ?_
      · intro j h1 h2
        by_cases e : j = s
        · rw [e, pk_us]
        · rw [pk_un e]; exact hf j (by omega) h2
      · intro j h1
        rw [pk_un (by omega)]
        exact hg j h1
theorem ev_tellBehind (hM : MI A F n nb) {kind : Nat} (hkd : kind = 0 ∨ kind = 1 ∨ kind = 3 ∨ kind = 4) : mv_Ev xs Ls 4 114 [.ref 28, .int (nI kind)] (MW A B F sw) (none, MW (upA A 31 (bbA n nb kind (A 31))) B F sw, 0, 0) := by
  refine ev_of_wp rfl rfl rfl ?_
  have hn := hM.1
  have hp := pow10 hn
  have hp1 : 1 ≤ 2 ^ n := Nat.one_le_two_pow
  have hal := all_lt hn
  refine wp_go (f' := (1, [.ref 28, .int (nI kind), .retAddr 0, .retAddr 0, .retAddr 0, .retAddr 0, .retAddr 0, .retAddr 0], [.ref 28], MW A B F sw, 0, 0)) 1 rfl ?_
  refine wp_call rfl rfl rfl (ev_up (ev_all hM) (by decide)) ?_
  refine wp_eq (f' := (4, [.ref 28, .int (nI kind), .retAddr 0, .retAddr 0, .retAddr 0, .retAddr 0, .retAddr 0, .retAddr 0], [.int (nI (2 ^ n - 1))], MW A B F sw, 0, 0)) rfl ?_
  refine wp_go (f' := (5, [.ref 28, .int (nI kind), .int (nI (2 ^ n - 1)), .retAddr 0, .retAddr 0, .retAddr 0, .retAddr 0, .retAddr 0], [], MW A B F sw, 0, 0)) 1 rfl ?_
  refine wp_eq (f' := (5, [.ref 28, .int (nI kind), .int (nI (2 ^ n - 1)), .retAddr 0, .retAddr 0, .retAddr 0, .retAddr 0, .retAddr 0], [], MW (upA A 31 (A 31)) B F sw, 0, 0)) rfl ?_
  have h8 := lp_tell2 (xs := xs) (Ls := Ls) (B := B) (sw := sw) hM hkd (2 ^ n) (A 31) (.retAddr 0) (.retAddr 0) (.retAddr 0) (.retAddr 0) (.retAddr 0) (Nat.le_refl _) (fun j h1 h2 => by omega) (fun j h1 => rfl)
  rw [show nI (2 ^ n) + (-1) = nI (2 ^ n - 1) by have h := pk_m1 (2 ^ n - 1); rw [show 2 ^ n - 1 + 1 = 2 ^ n by omega] at h; exact h] at h8
  exact h8
end MM
end
section
/-- may v come next behind s, if what is left may cost 'left' -/
def nextN (n : Nat) (nb : Nat → Nat) (kind s left v : Nat) : Bool := !(s.testBit v) && (if kind = 4 then decide (costN n nb kind s v + bbN n nb kind (s ||| 2 ^ v) ≤ left) else (decide (costN n nb kind s v ≤ left) && decide (bbN n nb kind (s ||| 2 ^ v) ≤ left)))
/-- the first from v on -/
def firstV (p : Nat → Bool) : Nat → Nat → Nat
  | 0, v => v
  | f + 1, v => if p v = true then v else firstV p f (v + 1)
theorem firstV_ok {p : Nat → Bool} : ∀ (f v u : Nat), v ≤ u → u < v + f → p u = true → firstV p f v < v + f ∧ p (firstV p f v) = true ∧ v ≤ firstV p f v ∧ ∀ w, v ≤ w → w < firstV p f v → p w = false
  | 0, v, u, h1, h2, h3 => by omega
  | f + 1, v, u, h1, h2, h3 => by
    unfold firstV
    by_cases hv : p v = true
    · rw [if_pos hv]
      exact ⟨by omega, hv, Nat.le_refl _, fun w h4 h5 => by omega⟩
    · rw [if_neg hv]
      have hu : v ≠ u := fun e => hv (e ▸ h3)
      obtain ⟨a, b, c, d⟩ := firstV_ok f (v + 1) u (by omega) (by omega) h3
      refine ⟨by omega, b, by omega, fun w h4 h5 => ?_⟩
      by_cases e : w = v
      · rw [e]; exact Bool.eq_false_iff.mpr hv
      · exact d w (by omega) h5
theorem forN_min {skip : Nat → Bool} {x : Nat → Nat} {m0 : Nat} : ∀ j, forN (fun v m => if skip v then m else if x v < m then x v else m) j m0 = m0 ∨ ∃ v, v < j ∧ skip v = false ∧ forN (fun v m => if skip v then m else if x v < m then x v else m) j m0 = x v
  | 0 => Or.inl rfl
  | j + 1 => by
    have ih := forN_min (skip := skip) (x := x) (m0 := m0) j
    simp only [forN]
    generalize forN (fun v m => if skip v then m else if x v < m then x v else m) j m0 = g at ih
    cases hs : skip j with
    | true =>
      simp only [if_true]
      rcases ih with h | ⟨v, h1, h2, h3⟩
      · exact Or.inl h
      · exact Or.inr ⟨v, by omega, h2, h3⟩
    | false =>
      simp only [Bool.false_eq_true, if_false]
      by_cases hx : x j < g
      · rw [if_pos hx]; exact Or.inr ⟨j, by omega, hs, rfl⟩
      · rw [if_neg hx]
        rcases ih with h | ⟨v, h1, h2, h3⟩
        · exact Or.inl h
        · exact Or.inr ⟨v, by omega, h2, h3⟩
theorem forN_min_le {skip : Nat → Bool} {x : Nat → Nat} {m0 : Nat} : ∀ j, forN (fun v m => if skip v then m else if x v < m then x v else m) j m0 ≤ m0 ∧ ∀ v, v < j → skip v = false → forN (fun v m => if skip v then m else if x v < m then x v else m) j m0 ≤ x v
  | 0 => ⟨Nat.le_refl _, fun v h => by omega⟩
  | j + 1 => by
    have ih := forN_min_le (skip := skip) (x := x) (m0 := m0) j
    simp only [forN]
    generalize forN (fun v m => if skip v then m else if x v < m then x v else m) j m0 = g at ih
    cases hs : skip j with
    | true =>
      simp only [if_true]
      refine ⟨ih.1, fun v h1 h2 => ?_⟩
      by_cases e : v = j
      · rw [e, hs] at h2; cases h2
      · exact ih.2 v (by omega) h2
    | false =>
      simp only [Bool.false_eq_true, if_false]
      by_cases hx : x j < g
      · rw [if_pos hx]
        refine ⟨by omega, fun v h1 h2 => ?_⟩
        by_cases e : v = j
        · rw [e]; exact Nat.le_refl _
        · have := ih.2 v (by omega) h2; omega
      · rw [if_neg hx]
        refine ⟨ih.1, fun v h1 h2 => ?_⟩
        by_cases e : v = j
        · rw [e]; omega
        · exact ih.2 v (by omega) h2
theorem bbN_min {n : Nat} {nb : Nat → Nat} {kind s : Nat} (hs : s < 2 ^ n) : bbN n nb kind s = forN (fun v m => if s.testBit v then m else if comb kind (costN n nb kind s v) (bbN n nb kind (s ||| 2 ^ v)) < m then comb kind (costN n nb kind s v) (bbN n nb kind (s ||| 2 ^ v)) else m) n (if s = 2 ^ n - 1 then 0 else 1000) := bbN_eq hs
/-- a vertex of n that isn't in s -/
theorem unset_ex {n s : Nat} (hs : s < 2 ^ n) (hne : s ≠ 2 ^ n - 1) : ∃ v, v < n ∧ s.testBit v = false := by
  refine Classical.byContradiction (fun h => hne ?_)
  apply Nat.eq_of_testBit_eq
  intro i
  rw [all_bit]
  by_cases hi : i < n
  · have : s.testBit i = true := by
      cases hb : s.testBit i with
      | true => rfl
      | false => exact absurd ⟨i, hi, hb⟩ h
    simp [this, hi]
  · rw [bt_big hs (by omega)]; simp [hi]
theorem next_ex {n : Nat} {nb : Nat → Nat} {kind s left : Nat} (hs : s < 2 ^ n) (hne : s ≠ 2 ^ n - 1) (hl : bbN n nb kind s ≤ left) (hl2 : left < 1000) : ∃ v, v < n ∧ nextN n nb kind s left v = true := by
  have h := forN_min (skip := fun v => s.testBit v) (x := fun v => comb kind (costN n nb kind s v) (bbN n nb kind (s ||| 2 ^ v))) (m0 := if s = 2 ^ n - 1 then 0 else 1000) n
  rw [← bbN_min hs, if_neg hne] at h
  rcases h with h | ⟨v, h1, h2, h3⟩
  · omega
  · refine ⟨v, h1, ?_⟩
    unfold comb at h3
    unfold nextN
    rw [h2]
    by_cases hk : kind = 4
    · rw [if_pos hk] at h3 ⊢
      simp; omega
    · rw [if_neg hk] at h3 ⊢
      simp
      split at h3 <;> omega
theorem pop_or {s v : Nat} (hs : s < 1024) (hv : v < 10) (h : s.testBit v = false) : pop (s ||| 2 ^ v) = pop s + 1 := by
  have h9 : ∀ s, s < 1024 → ∀ v, v < 10 → s.testBit v = false → pop (s ||| 2 ^ v) = pop s + 1 := by decide +kernel
  exact h9 s hs v hv h
theorem costN_le4 {n : Nat} {nb : Nat → Nat} {s v : Nat} (hn : n ≤ 10) (hb : ∀ v, v < 10 → nb v < 1024) : costN n nb 4 s v ≤ 10 := pop_le (sd_lt (b := nb v) (seesN_lt hn hb s v))
theorem bbN_small {n : Nat} {nb : Nat → Nat} {kind : Nat} (hn : n ≤ 10) (hb : ∀ v, v < 10 → nb v < 1024) : ∀ s, s < 2 ^ n → bbN n nb kind s ≤ (if kind = 4 then 10 * (10 - pop s) else 100) := by
  have hp := pow10 hn
  refine wh_ind (P := fun s => s < 2 ^ n → bbN n nb kind s ≤ (if kind = 4 then 10 * (10 - pop s) else 100)) (fun s => 2 ^ n - s) (fun s ih hs => ?_)
  have h := forN_min_le (skip := fun v => s.testBit v) (x := fun v => comb kind (costN n nb kind s v) (bbN n nb kind (s ||| 2 ^ v))) (m0 := if s = 2 ^ n - 1 then 0 else 1000) n
  rw [← bbN_min hs] at h
  by_cases e : s = 2 ^ n - 1
  · rw [if_pos e] at h; have := h.1; omega
  · obtain ⟨v, h1, h2⟩ := unset_ex hs e
    have h3 := h.2 v h1 h2
    have h4 := or_gt h2
    have h5 := or_ltn hs h1
    have h6 := ih (s ||| 2 ^ v) (by omega) h5
    have hpo := pop_or (s := s) (v := v) (by omega) (by omega) h2
    have hpl := pop_le (s := s ||| 2 ^ v) (by omega)
    unfold comb at h3
    by_cases hk : kind = 4
    · subst hk
      have hc := costN_le4 (s := s) (v := v) hn hb
      simp only [if_true] at h3 h6 ⊢
      omega
    · have hc := costN_le (kind := kind) (s := s) (v := v) hn hb
      rw [if_neg hk] at h3 h6 ⊢
      split at h3 <;> omega
theorem bbN_lt {n : Nat} {nb : Nat → Nat} {kind s : Nat} (hn : n ≤ 10) (hb : ∀ v, v < 10 → nb v < 1024) (hs : s < 2 ^ n) : bbN n nb kind s ≤ 100 := by
  have := bbN_small (kind := kind) hn hb s hs
  split at this <;> omega
theorem bbA_at {n : Nat} {nb : Nat → Nat} {kind : Nat} {g : Nat → Int32} {j : Nat} (h : j < 2 ^ n) : bbA n nb kind g j = nI (bbN n nb kind j) := if_pos h
/-- the vertex that comes next -/
def pickV (n : Nat) (nb : Nat → Nat) (kind s left : Nat) : Nat := firstV (nextN n nb kind s left) n 0
/-- one place of a least order: those ahead, what is left, the row -/
def layS (n : Nat) (nb : Nat → Nat) (kind : Nat) : Nat → (Nat × Nat × (Nat → Int32)) → (Nat × Nat × (Nat → Int32)) := fun k q => (q.1 ||| 2 ^ pickV n nb kind q.1 q.2.1, (if kind = 4 then q.2.1 - costN n nb kind q.1 (pickV n nb kind q.1 q.2.1) else q.2.1), upd q.2.2 k (nI (pickV n nb kind q.1 q.2.1)))
/-- a least order of kind 0, 1, 3 or 4: its row -/
def layN (n : Nat) (nb : Nat → Nat) (kind : Nat) (g : Nat → Int32) : Nat × Nat × (Nat → Int32) := forN (layS n nb kind) n (0, bbN n nb kind 0, g)
section MM
variable {xs : Nat → Int32} {Ls : Nat} {A : Nat → Nat → Int32} {B : Nat → Nat → Int64} {F : Nat → Int32} {sw : Bool} {n : Nat} {nb : Nat → Nat}
theorem ev_isNext (hM : MI A F n nb) {kind : Nat} (hkd : kind = 0 ∨ kind = 1 ∨ kind = 3 ∨ kind = 4) {s v left : Nat} (hs : s < 2 ^ n) (hv : v < n) (hl : left ≤ 1000) (hT : ∀ j, j < 2 ^ n → A 31 j = nI (bbN n nb kind j)) : mv_Ev xs Ls 4 117 [.ref 28, .int (nI kind), .int (nI s), .int (nI v), .int (nI left)] (MW A B F sw) (some (.int (bI (nextN n nb kind s left v))), MW A B F sw, 0, 0) := by
  refine ev_of_wp rfl rfl rfl ?_
  have hn := hM.1
  have hp := pow10 hn
  have hp1 : 1 ≤ 2 ^ n := Nat.one_le_two_pow
  have hal := all_lt hn
  have hk4 : kind ≤ 4 := by omega
  refine wp_go (f' := (5, [.ref 28, .int (nI kind), .int (nI s), .int (nI v), .int (nI left), .retAddr 0, .retAddr 0], [.int (((nI s) >>> ((nI v) &&& 31)) &&& (nI 1))], MW A B F sw, 0, 0)) 5 rfl ?_
  rw [bx_bit (by omega) (by omega)]
  refine wp_go (f' := ((if ¬ (bI (s.testBit v)) = (nI 1) then 11 else 9), [.ref 28, .int (nI kind), .int (nI s), .int (nI v), .int (nI left), .retAddr 0, .retAddr 0], [], MW A B F sw, 0, 0)) 2 rfl ?_
  refine wp_ite (fun h1 => ?_) (fun h1 => ?_)
  · have h1 := bI_n1 h1
    refine wp_go (f' := (15, [.ref 28, .int (nI kind), .int (nI s), .int (nI v), .int (nI left), .retAddr 0, .retAddr 0], [.int (nI v), .int (nI s), .int (nI kind), .ref 28], MW A B F sw, 0, 0)) 4 rfl ?_
    refine wp_call rfl rfl rfl (ev_up (ev_cost hkd hM (s := s) (v := v) (by omega) (by omega)) (by decide)) ?_
    refine wp_eq (f' := (18, [.ref 28, .int (nI kind), .int (nI s), .int (nI v), .int (nI left), .retAddr 0, .retAddr 0], [.int (nI (costN n nb kind s v))], MW A B F sw, 0, 0)) rfl ?_
    have hco := costN_le (kind := kind) (s := s) (v := v) hM.1 hM.2.2.2
    refine wp_go (f' := (28, [.ref 28, .int (nI kind), .int (nI s), .int (nI v), .int (nI left), .int (nI (costN n nb kind s v)), .retAddr 0], [.int ((nI 1) <<< ((nI v) &&& 31)), .int (nI s), .ref 31], MW A B F sw, 0, 0)) 7 rfl ?_
    rw [bx_one (by omega)]
    have hb1 : 2 ^ v < 1024 := by first | omega | exact or_lt (by omega) (by omega) | exact and_lt (by omega) | exact and_lt_r (by omega) | exact sd_lt (by omega) | exact pow_lt (by omega)
    refine wp_go (f' := (29, [.ref 28, .int (nI kind), .int (nI s), .int (nI v), .int (nI left), .int (nI (costN n nb kind s v)), .retAddr 0], [.int ((nI s) ||| (nI (2 ^ v))), .ref 31], MW A B F sw, 0, 0)) 1 rfl ?_
    rw [bx_or]
    have hb2 : s ||| (2 ^ v) < 1024 := by first | omega | exact or_lt (by omega) (by omega) | exact and_lt (by omega) | exact and_lt_r (by omega) | exact sd_lt (by omega) | exact pow_lt (by omega)
    refine wp_iald rfl rfl (by omega) (by decide) ?_
    rw [hT (s ||| (2 ^ v)) (or_ltn hs hv)]
    have hbd := bbN_le (nb := nb) (kind := kind) (or_ltn hs hv)
    refine wp_go (f' := ((if ¬ (nI kind) = (nI 4) then 55 else 37), [.ref 28, .int (nI kind), .int (nI s), .int (nI v), .int (nI left), .int (nI (costN n nb kind s v)), .int (nI (bbN n nb kind (s ||| (2 ^ v))))], [], MW A B F sw, 0, 0)) 4 rfl ?_
    refine wp_ite (fun h2 => ?_) (fun h2 => ?_)
    · have h2 : ¬ (kind = 4) := fun h9 => h2 ((nI_eq (a := kind) (b := 4) (by omega) (by omega)).mpr h9)
      refine wp_go (f' := ((if (nI left) < (nI (costN n nb kind s v)) then 73 else 62), [.ref 28, .int (nI kind), .int (nI s), .int (nI v), .int (nI left), .int (nI (costN n nb kind s v)), .int (nI (bbN n nb kind (s ||| (2 ^ v))))], [], MW A B F sw, 0, 0)) 3 rfl ?_
      refine wp_ite (fun h3 => ?_) (fun h3 => ?_)
      · have h3 : left < costN n nb kind s v := (nI_ltI (a := left) (b := costN n nb kind s v) (by omega) (by omega)).mp h3
        refine wp_go (f' := (74, [.ref 28, .int (nI kind), .int (nI s), .int (nI v), .int (nI left), .int (nI (costN n nb kind s v)), .int (nI (bbN n nb kind (s ||| (2 ^ v))))], [.int (nI 0)], MW A B F sw, 0, 0)) 1 rfl ?_
        rw [show nextN n nb kind s left v = false by unfold nextN; rw [h1]; (first | rw [if_pos h2] | rw [if_neg h2]); simp <;> omega]
        exact wp_zret rfl (by first | exact Or.inl rfl | exact Or.inr rfl)
      · have h3 : ¬ (left < costN n nb kind s v) := fun h9 => h3 ((nI_ltI (a := left) (b := costN n nb kind s v) (by omega) (by omega)).mpr h9)
        refine wp_go (f' := ((if (nI left) < (nI (bbN n nb kind (s ||| (2 ^ v)))) then 73 else 69), [.ref 28, .int (nI kind), .int (nI s), .int (nI v), .int (nI left), .int (nI (costN n nb kind s v)), .int (nI (bbN n nb kind (s ||| (2 ^ v))))], [], MW A B F sw, 0, 0)) 3 rfl ?_
        refine wp_ite (fun h4 => ?_) (fun h4 => ?_)
        · have h4 : left < bbN n nb kind (s ||| (2 ^ v)) := (nI_ltI (a := left) (b := bbN n nb kind (s ||| (2 ^ v))) (by omega) (by omega)).mp h4
          refine wp_go (f' := (74, [.ref 28, .int (nI kind), .int (nI s), .int (nI v), .int (nI left), .int (nI (costN n nb kind s v)), .int (nI (bbN n nb kind (s ||| (2 ^ v))))], [.int (nI 0)], MW A B F sw, 0, 0)) 1 rfl ?_
          rw [show nextN n nb kind s left v = false by unfold nextN; rw [h1]; (first | rw [if_pos h2] | rw [if_neg h2]); simp <;> omega]
          exact wp_zret rfl (by first | exact Or.inl rfl | exact Or.inr rfl)
        · have h4 : ¬ (left < bbN n nb kind (s ||| (2 ^ v))) := fun h9 => h4 ((nI_ltI (a := left) (b := bbN n nb kind (s ||| (2 ^ v))) (by omega) (by omega)).mpr h9)
          refine wp_go (f' := (74, [.ref 28, .int (nI kind), .int (nI s), .int (nI v), .int (nI left), .int (nI (costN n nb kind s v)), .int (nI (bbN n nb kind (s ||| (2 ^ v))))], [.int (nI 1)], MW A B F sw, 0, 0)) 2 rfl ?_
          rw [show nextN n nb kind s left v = true by unfold nextN; rw [h1]; (first | rw [if_pos h2] | rw [if_neg h2]); simp <;> omega]
          exact wp_zret rfl (by first | exact Or.inl rfl | exact Or.inr rfl)
    · have h2 := Classical.not_not.mp h2; have h2 : kind = 4 := (nI_eq (a := kind) (b := 4) (by omega) (by omega)).mp h2
      refine wp_go (f' := (42, [.ref 28, .int (nI kind), .int (nI s), .int (nI v), .int (nI left), .int (nI (costN n nb kind s v)), .int (nI (bbN n nb kind (s ||| (2 ^ v))))], [.int ((nI (costN n nb kind s v)) + (nI (bbN n nb kind (s ||| (2 ^ v)))))], MW A B F sw, 0, 0)) 3 rfl ?_
      rw [nI_add]
      refine wp_go (f' := ((if (nI left) < (nI ((costN n nb kind s v) + (bbN n nb kind (s ||| (2 ^ v))))) then 51 else 47), [.ref 28, .int (nI kind), .int (nI s), .int (nI v), .int (nI left), .int (nI (costN n nb kind s v)), .int (nI (bbN n nb kind (s ||| (2 ^ v))))], [], MW A B F sw, 0, 0)) 2 rfl ?_
      refine wp_ite (fun h5 => ?_) (fun h5 => ?_)
      · have h5 : left < (costN n nb kind s v) + (bbN n nb kind (s ||| (2 ^ v))) := (nI_ltI (a := left) (b := (costN n nb kind s v) + (bbN n nb kind (s ||| (2 ^ v)))) (by omega) (by omega)).mp h5
        refine wp_go (f' := (74, [.ref 28, .int (nI kind), .int (nI s), .int (nI v), .int (nI left), .int (nI (costN n nb kind s v)), .int (nI (bbN n nb kind (s ||| (2 ^ v))))], [.int (nI 0)], MW A B F sw, 0, 0)) 2 rfl ?_
        rw [show nextN n nb kind s left v = false by unfold nextN; rw [h1]; (first | rw [if_pos h2] | rw [if_neg h2]); simp <;> omega]
        exact wp_zret rfl (by first | exact Or.inl rfl | exact Or.inr rfl)
      · have h5 : ¬ (left < (costN n nb kind s v) + (bbN n nb kind (s ||| (2 ^ v)))) := fun h9 => h5 ((nI_ltI (a := left) (b := (costN n nb kind s v) + (bbN n nb kind (s ||| (2 ^ v)))) (by omega) (by omega)).mpr h9)
        refine wp_go (f' := (74, [.ref 28, .int (nI kind), .int (nI s), .int (nI v), .int (nI left), .int (nI (costN n nb kind s v)), .int (nI (bbN n nb kind (s ||| (2 ^ v))))], [.int (nI 1)], MW A B F sw, 0, 0)) 2 rfl ?_
        rw [show nextN n nb kind s left v = true by unfold nextN; rw [h1]; (first | rw [if_pos h2] | rw [if_neg h2]); simp <;> omega]
        exact wp_zret rfl (by first | exact Or.inl rfl | exact Or.inr rfl)
  · have h1 := Classical.not_not.mp h1; have h1 := bI_1.mp h1
    refine wp_go (f' := (10, [.ref 28, .int (nI kind), .int (nI s), .int (nI v), .int (nI left), .retAddr 0, .retAddr 0], [.int (nI 0)], MW A B F sw, 0, 0)) 1 rfl ?_
    rw [show nextN n nb kind s left v = false by unfold nextN; rw [h1]; rfl]
    exact wp_zret rfl (by first | exact Or.inl rfl | exact Or.inr rfl)
theorem pop_all {n : Nat} (hn : n ≤ 10) : pop (2 ^ n - 1) = n := by
  have h : ∀ n, n ≤ 10 → pop (2 ^ n - 1) = n := by decide +kernel
  exact h n hn
theorem ev_lay (hM : MI A F n nb) {kind : Nat} (hkd : kind = 0 ∨ kind = 1 ∨ kind = 3 ∨ kind = 4) : mv_Ev xs Ls 5 107 [.ref 28, .int (nI kind)] (MW A B F sw) (some (.int (nI (bbN n nb kind 0))), MW (upA (upA A 31 (bbA n nb kind (A 31))) 32 (layN n nb kind (A 32)).2.2) B F sw, 0, 0) := by
  refine ev_of_wp rfl rfl rfl ?_
  have hn := hM.1
  have hp := pow10 hn
  have hp1 : 1 ≤ 2 ^ n := Nat.one_le_two_pow
  have hal := all_lt hn
  have hk4 : kind ≤ 4 := by omega
  have hsm := bbN_lt (nb := nb) (kind := kind) (s := 0) hM.1 hM.2.2.2 (by omega)
  refine wp_go (f' := ((if ¬ (nI kind) = (nI 2) then 10 else 5), [.ref 28, .int (nI kind), .retAddr 0, .retAddr 0, .retAddr 0, .retAddr 0, .retAddr 0], [], MW A B F sw, 0, 0)) 3 rfl ?_
  refine wp_ite (fun _ => ?_) (fun h9 => absurd (fun h8 => by have h7 := (nI_eq (a := kind) (b := 2) (by omega) (by omega)).mp h8; omega) h9)
  refine wp_go (f' := ((if ¬ (nI kind) = (nI 5) then 20 else 15), [.ref 28, .int (nI kind), .retAddr 0, .retAddr 0, .retAddr 0, .retAddr 0, .retAddr 0], [], MW A B F sw, 0, 0)) 3 rfl ?_
  refine wp_ite (fun _ => ?_) (fun h9 => absurd (fun h8 => by have h7 := (nI_eq (a := kind) (b := 5) (by omega) (by omega)).mp h8; omega) h9)
  refine wp_go (f' := (22, [.ref 28, .int (nI kind), .retAddr 0, .retAddr 0, .retAddr 0, .retAddr 0, .retAddr 0], [.int (nI kind), .ref 28], MW A B F sw, 0, 0)) 2 rfl ?_
  refine wp_call rfl rfl rfl (ev_up (ev_tellBehind hM hkd) (by decide)) ?_
  refine wp_eq (f' := (25, [.ref 28, .int (nI kind), .retAddr 0, .retAddr 0, .retAddr 0, .retAddr 0, .retAddr 0], [], MW (upA A 31 (bbA n nb kind (A 31))) B F sw, 0, 0)) rfl ?_
  refine wp_go (f' := (30, [.ref 28, .int (nI kind), .retAddr 0, .retAddr 0, .retAddr 0, .retAddr 0, .retAddr 0], [.int (nI 0), .ref 31], MW (upA A 31 (bbA n nb kind (A 31))) B F sw, 0, 0)) 3 rfl ?_
  refine wp_iald rfl rfl (by omega) (by decide) ?_
  refine wp_eq (f' := (31, [.ref 28, .int (nI kind), .retAddr 0, .retAddr 0, .retAddr 0, .retAddr 0, .retAddr 0], [.int ((bbA n nb kind (A 31)) 0)], MW (upA A 31 (bbA n nb kind (A 31))) B F sw, 0, 0)) rfl ?_
  rw [bbA_at (by omega)]
  refine wp_go (f' := (40, [.ref 28, .int (nI kind), .int (nI (bbN n nb kind 0)), .int (nI (bbN n nb kind 0)), .int (nI 0), .int (nI 0), .retAddr 0], [], MW (upA A 31 (bbA n nb kind (A 31))) B F sw, 0, 0)) 7 rfl ?_
  refine wp_eq (f' := (40, [.ref 28, .int (nI kind), .int (nI (bbN n nb kind 0)), .int (nI (bbN n nb kind 0)), .int (nI 0), .int (nI 0), .retAddr 0], [], MW (upA (upA A 31 (bbA n nb kind (A 31))) 32 (A 32)) B F sw, 0, 0)) rfl ?_
  refine for_ind (P := fun (k : Nat) (q : Nat × Nat × (Nat → Int32)) => (q.1 < 2 ^ n ∧ bbN n nb kind q.1 ≤ q.2.1 ∧ q.2.1 ≤ 100 ∧ pop q.1 = k) → ∀ d6 : Value, mv_Wp xs Ls 4 6 false (some .int) mv_c107 (40, [.ref 28, .int (nI kind), .int (nI (bbN n nb kind 0)), .int (nI q.2.1), .int (nI q.1), .int (nI k), d6], [], MW (upA (upA A 31 (bbA n nb kind (A 31))) 32 q.2.2) B F sw, 0, 0) (some (.int (nI (bbN n nb kind 0))), MW (upA (upA A 31 (bbA n nb kind (A 31))) 32 (layN n nb kind (A 32)).2.2) B F sw, 0, 0)) (f := layS n nb kind) (n := n) ?_ n (0, bbN n nb kind 0, A 32) (Nat.le_refl _) ?_ ⟨by omega, Nat.le_refl _, hsm, (by show pop 0 = 0; decide)⟩ _
  · intro k q hk ih hq d6
    obtain ⟨q1, q2, q3⟩ := q
    dsimp only at hq ih ⊢
    obtain ⟨i1, i2, i3, i4⟩ := hq
    have hM2 : MI (upA (upA A 31 (bbA n nb kind (A 31))) 32 q3) F n nb := hM
    have hne : q1 ≠ 2 ^ n - 1 := fun e => by rw [e, pop_all hn] at i4; omega
    obtain ⟨v1, v2, v3⟩ := next_ex (nb := nb) (kind := kind) i1 hne i2 (by omega)
    obtain ⟨w1, w2, w3, w4⟩ := firstV_ok (p := nextN n nb kind q1 q2) n 0 v1 (Nat.zero_le _) (by omega) v3
    change pickV n nb kind q1 q2 < 0 + n at w1
    change nextN n nb kind q1 q2 (pickV n nb kind q1 q2) = true at w2
    change ∀ w, 0 ≤ w → w < pickV n nb kind q1 q2 → nextN n nb kind q1 q2 w = false at w4
    refine wp_go (f' := (46, [.ref 28, .int (nI kind), .int (nI (bbN n nb kind 0)), .int (nI q2), .int (nI q1), .int (nI k), d6], [.int (F 6), .int (nI k)], MW (upA (upA A 31 (bbA n nb kind (A 31))) 32 q3) B F sw, 0, 0)) 3 rfl ?_
    rw [hM.2.1]
    refine wp_go (f' := ((if (nI n) ≤ (nI k) then 116 else 49), [.ref 28, .int (nI kind), .int (nI (bbN n nb kind 0)), .int (nI q2), .int (nI q1), .int (nI k), d6], [], MW (upA (upA A 31 (bbA n nb kind (A 31))) 32 q3) B F sw, 0, 0)) 1 rfl ?_
    refine wp_ite (fun h9 => absurd h9 (nI_ge hk (by omega))) (fun _ => ?_)
    refine wp_go (f' := (52, [.ref 28, .int (nI kind), .int (nI (bbN n nb kind 0)), .int (nI q2), .int (nI q1), .int (nI k), .int (nI 0)], [], MW (upA (upA A 31 (bbA n nb kind (A 31))) 32 q3) B F sw, 0, 0)) 2 rfl ?_
    refine wh_ind (P := fun (v : Nat) => v ≤ pickV n nb kind q1 q2 → mv_Wp xs Ls 4 6 false (some .int) mv_c107 (52, [.ref 28, .int (nI kind), .int (nI (bbN n nb kind 0)), .int (nI q2), .int (nI q1), .int (nI k), .int (nI v)], [], MW (upA (upA A 31 (bbA n nb kind (A 31))) 32 q3) B F sw, 0, 0) (some (.int (nI (bbN n nb kind 0))), MW (upA (upA A 31 (bbA n nb kind (A 31))) 32 (layN n nb kind (A 32)).2.2) B F sw, 0, 0)) (fun v => n - v) ?_ 0 (Nat.zero_le _)
    intro v ih2 hv
    refine wp_go (f' := (59, [.ref 28, .int (nI kind), .int (nI (bbN n nb kind 0)), .int (nI q2), .int (nI q1), .int (nI k), .int (nI v)], [.int (nI q2), .int (nI v), .int (nI q1), .int (nI kind), .ref 28], MW (upA (upA A 31 (bbA n nb kind (A 31))) 32 q3) B F sw, 0, 0)) 5 rfl ?_
    refine wp_call rfl rfl rfl (ev_up (ev_isNext hM2 hkd (s := q1) (v := v) (left := q2) (by omega) (by omega) (by omega) (fun j hj => bbA_at hj)) (by decide)) ?_
    refine wp_eq (f' := (62, [.ref 28, .int (nI kind), .int (nI (bbN n nb kind 0)), .int (nI q2), .int (nI q1), .int (nI k), .int (nI v)], [.int (bI (nextN n nb kind q1 q2 v))], MW (upA (upA A 31 (bbA n nb kind (A 31))) 32 q3) B F sw, 0, 0)) rfl ?_
    refine wp_go (f' := ((if ¬ (bI (nextN n nb kind q1 q2 v)) = 0 then 71 else 65), [.ref 28, .int (nI kind), .int (nI (bbN n nb kind 0)), .int (nI q2), .int (nI q1), .int (nI k), .int (nI v)], [], MW (upA (upA A 31 (bbA n nb kind (A 31))) 32 q3) B F sw, 0, 0)) 1 rfl ?_
    refine wp_ite (fun h1 => ?_) (fun h1 => ?_)
    · have h1 := bI_n0 h1
      have h9 : v = pickV n nb kind q1 q2 := by
        rcases Nat.lt_or_ge v (pickV n nb kind q1 q2) with g | g
        · rw [w4 v (Nat.zero_le _) g] at h1; cases h1
        · omega
      rw [h9]
      have hpv : pickV n nb kind q1 q2 < n := by omega
      have hnx : bbN n nb kind (q1 ||| 2 ^ pickV n nb kind q1 q2) ≤ (if kind = 4 then q2 - costN n nb kind q1 (pickV n nb kind q1 q2) else q2) ∧ (kind = 4 → costN n nb kind q1 (pickV n nb kind q1 q2) ≤ q2) := by
        have h7 := w2
        unfold nextN at h7
        rw [Bool.and_eq_true] at h7
        have h6 := h7.2
        by_cases hk9 : kind = 4
        · rw [if_pos hk9] at h6 ⊢; simp at h6; exact ⟨by omega, fun _ => by omega⟩
        · rw [if_neg hk9] at h6 ⊢; simp at h6; exact ⟨by omega, fun h => absurd h hk9⟩
      obtain ⟨hnx, hcl⟩ := hnx
      refine wp_go (f' := ((if ¬ (nI kind) = (nI 4) then 89 else 77), [.ref 28, .int (nI kind), .int (nI (bbN n nb kind 0)), .int (nI q2), .int (nI q1), .int (nI k), .int (nI (pickV n nb kind q1 q2))], [.int (nI q2)], MW (upA (upA A 31 (bbA n nb kind (A 31))) 32 q3) B F sw, 0, 0)) 4 rfl ?_
      refine wp_ite (fun h2 => ?_) (fun h2 => ?_)
      · have h2 : ¬ (kind = 4) := fun h9 => h2 ((nI_eq (a := kind) (b := 4) (by omega) (by omega)).mpr h9)
        rw [if_neg h2] at hnx
        refine wp_go (f' := (91, [.ref 28, .int (nI kind), .int (nI (bbN n nb kind 0)), .int (nI q2), .int (nI q1), .int (nI k), .int (nI (pickV n nb kind q1 q2))], [.int ((nI q2) - (nI 0))], MW (upA (upA A 31 (bbA n nb kind (A 31))) 32 q3) B F sw, 0, 0)) 2 rfl ?_
        rw [pk_sub (by omega)]
        refine wp_go (f' := (100, [.ref 28, .int (nI kind), .int (nI (bbN n nb kind 0)), .int (nI (q2 - 0)), .int (nI q1), .int (nI k), .int (nI (pickV n nb kind q1 q2))], [.int (nI (pickV n nb kind q1 q2)), .int (nI k), .ref 32], MW (upA (upA A 31 (bbA n nb kind (A 31))) 32 q3) B F sw, 0, 0)) 5 rfl ?_
        refine wp_iast rfl rfl (by omega) (by decide) ?_
        refine wp_eq (f' := (101, [.ref 28, .int (nI kind), .int (nI (bbN n nb kind 0)), .int (nI (q2 - 0)), .int (nI q1), .int (nI k), .int (nI (pickV n nb kind q1 q2))], [], MW (upA (upA A 31 (bbA n nb kind (A 31))) 32 (upd q3 k (nI (pickV n nb kind q1 q2)))) B F sw, 0, 0)) rfl ?_
        refine wp_go (f' := (107, [.ref 28, .int (nI kind), .int (nI (bbN n nb kind 0)), .int (nI (q2 - 0)), .int (nI q1), .int (nI k), .int (nI (pickV n nb kind q1 q2))], [.int ((nI 1) <<< ((nI (pickV n nb kind q1 q2)) &&& 31)), .int (nI q1)], MW (upA (upA A 31 (bbA n nb kind (A 31))) 32 (upd q3 k (nI (pickV n nb kind q1 q2)))) B F sw, 0, 0)) 4 rfl ?_
        rw [bx_one (by omega)]
        have hb1 : 2 ^ (pickV n nb kind q1 q2) < 1024 := by first | omega | exact or_lt (by omega) (by omega) | exact and_lt (by omega) | exact and_lt_r (by omega) | exact sd_lt (by omega) | exact pow_lt (by omega)
        refine wp_go (f' := (108, [.ref 28, .int (nI kind), .int (nI (bbN n nb kind 0)), .int (nI (q2 - 0)), .int (nI q1), .int (nI k), .int (nI (pickV n nb kind q1 q2))], [.int ((nI q1) ||| (nI (2 ^ (pickV n nb kind q1 q2))))], MW (upA (upA A 31 (bbA n nb kind (A 31))) 32 (upd q3 k (nI (pickV n nb kind q1 q2)))) B F sw, 0, 0)) 1 rfl ?_
        rw [bx_or]
        have hb2 : q1 ||| (2 ^ (pickV n nb kind q1 q2)) < 1024 := by first | omega | exact or_lt (by omega) (by omega) | exact and_lt (by omega) | exact and_lt_r (by omega) | exact sd_lt (by omega) | exact pow_lt (by omega)
        refine wp_go (f' := (113, [.ref 28, .int (nI kind), .int (nI (bbN n nb kind 0)), .int (nI (q2 - 0)), .int (nI (q1 ||| (2 ^ (pickV n nb kind q1 q2)))), .int ((nI k) + 1), .int (nI (pickV n nb kind q1 q2))], [], MW (upA (upA A 31 (bbA n nb kind (A 31))) 32 (upd q3 k (nI (pickV n nb kind q1 q2)))) B F sw, 0, 0)) 2 rfl ?_
        rw [nI_1]
        refine wp_go (f' := (40, [.ref 28, .int (nI kind), .int (nI (bbN n nb kind 0)), .int (nI (q2 - 0)), .int (nI (q1 ||| (2 ^ (pickV n nb kind q1 q2)))), .int (nI (k + 1)), .int (nI (pickV n nb kind q1 q2))], [], MW (upA (upA A 31 (bbA n nb kind (A 31))) 32 (upd q3 k (nI (pickV n nb kind q1 q2)))) B F sw, 0, 0)) 1 rfl ?_
        have h8 := ih ?_ (.int (nI (pickV n nb kind q1 q2)))
        · unfold layS at h8
          rw [if_neg h2] at h8
          exact h8
        · unfold layS
          dsimp only
          rw [if_neg h2]
          have hb9 : q1.testBit (pickV n nb kind q1 q2) = false := by
            have h7 := w2
            unfold nextN at h7
            cases hq1 : q1.testBit (pickV n nb kind q1 q2) with
            | false => rfl
            | true => rw [hq1] at h7; cases h7
          refine ⟨or_ltn i1 (by omega), hnx, by omega, ?_⟩
          rw [pop_or (by omega) (by omega) hb9]; omega
      · have h2 := Classical.not_not.mp h2; have h2 : kind = 4 := (nI_eq (a := kind) (b := 4) (by omega) (by omega)).mp h2
        have hcl := hcl h2
        rw [if_pos h2] at hnx
        refine wp_go (f' := (83, [.ref 28, .int (nI kind), .int (nI (bbN n nb kind 0)), .int (nI q2), .int (nI q1), .int (nI k), .int (nI (pickV n nb kind q1 q2))], [.int (nI (pickV n nb kind q1 q2)), .int (nI q1), .int (nI kind), .ref 28, .int (nI q2)], MW (upA (upA A 31 (bbA n nb kind (A 31))) 32 q3) B F sw, 0, 0)) 4 rfl ?_
        refine wp_call rfl rfl rfl (ev_up (ev_cost hkd hM2 (s := q1) (v := pickV n nb kind q1 q2) (by omega) (by omega)) (by decide)) ?_
        refine wp_eq (f' := (86, [.ref 28, .int (nI kind), .int (nI (bbN n nb kind 0)), .int (nI q2), .int (nI q1), .int (nI k), .int (nI (pickV n nb kind q1 q2))], [.int (nI (costN n nb kind q1 (pickV n nb kind q1 q2))), .int (nI q2)], MW (upA (upA A 31 (bbA n nb kind (A 31))) 32 q3) B F sw, 0, 0)) rfl ?_
        refine wp_go (f' := (91, [.ref 28, .int (nI kind), .int (nI (bbN n nb kind 0)), .int (nI q2), .int (nI q1), .int (nI k), .int (nI (pickV n nb kind q1 q2))], [.int ((nI q2) - (nI (costN n nb kind q1 (pickV n nb kind q1 q2))))], MW (upA (upA A 31 (bbA n nb kind (A 31))) 32 q3) B F sw, 0, 0)) 2 rfl ?_
        rw [pk_sub (by omega)]
        refine wp_go (f' := (100, [.ref 28, .int (nI kind), .int (nI (bbN n nb kind 0)), .int (nI (q2 - (costN n nb kind q1 (pickV n nb kind q1 q2)))), .int (nI q1), .int (nI k), .int (nI (pickV n nb kind q1 q2))], [.int (nI (pickV n nb kind q1 q2)), .int (nI k), .ref 32], MW (upA (upA A 31 (bbA n nb kind (A 31))) 32 q3) B F sw, 0, 0)) 5 rfl ?_
        refine wp_iast rfl rfl (by omega) (by decide) ?_
        refine wp_eq (f' := (101, [.ref 28, .int (nI kind), .int (nI (bbN n nb kind 0)), .int (nI (q2 - (costN n nb kind q1 (pickV n nb kind q1 q2)))), .int (nI q1), .int (nI k), .int (nI (pickV n nb kind q1 q2))], [], MW (upA (upA A 31 (bbA n nb kind (A 31))) 32 (upd q3 k (nI (pickV n nb kind q1 q2)))) B F sw, 0, 0)) rfl ?_
        refine wp_go (f' := (107, [.ref 28, .int (nI kind), .int (nI (bbN n nb kind 0)), .int (nI (q2 - (costN n nb kind q1 (pickV n nb kind q1 q2)))), .int (nI q1), .int (nI k), .int (nI (pickV n nb kind q1 q2))], [.int ((nI 1) <<< ((nI (pickV n nb kind q1 q2)) &&& 31)), .int (nI q1)], MW (upA (upA A 31 (bbA n nb kind (A 31))) 32 (upd q3 k (nI (pickV n nb kind q1 q2)))) B F sw, 0, 0)) 4 rfl ?_
        rw [bx_one (by omega)]
        have hb3 : 2 ^ (pickV n nb kind q1 q2) < 1024 := by first | omega | exact or_lt (by omega) (by omega) | exact and_lt (by omega) | exact and_lt_r (by omega) | exact sd_lt (by omega) | exact pow_lt (by omega)
        refine wp_go (f' := (108, [.ref 28, .int (nI kind), .int (nI (bbN n nb kind 0)), .int (nI (q2 - (costN n nb kind q1 (pickV n nb kind q1 q2)))), .int (nI q1), .int (nI k), .int (nI (pickV n nb kind q1 q2))], [.int ((nI q1) ||| (nI (2 ^ (pickV n nb kind q1 q2))))], MW (upA (upA A 31 (bbA n nb kind (A 31))) 32 (upd q3 k (nI (pickV n nb kind q1 q2)))) B F sw, 0, 0)) 1 rfl ?_
        rw [bx_or]
        have hb4 : q1 ||| (2 ^ (pickV n nb kind q1 q2)) < 1024 := by first | omega | exact or_lt (by omega) (by omega) | exact and_lt (by omega) | exact and_lt_r (by omega) | exact sd_lt (by omega) | exact pow_lt (by omega)
        refine wp_go (f' := (113, [.ref 28, .int (nI kind), .int (nI (bbN n nb kind 0)), .int (nI (q2 - (costN n nb kind q1 (pickV n nb kind q1 q2)))), .int (nI (q1 ||| (2 ^ (pickV n nb kind q1 q2)))), .int ((nI k) + 1), .int (nI (pickV n nb kind q1 q2))], [], MW (upA (upA A 31 (bbA n nb kind (A 31))) 32 (upd q3 k (nI (pickV n nb kind q1 q2)))) B F sw, 0, 0)) 2 rfl ?_
        rw [nI_1]
        refine wp_go (f' := (40, [.ref 28, .int (nI kind), .int (nI (bbN n nb kind 0)), .int (nI (q2 - (costN n nb kind q1 (pickV n nb kind q1 q2)))), .int (nI (q1 ||| (2 ^ (pickV n nb kind q1 q2)))), .int (nI (k + 1)), .int (nI (pickV n nb kind q1 q2))], [], MW (upA (upA A 31 (bbA n nb kind (A 31))) 32 (upd q3 k (nI (pickV n nb kind q1 q2)))) B F sw, 0, 0)) 1 rfl ?_
        have h8 := ih ?_ (.int (nI (pickV n nb kind q1 q2)))
        · unfold layS at h8
          rw [if_pos h2] at h8
          exact h8
        · unfold layS
          dsimp only
          rw [if_pos h2]
          have hb9 : q1.testBit (pickV n nb kind q1 q2) = false := by
            have h7 := w2
            unfold nextN at h7
            cases hq1 : q1.testBit (pickV n nb kind q1 q2) with
            | false => rfl
            | true => rw [hq1] at h7; cases h7
          refine ⟨or_ltn i1 (by omega), hnx, by omega, ?_⟩
          rw [pop_or (by omega) (by omega) hb9]; omega
    · have h1 := Classical.not_not.mp h1; have h1 := bI_0.mp h1
      refine wp_go (f' := (68, [.ref 28, .int (nI kind), .int (nI (bbN n nb kind 0)), .int (nI q2), .int (nI q1), .int (nI k), .int ((nI v) + 1)], [], MW (upA (upA A 31 (bbA n nb kind (A 31))) 32 q3) B F sw, 0, 0)) 1 rfl ?_
      rw [nI_1]
      refine wp_go (f' := (52, [.ref 28, .int (nI kind), .int (nI (bbN n nb kind 0)), .int (nI q2), .int (nI q1), .int (nI k), .int (nI (v + 1))], [], MW (upA (upA A 31 (bbA n nb kind (A 31))) 32 q3) B F sw, 0, 0)) 1 rfl ?_
      have h9 : v ≠ pickV n nb kind q1 q2 := fun e => by rw [e, w2] at h1; cases h1
      exact ih2 (v + 1) (by omega) (by omega)
  · intro hq d6
    refine wp_go (f' := (46, [.ref 28, .int (nI kind), .int (nI (bbN n nb kind 0)), .int (nI (layN n nb kind (A 32)).2.1), .int (nI (layN n nb kind (A 32)).1), .int (nI n), d6], [.int (F 6), .int (nI n)], MW (upA (upA A 31 (bbA n nb kind (A 31))) 32 (layN n nb kind (A 32)).2.2) B F sw, 0, 0)) 3 rfl ?_
    rw [hM.2.1]
    refine wp_go (f' := ((if (nI n) ≤ (nI n) then 116 else 49), [.ref 28, .int (nI kind), .int (nI (bbN n nb kind 0)), .int (nI (layN n nb kind (A 32)).2.1), .int (nI (layN n nb kind (A 32)).1), .int (nI n), d6], [], MW (upA (upA A 31 (bbA n nb kind (A 31))) 32 (layN n nb kind (A 32)).2.2) B F sw, 0, 0)) 1 rfl ?_
    refine wp_ite (fun _ => ?_) (fun h9 => absurd (nI_le (Nat.le_refl _) (by omega)) h9)
    refine wp_go (f' := (117, [.ref 28, .int (nI kind), .int (nI (bbN n nb kind 0)), .int (nI (layN n nb kind (A 32)).2.1), .int (nI (layN n nb kind (A 32)).1), .int (nI n), d6], [.int (nI (bbN n nb kind 0))], MW (upA (upA A 31 (bbA n nb kind (A 31))) 32 (layN n nb kind (A 32)).2.2) B F sw, 0, 0)) 1 rfl ?_
    exact wp_iret rfl
end MM
end
section
/-! tables over all sets, filled by rising numbers -/
def tabN (G : (Nat → Int64) → Nat → Int64) (n : Nat) (g : Nat → Int64) : Nat → Int64 := forN (fun k f => vp_updL f (k + 1) (G f (k + 1))) (2 ^ n - 1) g
/-- through the subsets t of s that aren't empty, from t down -/
def subF (f : Nat → Int64 → Int64) (s : Nat) : Nat → Nat → Int64 → Int64
  | 0, _, a => a
  | k + 1, t, a => if t = 0 then a else subF f s k ((t - 1) &&& s) (f t a)
def subN (f : Nat → Int64 → Int64) (s t : Nat) (a : Int64) : Int64 := subF f s 1024 t a
theorem subF_fuel {f : Nat → Int64 → Int64} {s : Nat} : ∀ (k m t : Nat) (a : Int64), t ≤ k → t ≤ m → subF f s k t a = subF f s m t a
  | 0, 0, t, a, h1, h2 => rfl
  | 0, m + 1, t, a, h1, h2 => by have : t = 0 := by omega
                                 subst this; simp [subF]
  | k + 1, 0, t, a, h1, h2 => by have : t = 0 := by omega
                                 subst this; simp [subF]
  | k + 1, m + 1, t, a, h1, h2 => by
    simp only [subF]
    by_cases h : t = 0
    · rw [if_pos h, if_pos h]
    · rw [if_neg h, if_neg h]
      have : (t - 1) &&& s ≤ t - 1 := Nat.and_le_left
      exact subF_fuel k m _ _ (by omega) (by omega)
theorem subN_0 (f : Nat → Int64 → Int64) (s : Nat) (a : Int64) : subN f s 0 a = a := by
  unfold subN
  rw [show (1024 : Nat) = 1023 + 1 from rfl]
  exact if_pos rfl
theorem subF_succ (f : Nat → Int64 → Int64) (s k t : Nat) (a : Int64) : subF f s (k + 1) t a = if t = 0 then a else subF f s k ((t - 1) &&& s) (f t a) := rfl
theorem subN_s {f : Nat → Int64 → Int64} {s t : Nat} {a : Int64} (ht : t < 1024) (h0 : ¬ t = 0) : subN f s t a = subN f s ((t - 1) &&& s) (f t a) := by
  have : (t - 1) &&& s ≤ t - 1 := Nat.and_le_left
  unfold subN
  rw [show (1024 : Nat) = 1023 + 1 from rfl, subF_succ, if_neg h0]
  exact subF_fuel 1023 1024 _ _ (by omega) (by omega)
theorem sub_ind {P : Nat → Int64 → Prop} {f : Nat → Int64 → Int64} {s : Nat} (hs : ∀ t a, t < 1024 → ¬ t = 0 → P ((t - 1) &&& s) (f t a) → P t a) : ∀ (t : Nat) (a : Int64), t < 1024 → P 0 (subN f s t a) → P t a := by
  refine wh_ind (P := fun t => ∀ a, t < 1024 → P 0 (subN f s t a) → P t a) (fun t => t) (fun t ih a ht h => ?_)
  by_cases h0 : t = 0
  · subst h0; rw [subN_0] at h; exact h
  · have h2 : (t - 1) &&& s ≤ t - 1 := Nat.and_le_left
    rw [subN_s ht h0] at h
    exact hs t a ht h0 (ih _ (by omega) _ (by omega) h)
/-- matchings of s, by a table of smaller sets -/
def matG (n : Nat) (nb : Nat → Nat) (each : Bool) (f : Nat → Int64) (s : Nat) : Int64 := forN (fun w x => x + (if (nb (low s) &&& sd s (2 ^ low s)).testBit w then f (sd (sd s (2 ^ low s)) (2 ^ w)) else 0)) n (if each then 0 else f (sd s (2 ^ low s)))
/-- s cut into sets with the lowest vertex, by a table h of such -/
def prodG (h f : Nat → Int64) (s : Nat) : Int64 := subN (fun t a => a + (if ¬ t &&& 2 ^ low s = 0 then h t * f (sd s t) else 0)) s s 0
def wholG (n : Nat) (nb : Nat → Nat) (f : Nat → Int64) (s : Nat) : Int64 := subN (fun t a => a - (if ¬ t &&& 2 ^ low s = 0 then f t <<< ((nI (edgesN n nb (sd s t))).toInt64 &&& 63) else 0)) s ((s - 1) &&& s) (1 <<< ((nI (edgesN n nb s)).toInt64 &&& 63))
def dirG (n : Nat) (nb : Nat → Nat) (f : Nat → Int64) (s : Nat) : Int64 := subN (fun t a => a + (if apartN n nb t then (if pop t &&& 1 = 1 then f (sd s t) else - f (sd s t)) else 0)) s s 0
section MM
variable {xs : Nat → Int32} {Ls : Nat} {A : Nat → Nat → Int32} {B : Nat → Nat → Int64} {F : Nat → Int32} {sw : Bool} {n : Nat} {nb : Nat → Nat}
theorem ev_matchings0 (hM : MI A F n nb) : mv_Ev xs Ls 3 123 [.ref 28, .int (nI 0)] (MW A B F sw) (some (.long ((tabN (matG n nb false) n (vp_updL (B 38) 0 1)) (2 ^ n - 1))), MW A (upB B 38 (tabN (matG n nb false) n (vp_updL (B 38) 0 1))) F sw, 0, 0) := by
  refine ev_of_wp rfl rfl rfl ?_
  have hn := hM.1
  have hp := pow10 hn
  have hp1 : 1 ≤ 2 ^ n := Nat.one_le_two_pow
  have hal := all_lt hn
  have hnbl := hM.2.2.2
  refine wp_go (f' := (6, [.ref 28, .int (nI 0), .retAddr 0, .retAddr 0, .retAddr 0, .retAddr 0, .retAddr 0, .retAddr 0], [.long 1, .int (nI 0), .ref 38], MW A B F sw, 0, 0)) 4 rfl ?_
  refine wp_last rfl rfl (by omega) (by decide) ?_
  refine wp_eq (f' := (7, [.ref 28, .int (nI 0), .retAddr 0, .retAddr 0, .retAddr 0, .retAddr 0, .retAddr 0, .retAddr 0], [], MW A (upB B 38 (vp_updL (B 38) 0 1)) F sw, 0, 0)) rfl ?_
  refine wp_go (f' := (9, [.ref 28, .int (nI 0), .int (nI 1), .retAddr 0, .retAddr 0, .retAddr 0, .retAddr 0, .retAddr 0], [], MW A (upB B 38 (vp_updL (B 38) 0 1)) F sw, 0, 0)) 2 rfl ?_
  refine for_ind (P := fun (k : Nat) (f : Nat → Int64) => ∀ (d3 d4 d5 d6 d7 : Value), mv_Wp xs Ls 2 6 false (some .long) mv_c123 (9, [.ref 28, .int (nI 0), .int (nI (k + 1)), d3, d4, d5, d6, d7], [], MW A (upB B 38 f) F sw, 0, 0) (some (.long ((tabN (matG n nb false) n (vp_updL (B 38) 0 1)) (2 ^ n - 1))), MW A (upB B 38 (tabN (matG n nb false) n (vp_updL (B 38) 0 1))) F sw, 0, 0)) (f := fun k f => vp_updL f (k + 1) (matG n nb false f (k + 1))) (n := (2 ^ n - 1)) ?_ (2 ^ n - 1) (vp_updL (B 38) 0 1) (Nat.le_refl _) ?_  (.retAddr 0) (.retAddr 0) (.retAddr 0) (.retAddr 0) (.retAddr 0)
  · intro k f hk ih  d3 d4 d5 d6 d7
    refine wp_go (f' := (11, [.ref 28, .int (nI 0), .int (nI (k + 1)), d3, d4, d5, d6, d7], [.ref 28, .int (nI (k + 1))], MW A (upB B 38 f) F sw, 0, 0)) 2 rfl ?_
    refine wp_call rfl rfl rfl (ev_up (ev_all hM) (by decide)) ?_
    refine wp_eq (f' := (14, [.ref 28, .int (nI 0), .int (nI (k + 1)), d3, d4, d5, d6, d7], [.int (nI (2 ^ n - 1)), .int (nI (k + 1))], MW A (upB B 38 f) F sw, 0, 0)) rfl ?_
    refine wp_go (f' := ((if (nI (2 ^ n - 1)) < (nI (k + 1)) then 121 else 17), [.ref 28, .int (nI 0), .int (nI (k + 1)), d3, d4, d5, d6, d7], [], MW A (upB B 38 f) F sw, 0, 0)) 1 rfl ?_
    refine wp_ite (fun h9 => absurd h9 (nI_nlt (by omega) (by omega))) (fun _ => ?_)
    refine wp_go (f' := (18, [.ref 28, .int (nI 0), .int (nI (k + 1)), d3, d4, d5, d6, d7], [.int (nI (k + 1))], MW A (upB B 38 f) F sw, 0, 0)) 1 rfl ?_
    refine wp_call rfl rfl rfl (ev_up (ev_lowest (s := k + 1) (by omega) (by omega) _) (by decide)) ?_
    refine wp_eq (f' := (21, [.ref 28, .int (nI 0), .int (nI (k + 1)), d3, d4, d5, d6, d7], [.int (nI (low (k + 1)))], MW A (upB B 38 f) F sw, 0, 0)) rfl ?_
    have hlw := low_lt (s := k + 1) (by omega) (by omega)
    refine wp_go (f' := (26, [.ref 28, .int (nI 0), .int (nI (k + 1)), .int (nI (low (k + 1))), d4, d5, d6, d7], [.int ((nI 1) <<< ((nI (low (k + 1))) &&& 31)), .int (nI (k + 1))], MW A (upB B 38 f) F sw, 0, 0)) 5 rfl ?_
    rw [bx_one (by omega)]
    have hb1 : 2 ^ (low (k + 1)) < 1024 := by first | omega | exact or_lt (by omega) (by omega) | exact and_lt (by omega) | exact and_lt_r (by omega) | exact sd_lt (by omega) | exact pow_lt (by omega)
    refine wp_go (f' := (29, [.ref 28, .int (nI 0), .int (nI (k + 1)), .int (nI (low (k + 1))), d4, d5, d6, d7], [.int ((nI (k + 1)) &&& ((nI (2 ^ (low (k + 1)))) ^^^ (-1)))], MW A (upB B 38 f) F sw, 0, 0)) 3 rfl ?_
    rw [bx_sd (by omega)]
    have hb2 : sd (k + 1) (2 ^ (low (k + 1))) < 1024 := by first | omega | exact or_lt (by omega) (by omega) | exact and_lt (by omega) | exact and_lt_r (by omega) | exact sd_lt (by omega) | exact pow_lt (by omega)
    refine wp_go (f' := ((if (nI 0) = 0 then 39 else 35), [.ref 28, .int (nI 0), .int (nI (k + 1)), .int (nI (low (k + 1))), .int (nI (sd (k + 1) (2 ^ (low (k + 1))))), d5, d6, d7], [], MW A (upB B 38 f) F sw, 0, 0)) 3 rfl ?_
    refine wp_ite (fun _ => ?_) (fun h9 => absurd (rfl : nI 0 = 0) h9)
    refine wp_go (f' := (45, [.ref 28, .int (nI 0), .int (nI (k + 1)), .int (nI (low (k + 1))), .int (nI (sd (k + 1) (2 ^ (low (k + 1))))), d5, d6, d7], [.int (nI (sd (k + 1) (2 ^ (low (k + 1))))), .ref 38], MW A (upB B 38 f) F sw, 0, 0)) 3 rfl ?_
    refine wp_lald rfl rfl (by omega) (by decide) ?_
    refine wp_eq (f' := (46, [.ref 28, .int (nI 0), .int (nI (k + 1)), .int (nI (low (k + 1))), .int (nI (sd (k + 1) (2 ^ (low (k + 1))))), d5, d6, d7], [.long (f (sd (k + 1) (2 ^ (low (k + 1)))))], MW A (upB B 38 f) F sw, 0, 0)) rfl ?_
    refine wp_go (f' := (51, [.ref 28, .int (nI 0), .int (nI (k + 1)), .int (nI (low (k + 1))), .int (nI (sd (k + 1) (2 ^ (low (k + 1))))), .long (f (sd (k + 1) (2 ^ (low (k + 1))))), .retAddr 0, .int (nI 0)], [], MW A (upB B 38 f) F sw, 0, 0)) 3 rfl ?_
    refine for_ind (P := fun (w : Nat) (x : Int64) => mv_Wp xs Ls 2 6 false (some .long) mv_c123 (51, [.ref 28, .int (nI 0), .int (nI (k + 1)), .int (nI (low (k + 1))), .int (nI (sd (k + 1) (2 ^ (low (k + 1))))), .long x, .retAddr 0, .int (nI w)], [], MW A (upB B 38 f) F sw, 0, 0) (some (.long ((tabN (matG n nb false) n (vp_updL (B 38) 0 1)) (2 ^ n - 1))), MW A (upB B 38 (tabN (matG n nb false) n (vp_updL (B 38) 0 1))) F sw, 0, 0)) (f := fun w x => x + (if (nb (low (k + 1)) &&& sd (k + 1) (2 ^ low (k + 1))).testBit w then f (sd (sd (k + 1) (2 ^ low (k + 1))) (2 ^ w)) else 0)) (n := n) ?_ n (f (sd (k + 1) (2 ^ (low (k + 1))))) (Nat.le_refl _) ?_  
    · intro w x hk2 ih2  
      refine wp_go (f' := (57, [.ref 28, .int (nI 0), .int (nI (k + 1)), .int (nI (low (k + 1))), .int (nI (sd (k + 1) (2 ^ (low (k + 1))))), .long x, .retAddr 0, .int (nI w)], [.int (F 6), .int (nI w)], MW A (upB B 38 f) F sw, 0, 0)) 3 rfl ?_
      rw [hM.2.1]
      refine wp_go (f' := ((if (nI n) ≤ (nI w) then 107 else 60), [.ref 28, .int (nI 0), .int (nI (k + 1)), .int (nI (low (k + 1))), .int (nI (sd (k + 1) (2 ^ (low (k + 1))))), .long x, .retAddr 0, .int (nI w)], [], MW A (upB B 38 f) F sw, 0, 0)) 1 rfl ?_
      refine wp_ite (fun h9 => absurd h9 (nI_ge hk2 (by omega))) (fun _ => ?_)
      refine wp_go (f' := (67, [.ref 28, .int (nI 0), .int (nI (k + 1)), .int (nI (low (k + 1))), .int (nI (sd (k + 1) (2 ^ (low (k + 1))))), .long x, .retAddr 0, .int (nI w)], [.int (nI (low (k + 1))), .ref 29, .long x], MW A (upB B 38 f) F sw, 0, 0)) 4 rfl ?_
      refine wp_iald rfl rfl (by omega) (by decide) ?_
      rw [hM.2.2.1 (low (k + 1)) (by omega)]
      have hnb := hM.2.2.2 (low (k + 1)) (by omega)
      refine wp_go (f' := (71, [.ref 28, .int (nI 0), .int (nI (k + 1)), .int (nI (low (k + 1))), .int (nI (sd (k + 1) (2 ^ (low (k + 1))))), .long x, .retAddr 0, .int (nI w)], [.int ((nI (nb (low (k + 1)))) &&& (nI (sd (k + 1) (2 ^ (low (k + 1)))))), .long x], MW A (upB B 38 f) F sw, 0, 0)) 2 rfl ?_
      rw [bx_and]
      have hb1 : (nb (low (k + 1))) &&& (sd (k + 1) (2 ^ (low (k + 1)))) < 1024 := by first | omega | exact or_lt (by omega) (by omega) | exact and_lt (by omega) | exact and_lt_r (by omega) | exact sd_lt (by omega) | exact pow_lt (by omega)
      refine wp_go (f' := (76, [.ref 28, .int (nI 0), .int (nI (k + 1)), .int (nI (low (k + 1))), .int (nI (sd (k + 1) (2 ^ (low (k + 1))))), .long x, .retAddr 0, .int (nI w)], [.int (((nI ((nb (low (k + 1))) &&& (sd (k + 1) (2 ^ (low (k + 1)))))) >>> ((nI w) &&& 31)) &&& (nI 1)), .long x], MW A (upB B 38 f) F sw, 0, 0)) 4 rfl ?_
      rw [bx_bit (by omega) (by omega)]
      refine wp_go (f' := ((if ¬ (bI (((nb (low (k + 1))) &&& (sd (k + 1) (2 ^ (low (k + 1))))).testBit w)) = (nI 1) then 97 else 80), [.ref 28, .int (nI 0), .int (nI (k + 1)), .int (nI (low (k + 1))), .int (nI (sd (k + 1) (2 ^ (low (k + 1))))), .long x, .retAddr 0, .int (nI w)], [.long x], MW A (upB B 38 f) F sw, 0, 0)) 2 rfl ?_
      refine wp_ite (fun h1 => ?_) (fun h1 => ?_)
      · have h1 := bI_n1 h1
        refine wp_go (f' := (104, [.ref 28, .int (nI 0), .int (nI (k + 1)), .int (nI (low (k + 1))), .int (nI (sd (k + 1) (2 ^ (low (k + 1))))), .long (x + 0), .retAddr 0, .int ((nI w) + 1)], [], MW A (upB B 38 f) F sw, 0, 0)) 4 rfl ?_
        rw [nI_1]
        refine wp_go (f' := (51, [.ref 28, .int (nI 0), .int (nI (k + 1)), .int (nI (low (k + 1))), .int (nI (sd (k + 1) (2 ^ (low (k + 1))))), .long (x + 0), .retAddr 0, .int (nI (w + 1))], [], MW A (upB B 38 f) F sw, 0, 0)) 1 rfl ?_
        refine wp_eq ?_ (ih2  )
        simp [h1]
      · have h1 := Classical.not_not.mp h1; have h1 := bI_1.mp h1
        refine wp_go (f' := (90, [.ref 28, .int (nI 0), .int (nI (k + 1)), .int (nI (low (k + 1))), .int (nI (sd (k + 1) (2 ^ (low (k + 1))))), .long x, .retAddr 0, .int (nI w)], [.int ((nI 1) <<< ((nI w) &&& 31)), .int (nI (sd (k + 1) (2 ^ (low (k + 1))))), .ref 38, .long x], MW A (upB B 38 f) F sw, 0, 0)) 6 rfl ?_
        rw [bx_one (by omega)]
        have hb2 : 2 ^ w < 1024 := by first | omega | exact or_lt (by omega) (by omega) | exact and_lt (by omega) | exact and_lt_r (by omega) | exact sd_lt (by omega) | exact pow_lt (by omega)
        refine wp_go (f' := (93, [.ref 28, .int (nI 0), .int (nI (k + 1)), .int (nI (low (k + 1))), .int (nI (sd (k + 1) (2 ^ (low (k + 1))))), .long x, .retAddr 0, .int (nI w)], [.int ((nI (sd (k + 1) (2 ^ (low (k + 1))))) &&& ((nI (2 ^ w)) ^^^ (-1))), .ref 38, .long x], MW A (upB B 38 f) F sw, 0, 0)) 3 rfl ?_
        rw [bx_sd (by omega)]
        have hb3 : sd (sd (k + 1) (2 ^ (low (k + 1)))) (2 ^ w) < 1024 := by first | omega | exact or_lt (by omega) (by omega) | exact and_lt (by omega) | exact and_lt_r (by omega) | exact sd_lt (by omega) | exact pow_lt (by omega)
        refine wp_lald rfl rfl (by omega) (by decide) ?_
        refine wp_eq (f' := (94, [.ref 28, .int (nI 0), .int (nI (k + 1)), .int (nI (low (k + 1))), .int (nI (sd (k + 1) (2 ^ (low (k + 1))))), .long x, .retAddr 0, .int (nI w)], [.long (f (sd (sd (k + 1) (2 ^ (low (k + 1)))) (2 ^ w))), .long x], MW A (upB B 38 f) F sw, 0, 0)) rfl ?_
        refine wp_go (f' := (104, [.ref 28, .int (nI 0), .int (nI (k + 1)), .int (nI (low (k + 1))), .int (nI (sd (k + 1) (2 ^ (low (k + 1))))), .long (x + (f (sd (sd (k + 1) (2 ^ (low (k + 1)))) (2 ^ w)))), .retAddr 0, .int ((nI w) + 1)], [], MW A (upB B 38 f) F sw, 0, 0)) 4 rfl ?_
        rw [nI_1]
        refine wp_go (f' := (51, [.ref 28, .int (nI 0), .int (nI (k + 1)), .int (nI (low (k + 1))), .int (nI (sd (k + 1) (2 ^ (low (k + 1))))), .long (x + (f (sd (sd (k + 1) (2 ^ (low (k + 1)))) (2 ^ w)))), .retAddr 0, .int (nI (w + 1))], [], MW A (upB B 38 f) F sw, 0, 0)) 1 rfl ?_
        refine wp_eq ?_ (ih2  )
        simp [h1]
    · skip
      refine wp_go (f' := (57, [.ref 28, .int (nI 0), .int (nI (k + 1)), .int (nI (low (k + 1))), .int (nI (sd (k + 1) (2 ^ (low (k + 1))))), .long (matG n nb false f (k + 1)), .retAddr 0, .int (nI n)], [.int (F 6), .int (nI n)], MW A (upB B 38 f) F sw, 0, 0)) 3 rfl ?_
      rw [hM.2.1]
      refine wp_go (f' := ((if (nI n) ≤ (nI n) then 107 else 60), [.ref 28, .int (nI 0), .int (nI (k + 1)), .int (nI (low (k + 1))), .int (nI (sd (k + 1) (2 ^ (low (k + 1))))), .long (matG n nb false f (k + 1)), .retAddr 0, .int (nI n)], [], MW A (upB B 38 f) F sw, 0, 0)) 1 rfl ?_
      refine wp_ite (fun _ => ?_) (fun h9 => absurd (nI_le (Nat.le_refl _) (by omega)) h9)
      refine wp_go (f' := (114, [.ref 28, .int (nI 0), .int (nI (k + 1)), .int (nI (low (k + 1))), .int (nI (sd (k + 1) (2 ^ (low (k + 1))))), .long (matG n nb false f (k + 1)), .retAddr 0, .int (nI n)], [.long (matG n nb false f (k + 1)), .int (nI (k + 1)), .ref 38], MW A (upB B 38 f) F sw, 0, 0)) 4 rfl ?_
      refine wp_last rfl rfl (by omega) (by decide) ?_
      refine wp_eq (f' := (115, [.ref 28, .int (nI 0), .int (nI (k + 1)), .int (nI (low (k + 1))), .int (nI (sd (k + 1) (2 ^ (low (k + 1))))), .long (matG n nb false f (k + 1)), .retAddr 0, .int (nI n)], [], MW A (upB B 38 (vp_updL f (k + 1) (matG n nb false f (k + 1)))) F sw, 0, 0)) rfl ?_
      refine wp_go (f' := (118, [.ref 28, .int (nI 0), .int ((nI (k + 1)) + 1), .int (nI (low (k + 1))), .int (nI (sd (k + 1) (2 ^ (low (k + 1))))), .long (matG n nb false f (k + 1)), .retAddr 0, .int (nI n)], [], MW A (upB B 38 (vp_updL f (k + 1) (matG n nb false f (k + 1)))) F sw, 0, 0)) 1 rfl ?_
      rw [nI_1]
      refine wp_go (f' := (9, [.ref 28, .int (nI 0), .int (nI ((k + 1) + 1)), .int (nI (low (k + 1))), .int (nI (sd (k + 1) (2 ^ (low (k + 1))))), .long (matG n nb false f (k + 1)), .retAddr 0, .int (nI n)], [], MW A (upB B 38 (vp_updL f (k + 1) (matG n nb false f (k + 1)))) F sw, 0, 0)) 1 rfl ?_
      exact ih (.int (nI (low (k + 1)))) (.int (nI (sd (k + 1) (2 ^ (low (k + 1)))))) (.long (matG n nb false f (k + 1))) (.retAddr 0) (.int (nI n))
  · intro  d3 d4 d5 d6 d7
    refine wp_go (f' := (11, [.ref 28, .int (nI 0), .int (nI (2 ^ n - 1 + 1)), d3, d4, d5, d6, d7], [.ref 28, .int (nI (2 ^ n - 1 + 1))], MW A (upB B 38 (tabN (matG n nb false) n (vp_updL (B 38) 0 1))) F sw, 0, 0)) 2 rfl ?_
    refine wp_call rfl rfl rfl (ev_up (ev_all hM) (by decide)) ?_
    refine wp_eq (f' := (14, [.ref 28, .int (nI 0), .int (nI (2 ^ n - 1 + 1)), d3, d4, d5, d6, d7], [.int (nI (2 ^ n - 1)), .int (nI (2 ^ n - 1 + 1))], MW A (upB B 38 (tabN (matG n nb false) n (vp_updL (B 38) 0 1))) F sw, 0, 0)) rfl ?_
    refine wp_go (f' := ((if (nI (2 ^ n - 1)) < (nI (2 ^ n - 1 + 1)) then 121 else 17), [.ref 28, .int (nI 0), .int (nI (2 ^ n - 1 + 1)), d3, d4, d5, d6, d7], [], MW A (upB B 38 (tabN (matG n nb false) n (vp_updL (B 38) 0 1))) F sw, 0, 0)) 1 rfl ?_
    refine wp_ite (fun _ => ?_) (fun h9 => absurd (nI_lt (by omega) (by omega)) h9)
    refine wp_go (f' := (126, [.ref 28, .int (nI 0), .int (nI (2 ^ n - 1 + 1)), d3, d4, d5, d6, d7], [.ref 28, .ref 38], MW A (upB B 38 (tabN (matG n nb false) n (vp_updL (B 38) 0 1))) F sw, 0, 0)) 3 rfl ?_
    refine wp_call rfl rfl rfl (ev_up (ev_all hM) (by decide)) ?_
    refine wp_eq (f' := (129, [.ref 28, .int (nI 0), .int (nI (2 ^ n - 1 + 1)), d3, d4, d5, d6, d7], [.int (nI (2 ^ n - 1)), .ref 38], MW A (upB B 38 (tabN (matG n nb false) n (vp_updL (B 38) 0 1))) F sw, 0, 0)) rfl ?_
    refine wp_lald rfl rfl (by omega) (by decide) ?_
    refine wp_eq (f' := (130, [.ref 28, .int (nI 0), .int (nI (2 ^ n - 1 + 1)), d3, d4, d5, d6, d7], [.long ((tabN (matG n nb false) n (vp_updL (B 38) 0 1)) (2 ^ n - 1))], MW A (upB B 38 (tabN (matG n nb false) n (vp_updL (B 38) 0 1))) F sw, 0, 0)) rfl ?_
    exact wp_lret rfl
theorem ev_matchings1 (hM : MI A F n nb) : mv_Ev xs Ls 3 123 [.ref 28, .int (nI 1)] (MW A B F sw) (some (.long ((tabN (matG n nb true) n (vp_updL (B 38) 0 1)) (2 ^ n - 1))), MW A (upB B 38 (tabN (matG n nb true) n (vp_updL (B 38) 0 1))) F sw, 0, 0) := by
  refine ev_of_wp rfl rfl rfl ?_
  have hn := hM.1
  have hp := pow10 hn
  have hp1 : 1 ≤ 2 ^ n := Nat.one_le_two_pow
  have hal := all_lt hn
  have hnbl := hM.2.2.2
  refine wp_go (f' := (6, [.ref 28, .int (nI 1), .retAddr 0, .retAddr 0, .retAddr 0, .retAddr 0, .retAddr 0, .retAddr 0], [.long 1, .int (nI 0), .ref 38], MW A B F sw, 0, 0)) 4 rfl ?_
  refine wp_last rfl rfl (by omega) (by decide) ?_
  refine wp_eq (f' := (7, [.ref 28, .int (nI 1), .retAddr 0, .retAddr 0, .retAddr 0, .retAddr 0, .retAddr 0, .retAddr 0], [], MW A (upB B 38 (vp_updL (B 38) 0 1)) F sw, 0, 0)) rfl ?_
  refine wp_go (f' := (9, [.ref 28, .int (nI 1), .int (nI 1), .retAddr 0, .retAddr 0, .retAddr 0, .retAddr 0, .retAddr 0], [], MW A (upB B 38 (vp_updL (B 38) 0 1)) F sw, 0, 0)) 2 rfl ?_
  refine for_ind (P := fun (k : Nat) (f : Nat → Int64) => ∀ (d3 d4 d5 d6 d7 : Value), mv_Wp xs Ls 2 6 false (some .long) mv_c123 (9, [.ref 28, .int (nI 1), .int (nI (k + 1)), d3, d4, d5, d6, d7], [], MW A (upB B 38 f) F sw, 0, 0) (some (.long ((tabN (matG n nb true) n (vp_updL (B 38) 0 1)) (2 ^ n - 1))), MW A (upB B 38 (tabN (matG n nb true) n (vp_updL (B 38) 0 1))) F sw, 0, 0)) (f := fun k f => vp_updL f (k + 1) (matG n nb true f (k + 1))) (n := (2 ^ n - 1)) ?_ (2 ^ n - 1) (vp_updL (B 38) 0 1) (Nat.le_refl _) ?_  (.retAddr 0) (.retAddr 0) (.retAddr 0) (.retAddr 0) (.retAddr 0)
  · intro k f hk ih  d3 d4 d5 d6 d7
    refine wp_go (f' := (11, [.ref 28, .int (nI 1), .int (nI (k + 1)), d3, d4, d5, d6, d7], [.ref 28, .int (nI (k + 1))], MW A (upB B 38 f) F sw, 0, 0)) 2 rfl ?_
    refine wp_call rfl rfl rfl (ev_up (ev_all hM) (by decide)) ?_
    refine wp_eq (f' := (14, [.ref 28, .int (nI 1), .int (nI (k + 1)), d3, d4, d5, d6, d7], [.int (nI (2 ^ n - 1)), .int (nI (k + 1))], MW A (upB B 38 f) F sw, 0, 0)) rfl ?_
    refine wp_go (f' := ((if (nI (2 ^ n - 1)) < (nI (k + 1)) then 121 else 17), [.ref 28, .int (nI 1), .int (nI (k + 1)), d3, d4, d5, d6, d7], [], MW A (upB B 38 f) F sw, 0, 0)) 1 rfl ?_
    refine wp_ite (fun h9 => absurd h9 (nI_nlt (by omega) (by omega))) (fun _ => ?_)
    refine wp_go (f' := (18, [.ref 28, .int (nI 1), .int (nI (k + 1)), d3, d4, d5, d6, d7], [.int (nI (k + 1))], MW A (upB B 38 f) F sw, 0, 0)) 1 rfl ?_
    refine wp_call rfl rfl rfl (ev_up (ev_lowest (s := k + 1) (by omega) (by omega) _) (by decide)) ?_
    refine wp_eq (f' := (21, [.ref 28, .int (nI 1), .int (nI (k + 1)), d3, d4, d5, d6, d7], [.int (nI (low (k + 1)))], MW A (upB B 38 f) F sw, 0, 0)) rfl ?_
    have hlw := low_lt (s := k + 1) (by omega) (by omega)
    refine wp_go (f' := (26, [.ref 28, .int (nI 1), .int (nI (k + 1)), .int (nI (low (k + 1))), d4, d5, d6, d7], [.int ((nI 1) <<< ((nI (low (k + 1))) &&& 31)), .int (nI (k + 1))], MW A (upB B 38 f) F sw, 0, 0)) 5 rfl ?_
    rw [bx_one (by omega)]
    have hb1 : 2 ^ (low (k + 1)) < 1024 := by first | omega | exact or_lt (by omega) (by omega) | exact and_lt (by omega) | exact and_lt_r (by omega) | exact sd_lt (by omega) | exact pow_lt (by omega)
    refine wp_go (f' := (29, [.ref 28, .int (nI 1), .int (nI (k + 1)), .int (nI (low (k + 1))), d4, d5, d6, d7], [.int ((nI (k + 1)) &&& ((nI (2 ^ (low (k + 1)))) ^^^ (-1)))], MW A (upB B 38 f) F sw, 0, 0)) 3 rfl ?_
    rw [bx_sd (by omega)]
    have hb2 : sd (k + 1) (2 ^ (low (k + 1))) < 1024 := by first | omega | exact or_lt (by omega) (by omega) | exact and_lt (by omega) | exact and_lt_r (by omega) | exact sd_lt (by omega) | exact pow_lt (by omega)
    refine wp_go (f' := ((if (nI 1) = 0 then 39 else 35), [.ref 28, .int (nI 1), .int (nI (k + 1)), .int (nI (low (k + 1))), .int (nI (sd (k + 1) (2 ^ (low (k + 1))))), d5, d6, d7], [], MW A (upB B 38 f) F sw, 0, 0)) 3 rfl ?_
    refine wp_ite (fun h9 => absurd h9 (by decide : ¬ nI 1 = 0)) (fun _ => ?_)
    refine wp_go (f' := (51, [.ref 28, .int (nI 1), .int (nI (k + 1)), .int (nI (low (k + 1))), .int (nI (sd (k + 1) (2 ^ (low (k + 1))))), .long 0, .retAddr 0, .int (nI 0)], [], MW A (upB B 38 f) F sw, 0, 0)) 5 rfl ?_
    refine for_ind (P := fun (w : Nat) (x : Int64) => mv_Wp xs Ls 2 6 false (some .long) mv_c123 (51, [.ref 28, .int (nI 1), .int (nI (k + 1)), .int (nI (low (k + 1))), .int (nI (sd (k + 1) (2 ^ (low (k + 1))))), .long x, .retAddr 0, .int (nI w)], [], MW A (upB B 38 f) F sw, 0, 0) (some (.long ((tabN (matG n nb true) n (vp_updL (B 38) 0 1)) (2 ^ n - 1))), MW A (upB B 38 (tabN (matG n nb true) n (vp_updL (B 38) 0 1))) F sw, 0, 0)) (f := fun w x => x + (if (nb (low (k + 1)) &&& sd (k + 1) (2 ^ low (k + 1))).testBit w then f (sd (sd (k + 1) (2 ^ low (k + 1))) (2 ^ w)) else 0)) (n := n) ?_ n 0 (Nat.le_refl _) ?_  
    · intro w x hk2 ih2  
      refine wp_go (f' := (57, [.ref 28, .int (nI 1), .int (nI (k + 1)), .int (nI (low (k + 1))), .int (nI (sd (k + 1) (2 ^ (low (k + 1))))), .long x, .retAddr 0, .int (nI w)], [.int (F 6), .int (nI w)], MW A (upB B 38 f) F sw, 0, 0)) 3 rfl ?_
      rw [hM.2.1]
      refine wp_go (f' := ((if (nI n) ≤ (nI w) then 107 else 60), [.ref 28, .int (nI 1), .int (nI (k + 1)), .int (nI (low (k + 1))), .int (nI (sd (k + 1) (2 ^ (low (k + 1))))), .long x, .retAddr 0, .int (nI w)], [], MW A (upB B 38 f) F sw, 0, 0)) 1 rfl ?_
      refine wp_ite (fun h9 => absurd h9 (nI_ge hk2 (by omega))) (fun _ => ?_)
      refine wp_go (f' := (67, [.ref 28, .int (nI 1), .int (nI (k + 1)), .int (nI (low (k + 1))), .int (nI (sd (k + 1) (2 ^ (low (k + 1))))), .long x, .retAddr 0, .int (nI w)], [.int (nI (low (k + 1))), .ref 29, .long x], MW A (upB B 38 f) F sw, 0, 0)) 4 rfl ?_
      refine wp_iald rfl rfl (by omega) (by decide) ?_
      rw [hM.2.2.1 (low (k + 1)) (by omega)]
      have hnb := hM.2.2.2 (low (k + 1)) (by omega)
      refine wp_go (f' := (71, [.ref 28, .int (nI 1), .int (nI (k + 1)), .int (nI (low (k + 1))), .int (nI (sd (k + 1) (2 ^ (low (k + 1))))), .long x, .retAddr 0, .int (nI w)], [.int ((nI (nb (low (k + 1)))) &&& (nI (sd (k + 1) (2 ^ (low (k + 1)))))), .long x], MW A (upB B 38 f) F sw, 0, 0)) 2 rfl ?_
      rw [bx_and]
      have hb1 : (nb (low (k + 1))) &&& (sd (k + 1) (2 ^ (low (k + 1)))) < 1024 := by first | omega | exact or_lt (by omega) (by omega) | exact and_lt (by omega) | exact and_lt_r (by omega) | exact sd_lt (by omega) | exact pow_lt (by omega)
      refine wp_go (f' := (76, [.ref 28, .int (nI 1), .int (nI (k + 1)), .int (nI (low (k + 1))), .int (nI (sd (k + 1) (2 ^ (low (k + 1))))), .long x, .retAddr 0, .int (nI w)], [.int (((nI ((nb (low (k + 1))) &&& (sd (k + 1) (2 ^ (low (k + 1)))))) >>> ((nI w) &&& 31)) &&& (nI 1)), .long x], MW A (upB B 38 f) F sw, 0, 0)) 4 rfl ?_
      rw [bx_bit (by omega) (by omega)]
      refine wp_go (f' := ((if ¬ (bI (((nb (low (k + 1))) &&& (sd (k + 1) (2 ^ (low (k + 1))))).testBit w)) = (nI 1) then 97 else 80), [.ref 28, .int (nI 1), .int (nI (k + 1)), .int (nI (low (k + 1))), .int (nI (sd (k + 1) (2 ^ (low (k + 1))))), .long x, .retAddr 0, .int (nI w)], [.long x], MW A (upB B 38 f) F sw, 0, 0)) 2 rfl ?_
      refine wp_ite (fun h1 => ?_) (fun h1 => ?_)
      · have h1 := bI_n1 h1
        refine wp_go (f' := (104, [.ref 28, .int (nI 1), .int (nI (k + 1)), .int (nI (low (k + 1))), .int (nI (sd (k + 1) (2 ^ (low (k + 1))))), .long (x + 0), .retAddr 0, .int ((nI w) + 1)], [], MW A (upB B 38 f) F sw, 0, 0)) 4 rfl ?_
        rw [nI_1]
        refine wp_go (f' := (51, [.ref 28, .int (nI 1), .int (nI (k + 1)), .int (nI (low (k + 1))), .int (nI (sd (k + 1) (2 ^ (low (k + 1))))), .long (x + 0), .retAddr 0, .int (nI (w + 1))], [], MW A (upB B 38 f) F sw, 0, 0)) 1 rfl ?_
        refine wp_eq ?_ (ih2  )
        simp [h1]
      · have h1 := Classical.not_not.mp h1; have h1 := bI_1.mp h1
        refine wp_go (f' := (90, [.ref 28, .int (nI 1), .int (nI (k + 1)), .int (nI (low (k + 1))), .int (nI (sd (k + 1) (2 ^ (low (k + 1))))), .long x, .retAddr 0, .int (nI w)], [.int ((nI 1) <<< ((nI w) &&& 31)), .int (nI (sd (k + 1) (2 ^ (low (k + 1))))), .ref 38, .long x], MW A (upB B 38 f) F sw, 0, 0)) 6 rfl ?_
        rw [bx_one (by omega)]
        have hb2 : 2 ^ w < 1024 := by first | omega | exact or_lt (by omega) (by omega) | exact and_lt (by omega) | exact and_lt_r (by omega) | exact sd_lt (by omega) | exact pow_lt (by omega)
        refine wp_go (f' := (93, [.ref 28, .int (nI 1), .int (nI (k + 1)), .int (nI (low (k + 1))), .int (nI (sd (k + 1) (2 ^ (low (k + 1))))), .long x, .retAddr 0, .int (nI w)], [.int ((nI (sd (k + 1) (2 ^ (low (k + 1))))) &&& ((nI (2 ^ w)) ^^^ (-1))), .ref 38, .long x], MW A (upB B 38 f) F sw, 0, 0)) 3 rfl ?_
        rw [bx_sd (by omega)]
        have hb3 : sd (sd (k + 1) (2 ^ (low (k + 1)))) (2 ^ w) < 1024 := by first | omega | exact or_lt (by omega) (by omega) | exact and_lt (by omega) | exact and_lt_r (by omega) | exact sd_lt (by omega) | exact pow_lt (by omega)
        refine wp_lald rfl rfl (by omega) (by decide) ?_
        refine wp_eq (f' := (94, [.ref 28, .int (nI 1), .int (nI (k + 1)), .int (nI (low (k + 1))), .int (nI (sd (k + 1) (2 ^ (low (k + 1))))), .long x, .retAddr 0, .int (nI w)], [.long (f (sd (sd (k + 1) (2 ^ (low (k + 1)))) (2 ^ w))), .long x], MW A (upB B 38 f) F sw, 0, 0)) rfl ?_
        refine wp_go (f' := (104, [.ref 28, .int (nI 1), .int (nI (k + 1)), .int (nI (low (k + 1))), .int (nI (sd (k + 1) (2 ^ (low (k + 1))))), .long (x + (f (sd (sd (k + 1) (2 ^ (low (k + 1)))) (2 ^ w)))), .retAddr 0, .int ((nI w) + 1)], [], MW A (upB B 38 f) F sw, 0, 0)) 4 rfl ?_
        rw [nI_1]
        refine wp_go (f' := (51, [.ref 28, .int (nI 1), .int (nI (k + 1)), .int (nI (low (k + 1))), .int (nI (sd (k + 1) (2 ^ (low (k + 1))))), .long (x + (f (sd (sd (k + 1) (2 ^ (low (k + 1)))) (2 ^ w)))), .retAddr 0, .int (nI (w + 1))], [], MW A (upB B 38 f) F sw, 0, 0)) 1 rfl ?_
        refine wp_eq ?_ (ih2  )
        simp [h1]
    · skip
      refine wp_go (f' := (57, [.ref 28, .int (nI 1), .int (nI (k + 1)), .int (nI (low (k + 1))), .int (nI (sd (k + 1) (2 ^ (low (k + 1))))), .long (matG n nb true f (k + 1)), .retAddr 0, .int (nI n)], [.int (F 6), .int (nI n)], MW A (upB B 38 f) F sw, 0, 0)) 3 rfl ?_
      rw [hM.2.1]
      refine wp_go (f' := ((if (nI n) ≤ (nI n) then 107 else 60), [.ref 28, .int (nI 1), .int (nI (k + 1)), .int (nI (low (k + 1))), .int (nI (sd (k + 1) (2 ^ (low (k + 1))))), .long (matG n nb true f (k + 1)), .retAddr 0, .int (nI n)], [], MW A (upB B 38 f) F sw, 0, 0)) 1 rfl ?_
      refine wp_ite (fun _ => ?_) (fun h9 => absurd (nI_le (Nat.le_refl _) (by omega)) h9)
      refine wp_go (f' := (114, [.ref 28, .int (nI 1), .int (nI (k + 1)), .int (nI (low (k + 1))), .int (nI (sd (k + 1) (2 ^ (low (k + 1))))), .long (matG n nb true f (k + 1)), .retAddr 0, .int (nI n)], [.long (matG n nb true f (k + 1)), .int (nI (k + 1)), .ref 38], MW A (upB B 38 f) F sw, 0, 0)) 4 rfl ?_
      refine wp_last rfl rfl (by omega) (by decide) ?_
      refine wp_eq (f' := (115, [.ref 28, .int (nI 1), .int (nI (k + 1)), .int (nI (low (k + 1))), .int (nI (sd (k + 1) (2 ^ (low (k + 1))))), .long (matG n nb true f (k + 1)), .retAddr 0, .int (nI n)], [], MW A (upB B 38 (vp_updL f (k + 1) (matG n nb true f (k + 1)))) F sw, 0, 0)) rfl ?_
      refine wp_go (f' := (118, [.ref 28, .int (nI 1), .int ((nI (k + 1)) + 1), .int (nI (low (k + 1))), .int (nI (sd (k + 1) (2 ^ (low (k + 1))))), .long (matG n nb true f (k + 1)), .retAddr 0, .int (nI n)], [], MW A (upB B 38 (vp_updL f (k + 1) (matG n nb true f (k + 1)))) F sw, 0, 0)) 1 rfl ?_
      rw [nI_1]
      refine wp_go (f' := (9, [.ref 28, .int (nI 1), .int (nI ((k + 1) + 1)), .int (nI (low (k + 1))), .int (nI (sd (k + 1) (2 ^ (low (k + 1))))), .long (matG n nb true f (k + 1)), .retAddr 0, .int (nI n)], [], MW A (upB B 38 (vp_updL f (k + 1) (matG n nb true f (k + 1)))) F sw, 0, 0)) 1 rfl ?_
      exact ih (.int (nI (low (k + 1)))) (.int (nI (sd (k + 1) (2 ^ (low (k + 1)))))) (.long (matG n nb true f (k + 1))) (.retAddr 0) (.int (nI n))
  · intro  d3 d4 d5 d6 d7
    refine wp_go (f' := (11, [.ref 28, .int (nI 1), .int (nI (2 ^ n - 1 + 1)), d3, d4, d5, d6, d7], [.ref 28, .int (nI (2 ^ n - 1 + 1))], MW A (upB B 38 (tabN (matG n nb true) n (vp_updL (B 38) 0 1))) F sw, 0, 0)) 2 rfl ?_
    refine wp_call rfl rfl rfl (ev_up (ev_all hM) (by decide)) ?_
    refine wp_eq (f' := (14, [.ref 28, .int (nI 1), .int (nI (2 ^ n - 1 + 1)), d3, d4, d5, d6, d7], [.int (nI (2 ^ n - 1)), .int (nI (2 ^ n - 1 + 1))], MW A (upB B 38 (tabN (matG n nb true) n (vp_updL (B 38) 0 1))) F sw, 0, 0)) rfl ?_
    refine wp_go (f' := ((if (nI (2 ^ n - 1)) < (nI (2 ^ n - 1 + 1)) then 121 else 17), [.ref 28, .int (nI 1), .int (nI (2 ^ n - 1 + 1)), d3, d4, d5, d6, d7], [], MW A (upB B 38 (tabN (matG n nb true) n (vp_updL (B 38) 0 1))) F sw, 0, 0)) 1 rfl ?_
    refine wp_ite (fun _ => ?_) (fun h9 => absurd (nI_lt (by omega) (by omega)) h9)
    refine wp_go (f' := (126, [.ref 28, .int (nI 1), .int (nI (2 ^ n - 1 + 1)), d3, d4, d5, d6, d7], [.ref 28, .ref 38], MW A (upB B 38 (tabN (matG n nb true) n (vp_updL (B 38) 0 1))) F sw, 0, 0)) 3 rfl ?_
    refine wp_call rfl rfl rfl (ev_up (ev_all hM) (by decide)) ?_
    refine wp_eq (f' := (129, [.ref 28, .int (nI 1), .int (nI (2 ^ n - 1 + 1)), d3, d4, d5, d6, d7], [.int (nI (2 ^ n - 1)), .ref 38], MW A (upB B 38 (tabN (matG n nb true) n (vp_updL (B 38) 0 1))) F sw, 0, 0)) rfl ?_
    refine wp_lald rfl rfl (by omega) (by decide) ?_
    refine wp_eq (f' := (130, [.ref 28, .int (nI 1), .int (nI (2 ^ n - 1 + 1)), d3, d4, d5, d6, d7], [.long ((tabN (matG n nb true) n (vp_updL (B 38) 0 1)) (2 ^ n - 1))], MW A (upB B 38 (tabN (matG n nb true) n (vp_updL (B 38) 0 1))) F sw, 0, 0)) rfl ?_
    exact wp_lret rfl
end MM
end
section
section MM
variable {xs : Nat → Int32} {Ls : Nat} {A : Nat → Nat → Int32} {B : Nat → Nat → Int64} {F : Nat → Int32} {sw : Bool} {n : Nat} {nb : Nat → Nat}
theorem ev_products (hM : MI A F n nb) : mv_Ev xs Ls 2 126 [.ref 28] (MW A B F sw) (some (.long ((tabN (prodG (B 39)) n (vp_updL (B 38) 0 1)) (2 ^ n - 1))), MW A (upB B 38 (tabN (prodG (B 39)) n (vp_updL (B 38) 0 1))) F sw, 0, 0) := by
  refine ev_of_wp rfl rfl rfl ?_
  have hn := hM.1
  have hp := pow10 hn
  have hp1 : 1 ≤ 2 ^ n := Nat.one_le_two_pow
  have hal := all_lt hn
  refine wp_go (f' := (6, [.ref 28, .retAddr 0, .retAddr 0, .retAddr 0, .retAddr 0, .retAddr 0], [.long 1, .int (nI 0), .ref 38], MW A B F sw, 0, 0)) 4 rfl ?_
  refine wp_last rfl rfl (by omega) (by decide) ?_
  refine wp_eq (f' := (7, [.ref 28, .retAddr 0, .retAddr 0, .retAddr 0, .retAddr 0, .retAddr 0], [], MW A (upB B 38 (vp_updL (B 38) 0 1)) F sw, 0, 0)) rfl ?_
  refine wp_go (f' := (9, [.ref 28, .int (nI 1), .retAddr 0, .retAddr 0, .retAddr 0, .retAddr 0], [], MW A (upB B 38 (vp_updL (B 38) 0 1)) F sw, 0, 0)) 2 rfl ?_
  refine for_ind (P := fun (k : Nat) (f : Nat → Int64) => ∀ (d2 d3 d4 d5 : Value), mv_Wp xs Ls 1 6 false (some .long) mv_c126 (9, [.ref 28, .int (nI (k + 1)), d2, d3, d4, d5], [], MW A (upB B 38 f) F sw, 0, 0) (some (.long ((tabN (prodG (B 39)) n (vp_updL (B 38) 0 1)) (2 ^ n - 1))), MW A (upB B 38 (tabN (prodG (B 39)) n (vp_updL (B 38) 0 1))) F sw, 0, 0)) (f := fun k f => vp_updL f (k + 1) (prodG (B 39) f (k + 1))) (n := (2 ^ n - 1)) ?_ (2 ^ n - 1) (vp_updL (B 38) 0 1) (Nat.le_refl _) ?_  (.retAddr 0) (.retAddr 0) (.retAddr 0) (.retAddr 0)
  · intro k f hk ih  d2 d3 d4 d5
    refine wp_go (f' := (11, [.ref 28, .int (nI (k + 1)), d2, d3, d4, d5], [.ref 28, .int (nI (k + 1))], MW A (upB B 38 f) F sw, 0, 0)) 2 rfl ?_
    refine wp_call rfl rfl rfl (ev_up (ev_all hM) (by decide)) ?_
    refine wp_eq (f' := (14, [.ref 28, .int (nI (k + 1)), d2, d3, d4, d5], [.int (nI (2 ^ n - 1)), .int (nI (k + 1))], MW A (upB B 38 f) F sw, 0, 0)) rfl ?_
    refine wp_go (f' := ((if (nI (2 ^ n - 1)) < (nI (k + 1)) then 91 else 17), [.ref 28, .int (nI (k + 1)), d2, d3, d4, d5], [], MW A (upB B 38 f) F sw, 0, 0)) 1 rfl ?_
    refine wp_ite (fun h9 => absurd h9 (nI_nlt (by omega) (by omega))) (fun _ => ?_)
    refine wp_go (f' := (19, [.ref 28, .int (nI (k + 1)), d2, d3, d4, d5], [.int (nI (k + 1)), .int (nI 1)], MW A (upB B 38 f) F sw, 0, 0)) 2 rfl ?_
    refine wp_call rfl rfl rfl (ev_up (ev_lowest (s := k + 1) (by omega) (by omega) _) (by decide)) ?_
    refine wp_eq (f' := (22, [.ref 28, .int (nI (k + 1)), d2, d3, d4, d5], [.int (nI (low (k + 1))), .int (nI 1)], MW A (upB B 38 f) F sw, 0, 0)) rfl ?_
    have hlw := low_lt (s := k + 1) (by omega) (by omega)
    refine wp_go (f' := (23, [.ref 28, .int (nI (k + 1)), d2, d3, d4, d5], [.int ((nI 1) <<< ((nI (low (k + 1))) &&& 31))], MW A (upB B 38 f) F sw, 0, 0)) 1 rfl ?_
    rw [bx_one (by omega)]
    have hb1 : 2 ^ (low (k + 1)) < 1024 := by first | omega | exact or_lt (by omega) (by omega) | exact and_lt (by omega) | exact and_lt_r (by omega) | exact sd_lt (by omega) | exact pow_lt (by omega)
    refine wp_go (f' := (29, [.ref 28, .int (nI (k + 1)), .int (nI (2 ^ (low (k + 1)))), .long 0, .retAddr 0, .int (nI (k + 1))], [], MW A (upB B 38 f) F sw, 0, 0)) 5 rfl ?_
    refine sub_ind (P := fun (t : Nat) (a : Int64) => mv_Wp xs Ls 1 6 false (some .long) mv_c126 (29, [.ref 28, .int (nI (k + 1)), .int (nI (2 ^ (low (k + 1)))), .long a, .retAddr 0, .int (nI t)], [], MW A (upB B 38 f) F sw, 0, 0) (some (.long ((tabN (prodG (B 39)) n (vp_updL (B 38) 0 1)) (2 ^ n - 1))), MW A (upB B 38 (tabN (prodG (B 39)) n (vp_updL (B 38) 0 1))) F sw, 0, 0)) (f := fun t a => a + (if ¬ t &&& 2 ^ low (k + 1) = 0 then (B 39) t * f (sd (k + 1) t) else 0)) (s := (k + 1)) ?_ (k + 1) 0 (by omega) ?_
    · intro t a ht ht0 ih2
      refine wp_go (f' := ((if (nI t) ≤ 0 then 78 else 34), [.ref 28, .int (nI (k + 1)), .int (nI (2 ^ (low (k + 1)))), .long a, .retAddr 0, .int (nI t)], [], MW A (upB B 38 f) F sw, 0, 0)) 2 rfl ?_
      refine wp_ite (fun h9 => absurd h9 (fun h8 => ht0 (by have h7 := (nI_leI (a := t) (b := 0) (by omega) (by omega)).mp h8; omega))) (fun _ => ?_)
      refine wp_go (f' := (39, [.ref 28, .int (nI (k + 1)), .int (nI (2 ^ (low (k + 1)))), .long a, .retAddr 0, .int (nI t)], [.int ((nI t) &&& (nI (2 ^ (low (k + 1))))), .long a], MW A (upB B 38 f) F sw, 0, 0)) 4 rfl ?_
      rw [bx_and]
      have hb1 : t &&& (2 ^ (low (k + 1))) < 1024 := by first | omega | exact or_lt (by omega) (by omega) | exact and_lt (by omega) | exact and_lt_r (by omega) | exact sd_lt (by omega) | exact pow_lt (by omega)
      refine wp_go (f' := ((if (nI (t &&& (2 ^ (low (k + 1))))) = 0 then 64 else 42), [.ref 28, .int (nI (k + 1)), .int (nI (2 ^ (low (k + 1)))), .long a, .retAddr 0, .int (nI t)], [.long a], MW A (upB B 38 f) F sw, 0, 0)) 1 rfl ?_
      refine wp_ite (fun h1 => ?_) (fun h1 => ?_)
      · have h1 : t &&& (2 ^ (low (k + 1))) = 0 := (nI_eq (a := t &&& (2 ^ (low (k + 1)))) (b := 0) (by omega) (by omega)).mp h1
        refine wp_go (f' := (71, [.ref 28, .int (nI (k + 1)), .int (nI (2 ^ (low (k + 1)))), .long (a + 0), .retAddr 0, .int (nI t)], [.int ((nI t) - (nI 1))], MW A (upB B 38 f) F sw, 0, 0)) 6 rfl ?_
        rw [pk_sub (by omega)]
        refine wp_go (f' := (73, [.ref 28, .int (nI (k + 1)), .int (nI (2 ^ (low (k + 1)))), .long (a + 0), .retAddr 0, .int (nI t)], [.int ((nI (t - 1)) &&& (nI (k + 1)))], MW A (upB B 38 f) F sw, 0, 0)) 2 rfl ?_
        rw [bx_and]
        have hb2 : (t - 1) &&& (k + 1) < 1024 := by first | omega | exact or_lt (by omega) (by omega) | exact and_lt (by omega) | exact and_lt_r (by omega) | exact sd_lt (by omega) | exact pow_lt (by omega)
        refine wp_go (f' := (29, [.ref 28, .int (nI (k + 1)), .int (nI (2 ^ (low (k + 1)))), .long (a + 0), .retAddr 0, .int (nI ((t - 1) &&& (k + 1)))], [], MW A (upB B 38 f) F sw, 0, 0)) 2 rfl ?_
        refine wp_eq ?_ ih2
        first | (simp [h1]; done) | simp only [h1, if_true, if_false, reduceIte, Bool.false_eq_true]
      · have h1 : ¬ (t &&& (2 ^ (low (k + 1))) = 0) := fun h9 => h1 ((nI_eq (a := t &&& (2 ^ (low (k + 1)))) (b := 0) (by omega) (by omega)).mpr h9)
        refine wp_go (f' := (48, [.ref 28, .int (nI (k + 1)), .int (nI (2 ^ (low (k + 1)))), .long a, .retAddr 0, .int (nI t)], [.int (nI t), .ref 39, .long a], MW A (upB B 38 f) F sw, 0, 0)) 3 rfl ?_
        refine wp_lald rfl rfl (by omega) (by decide) ?_
        refine wp_go (f' := (59, [.ref 28, .int (nI (k + 1)), .int (nI (2 ^ (low (k + 1)))), .long a, .retAddr 0, .int (nI t)], [.int ((nI (k + 1)) &&& ((nI t) ^^^ (-1))), .ref 38, .long ((B 39) t), .long a], MW A (upB B 38 f) F sw, 0, 0)) 7 rfl ?_
        rw [bx_sd (by omega)]
        have hb3 : sd (k + 1) t < 1024 := by first | omega | exact or_lt (by omega) (by omega) | exact and_lt (by omega) | exact and_lt_r (by omega) | exact sd_lt (by omega) | exact pow_lt (by omega)
        refine wp_lald rfl rfl (by omega) (by decide) ?_
        refine wp_eq (f' := (60, [.ref 28, .int (nI (k + 1)), .int (nI (2 ^ (low (k + 1)))), .long a, .retAddr 0, .int (nI t)], [.long (f (sd (k + 1) t)), .long ((B 39) t), .long a], MW A (upB B 38 f) F sw, 0, 0)) rfl ?_
        refine wp_go (f' := (71, [.ref 28, .int (nI (k + 1)), .int (nI (2 ^ (low (k + 1)))), .long (a + (((B 39) t) * (f (sd (k + 1) t)))), .retAddr 0, .int (nI t)], [.int ((nI t) - (nI 1))], MW A (upB B 38 f) F sw, 0, 0)) 7 rfl ?_
        rw [pk_sub (by omega)]
        refine wp_go (f' := (73, [.ref 28, .int (nI (k + 1)), .int (nI (2 ^ (low (k + 1)))), .long (a + (((B 39) t) * (f (sd (k + 1) t)))), .retAddr 0, .int (nI t)], [.int ((nI (t - 1)) &&& (nI (k + 1)))], MW A (upB B 38 f) F sw, 0, 0)) 2 rfl ?_
        rw [bx_and]
        have hb4 : (t - 1) &&& (k + 1) < 1024 := by first | omega | exact or_lt (by omega) (by omega) | exact and_lt (by omega) | exact and_lt_r (by omega) | exact sd_lt (by omega) | exact pow_lt (by omega)
        refine wp_go (f' := (29, [.ref 28, .int (nI (k + 1)), .int (nI (2 ^ (low (k + 1)))), .long (a + (((B 39) t) * (f (sd (k + 1) t)))), .retAddr 0, .int (nI ((t - 1) &&& (k + 1)))], [], MW A (upB B 38 f) F sw, 0, 0)) 2 rfl ?_
        refine wp_eq ?_ ih2
        first | (simp [h1]; done) | simp only [h1, if_true, if_false, reduceIte, Bool.false_eq_true]
    · skip
      refine wp_go (f' := ((if (nI 0) ≤ 0 then 78 else 34), [.ref 28, .int (nI (k + 1)), .int (nI (2 ^ (low (k + 1)))), .long (prodG (B 39) f (k + 1)), .retAddr 0, .int (nI 0)], [], MW A (upB B 38 f) F sw, 0, 0)) 2 rfl ?_
      refine wp_ite (fun _ => ?_) (fun h9 => absurd (by decide : nI 0 ≤ 0) h9)
      refine wp_go (f' := (84, [.ref 28, .int (nI (k + 1)), .int (nI (2 ^ (low (k + 1)))), .long (prodG (B 39) f (k + 1)), .retAddr 0, .int (nI 0)], [.long (prodG (B 39) f (k + 1)), .int (nI (k + 1)), .ref 38], MW A (upB B 38 f) F sw, 0, 0)) 4 rfl ?_
      refine wp_last rfl rfl (by omega) (by decide) ?_
      refine wp_eq (f' := (85, [.ref 28, .int (nI (k + 1)), .int (nI (2 ^ (low (k + 1)))), .long (prodG (B 39) f (k + 1)), .retAddr 0, .int (nI 0)], [], MW A (upB B 38 (vp_updL f (k + 1) (prodG (B 39) f (k + 1)))) F sw, 0, 0)) rfl ?_
      refine wp_go (f' := (88, [.ref 28, .int ((nI (k + 1)) + 1), .int (nI (2 ^ (low (k + 1)))), .long (prodG (B 39) f (k + 1)), .retAddr 0, .int (nI 0)], [], MW A (upB B 38 (vp_updL f (k + 1) (prodG (B 39) f (k + 1)))) F sw, 0, 0)) 1 rfl ?_
      rw [nI_1]
      refine wp_go (f' := (9, [.ref 28, .int (nI ((k + 1) + 1)), .int (nI (2 ^ (low (k + 1)))), .long (prodG (B 39) f (k + 1)), .retAddr 0, .int (nI 0)], [], MW A (upB B 38 (vp_updL f (k + 1) (prodG (B 39) f (k + 1)))) F sw, 0, 0)) 1 rfl ?_
      exact ih (.int (nI (2 ^ (low (k + 1))))) (.long (prodG (B 39) f (k + 1))) (.retAddr 0) (.int (nI 0))
  · intro  d2 d3 d4 d5
    refine wp_go (f' := (11, [.ref 28, .int (nI (2 ^ n - 1 + 1)), d2, d3, d4, d5], [.ref 28, .int (nI (2 ^ n - 1 + 1))], MW A (upB B 38 (tabN (prodG (B 39)) n (vp_updL (B 38) 0 1))) F sw, 0, 0)) 2 rfl ?_
    refine wp_call rfl rfl rfl (ev_up (ev_all hM) (by decide)) ?_
    refine wp_eq (f' := (14, [.ref 28, .int (nI (2 ^ n - 1 + 1)), d2, d3, d4, d5], [.int (nI (2 ^ n - 1)), .int (nI (2 ^ n - 1 + 1))], MW A (upB B 38 (tabN (prodG (B 39)) n (vp_updL (B 38) 0 1))) F sw, 0, 0)) rfl ?_
    refine wp_go (f' := ((if (nI (2 ^ n - 1)) < (nI (2 ^ n - 1 + 1)) then 91 else 17), [.ref 28, .int (nI (2 ^ n - 1 + 1)), d2, d3, d4, d5], [], MW A (upB B 38 (tabN (prodG (B 39)) n (vp_updL (B 38) 0 1))) F sw, 0, 0)) 1 rfl ?_
    refine wp_ite (fun _ => ?_) (fun h9 => absurd (nI_lt (by omega) (by omega)) h9)
    refine wp_go (f' := (96, [.ref 28, .int (nI (2 ^ n - 1 + 1)), d2, d3, d4, d5], [.ref 28, .ref 38], MW A (upB B 38 (tabN (prodG (B 39)) n (vp_updL (B 38) 0 1))) F sw, 0, 0)) 3 rfl ?_
    refine wp_call rfl rfl rfl (ev_up (ev_all hM) (by decide)) ?_
    refine wp_eq (f' := (99, [.ref 28, .int (nI (2 ^ n - 1 + 1)), d2, d3, d4, d5], [.int (nI (2 ^ n - 1)), .ref 38], MW A (upB B 38 (tabN (prodG (B 39)) n (vp_updL (B 38) 0 1))) F sw, 0, 0)) rfl ?_
    refine wp_lald rfl rfl (by omega) (by decide) ?_
    refine wp_eq (f' := (100, [.ref 28, .int (nI (2 ^ n - 1 + 1)), d2, d3, d4, d5], [.long ((tabN (prodG (B 39)) n (vp_updL (B 38) 0 1)) (2 ^ n - 1))], MW A (upB B 38 (tabN (prodG (B 39)) n (vp_updL (B 38) 0 1))) F sw, 0, 0)) rfl ?_
    exact wp_lret rfl
theorem ev_directions (hM : MI A F n nb) : mv_Ev xs Ls 2 129 [.ref 28] (MW A B F sw) (some (.long ((tabN (dirG n nb) n (vp_updL (B 38) 0 1)) (2 ^ n - 1))), MW A (upB B 38 (tabN (dirG n nb) n (vp_updL (B 38) 0 1))) F sw, 0, 0) := by
  refine ev_of_wp rfl rfl rfl ?_
  have hn := hM.1
  have hp := pow10 hn
  have hp1 : 1 ≤ 2 ^ n := Nat.one_le_two_pow
  have hal := all_lt hn
  refine wp_go (f' := (6, [.ref 28, .retAddr 0, .retAddr 0, .retAddr 0, .retAddr 0], [.long 1, .int (nI 0), .ref 38], MW A B F sw, 0, 0)) 4 rfl ?_
  refine wp_last rfl rfl (by omega) (by decide) ?_
  refine wp_eq (f' := (7, [.ref 28, .retAddr 0, .retAddr 0, .retAddr 0, .retAddr 0], [], MW A (upB B 38 (vp_updL (B 38) 0 1)) F sw, 0, 0)) rfl ?_
  refine wp_go (f' := (9, [.ref 28, .int (nI 1), .retAddr 0, .retAddr 0, .retAddr 0], [], MW A (upB B 38 (vp_updL (B 38) 0 1)) F sw, 0, 0)) 2 rfl ?_
  refine for_ind (P := fun (k : Nat) (f : Nat → Int64) => ∀ (d2 d3 d4 : Value), mv_Wp xs Ls 1 6 false (some .long) mv_c129 (9, [.ref 28, .int (nI (k + 1)), d2, d3, d4], [], MW A (upB B 38 f) F sw, 0, 0) (some (.long ((tabN (dirG n nb) n (vp_updL (B 38) 0 1)) (2 ^ n - 1))), MW A (upB B 38 (tabN (dirG n nb) n (vp_updL (B 38) 0 1))) F sw, 0, 0)) (f := fun k f => vp_updL f (k + 1) (dirG n nb f (k + 1))) (n := (2 ^ n - 1)) ?_ (2 ^ n - 1) (vp_updL (B 38) 0 1) (Nat.le_refl _) ?_  (.retAddr 0) (.retAddr 0) (.retAddr 0)
  · intro k f hk ih  d2 d3 d4
    refine wp_go (f' := (11, [.ref 28, .int (nI (k + 1)), d2, d3, d4], [.ref 28, .int (nI (k + 1))], MW A (upB B 38 f) F sw, 0, 0)) 2 rfl ?_
    refine wp_call rfl rfl rfl (ev_up (ev_all hM) (by decide)) ?_
    refine wp_eq (f' := (14, [.ref 28, .int (nI (k + 1)), d2, d3, d4], [.int (nI (2 ^ n - 1)), .int (nI (k + 1))], MW A (upB B 38 f) F sw, 0, 0)) rfl ?_
    refine wp_go (f' := ((if (nI (2 ^ n - 1)) < (nI (k + 1)) then 104 else 17), [.ref 28, .int (nI (k + 1)), d2, d3, d4], [], MW A (upB B 38 f) F sw, 0, 0)) 1 rfl ?_
    refine wp_ite (fun h9 => absurd h9 (nI_nlt (by omega) (by omega))) (fun _ => ?_)
    refine wp_go (f' := (22, [.ref 28, .int (nI (k + 1)), .long 0, .retAddr 0, .int (nI (k + 1))], [], MW A (upB B 38 f) F sw, 0, 0)) 4 rfl ?_
    refine sub_ind (P := fun (t : Nat) (a : Int64) => mv_Wp xs Ls 1 6 false (some .long) mv_c129 (22, [.ref 28, .int (nI (k + 1)), .long a, .retAddr 0, .int (nI t)], [], MW A (upB B 38 f) F sw, 0, 0) (some (.long ((tabN (dirG n nb) n (vp_updL (B 38) 0 1)) (2 ^ n - 1))), MW A (upB B 38 (tabN (dirG n nb) n (vp_updL (B 38) 0 1))) F sw, 0, 0)) (f := fun t a => a + (if apartN n nb t then (if pop t &&& 1 = 1 then f (sd (k + 1) t) else - f (sd (k + 1) t)) else 0)) (s := (k + 1)) ?_ (k + 1) 0 (by omega) ?_
    · intro t a ht ht0 ih2
      refine wp_go (f' := ((if (nI t) ≤ 0 then 91 else 27), [.ref 28, .int (nI (k + 1)), .long a, .retAddr 0, .int (nI t)], [], MW A (upB B 38 f) F sw, 0, 0)) 2 rfl ?_
      refine wp_ite (fun h9 => absurd h9 (fun h8 => ht0 (by have h7 := (nI_leI (a := t) (b := 0) (by omega) (by omega)).mp h8; omega))) (fun _ => ?_)
      refine wp_go (f' := (31, [.ref 28, .int (nI (k + 1)), .long a, .retAddr 0, .int (nI t)], [.int (nI t), .ref 28, .long a], MW A (upB B 38 f) F sw, 0, 0)) 3 rfl ?_
      refine wp_call rfl rfl rfl (ev_up (ev_isApart hM (s := t) (by omega)) (by decide)) ?_
      refine wp_eq (f' := (34, [.ref 28, .int (nI (k + 1)), .long a, .retAddr 0, .int (nI t)], [.int (bI (apartN n nb t)), .long a], MW A (upB B 38 f) F sw, 0, 0)) rfl ?_
      refine wp_go (f' := ((if (bI (apartN n nb t)) = 0 then 77 else 37), [.ref 28, .int (nI (k + 1)), .long a, .retAddr 0, .int (nI t)], [.long a], MW A (upB B 38 f) F sw, 0, 0)) 1 rfl ?_
      refine wp_ite (fun h1 => ?_) (fun h1 => ?_)
      · have h1 := bI_0.mp h1
        refine wp_go (f' := (84, [.ref 28, .int (nI (k + 1)), .long (a + 0), .retAddr 0, .int (nI t)], [.int ((nI t) - (nI 1))], MW A (upB B 38 f) F sw, 0, 0)) 6 rfl ?_
        rw [pk_sub (by omega)]
        refine wp_go (f' := (86, [.ref 28, .int (nI (k + 1)), .long (a + 0), .retAddr 0, .int (nI t)], [.int ((nI (t - 1)) &&& (nI (k + 1)))], MW A (upB B 38 f) F sw, 0, 0)) 2 rfl ?_
        rw [bx_and]
        have hb1 : (t - 1) &&& (k + 1) < 1024 := by first | omega | exact or_lt (by omega) (by omega) | exact and_lt (by omega) | exact and_lt_r (by omega) | exact sd_lt (by omega) | exact pow_lt (by omega)
        refine wp_go (f' := (22, [.ref 28, .int (nI (k + 1)), .long (a + 0), .retAddr 0, .int (nI ((t - 1) &&& (k + 1)))], [], MW A (upB B 38 f) F sw, 0, 0)) 2 rfl ?_
        refine wp_eq ?_ ih2
        first | (simp [h1]; done) | simp only [h1, if_true, if_false, reduceIte, Bool.false_eq_true]
      · have h1 := bI_n0 h1
        refine wp_go (f' := (39, [.ref 28, .int (nI (k + 1)), .long a, .retAddr 0, .int (nI t)], [.int (nI t), .long a], MW A (upB B 38 f) F sw, 0, 0)) 1 rfl ?_
        refine wp_call rfl rfl rfl (ev_up (ev_onesN (s := t) (by omega) _) (by decide)) ?_
        refine wp_eq (f' := (42, [.ref 28, .int (nI (k + 1)), .long a, .retAddr 0, .int (nI t)], [.int (nI (pop t)), .long a], MW A (upB B 38 f) F sw, 0, 0)) rfl ?_
        have hpp := pop_le (s := t) (by omega)
        refine wp_go (f' := (44, [.ref 28, .int (nI (k + 1)), .long a, .retAddr 0, .int (nI t)], [.int ((nI (pop t)) &&& (nI 1)), .long a], MW A (upB B 38 f) F sw, 0, 0)) 2 rfl ?_
        rw [bx_and]
        have hb2 : (pop t) &&& 1 < 1024 := by first | omega | exact or_lt (by omega) (by omega) | exact and_lt (by omega) | exact and_lt_r (by omega) | exact sd_lt (by omega) | exact pow_lt (by omega)
        refine wp_go (f' := ((if ¬ (nI ((pop t) &&& 1)) = (nI 1) then 62 else 48), [.ref 28, .int (nI (k + 1)), .long a, .retAddr 0, .int (nI t)], [.long a], MW A (upB B 38 f) F sw, 0, 0)) 2 rfl ?_
        refine wp_ite (fun h2 => ?_) (fun h2 => ?_)
        · have h2 : ¬ ((pop t) &&& 1 = 1) := fun h9 => h2 ((nI_eq (a := (pop t) &&& 1) (b := 1) (by omega) (by omega)).mpr h9)
          refine wp_go (f' := (72, [.ref 28, .int (nI (k + 1)), .long a, .retAddr 0, .int (nI t)], [.int ((nI (k + 1)) &&& ((nI t) ^^^ (-1))), .ref 38, .long a], MW A (upB B 38 f) F sw, 0, 0)) 7 rfl ?_
          rw [bx_sd (by omega)]
          have hb3 : sd (k + 1) t < 1024 := by first | omega | exact or_lt (by omega) (by omega) | exact and_lt (by omega) | exact and_lt_r (by omega) | exact sd_lt (by omega) | exact pow_lt (by omega)
          refine wp_lald rfl rfl (by omega) (by decide) ?_
          refine wp_eq (f' := (73, [.ref 28, .int (nI (k + 1)), .long a, .retAddr 0, .int (nI t)], [.long (f (sd (k + 1) t)), .long a], MW A (upB B 38 f) F sw, 0, 0)) rfl ?_
          refine wp_go (f' := (84, [.ref 28, .int (nI (k + 1)), .long (a + (-(f (sd (k + 1) t)))), .retAddr 0, .int (nI t)], [.int ((nI t) - (nI 1))], MW A (upB B 38 f) F sw, 0, 0)) 7 rfl ?_
          rw [pk_sub (by omega)]
          refine wp_go (f' := (86, [.ref 28, .int (nI (k + 1)), .long (a + (-(f (sd (k + 1) t)))), .retAddr 0, .int (nI t)], [.int ((nI (t - 1)) &&& (nI (k + 1)))], MW A (upB B 38 f) F sw, 0, 0)) 2 rfl ?_
          rw [bx_and]
          have hb4 : (t - 1) &&& (k + 1) < 1024 := by first | omega | exact or_lt (by omega) (by omega) | exact and_lt (by omega) | exact and_lt_r (by omega) | exact sd_lt (by omega) | exact pow_lt (by omega)
          refine wp_go (f' := (22, [.ref 28, .int (nI (k + 1)), .long (a + (-(f (sd (k + 1) t)))), .retAddr 0, .int (nI ((t - 1) &&& (k + 1)))], [], MW A (upB B 38 f) F sw, 0, 0)) 2 rfl ?_
          refine wp_eq ?_ ih2
          first | (simp [h1, h2]; done) | simp only [h1, h2, if_true, if_false, reduceIte, Bool.false_eq_true]
        · have h2 := Classical.not_not.mp h2; have h2 : (pop t) &&& 1 = 1 := (nI_eq (a := (pop t) &&& 1) (b := 1) (by omega) (by omega)).mp h2
          refine wp_go (f' := (58, [.ref 28, .int (nI (k + 1)), .long a, .retAddr 0, .int (nI t)], [.int ((nI (k + 1)) &&& ((nI t) ^^^ (-1))), .ref 38, .long a], MW A (upB B 38 f) F sw, 0, 0)) 7 rfl ?_
          rw [bx_sd (by omega)]
          have hb5 : sd (k + 1) t < 1024 := by first | omega | exact or_lt (by omega) (by omega) | exact and_lt (by omega) | exact and_lt_r (by omega) | exact sd_lt (by omega) | exact pow_lt (by omega)
          refine wp_lald rfl rfl (by omega) (by decide) ?_
          refine wp_eq (f' := (59, [.ref 28, .int (nI (k + 1)), .long a, .retAddr 0, .int (nI t)], [.long (f (sd (k + 1) t)), .long a], MW A (upB B 38 f) F sw, 0, 0)) rfl ?_
          refine wp_go (f' := (84, [.ref 28, .int (nI (k + 1)), .long (a + (f (sd (k + 1) t))), .retAddr 0, .int (nI t)], [.int ((nI t) - (nI 1))], MW A (upB B 38 f) F sw, 0, 0)) 6 rfl ?_
          rw [pk_sub (by omega)]
          refine wp_go (f' := (86, [.ref 28, .int (nI (k + 1)), .long (a + (f (sd (k + 1) t))), .retAddr 0, .int (nI t)], [.int ((nI (t - 1)) &&& (nI (k + 1)))], MW A (upB B 38 f) F sw, 0, 0)) 2 rfl ?_
          rw [bx_and]
          have hb6 : (t - 1) &&& (k + 1) < 1024 := by first | omega | exact or_lt (by omega) (by omega) | exact and_lt (by omega) | exact and_lt_r (by omega) | exact sd_lt (by omega) | exact pow_lt (by omega)
          refine wp_go (f' := (22, [.ref 28, .int (nI (k + 1)), .long (a + (f (sd (k + 1) t))), .retAddr 0, .int (nI ((t - 1) &&& (k + 1)))], [], MW A (upB B 38 f) F sw, 0, 0)) 2 rfl ?_
          refine wp_eq ?_ ih2
          first | (simp [h1, h2]; done) | simp only [h1, h2, if_true, if_false, reduceIte, Bool.false_eq_true]
    · skip
      refine wp_go (f' := ((if (nI 0) ≤ 0 then 91 else 27), [.ref 28, .int (nI (k + 1)), .long (dirG n nb f (k + 1)), .retAddr 0, .int (nI 0)], [], MW A (upB B 38 f) F sw, 0, 0)) 2 rfl ?_
      refine wp_ite (fun _ => ?_) (fun h9 => absurd (by decide : nI 0 ≤ 0) h9)
      refine wp_go (f' := (97, [.ref 28, .int (nI (k + 1)), .long (dirG n nb f (k + 1)), .retAddr 0, .int (nI 0)], [.long (dirG n nb f (k + 1)), .int (nI (k + 1)), .ref 38], MW A (upB B 38 f) F sw, 0, 0)) 4 rfl ?_
      refine wp_last rfl rfl (by omega) (by decide) ?_
      refine wp_eq (f' := (98, [.ref 28, .int (nI (k + 1)), .long (dirG n nb f (k + 1)), .retAddr 0, .int (nI 0)], [], MW A (upB B 38 (vp_updL f (k + 1) (dirG n nb f (k + 1)))) F sw, 0, 0)) rfl ?_
      refine wp_go (f' := (101, [.ref 28, .int ((nI (k + 1)) + 1), .long (dirG n nb f (k + 1)), .retAddr 0, .int (nI 0)], [], MW A (upB B 38 (vp_updL f (k + 1) (dirG n nb f (k + 1)))) F sw, 0, 0)) 1 rfl ?_
      rw [nI_1]
      refine wp_go (f' := (9, [.ref 28, .int (nI ((k + 1) + 1)), .long (dirG n nb f (k + 1)), .retAddr 0, .int (nI 0)], [], MW A (upB B 38 (vp_updL f (k + 1) (dirG n nb f (k + 1)))) F sw, 0, 0)) 1 rfl ?_
      exact ih (.long (dirG n nb f (k + 1))) (.retAddr 0) (.int (nI 0))
  · intro  d2 d3 d4
    refine wp_go (f' := (11, [.ref 28, .int (nI (2 ^ n - 1 + 1)), d2, d3, d4], [.ref 28, .int (nI (2 ^ n - 1 + 1))], MW A (upB B 38 (tabN (dirG n nb) n (vp_updL (B 38) 0 1))) F sw, 0, 0)) 2 rfl ?_
    refine wp_call rfl rfl rfl (ev_up (ev_all hM) (by decide)) ?_
    refine wp_eq (f' := (14, [.ref 28, .int (nI (2 ^ n - 1 + 1)), d2, d3, d4], [.int (nI (2 ^ n - 1)), .int (nI (2 ^ n - 1 + 1))], MW A (upB B 38 (tabN (dirG n nb) n (vp_updL (B 38) 0 1))) F sw, 0, 0)) rfl ?_
    refine wp_go (f' := ((if (nI (2 ^ n - 1)) < (nI (2 ^ n - 1 + 1)) then 104 else 17), [.ref 28, .int (nI (2 ^ n - 1 + 1)), d2, d3, d4], [], MW A (upB B 38 (tabN (dirG n nb) n (vp_updL (B 38) 0 1))) F sw, 0, 0)) 1 rfl ?_
    refine wp_ite (fun _ => ?_) (fun h9 => absurd (nI_lt (by omega) (by omega)) h9)
    refine wp_go (f' := (109, [.ref 28, .int (nI (2 ^ n - 1 + 1)), d2, d3, d4], [.ref 28, .ref 38], MW A (upB B 38 (tabN (dirG n nb) n (vp_updL (B 38) 0 1))) F sw, 0, 0)) 3 rfl ?_
    refine wp_call rfl rfl rfl (ev_up (ev_all hM) (by decide)) ?_
    refine wp_eq (f' := (112, [.ref 28, .int (nI (2 ^ n - 1 + 1)), d2, d3, d4], [.int (nI (2 ^ n - 1)), .ref 38], MW A (upB B 38 (tabN (dirG n nb) n (vp_updL (B 38) 0 1))) F sw, 0, 0)) rfl ?_
    refine wp_lald rfl rfl (by omega) (by decide) ?_
    refine wp_eq (f' := (113, [.ref 28, .int (nI (2 ^ n - 1 + 1)), d2, d3, d4], [.long ((tabN (dirG n nb) n (vp_updL (B 38) 0 1)) (2 ^ n - 1))], MW A (upB B 38 (tabN (dirG n nb) n (vp_updL (B 38) 0 1))) F sw, 0, 0)) rfl ?_
    exact wp_lret rfl
theorem ev_wholes (hM : MI A F n nb) : mv_Ev xs Ls 3 127 [.ref 28] (MW A B F sw) (some (.long (if n = 0 then 0 else (tabN (wholG n nb) n (B 38)) (2 ^ n - 1))), MW A (upB B 38 (tabN (wholG n nb) n (B 38))) F sw, 0, 0) := by
  refine ev_of_wp rfl rfl rfl ?_
  have hn := hM.1
  have hp := pow10 hn
  have hp1 : 1 ≤ 2 ^ n := Nat.one_le_two_pow
  have hal := all_lt hn
  refine wp_go (f' := (2, [.ref 28, .int (nI 1), .retAddr 0, .retAddr 0, .retAddr 0, .retAddr 0], [], MW A B F sw, 0, 0)) 2 rfl ?_
  refine wp_eq (f' := (2, [.ref 28, .int (nI 1), .retAddr 0, .retAddr 0, .retAddr 0, .retAddr 0], [], MW A (upB B 38 (B 38)) F sw, 0, 0)) rfl ?_
  refine for_ind (P := fun (k : Nat) (f : Nat → Int64) => ∀ (d2 d3 d4 d5 : Value), mv_Wp xs Ls 2 6 false (some .long) mv_c127 (2, [.ref 28, .int (nI (k + 1)), d2, d3, d4, d5], [], MW A (upB B 38 f) F sw, 0, 0) (some (.long (if n = 0 then 0 else (tabN (wholG n nb) n (B 38)) (2 ^ n - 1))), MW A (upB B 38 (tabN (wholG n nb) n (B 38))) F sw, 0, 0)) (f := fun k f => vp_updL f (k + 1) (wholG n nb f (k + 1))) (n := (2 ^ n - 1)) ?_ (2 ^ n - 1) (B 38) (Nat.le_refl _) ?_  (.retAddr 0) (.retAddr 0) (.retAddr 0) (.retAddr 0)
  · intro k f hk ih  d2 d3 d4 d5
    refine wp_go (f' := (4, [.ref 28, .int (nI (k + 1)), d2, d3, d4, d5], [.ref 28, .int (nI (k + 1))], MW A (upB B 38 f) F sw, 0, 0)) 2 rfl ?_
    refine wp_call rfl rfl rfl (ev_up (ev_all hM) (by decide)) ?_
    refine wp_eq (f' := (7, [.ref 28, .int (nI (k + 1)), d2, d3, d4, d5], [.int (nI (2 ^ n - 1)), .int (nI (k + 1))], MW A (upB B 38 f) F sw, 0, 0)) rfl ?_
    refine wp_go (f' := ((if (nI (2 ^ n - 1)) < (nI (k + 1)) then 93 else 10), [.ref 28, .int (nI (k + 1)), d2, d3, d4, d5], [], MW A (upB B 38 f) F sw, 0, 0)) 1 rfl ?_
    refine wp_ite (fun h9 => absurd h9 (nI_nlt (by omega) (by omega))) (fun _ => ?_)
    refine wp_go (f' := (12, [.ref 28, .int (nI (k + 1)), d2, d3, d4, d5], [.int (nI (k + 1)), .int (nI 1)], MW A (upB B 38 f) F sw, 0, 0)) 2 rfl ?_
    refine wp_call rfl rfl rfl (ev_up (ev_lowest (s := k + 1) (by omega) (by omega) _) (by decide)) ?_
    refine wp_eq (f' := (15, [.ref 28, .int (nI (k + 1)), d2, d3, d4, d5], [.int (nI (low (k + 1))), .int (nI 1)], MW A (upB B 38 f) F sw, 0, 0)) rfl ?_
    have hlw := low_lt (s := k + 1) (by omega) (by omega)
    refine wp_go (f' := (16, [.ref 28, .int (nI (k + 1)), d2, d3, d4, d5], [.int ((nI 1) <<< ((nI (low (k + 1))) &&& 31))], MW A (upB B 38 f) F sw, 0, 0)) 1 rfl ?_
    rw [bx_one (by omega)]
    have hb1 : 2 ^ (low (k + 1)) < 1024 := by first | omega | exact or_lt (by omega) (by omega) | exact and_lt (by omega) | exact and_lt_r (by omega) | exact sd_lt (by omega) | exact pow_lt (by omega)
    refine wp_go (f' := (20, [.ref 28, .int (nI (k + 1)), .int (nI (2 ^ (low (k + 1)))), d3, d4, d5], [.int (nI (k + 1)), .ref 28, .long 1], MW A (upB B 38 f) F sw, 0, 0)) 4 rfl ?_
    refine wp_call rfl rfl rfl (ev_up (ev_edgesIn hM (s := k + 1) (by omega)) (by decide)) ?_
    refine wp_eq (f' := (23, [.ref 28, .int (nI (k + 1)), .int (nI (2 ^ (low (k + 1)))), d3, d4, d5], [.int (nI (edgesN n nb (k + 1))), .long 1], MW A (upB B 38 f) F sw, 0, 0)) rfl ?_
    have hed := edgesN_le (nb := nb) hM.1 (s := k + 1) (by omega)
    refine wp_go (f' := (28, [.ref 28, .int (nI (k + 1)), .int (nI (2 ^ (low (k + 1)))), .long (1 <<< ((nI (edgesN n nb (k + 1))).toInt64 &&& 63)), .retAddr 0, d5], [.int ((nI (k + 1)) - (nI 1))], MW A (upB B 38 f) F sw, 0, 0)) 5 rfl ?_
    rw [pk_sub (by omega)]
    refine wp_go (f' := (30, [.ref 28, .int (nI (k + 1)), .int (nI (2 ^ (low (k + 1)))), .long (1 <<< ((nI (edgesN n nb (k + 1))).toInt64 &&& 63)), .retAddr 0, d5], [.int ((nI ((k + 1) - 1)) &&& (nI (k + 1)))], MW A (upB B 38 f) F sw, 0, 0)) 2 rfl ?_
    rw [bx_and]
    have hb2 : ((k + 1) - 1) &&& (k + 1) < 1024 := by first | omega | exact or_lt (by omega) (by omega) | exact and_lt (by omega) | exact and_lt_r (by omega) | exact sd_lt (by omega) | exact pow_lt (by omega)
    refine wp_go (f' := (32, [.ref 28, .int (nI (k + 1)), .int (nI (2 ^ (low (k + 1)))), .long (1 <<< ((nI (edgesN n nb (k + 1))).toInt64 &&& 63)), .retAddr 0, .int (nI (((k + 1) - 1) &&& (k + 1)))], [], MW A (upB B 38 f) F sw, 0, 0)) 1 rfl ?_
    refine sub_ind (P := fun (t : Nat) (a : Int64) => mv_Wp xs Ls 2 6 false (some .long) mv_c127 (32, [.ref 28, .int (nI (k + 1)), .int (nI (2 ^ (low (k + 1)))), .long a, .retAddr 0, .int (nI t)], [], MW A (upB B 38 f) F sw, 0, 0) (some (.long (if n = 0 then 0 else (tabN (wholG n nb) n (B 38)) (2 ^ n - 1))), MW A (upB B 38 (tabN (wholG n nb) n (B 38))) F sw, 0, 0)) (f := fun t a => a - (if ¬ t &&& 2 ^ low (k + 1) = 0 then f t <<< ((nI (edgesN n nb (sd (k + 1) t))).toInt64 &&& 63) else 0)) (s := (k + 1)) ?_ ((k + 1 - 1) &&& (k + 1)) (1 <<< ((nI (edgesN n nb (k + 1))).toInt64 &&& 63)) (by omega) ?_
    · intro t a ht ht0 ih2
      refine wp_go (f' := ((if (nI t) ≤ 0 then 80 else 37), [.ref 28, .int (nI (k + 1)), .int (nI (2 ^ (low (k + 1)))), .long a, .retAddr 0, .int (nI t)], [], MW A (upB B 38 f) F sw, 0, 0)) 2 rfl ?_
      refine wp_ite (fun h9 => absurd h9 (fun h8 => ht0 (by have h7 := (nI_leI (a := t) (b := 0) (by omega) (by omega)).mp h8; omega))) (fun _ => ?_)
      refine wp_go (f' := (42, [.ref 28, .int (nI (k + 1)), .int (nI (2 ^ (low (k + 1)))), .long a, .retAddr 0, .int (nI t)], [.int ((nI t) &&& (nI (2 ^ (low (k + 1))))), .long a], MW A (upB B 38 f) F sw, 0, 0)) 4 rfl ?_
      rw [bx_and]
      have hb1 : t &&& (2 ^ (low (k + 1))) < 1024 := by first | omega | exact or_lt (by omega) (by omega) | exact and_lt (by omega) | exact and_lt_r (by omega) | exact sd_lt (by omega) | exact pow_lt (by omega)
      refine wp_go (f' := ((if (nI (t &&& (2 ^ (low (k + 1))))) = 0 then 66 else 45), [.ref 28, .int (nI (k + 1)), .int (nI (2 ^ (low (k + 1)))), .long a, .retAddr 0, .int (nI t)], [.long a], MW A (upB B 38 f) F sw, 0, 0)) 1 rfl ?_
      refine wp_ite (fun h1 => ?_) (fun h1 => ?_)
      · have h1 : t &&& (2 ^ (low (k + 1))) = 0 := (nI_eq (a := t &&& (2 ^ (low (k + 1)))) (b := 0) (by omega) (by omega)).mp h1
        refine wp_go (f' := (73, [.ref 28, .int (nI (k + 1)), .int (nI (2 ^ (low (k + 1)))), .long (a - 0), .retAddr 0, .int (nI t)], [.int ((nI t) - (nI 1))], MW A (upB B 38 f) F sw, 0, 0)) 6 rfl ?_
        rw [pk_sub (by omega)]
        refine wp_go (f' := (75, [.ref 28, .int (nI (k + 1)), .int (nI (2 ^ (low (k + 1)))), .long (a - 0), .retAddr 0, .int (nI t)], [.int ((nI (t - 1)) &&& (nI (k + 1)))], MW A (upB B 38 f) F sw, 0, 0)) 2 rfl ?_
        rw [bx_and]
        have hb2 : (t - 1) &&& (k + 1) < 1024 := by first | omega | exact or_lt (by omega) (by omega) | exact and_lt (by omega) | exact and_lt_r (by omega) | exact sd_lt (by omega) | exact pow_lt (by omega)
        refine wp_go (f' := (32, [.ref 28, .int (nI (k + 1)), .int (nI (2 ^ (low (k + 1)))), .long (a - 0), .retAddr 0, .int (nI ((t - 1) &&& (k + 1)))], [], MW A (upB B 38 f) F sw, 0, 0)) 2 rfl ?_
        refine wp_eq ?_ ih2
        first | (simp [h1]; done) | simp only [h1, if_true, if_false, reduceIte, Bool.false_eq_true]
      · have h1 : ¬ (t &&& (2 ^ (low (k + 1))) = 0) := fun h9 => h1 ((nI_eq (a := t &&& (2 ^ (low (k + 1)))) (b := 0) (by omega) (by omega)).mpr h9)
        refine wp_go (f' := (51, [.ref 28, .int (nI (k + 1)), .int (nI (2 ^ (low (k + 1)))), .long a, .retAddr 0, .int (nI t)], [.int (nI t), .ref 38, .long a], MW A (upB B 38 f) F sw, 0, 0)) 3 rfl ?_
        refine wp_lald rfl rfl (by omega) (by decide) ?_
        refine wp_eq (f' := (52, [.ref 28, .int (nI (k + 1)), .int (nI (2 ^ (low (k + 1)))), .long a, .retAddr 0, .int (nI t)], [.long (f t), .long a], MW A (upB B 38 f) F sw, 0, 0)) rfl ?_
        refine wp_go (f' := (59, [.ref 28, .int (nI (k + 1)), .int (nI (2 ^ (low (k + 1)))), .long a, .retAddr 0, .int (nI t)], [.int ((nI (k + 1)) &&& ((nI t) ^^^ (-1))), .ref 28, .long (f t), .long a], MW A (upB B 38 f) F sw, 0, 0)) 6 rfl ?_
        rw [bx_sd (by omega)]
        have hb3 : sd (k + 1) t < 1024 := by first | omega | exact or_lt (by omega) (by omega) | exact and_lt (by omega) | exact and_lt_r (by omega) | exact sd_lt (by omega) | exact pow_lt (by omega)
        refine wp_call rfl rfl rfl (ev_up (ev_edgesIn hM (s := sd (k + 1) t) (by omega)) (by decide)) ?_
        refine wp_eq (f' := (62, [.ref 28, .int (nI (k + 1)), .int (nI (2 ^ (low (k + 1)))), .long a, .retAddr 0, .int (nI t)], [.int (nI (edgesN n nb (sd (k + 1) t))), .long (f t), .long a], MW A (upB B 38 f) F sw, 0, 0)) rfl ?_
        have hed := edgesN_le (nb := nb) hM.1 (s := sd (k + 1) t) (by omega)
        refine wp_go (f' := (73, [.ref 28, .int (nI (k + 1)), .int (nI (2 ^ (low (k + 1)))), .long (a - ((f t) <<< ((nI (edgesN n nb (sd (k + 1) t))).toInt64 &&& 63))), .retAddr 0, .int (nI t)], [.int ((nI t) - (nI 1))], MW A (upB B 38 f) F sw, 0, 0)) 7 rfl ?_
        rw [pk_sub (by omega)]
        refine wp_go (f' := (75, [.ref 28, .int (nI (k + 1)), .int (nI (2 ^ (low (k + 1)))), .long (a - ((f t) <<< ((nI (edgesN n nb (sd (k + 1) t))).toInt64 &&& 63))), .retAddr 0, .int (nI t)], [.int ((nI (t - 1)) &&& (nI (k + 1)))], MW A (upB B 38 f) F sw, 0, 0)) 2 rfl ?_
        rw [bx_and]
        have hb4 : (t - 1) &&& (k + 1) < 1024 := by first | omega | exact or_lt (by omega) (by omega) | exact and_lt (by omega) | exact and_lt_r (by omega) | exact sd_lt (by omega) | exact pow_lt (by omega)
        refine wp_go (f' := (32, [.ref 28, .int (nI (k + 1)), .int (nI (2 ^ (low (k + 1)))), .long (a - ((f t) <<< ((nI (edgesN n nb (sd (k + 1) t))).toInt64 &&& 63))), .retAddr 0, .int (nI ((t - 1) &&& (k + 1)))], [], MW A (upB B 38 f) F sw, 0, 0)) 2 rfl ?_
        refine wp_eq ?_ ih2
        first | (simp [h1]; done) | simp only [h1, if_true, if_false, reduceIte, Bool.false_eq_true]
    · skip
      refine wp_go (f' := ((if (nI 0) ≤ 0 then 80 else 37), [.ref 28, .int (nI (k + 1)), .int (nI (2 ^ (low (k + 1)))), .long (wholG n nb f (k + 1)), .retAddr 0, .int (nI 0)], [], MW A (upB B 38 f) F sw, 0, 0)) 2 rfl ?_
      refine wp_ite (fun _ => ?_) (fun h9 => absurd (by decide : nI 0 ≤ 0) h9)
      refine wp_go (f' := (86, [.ref 28, .int (nI (k + 1)), .int (nI (2 ^ (low (k + 1)))), .long (wholG n nb f (k + 1)), .retAddr 0, .int (nI 0)], [.long (wholG n nb f (k + 1)), .int (nI (k + 1)), .ref 38], MW A (upB B 38 f) F sw, 0, 0)) 4 rfl ?_
      refine wp_last rfl rfl (by omega) (by decide) ?_
      refine wp_eq (f' := (87, [.ref 28, .int (nI (k + 1)), .int (nI (2 ^ (low (k + 1)))), .long (wholG n nb f (k + 1)), .retAddr 0, .int (nI 0)], [], MW A (upB B 38 (vp_updL f (k + 1) (wholG n nb f (k + 1)))) F sw, 0, 0)) rfl ?_
      refine wp_go (f' := (90, [.ref 28, .int ((nI (k + 1)) + 1), .int (nI (2 ^ (low (k + 1)))), .long (wholG n nb f (k + 1)), .retAddr 0, .int (nI 0)], [], MW A (upB B 38 (vp_updL f (k + 1) (wholG n nb f (k + 1)))) F sw, 0, 0)) 1 rfl ?_
      rw [nI_1]
      refine wp_go (f' := (2, [.ref 28, .int (nI ((k + 1) + 1)), .int (nI (2 ^ (low (k + 1)))), .long (wholG n nb f (k + 1)), .retAddr 0, .int (nI 0)], [], MW A (upB B 38 (vp_updL f (k + 1) (wholG n nb f (k + 1)))) F sw, 0, 0)) 1 rfl ?_
      exact ih (.int (nI (2 ^ (low (k + 1))))) (.long (wholG n nb f (k + 1))) (.retAddr 0) (.int (nI 0))
  · intro  d2 d3 d4 d5
    refine wp_go (f' := (4, [.ref 28, .int (nI (2 ^ n - 1 + 1)), d2, d3, d4, d5], [.ref 28, .int (nI (2 ^ n - 1 + 1))], MW A (upB B 38 (tabN (wholG n nb) n (B 38))) F sw, 0, 0)) 2 rfl ?_
    refine wp_call rfl rfl rfl (ev_up (ev_all hM) (by decide)) ?_
    refine wp_eq (f' := (7, [.ref 28, .int (nI (2 ^ n - 1 + 1)), d2, d3, d4, d5], [.int (nI (2 ^ n - 1)), .int (nI (2 ^ n - 1 + 1))], MW A (upB B 38 (tabN (wholG n nb) n (B 38))) F sw, 0, 0)) rfl ?_
    refine wp_go (f' := ((if (nI (2 ^ n - 1)) < (nI (2 ^ n - 1 + 1)) then 93 else 10), [.ref 28, .int (nI (2 ^ n - 1 + 1)), d2, d3, d4, d5], [], MW A (upB B 38 (tabN (wholG n nb) n (B 38))) F sw, 0, 0)) 1 rfl ?_
    refine wp_ite (fun _ => ?_) (fun h9 => absurd (nI_lt (by omega) (by omega)) h9)
    refine wp_go (f' := (97, [.ref 28, .int (nI (2 ^ n - 1 + 1)), d2, d3, d4, d5], [.int (F 6)], MW A (upB B 38 (tabN (wholG n nb) n (B 38))) F sw, 0, 0)) 2 rfl ?_
    rw [hM.2.1]
    refine wp_go (f' := ((if ¬ (nI n) = 0 then 104 else 100), [.ref 28, .int (nI (2 ^ n - 1 + 1)), d2, d3, d4, d5], [], MW A (upB B 38 (tabN (wholG n nb) n (B 38))) F sw, 0, 0)) 1 rfl ?_
    refine wp_ite (fun h1 => ?_) (fun h1 => ?_)
    · have h1 : ¬ (n = 0) := fun h9 => h1 ((nI_eq (a := n) (b := 0) (by omega) (by omega)).mpr h9)
      refine wp_go (f' := (109, [.ref 28, .int (nI (2 ^ n - 1 + 1)), d2, d3, d4, d5], [.ref 28, .ref 38], MW A (upB B 38 (tabN (wholG n nb) n (B 38))) F sw, 0, 0)) 3 rfl ?_
      refine wp_call rfl rfl rfl (ev_up (ev_all hM) (by decide)) ?_
      refine wp_eq (f' := (112, [.ref 28, .int (nI (2 ^ n - 1 + 1)), d2, d3, d4, d5], [.int (nI (2 ^ n - 1)), .ref 38], MW A (upB B 38 (tabN (wholG n nb) n (B 38))) F sw, 0, 0)) rfl ?_
      refine wp_lald rfl rfl (by omega) (by decide) ?_
      refine wp_eq (f' := (113, [.ref 28, .int (nI (2 ^ n - 1 + 1)), d2, d3, d4, d5], [.long ((tabN (wholG n nb) n (B 38)) (2 ^ n - 1))], MW A (upB B 38 (tabN (wholG n nb) n (B 38))) F sw, 0, 0)) rfl ?_
      rw [if_neg h1]
      exact wp_lret rfl
    · have h1 := Classical.not_not.mp h1; have h1 : n = 0 := (nI_eq (a := n) (b := 0) (by omega) (by omega)).mp h1
      refine wp_go (f' := (113, [.ref 28, .int (nI (2 ^ n - 1 + 1)), d2, d3, d4, d5], [.long 0], MW A (upB B 38 (tabN (wholG n nb) n (B 38))) F sw, 0, 0)) 2 rfl ?_
      rw [if_pos h1]
      exact wp_lret rfl
end MM
end
section
section MM
variable {xs : Nat → Int32} {Ls : Nat} {A : Nat → Nat → Int32} {B : Nat → Nat → Int64} {F : Nat → Int32} {sw : Bool} {n : Nat} {nb : Nat → Nat}
def apartT (n : Nat) (nb : Nat → Nat) : Int64 := forN (fun k (a : Int64) => a + (if apartN n nb k then 1 else 0)) (2 ^ n) 0
theorem ev_total0 (hM : MI A F n nb) (y : Int32) : mv_Ev xs Ls 4 120 [.ref 28, .int (nI 0), .int y] (MW A B F sw) (some (.long (apartT n nb)), MW A B F sw, 0, 0) := by
  refine ev_of_wp rfl rfl rfl ?_
  have hn := hM.1
  have hp := pow10 hn
  have hp1 : 1 ≤ 2 ^ n := Nat.one_le_two_pow
  have hal := all_lt hn
  refine wp_go (f' := (4, [.ref 28, .int (nI 0), .int y, .retAddr 0, .retAddr 0, .retAddr 0], [.int (nI 13), .int (nI 0), .int (nI 0)], MW A B F sw, 0, 0)) 3 rfl ?_
  refine wp_call rfl rfl rfl (ev_up (ev_isIn (nI 0) (nI 0) (nI 13) _) (by decide)) ?_
  refine wp_eq (f' := (7, [.ref 28, .int (nI 0), .int y, .retAddr 0, .retAddr 0, .retAddr 0], [.int (bI (decide ((nI 0) ≤ (nI 0)) && decide ((nI 0) ≤ (nI 13))))], MW A B F sw, 0, 0)) rfl ?_
  refine wp_go (f' := ((if (bI (decide ((nI 0) ≤ (nI 0)) && decide ((nI 0) ≤ (nI 13)))) = 0 then 25 else 10), [.ref 28, .int (nI 0), .int y, .retAddr 0, .retAddr 0, .retAddr 0], [], MW A B F sw, 0, 0)) 1 rfl ?_
  refine wp_ite (fun h9 => absurd h9 (by decide : ¬ bI (decide ((nI 0) ≤ (nI 0)) && decide ((nI 0) ≤ (nI 13))) = 0)) (fun _ => ?_)
  refine wp_go (f' := ((if ¬ (nI 0) = (nI 1) then 29 else 15), [.ref 28, .int (nI 0), .int y, .retAddr 0, .retAddr 0, .retAddr 0], [], MW A B F sw, 0, 0)) 3 rfl ?_
  refine wp_ite (fun _ => ?_) (fun h9 => absurd (by decide : ¬ nI 0 = nI 1) h9)
  refine wp_go (f' := (255, [.ref 28, .int (nI 0), .int y, .long 0, .retAddr 0, .int (nI 0)], [], MW A B F sw, 0, 0)) 6 rfl ?_
  refine for_ind (P := fun (k : Nat) (a : Int64) => mv_Wp xs Ls 3 6 false (some .long) mv_c120 (255, [.ref 28, .int (nI 0), .int y, .long a, .retAddr 0, .int (nI k)], [], MW A B F sw, 0, 0) (some (.long (apartT n nb)), MW A B F sw, 0, 0)) (f := fun k (a : Int64) => a + (if apartN n nb k then 1 else 0)) (n := (2 ^ n)) ?_ (2 ^ n) 0 (Nat.le_refl _) ?_  
  · intro k a hk ih  
    refine wp_go (f' := (258, [.ref 28, .int (nI 0), .int y, .long a, .retAddr 0, .int (nI k)], [.ref 28, .int (nI k)], MW A B F sw, 0, 0)) 2 rfl ?_
    refine wp_call rfl rfl rfl (ev_up (ev_all hM) (by decide)) ?_
    refine wp_eq (f' := (261, [.ref 28, .int (nI 0), .int y, .long a, .retAddr 0, .int (nI k)], [.int (nI (2 ^ n - 1)), .int (nI k)], MW A B F sw, 0, 0)) rfl ?_
    refine wp_go (f' := ((if (nI (2 ^ n - 1)) < (nI k) then 384 else 264), [.ref 28, .int (nI 0), .int y, .long a, .retAddr 0, .int (nI k)], [], MW A B F sw, 0, 0)) 1 rfl ?_
    refine wp_ite (fun h9 => absurd h9 (nI_nlt (by omega) (by omega))) (fun _ => ?_)
    refine wp_go (f' := ((if ¬ (nI 0) = 0 then 288 else 268), [.ref 28, .int (nI 0), .int y, .long a, .retAddr 0, .int (nI k)], [], MW A B F sw, 0, 0)) 2 rfl ?_
    refine wp_ite (fun h9 => absurd h9 (fun h8 => h8 rfl : ¬ ¬ nI 0 = 0)) (fun _ => ?_)
    refine wp_go (f' := (272, [.ref 28, .int (nI 0), .int y, .long a, .retAddr 0, .int (nI k)], [.int (nI k), .ref 28, .long a], MW A B F sw, 0, 0)) 3 rfl ?_
    refine wp_call rfl rfl rfl (ev_up (ev_isApart hM (s := k) (by omega)) (by decide)) ?_
    refine wp_eq (f' := (275, [.ref 28, .int (nI 0), .int y, .long a, .retAddr 0, .int (nI k)], [.int (bI (apartN n nb k)), .long a], MW A B F sw, 0, 0)) rfl ?_
    refine wp_go (f' := ((if (bI (apartN n nb k)) = 0 then 282 else 278), [.ref 28, .int (nI 0), .int y, .long a, .retAddr 0, .int (nI k)], [.long a], MW A B F sw, 0, 0)) 1 rfl ?_
    refine wp_ite (fun h1 => ?_) (fun h1 => ?_)
    · have h1 := bI_0.mp h1
      refine wp_go (f' := (381, [.ref 28, .int (nI 0), .int y, .long (a + 0), .retAddr 0, .int ((nI k) + 1)], [], MW A B F sw, 0, 0)) 5 rfl ?_
      rw [nI_1]
      refine wp_go (f' := (255, [.ref 28, .int (nI 0), .int y, .long (a + 0), .retAddr 0, .int (nI (k + 1))], [], MW A B F sw, 0, 0)) 1 rfl ?_
      refine wp_eq ?_ ih
      first | (simp [h1]; done) | simp only [h1, if_true, if_false, reduceIte, Bool.false_eq_true]
    · have h1 := bI_n0 h1
      refine wp_go (f' := (381, [.ref 28, .int (nI 0), .int y, .long (a + 1), .retAddr 0, .int ((nI k) + 1)], [], MW A B F sw, 0, 0)) 6 rfl ?_
      rw [nI_1]
      refine wp_go (f' := (255, [.ref 28, .int (nI 0), .int y, .long (a + 1), .retAddr 0, .int (nI (k + 1))], [], MW A B F sw, 0, 0)) 1 rfl ?_
      refine wp_eq ?_ ih
      first | (simp [h1]; done) | simp only [h1, if_true, if_false, reduceIte, Bool.false_eq_true]
  · skip
    refine wp_go (f' := (258, [.ref 28, .int (nI 0), .int y, .long (apartT n nb), .retAddr 0, .int (nI (2 ^ n))], [.ref 28, .int (nI (2 ^ n))], MW A B F sw, 0, 0)) 2 rfl ?_
    refine wp_call rfl rfl rfl (ev_up (ev_all hM) (by decide)) ?_
    refine wp_eq (f' := (261, [.ref 28, .int (nI 0), .int y, .long (apartT n nb), .retAddr 0, .int (nI (2 ^ n))], [.int (nI (2 ^ n - 1)), .int (nI (2 ^ n))], MW A B F sw, 0, 0)) rfl ?_
    refine wp_go (f' := ((if (nI (2 ^ n - 1)) < (nI (2 ^ n)) then 384 else 264), [.ref 28, .int (nI 0), .int y, .long (apartT n nb), .retAddr 0, .int (nI (2 ^ n))], [], MW A B F sw, 0, 0)) 1 rfl ?_
    refine wp_ite (fun _ => ?_) (fun h9 => absurd (nI_lt (by omega) (by omega)) h9)
    refine wp_go (f' := (385, [.ref 28, .int (nI 0), .int y, .long (apartT n nb), .retAddr 0, .int (nI (2 ^ n))], [.long (apartT n nb)], MW A B F sw, 0, 0)) 1 rfl ?_
    exact wp_lret rfl
def nearT (n : Nat) (nb : Nat → Nat) : Int64 := forN (fun k (a : Int64) => a + (if nearAllN n nb k then 1 else 0)) (2 ^ n) 0
theorem ev_total4 (hM : MI A F n nb) (y : Int32) : mv_Ev xs Ls 4 120 [.ref 28, .int (nI 4), .int y] (MW A B F sw) (some (.long (nearT n nb)), MW A B F sw, 0, 0) := by
  refine ev_of_wp rfl rfl rfl ?_
  have hn := hM.1
  have hp := pow10 hn
  have hp1 : 1 ≤ 2 ^ n := Nat.one_le_two_pow
  have hal := all_lt hn
  refine wp_go (f' := (4, [.ref 28, .int (nI 4), .int y, .retAddr 0, .retAddr 0, .retAddr 0], [.int (nI 13), .int (nI 0), .int (nI 4)], MW A B F sw, 0, 0)) 3 rfl ?_
  refine wp_call rfl rfl rfl (ev_up (ev_isIn (nI 4) (nI 0) (nI 13) _) (by decide)) ?_
  refine wp_eq (f' := (7, [.ref 28, .int (nI 4), .int y, .retAddr 0, .retAddr 0, .retAddr 0], [.int (bI (decide ((nI 0) ≤ (nI 4)) && decide ((nI 4) ≤ (nI 13))))], MW A B F sw, 0, 0)) rfl ?_
  refine wp_go (f' := ((if (bI (decide ((nI 0) ≤ (nI 4)) && decide ((nI 4) ≤ (nI 13)))) = 0 then 25 else 10), [.ref 28, .int (nI 4), .int y, .retAddr 0, .retAddr 0, .retAddr 0], [], MW A B F sw, 0, 0)) 1 rfl ?_
  refine wp_ite (fun h9 => absurd h9 (by decide : ¬ bI (decide ((nI 0) ≤ (nI 4)) && decide ((nI 4) ≤ (nI 13))) = 0)) (fun _ => ?_)
  refine wp_go (f' := ((if ¬ (nI 4) = (nI 1) then 29 else 15), [.ref 28, .int (nI 4), .int y, .retAddr 0, .retAddr 0, .retAddr 0], [], MW A B F sw, 0, 0)) 3 rfl ?_
  refine wp_ite (fun _ => ?_) (fun h9 => absurd (by decide : ¬ nI 4 = nI 1) h9)
  refine wp_go (f' := (255, [.ref 28, .int (nI 4), .int y, .long 0, .retAddr 0, .int (nI 0)], [], MW A B F sw, 0, 0)) 6 rfl ?_
  refine for_ind (P := fun (k : Nat) (a : Int64) => mv_Wp xs Ls 3 6 false (some .long) mv_c120 (255, [.ref 28, .int (nI 4), .int y, .long a, .retAddr 0, .int (nI k)], [], MW A B F sw, 0, 0) (some (.long (nearT n nb)), MW A B F sw, 0, 0)) (f := fun k (a : Int64) => a + (if nearAllN n nb k then 1 else 0)) (n := (2 ^ n)) ?_ (2 ^ n) 0 (Nat.le_refl _) ?_  
  · intro k a hk ih  
    refine wp_go (f' := (258, [.ref 28, .int (nI 4), .int y, .long a, .retAddr 0, .int (nI k)], [.ref 28, .int (nI k)], MW A B F sw, 0, 0)) 2 rfl ?_
    refine wp_call rfl rfl rfl (ev_up (ev_all hM) (by decide)) ?_
    refine wp_eq (f' := (261, [.ref 28, .int (nI 4), .int y, .long a, .retAddr 0, .int (nI k)], [.int (nI (2 ^ n - 1)), .int (nI k)], MW A B F sw, 0, 0)) rfl ?_
    refine wp_go (f' := ((if (nI (2 ^ n - 1)) < (nI k) then 384 else 264), [.ref 28, .int (nI 4), .int y, .long a, .retAddr 0, .int (nI k)], [], MW A B F sw, 0, 0)) 1 rfl ?_
    refine wp_ite (fun h9 => absurd h9 (nI_nlt (by omega) (by omega))) (fun _ => ?_)
    refine wp_go (f' := ((if ¬ (nI 4) = 0 then 288 else 268), [.ref 28, .int (nI 4), .int y, .long a, .retAddr 0, .int (nI k)], [], MW A B F sw, 0, 0)) 2 rfl ?_
    refine wp_ite (fun _ => ?_) (fun h9 => absurd (by decide : ¬ nI 4 = 0) h9)
    refine wp_go (f' := ((if ¬ (nI 4) = (nI 4) then 313 else 293), [.ref 28, .int (nI 4), .int y, .long a, .retAddr 0, .int (nI k)], [], MW A B F sw, 0, 0)) 3 rfl ?_
    refine wp_ite (fun h9 => absurd h9 (fun h8 => h8 rfl : ¬ ¬ nI 4 = nI 4)) (fun _ => ?_)
    refine wp_go (f' := (297, [.ref 28, .int (nI 4), .int y, .long a, .retAddr 0, .int (nI k)], [.int (nI k), .ref 28, .long a], MW A B F sw, 0, 0)) 3 rfl ?_
    refine wp_call rfl rfl rfl (ev_up (ev_isNearAll hM (s := k) (by omega)) (by decide)) ?_
    refine wp_eq (f' := (300, [.ref 28, .int (nI 4), .int y, .long a, .retAddr 0, .int (nI k)], [.int (bI (nearAllN n nb k)), .long a], MW A B F sw, 0, 0)) rfl ?_
    refine wp_go (f' := ((if (bI (nearAllN n nb k)) = 0 then 307 else 303), [.ref 28, .int (nI 4), .int y, .long a, .retAddr 0, .int (nI k)], [.long a], MW A B F sw, 0, 0)) 1 rfl ?_
    refine wp_ite (fun h1 => ?_) (fun h1 => ?_)
    · have h1 := bI_0.mp h1
      refine wp_go (f' := (381, [.ref 28, .int (nI 4), .int y, .long (a + 0), .retAddr 0, .int ((nI k) + 1)], [], MW A B F sw, 0, 0)) 5 rfl ?_
      rw [nI_1]
      refine wp_go (f' := (255, [.ref 28, .int (nI 4), .int y, .long (a + 0), .retAddr 0, .int (nI (k + 1))], [], MW A B F sw, 0, 0)) 1 rfl ?_
      refine wp_eq ?_ ih
      first | (simp [h1]; done) | simp only [h1, if_true, if_false, reduceIte, Bool.false_eq_true]
    · have h1 := bI_n0 h1
      refine wp_go (f' := (381, [.ref 28, .int (nI 4), .int y, .long (a + 1), .retAddr 0, .int ((nI k) + 1)], [], MW A B F sw, 0, 0)) 6 rfl ?_
      rw [nI_1]
      refine wp_go (f' := (255, [.ref 28, .int (nI 4), .int y, .long (a + 1), .retAddr 0, .int (nI (k + 1))], [], MW A B F sw, 0, 0)) 1 rfl ?_
      refine wp_eq ?_ ih
      first | (simp [h1]; done) | simp only [h1, if_true, if_false, reduceIte, Bool.false_eq_true]
  · skip
    refine wp_go (f' := (258, [.ref 28, .int (nI 4), .int y, .long (nearT n nb), .retAddr 0, .int (nI (2 ^ n))], [.ref 28, .int (nI (2 ^ n))], MW A B F sw, 0, 0)) 2 rfl ?_
    refine wp_call rfl rfl rfl (ev_up (ev_all hM) (by decide)) ?_
    refine wp_eq (f' := (261, [.ref 28, .int (nI 4), .int y, .long (nearT n nb), .retAddr 0, .int (nI (2 ^ n))], [.int (nI (2 ^ n - 1)), .int (nI (2 ^ n))], MW A B F sw, 0, 0)) rfl ?_
    refine wp_go (f' := ((if (nI (2 ^ n - 1)) < (nI (2 ^ n)) then 384 else 264), [.ref 28, .int (nI 4), .int y, .long (nearT n nb), .retAddr 0, .int (nI (2 ^ n))], [], MW A B F sw, 0, 0)) 1 rfl ?_
    refine wp_ite (fun _ => ?_) (fun h9 => absurd (nI_lt (by omega) (by omega)) h9)
    refine wp_go (f' := (385, [.ref 28, .int (nI 4), .int y, .long (nearT n nb), .retAddr 0, .int (nI (2 ^ n))], [.long (nearT n nb)], MW A B F sw, 0, 0)) 1 rfl ?_
    exact wp_lret rfl
def wholeT (n : Nat) (nb : Nat → Nat) : Int64 := forN (fun k (a : Int64) => a + (if ¬ k = 0 ∧ wholeN n nb k = true then 1 else 0)) (2 ^ n) 0
theorem ev_total12 (hM : MI A F n nb) (y : Int32) : mv_Ev xs Ls 4 120 [.ref 28, .int (nI 12), .int y] (MW A B F sw) (some (.long (wholeT n nb)), MW A B F sw, 0, 0) := by
  refine ev_of_wp rfl rfl rfl ?_
  have hn := hM.1
  have hp := pow10 hn
  have hp1 : 1 ≤ 2 ^ n := Nat.one_le_two_pow
  have hal := all_lt hn
  refine wp_go (f' := (4, [.ref 28, .int (nI 12), .int y, .retAddr 0, .retAddr 0, .retAddr 0], [.int (nI 13), .int (nI 0), .int (nI 12)], MW A B F sw, 0, 0)) 3 rfl ?_
  refine wp_call rfl rfl rfl (ev_up (ev_isIn (nI 12) (nI 0) (nI 13) _) (by decide)) ?_
  refine wp_eq (f' := (7, [.ref 28, .int (nI 12), .int y, .retAddr 0, .retAddr 0, .retAddr 0], [.int (bI (decide ((nI 0) ≤ (nI 12)) && decide ((nI 12) ≤ (nI 13))))], MW A B F sw, 0, 0)) rfl ?_
  refine wp_go (f' := ((if (bI (decide ((nI 0) ≤ (nI 12)) && decide ((nI 12) ≤ (nI 13)))) = 0 then 25 else 10), [.ref 28, .int (nI 12), .int y, .retAddr 0, .retAddr 0, .retAddr 0], [], MW A B F sw, 0, 0)) 1 rfl ?_
  refine wp_ite (fun h9 => absurd h9 (by decide : ¬ bI (decide ((nI 0) ≤ (nI 12)) && decide ((nI 12) ≤ (nI 13))) = 0)) (fun _ => ?_)
  refine wp_go (f' := ((if ¬ (nI 12) = (nI 1) then 29 else 15), [.ref 28, .int (nI 12), .int y, .retAddr 0, .retAddr 0, .retAddr 0], [], MW A B F sw, 0, 0)) 3 rfl ?_
  refine wp_ite (fun _ => ?_) (fun h9 => absurd (by decide : ¬ nI 12 = nI 1) h9)
  refine wp_go (f' := (255, [.ref 28, .int (nI 12), .int y, .long 0, .retAddr 0, .int (nI 0)], [], MW A B F sw, 0, 0)) 6 rfl ?_
  refine for_ind (P := fun (k : Nat) (a : Int64) => mv_Wp xs Ls 3 6 false (some .long) mv_c120 (255, [.ref 28, .int (nI 12), .int y, .long a, .retAddr 0, .int (nI k)], [], MW A B F sw, 0, 0) (some (.long (wholeT n nb)), MW A B F sw, 0, 0)) (f := fun k (a : Int64) => a + (if ¬ k = 0 ∧ wholeN n nb k = true then 1 else 0)) (n := (2 ^ n)) ?_ (2 ^ n) 0 (Nat.le_refl _) ?_  
  · intro k a hk ih  
    refine wp_go (f' := (258, [.ref 28, .int (nI 12), .int y, .long a, .retAddr 0, .int (nI k)], [.ref 28, .int (nI k)], MW A B F sw, 0, 0)) 2 rfl ?_
    refine wp_call rfl rfl rfl (ev_up (ev_all hM) (by decide)) ?_
    refine wp_eq (f' := (261, [.ref 28, .int (nI 12), .int y, .long a, .retAddr 0, .int (nI k)], [.int (nI (2 ^ n - 1)), .int (nI k)], MW A B F sw, 0, 0)) rfl ?_
    refine wp_go (f' := ((if (nI (2 ^ n - 1)) < (nI k) then 384 else 264), [.ref 28, .int (nI 12), .int y, .long a, .retAddr 0, .int (nI k)], [], MW A B F sw, 0, 0)) 1 rfl ?_
    refine wp_ite (fun h9 => absurd h9 (nI_nlt (by omega) (by omega))) (fun _ => ?_)
    refine wp_go (f' := ((if ¬ (nI 12) = 0 then 288 else 268), [.ref 28, .int (nI 12), .int y, .long a, .retAddr 0, .int (nI k)], [], MW A B F sw, 0, 0)) 2 rfl ?_
    refine wp_ite (fun _ => ?_) (fun h9 => absurd (by decide : ¬ nI 12 = 0) h9)
    refine wp_go (f' := ((if ¬ (nI 12) = (nI 4) then 313 else 293), [.ref 28, .int (nI 12), .int y, .long a, .retAddr 0, .int (nI k)], [], MW A B F sw, 0, 0)) 3 rfl ?_
    refine wp_ite (fun _ => ?_) (fun h9 => absurd (by decide : ¬ nI 12 = nI 4) h9)
    refine wp_go (f' := ((if ¬ (nI 12) = (nI 12) then 344 else 319), [.ref 28, .int (nI 12), .int y, .long a, .retAddr 0, .int (nI k)], [], MW A B F sw, 0, 0)) 3 rfl ?_
    refine wp_ite (fun h9 => absurd h9 (fun h8 => h8 rfl : ¬ ¬ nI 12 = nI 12)) (fun _ => ?_)
    refine wp_go (f' := ((if (nI k) = 0 then 338 else 325), [.ref 28, .int (nI 12), .int y, .long a, .retAddr 0, .int (nI k)], [.long a], MW A B F sw, 0, 0)) 3 rfl ?_
    refine wp_ite (fun h1 => ?_) (fun h1 => ?_)
    · have h1 : k = 0 := (nI_eq (a := k) (b := 0) (by omega) (by omega)).mp h1
      refine wp_go (f' := (381, [.ref 28, .int (nI 12), .int y, .long (a + 0), .retAddr 0, .int ((nI k) + 1)], [], MW A B F sw, 0, 0)) 5 rfl ?_
      rw [nI_1]
      refine wp_go (f' := (255, [.ref 28, .int (nI 12), .int y, .long (a + 0), .retAddr 0, .int (nI (k + 1))], [], MW A B F sw, 0, 0)) 1 rfl ?_
      refine wp_eq ?_ ih
      first | (simp [h1]; done) | simp only [h1, if_true, if_false, reduceIte, Bool.false_eq_true]
    · have h1 : ¬ (k = 0) := fun h9 => h1 ((nI_eq (a := k) (b := 0) (by omega) (by omega)).mpr h9)
      refine wp_go (f' := (328, [.ref 28, .int (nI 12), .int y, .long a, .retAddr 0, .int (nI k)], [.int (nI k), .ref 28, .long a], MW A B F sw, 0, 0)) 2 rfl ?_
      refine wp_call rfl rfl rfl (ev_up (ev_isWhole hM (s := k) (by omega)) (by decide)) ?_
      refine wp_eq (f' := (331, [.ref 28, .int (nI 12), .int y, .long a, .retAddr 0, .int (nI k)], [.int (bI (wholeN n nb k)), .long a], MW A B F sw, 0, 0)) rfl ?_
      refine wp_go (f' := ((if (bI (wholeN n nb k)) = 0 then 338 else 334), [.ref 28, .int (nI 12), .int y, .long a, .retAddr 0, .int (nI k)], [.long a], MW A B F sw, 0, 0)) 1 rfl ?_
      refine wp_ite (fun h2 => ?_) (fun h2 => ?_)
      · have h2 := bI_0.mp h2
        refine wp_go (f' := (381, [.ref 28, .int (nI 12), .int y, .long (a + 0), .retAddr 0, .int ((nI k) + 1)], [], MW A B F sw, 0, 0)) 5 rfl ?_
        rw [nI_1]
        refine wp_go (f' := (255, [.ref 28, .int (nI 12), .int y, .long (a + 0), .retAddr 0, .int (nI (k + 1))], [], MW A B F sw, 0, 0)) 1 rfl ?_
        refine wp_eq ?_ ih
        first | (simp [h1, h2]; done) | simp only [h1, h2, if_true, if_false, reduceIte, Bool.false_eq_true]
      · have h2 := bI_n0 h2
        refine wp_go (f' := (381, [.ref 28, .int (nI 12), .int y, .long (a + 1), .retAddr 0, .int ((nI k) + 1)], [], MW A B F sw, 0, 0)) 6 rfl ?_
        rw [nI_1]
        refine wp_go (f' := (255, [.ref 28, .int (nI 12), .int y, .long (a + 1), .retAddr 0, .int (nI (k + 1))], [], MW A B F sw, 0, 0)) 1 rfl ?_
        refine wp_eq ?_ ih
        first | (simp [h1, h2]; done) | simp only [h1, h2, if_true, if_false, reduceIte, Bool.false_eq_true]
  · skip
    refine wp_go (f' := (258, [.ref 28, .int (nI 12), .int y, .long (wholeT n nb), .retAddr 0, .int (nI (2 ^ n))], [.ref 28, .int (nI (2 ^ n))], MW A B F sw, 0, 0)) 2 rfl ?_
    refine wp_call rfl rfl rfl (ev_up (ev_all hM) (by decide)) ?_
    refine wp_eq (f' := (261, [.ref 28, .int (nI 12), .int y, .long (wholeT n nb), .retAddr 0, .int (nI (2 ^ n))], [.int (nI (2 ^ n - 1)), .int (nI (2 ^ n))], MW A B F sw, 0, 0)) rfl ?_
    refine wp_go (f' := ((if (nI (2 ^ n - 1)) < (nI (2 ^ n)) then 384 else 264), [.ref 28, .int (nI 12), .int y, .long (wholeT n nb), .retAddr 0, .int (nI (2 ^ n))], [], MW A B F sw, 0, 0)) 1 rfl ?_
    refine wp_ite (fun _ => ?_) (fun h9 => absurd (nI_lt (by omega) (by omega)) h9)
    refine wp_go (f' := (385, [.ref 28, .int (nI 12), .int y, .long (wholeT n nb), .retAddr 0, .int (nI (2 ^ n))], [.long (wholeT n nb)], MW A B F sw, 0, 0)) 1 rfl ?_
    exact wp_lret rfl
def coverT (n : Nat) (nb : Nat → Nat) : Int64 := forN (fun k (a : Int64) => a + ((if pop k &&& 1 = 0 then 1 else (-1)) <<< ((nI (edgesN n nb (sd (2 ^ n - 1) k))).toInt64 &&& 63))) (2 ^ n) 0
theorem ev_total11 (hM : MI A F n nb) (y : Int32) : mv_Ev xs Ls 4 120 [.ref 28, .int (nI 11), .int y] (MW A B F sw) (some (.long (coverT n nb)), MW A B F sw, 0, 0) := by
  refine ev_of_wp rfl rfl rfl ?_
  have hn := hM.1
  have hp := pow10 hn
  have hp1 : 1 ≤ 2 ^ n := Nat.one_le_two_pow
  have hal := all_lt hn
  refine wp_go (f' := (4, [.ref 28, .int (nI 11), .int y, .retAddr 0, .retAddr 0, .retAddr 0], [.int (nI 13), .int (nI 0), .int (nI 11)], MW A B F sw, 0, 0)) 3 rfl ?_
  refine wp_call rfl rfl rfl (ev_up (ev_isIn (nI 11) (nI 0) (nI 13) _) (by decide)) ?_
  refine wp_eq (f' := (7, [.ref 28, .int (nI 11), .int y, .retAddr 0, .retAddr 0, .retAddr 0], [.int (bI (decide ((nI 0) ≤ (nI 11)) && decide ((nI 11) ≤ (nI 13))))], MW A B F sw, 0, 0)) rfl ?_
  refine wp_go (f' := ((if (bI (decide ((nI 0) ≤ (nI 11)) && decide ((nI 11) ≤ (nI 13)))) = 0 then 25 else 10), [.ref 28, .int (nI 11), .int y, .retAddr 0, .retAddr 0, .retAddr 0], [], MW A B F sw, 0, 0)) 1 rfl ?_
  refine wp_ite (fun h9 => absurd h9 (by decide : ¬ bI (decide ((nI 0) ≤ (nI 11)) && decide ((nI 11) ≤ (nI 13))) = 0)) (fun _ => ?_)
  refine wp_go (f' := ((if ¬ (nI 11) = (nI 1) then 29 else 15), [.ref 28, .int (nI 11), .int y, .retAddr 0, .retAddr 0, .retAddr 0], [], MW A B F sw, 0, 0)) 3 rfl ?_
  refine wp_ite (fun _ => ?_) (fun h9 => absurd (by decide : ¬ nI 11 = nI 1) h9)
  refine wp_go (f' := (255, [.ref 28, .int (nI 11), .int y, .long 0, .retAddr 0, .int (nI 0)], [], MW A B F sw, 0, 0)) 6 rfl ?_
  refine for_ind (P := fun (k : Nat) (a : Int64) => mv_Wp xs Ls 3 6 false (some .long) mv_c120 (255, [.ref 28, .int (nI 11), .int y, .long a, .retAddr 0, .int (nI k)], [], MW A B F sw, 0, 0) (some (.long (coverT n nb)), MW A B F sw, 0, 0)) (f := fun k (a : Int64) => a + ((if pop k &&& 1 = 0 then 1 else (-1)) <<< ((nI (edgesN n nb (sd (2 ^ n - 1) k))).toInt64 &&& 63))) (n := (2 ^ n)) ?_ (2 ^ n) 0 (Nat.le_refl _) ?_  
  · intro k a hk ih  
    refine wp_go (f' := (258, [.ref 28, .int (nI 11), .int y, .long a, .retAddr 0, .int (nI k)], [.ref 28, .int (nI k)], MW A B F sw, 0, 0)) 2 rfl ?_
    refine wp_call rfl rfl rfl (ev_up (ev_all hM) (by decide)) ?_
    refine wp_eq (f' := (261, [.ref 28, .int (nI 11), .int y, .long a, .retAddr 0, .int (nI k)], [.int (nI (2 ^ n - 1)), .int (nI k)], MW A B F sw, 0, 0)) rfl ?_
    refine wp_go (f' := ((if (nI (2 ^ n - 1)) < (nI k) then 384 else 264), [.ref 28, .int (nI 11), .int y, .long a, .retAddr 0, .int (nI k)], [], MW A B F sw, 0, 0)) 1 rfl ?_
    refine wp_ite (fun h9 => absurd h9 (nI_nlt (by omega) (by omega))) (fun _ => ?_)
    refine wp_go (f' := ((if ¬ (nI 11) = 0 then 288 else 268), [.ref 28, .int (nI 11), .int y, .long a, .retAddr 0, .int (nI k)], [], MW A B F sw, 0, 0)) 2 rfl ?_
    refine wp_ite (fun _ => ?_) (fun h9 => absurd (by decide : ¬ nI 11 = 0) h9)
    refine wp_go (f' := ((if ¬ (nI 11) = (nI 4) then 313 else 293), [.ref 28, .int (nI 11), .int y, .long a, .retAddr 0, .int (nI k)], [], MW A B F sw, 0, 0)) 3 rfl ?_
    refine wp_ite (fun _ => ?_) (fun h9 => absurd (by decide : ¬ nI 11 = nI 4) h9)
    refine wp_go (f' := ((if ¬ (nI 11) = (nI 12) then 344 else 319), [.ref 28, .int (nI 11), .int y, .long a, .retAddr 0, .int (nI k)], [], MW A B F sw, 0, 0)) 3 rfl ?_
    refine wp_ite (fun _ => ?_) (fun h9 => absurd (by decide : ¬ nI 11 = nI 12) h9)
    refine wp_go (f' := (347, [.ref 28, .int (nI 11), .int y, .long a, .retAddr 0, .int (nI k)], [.int (nI k), .long a], MW A B F sw, 0, 0)) 2 rfl ?_
    refine wp_call rfl rfl rfl (ev_up (ev_onesN (s := k) (by omega) _) (by decide)) ?_
    refine wp_eq (f' := (350, [.ref 28, .int (nI 11), .int y, .long a, .retAddr 0, .int (nI k)], [.int (nI (pop k)), .long a], MW A B F sw, 0, 0)) rfl ?_
    have hpp := pop_le (s := k) (by omega)
    refine wp_go (f' := (352, [.ref 28, .int (nI 11), .int y, .long a, .retAddr 0, .int (nI k)], [.int ((nI (pop k)) &&& (nI 1)), .long a], MW A B F sw, 0, 0)) 2 rfl ?_
    rw [bx_and]
    have hb1 : (pop k) &&& 1 < 1024 := by first | omega | exact or_lt (by omega) (by omega) | exact and_lt (by omega) | exact and_lt_r (by omega) | exact sd_lt (by omega) | exact pow_lt (by omega)
    refine wp_go (f' := ((if ¬ (nI ((pop k) &&& 1)) = 0 then 359 else 355), [.ref 28, .int (nI 11), .int y, .long a, .retAddr 0, .int (nI k)], [.long a], MW A B F sw, 0, 0)) 1 rfl ?_
    refine wp_ite (fun h1 => ?_) (fun h1 => ?_)
    · have h1 : ¬ ((pop k) &&& 1 = 0) := fun h9 => h1 ((nI_eq (a := (pop k) &&& 1) (b := 0) (by omega) (by omega)).mpr h9)
      refine wp_go (f' := (364, [.ref 28, .int (nI 11), .int y, .long a, .retAddr 0, .int (nI k)], [.ref 28, .ref 28, .long (-1), .long a], MW A B F sw, 0, 0)) 3 rfl ?_
      refine wp_call rfl rfl rfl (ev_up (ev_all hM) (by decide)) ?_
      refine wp_eq (f' := (367, [.ref 28, .int (nI 11), .int y, .long a, .retAddr 0, .int (nI k)], [.int (nI (2 ^ n - 1)), .ref 28, .long (-1), .long a], MW A B F sw, 0, 0)) rfl ?_
      refine wp_go (f' := (372, [.ref 28, .int (nI 11), .int y, .long a, .retAddr 0, .int (nI k)], [.int ((nI (2 ^ n - 1)) &&& ((nI k) ^^^ (-1))), .ref 28, .long (-1), .long a], MW A B F sw, 0, 0)) 4 rfl ?_
      rw [bx_sd (by omega)]
      have hb2 : sd (2 ^ n - 1) k < 1024 := by first | omega | exact or_lt (by omega) (by omega) | exact and_lt (by omega) | exact and_lt_r (by omega) | exact sd_lt (by omega) | exact pow_lt (by omega)
      refine wp_call rfl rfl rfl (ev_up (ev_edgesIn hM (s := sd (2 ^ n - 1) k) (by omega)) (by decide)) ?_
      refine wp_eq (f' := (375, [.ref 28, .int (nI 11), .int y, .long a, .retAddr 0, .int (nI k)], [.int (nI (edgesN n nb (sd (2 ^ n - 1) k))), .long (-1), .long a], MW A B F sw, 0, 0)) rfl ?_
      have hed := edgesN_le (nb := nb) hM.1 (s := sd (2 ^ n - 1) k) (by omega)
      refine wp_go (f' := (381, [.ref 28, .int (nI 11), .int y, .long (a + ((-1) <<< ((nI (edgesN n nb (sd (2 ^ n - 1) k))).toInt64 &&& 63))), .retAddr 0, .int ((nI k) + 1)], [], MW A B F sw, 0, 0)) 4 rfl ?_
      rw [nI_1]
      refine wp_go (f' := (255, [.ref 28, .int (nI 11), .int y, .long (a + ((-1) <<< ((nI (edgesN n nb (sd (2 ^ n - 1) k))).toInt64 &&& 63))), .retAddr 0, .int (nI (k + 1))], [], MW A B F sw, 0, 0)) 1 rfl ?_
      refine wp_eq ?_ ih
      first | (simp [h1]; done) | simp only [h1, if_true, if_false, reduceIte, Bool.false_eq_true]
    · have h1 := Classical.not_not.mp h1; have h1 : (pop k) &&& 1 = 0 := (nI_eq (a := (pop k) &&& 1) (b := 0) (by omega) (by omega)).mp h1
      refine wp_go (f' := (364, [.ref 28, .int (nI 11), .int y, .long a, .retAddr 0, .int (nI k)], [.ref 28, .ref 28, .long 1, .long a], MW A B F sw, 0, 0)) 4 rfl ?_
      refine wp_call rfl rfl rfl (ev_up (ev_all hM) (by decide)) ?_
      refine wp_eq (f' := (367, [.ref 28, .int (nI 11), .int y, .long a, .retAddr 0, .int (nI k)], [.int (nI (2 ^ n - 1)), .ref 28, .long 1, .long a], MW A B F sw, 0, 0)) rfl ?_
      refine wp_go (f' := (372, [.ref 28, .int (nI 11), .int y, .long a, .retAddr 0, .int (nI k)], [.int ((nI (2 ^ n - 1)) &&& ((nI k) ^^^ (-1))), .ref 28, .long 1, .long a], MW A B F sw, 0, 0)) 4 rfl ?_
      rw [bx_sd (by omega)]
      have hb3 : sd (2 ^ n - 1) k < 1024 := by first | omega | exact or_lt (by omega) (by omega) | exact and_lt (by omega) | exact and_lt_r (by omega) | exact sd_lt (by omega) | exact pow_lt (by omega)
      refine wp_call rfl rfl rfl (ev_up (ev_edgesIn hM (s := sd (2 ^ n - 1) k) (by omega)) (by decide)) ?_
      refine wp_eq (f' := (375, [.ref 28, .int (nI 11), .int y, .long a, .retAddr 0, .int (nI k)], [.int (nI (edgesN n nb (sd (2 ^ n - 1) k))), .long 1, .long a], MW A B F sw, 0, 0)) rfl ?_
      have hed := edgesN_le (nb := nb) hM.1 (s := sd (2 ^ n - 1) k) (by omega)
      refine wp_go (f' := (381, [.ref 28, .int (nI 11), .int y, .long (a + (1 <<< ((nI (edgesN n nb (sd (2 ^ n - 1) k))).toInt64 &&& 63))), .retAddr 0, .int ((nI k) + 1)], [], MW A B F sw, 0, 0)) 4 rfl ?_
      rw [nI_1]
      refine wp_go (f' := (255, [.ref 28, .int (nI 11), .int y, .long (a + (1 <<< ((nI (edgesN n nb (sd (2 ^ n - 1) k))).toInt64 &&& 63))), .retAddr 0, .int (nI (k + 1))], [], MW A B F sw, 0, 0)) 1 rfl ?_
      refine wp_eq ?_ ih
      first | (simp [h1]; done) | simp only [h1, if_true, if_false, reduceIte, Bool.false_eq_true]
  · skip
    refine wp_go (f' := (258, [.ref 28, .int (nI 11), .int y, .long (coverT n nb), .retAddr 0, .int (nI (2 ^ n))], [.ref 28, .int (nI (2 ^ n))], MW A B F sw, 0, 0)) 2 rfl ?_
    refine wp_call rfl rfl rfl (ev_up (ev_all hM) (by decide)) ?_
    refine wp_eq (f' := (261, [.ref 28, .int (nI 11), .int y, .long (coverT n nb), .retAddr 0, .int (nI (2 ^ n))], [.int (nI (2 ^ n - 1)), .int (nI (2 ^ n))], MW A B F sw, 0, 0)) rfl ?_
    refine wp_go (f' := ((if (nI (2 ^ n - 1)) < (nI (2 ^ n)) then 384 else 264), [.ref 28, .int (nI 11), .int y, .long (coverT n nb), .retAddr 0, .int (nI (2 ^ n))], [], MW A B F sw, 0, 0)) 1 rfl ?_
    refine wp_ite (fun _ => ?_) (fun h9 => absurd (nI_lt (by omega) (by omega)) h9)
    refine wp_go (f' := (385, [.ref 28, .int (nI 11), .int y, .long (coverT n nb), .retAddr 0, .int (nI (2 ^ n))], [.long (coverT n nb)], MW A B F sw, 0, 0)) 1 rfl ?_
    exact wp_lret rfl
theorem ev_total2 (hM : MI A F n nb) (y : Int32) : mv_Ev xs Ls 4 120 [.ref 28, .int (nI 2), .int y] (MW A B F sw) (some (.long ((tabN (matG n nb false) n (vp_updL (B 38) 0 1)) (2 ^ n - 1))), MW A (upB B 38 (tabN (matG n nb false) n (vp_updL (B 38) 0 1))) F sw, 0, 0) := by
  refine ev_of_wp rfl rfl rfl ?_
  refine wp_go (f' := (4, [.ref 28, .int (nI 2), .int y, .retAddr 0, .retAddr 0, .retAddr 0], [.int (nI 13), .int (nI 0), .int (nI 2)], MW A B F sw, 0, 0)) 3 rfl ?_
  refine wp_call rfl rfl rfl (ev_up (ev_isIn (nI 2) (nI 0) (nI 13) _) (by decide)) ?_
  refine wp_eq (f' := (7, [.ref 28, .int (nI 2), .int y, .retAddr 0, .retAddr 0, .retAddr 0], [.int (bI (decide ((nI 0) ≤ (nI 2)) && decide ((nI 2) ≤ (nI 13))))], MW A B F sw, 0, 0)) rfl ?_
  refine wp_go (f' := ((if (bI (decide ((nI 0) ≤ (nI 2)) && decide ((nI 2) ≤ (nI 13)))) = 0 then 25 else 10), [.ref 28, .int (nI 2), .int y, .retAddr 0, .retAddr 0, .retAddr 0], [], MW A B F sw, 0, 0)) 1 rfl ?_
  refine wp_ite (fun h9 => absurd h9 (by decide : ¬ bI (decide ((nI 0) ≤ (nI 2)) && decide ((nI 2) ≤ (nI 13))) = 0)) (fun _ => ?_)
  refine wp_go (f' := ((if ¬ (nI 2) = (nI 1) then 29 else 15), [.ref 28, .int (nI 2), .int y, .retAddr 0, .retAddr 0, .retAddr 0], [], MW A B F sw, 0, 0)) 3 rfl ?_
  refine wp_ite (fun _ => ?_) (fun h9 => absurd (by decide : ¬ nI 2 = nI 1) h9)
  refine wp_go (f' := (108, [.ref 28, .int (nI 2), .int y, .long 0, .retAddr 0, .retAddr 0], [.int (nI 0), .ref 28], MW A B F sw, 0, 0)) 6 rfl ?_
  refine wp_call rfl rfl rfl (ev_up (ev_matchings0 hM) (by decide)) ?_
  refine wp_eq (f' := (111, [.ref 28, .int (nI 2), .int y, .long 0, .retAddr 0, .retAddr 0], [.long ((tabN (matG n nb false) n (vp_updL (B 38) 0 1)) (2 ^ n - 1))], MW A (upB B 38 (tabN (matG n nb false) n (vp_updL (B 38) 0 1))) F sw, 0, 0)) rfl ?_
  exact wp_lret rfl
theorem ev_total3 (hM : MI A F n nb) (y : Int32) : mv_Ev xs Ls 4 120 [.ref 28, .int (nI 3), .int y] (MW A B F sw) (some (.long ((tabN (matG n nb true) n (vp_updL (B 38) 0 1)) (2 ^ n - 1))), MW A (upB B 38 (tabN (matG n nb true) n (vp_updL (B 38) 0 1))) F sw, 0, 0) := by
  refine ev_of_wp rfl rfl rfl ?_
  refine wp_go (f' := (4, [.ref 28, .int (nI 3), .int y, .retAddr 0, .retAddr 0, .retAddr 0], [.int (nI 13), .int (nI 0), .int (nI 3)], MW A B F sw, 0, 0)) 3 rfl ?_
  refine wp_call rfl rfl rfl (ev_up (ev_isIn (nI 3) (nI 0) (nI 13) _) (by decide)) ?_
  refine wp_eq (f' := (7, [.ref 28, .int (nI 3), .int y, .retAddr 0, .retAddr 0, .retAddr 0], [.int (bI (decide ((nI 0) ≤ (nI 3)) && decide ((nI 3) ≤ (nI 13))))], MW A B F sw, 0, 0)) rfl ?_
  refine wp_go (f' := ((if (bI (decide ((nI 0) ≤ (nI 3)) && decide ((nI 3) ≤ (nI 13)))) = 0 then 25 else 10), [.ref 28, .int (nI 3), .int y, .retAddr 0, .retAddr 0, .retAddr 0], [], MW A B F sw, 0, 0)) 1 rfl ?_
  refine wp_ite (fun h9 => absurd h9 (by decide : ¬ bI (decide ((nI 0) ≤ (nI 3)) && decide ((nI 3) ≤ (nI 13))) = 0)) (fun _ => ?_)
  refine wp_go (f' := ((if ¬ (nI 3) = (nI 1) then 29 else 15), [.ref 28, .int (nI 3), .int y, .retAddr 0, .retAddr 0, .retAddr 0], [], MW A B F sw, 0, 0)) 3 rfl ?_
  refine wp_ite (fun _ => ?_) (fun h9 => absurd (by decide : ¬ nI 3 = nI 1) h9)
  refine wp_go (f' := (114, [.ref 28, .int (nI 3), .int y, .long 0, .retAddr 0, .retAddr 0], [.int (nI 1), .ref 28], MW A B F sw, 0, 0)) 6 rfl ?_
  refine wp_call rfl rfl rfl (ev_up (ev_matchings1 hM) (by decide)) ?_
  refine wp_eq (f' := (117, [.ref 28, .int (nI 3), .int y, .long 0, .retAddr 0, .retAddr 0], [.long ((tabN (matG n nb true) n (vp_updL (B 38) 0 1)) (2 ^ n - 1))], MW A (upB B 38 (tabN (matG n nb true) n (vp_updL (B 38) 0 1))) F sw, 0, 0)) rfl ?_
  exact wp_lret rfl
theorem ev_total9 (hM : MI A F n nb) (y : Int32) : mv_Ev xs Ls 4 120 [.ref 28, .int (nI 9), .int y] (MW A B F sw) (some (.long (if n = 0 then 0 else (tabN (wholG n nb) n (B 38)) (2 ^ n - 1))), MW A (upB B 38 (tabN (wholG n nb) n (B 38))) F sw, 0, 0) := by
  refine ev_of_wp rfl rfl rfl ?_
  refine wp_go (f' := (4, [.ref 28, .int (nI 9), .int y, .retAddr 0, .retAddr 0, .retAddr 0], [.int (nI 13), .int (nI 0), .int (nI 9)], MW A B F sw, 0, 0)) 3 rfl ?_
  refine wp_call rfl rfl rfl (ev_up (ev_isIn (nI 9) (nI 0) (nI 13) _) (by decide)) ?_
  refine wp_eq (f' := (7, [.ref 28, .int (nI 9), .int y, .retAddr 0, .retAddr 0, .retAddr 0], [.int (bI (decide ((nI 0) ≤ (nI 9)) && decide ((nI 9) ≤ (nI 13))))], MW A B F sw, 0, 0)) rfl ?_
  refine wp_go (f' := ((if (bI (decide ((nI 0) ≤ (nI 9)) && decide ((nI 9) ≤ (nI 13)))) = 0 then 25 else 10), [.ref 28, .int (nI 9), .int y, .retAddr 0, .retAddr 0, .retAddr 0], [], MW A B F sw, 0, 0)) 1 rfl ?_
  refine wp_ite (fun h9 => absurd h9 (by decide : ¬ bI (decide ((nI 0) ≤ (nI 9)) && decide ((nI 9) ≤ (nI 13))) = 0)) (fun _ => ?_)
  refine wp_go (f' := ((if ¬ (nI 9) = (nI 1) then 29 else 15), [.ref 28, .int (nI 9), .int y, .retAddr 0, .retAddr 0, .retAddr 0], [], MW A B F sw, 0, 0)) 3 rfl ?_
  refine wp_ite (fun _ => ?_) (fun h9 => absurd (by decide : ¬ nI 9 = nI 1) h9)
  refine wp_go (f' := (222, [.ref 28, .int (nI 9), .int y, .long 0, .retAddr 0, .retAddr 0], [.ref 28], MW A B F sw, 0, 0)) 5 rfl ?_
  refine wp_call rfl rfl rfl (ev_up (ev_wholes hM) (by decide)) ?_
  refine wp_eq (f' := (225, [.ref 28, .int (nI 9), .int y, .long 0, .retAddr 0, .retAddr 0], [.long (if n = 0 then 0 else (tabN (wholG n nb) n (B 38)) (2 ^ n - 1))], MW A (upB B 38 (tabN (wholG n nb) n (B 38))) F sw, 0, 0)) rfl ?_
  exact wp_lret rfl
theorem ev_total10 (hM : MI A F n nb) (y : Int32) : mv_Ev xs Ls 4 120 [.ref 28, .int (nI 10), .int y] (MW A B F sw) (some (.long ((tabN (dirG n nb) n (vp_updL (B 38) 0 1)) (2 ^ n - 1))), MW A (upB B 38 (tabN (dirG n nb) n (vp_updL (B 38) 0 1))) F sw, 0, 0) := by
  refine ev_of_wp rfl rfl rfl ?_
  refine wp_go (f' := (4, [.ref 28, .int (nI 10), .int y, .retAddr 0, .retAddr 0, .retAddr 0], [.int (nI 13), .int (nI 0), .int (nI 10)], MW A B F sw, 0, 0)) 3 rfl ?_
  refine wp_call rfl rfl rfl (ev_up (ev_isIn (nI 10) (nI 0) (nI 13) _) (by decide)) ?_
  refine wp_eq (f' := (7, [.ref 28, .int (nI 10), .int y, .retAddr 0, .retAddr 0, .retAddr 0], [.int (bI (decide ((nI 0) ≤ (nI 10)) && decide ((nI 10) ≤ (nI 13))))], MW A B F sw, 0, 0)) rfl ?_
  refine wp_go (f' := ((if (bI (decide ((nI 0) ≤ (nI 10)) && decide ((nI 10) ≤ (nI 13)))) = 0 then 25 else 10), [.ref 28, .int (nI 10), .int y, .retAddr 0, .retAddr 0, .retAddr 0], [], MW A B F sw, 0, 0)) 1 rfl ?_
  refine wp_ite (fun h9 => absurd h9 (by decide : ¬ bI (decide ((nI 0) ≤ (nI 10)) && decide ((nI 10) ≤ (nI 13))) = 0)) (fun _ => ?_)
  refine wp_go (f' := ((if ¬ (nI 10) = (nI 1) then 29 else 15), [.ref 28, .int (nI 10), .int y, .retAddr 0, .retAddr 0, .retAddr 0], [], MW A B F sw, 0, 0)) 3 rfl ?_
  refine wp_ite (fun _ => ?_) (fun h9 => absurd (by decide : ¬ nI 10 = nI 1) h9)
  refine wp_go (f' := (227, [.ref 28, .int (nI 10), .int y, .long 0, .retAddr 0, .retAddr 0], [.ref 28], MW A B F sw, 0, 0)) 5 rfl ?_
  refine wp_call rfl rfl rfl (ev_up (ev_directions hM) (by decide)) ?_
  refine wp_eq (f' := (230, [.ref 28, .int (nI 10), .int y, .long 0, .retAddr 0, .retAddr 0], [.long ((tabN (dirG n nb) n (vp_updL (B 38) 0 1)) (2 ^ n - 1))], MW A (upB B 38 (tabN (dirG n nb) n (vp_updL (B 38) 0 1))) F sw, 0, 0)) rfl ?_
  exact wp_lret rfl
theorem ev_total13 (hM : MI A F n nb) {ed : Nat} (hE : F 7 = nI ed) (y : Int32) : mv_Ev xs Ls 4 120 [.ref 28, .int (nI 13), .int y] (MW A B F sw) (some (.long (1 <<< (((nI ed - nI n) + nI (partsN n nb (2 ^ n - 1))).toInt64 &&& 63))), MW A B F sw, 0, 0) := by
  refine ev_of_wp rfl rfl rfl ?_
  have hn := hM.1
  have hp := pow10 hn
  have hp1 : 1 ≤ 2 ^ n := Nat.one_le_two_pow
  have hal := all_lt hn
  refine wp_go (f' := (4, [.ref 28, .int (nI 13), .int y, .retAddr 0, .retAddr 0, .retAddr 0], [.int (nI 13), .int (nI 0), .int (nI 13)], MW A B F sw, 0, 0)) 3 rfl ?_
  refine wp_call rfl rfl rfl (ev_up (ev_isIn (nI 13) (nI 0) (nI 13) _) (by decide)) ?_
  refine wp_eq (f' := (7, [.ref 28, .int (nI 13), .int y, .retAddr 0, .retAddr 0, .retAddr 0], [.int (bI (decide ((nI 0) ≤ (nI 13)) && decide ((nI 13) ≤ (nI 13))))], MW A B F sw, 0, 0)) rfl ?_
  refine wp_go (f' := ((if (bI (decide ((nI 0) ≤ (nI 13)) && decide ((nI 13) ≤ (nI 13)))) = 0 then 25 else 10), [.ref 28, .int (nI 13), .int y, .retAddr 0, .retAddr 0, .retAddr 0], [], MW A B F sw, 0, 0)) 1 rfl ?_
  refine wp_ite (fun h9 => absurd h9 (by decide : ¬ bI (decide ((nI 0) ≤ (nI 13)) && decide ((nI 13) ≤ (nI 13))) = 0)) (fun _ => ?_)
  refine wp_go (f' := ((if ¬ (nI 13) = (nI 1) then 29 else 15), [.ref 28, .int (nI 13), .int y, .retAddr 0, .retAddr 0, .retAddr 0], [], MW A B F sw, 0, 0)) 3 rfl ?_
  refine wp_ite (fun _ => ?_) (fun h9 => absurd (by decide : ¬ nI 13 = nI 1) h9)
  refine wp_go (f' := (236, [.ref 28, .int (nI 13), .int y, .long 0, .retAddr 0, .retAddr 0], [.int (F 7), .long 1], MW A B F sw, 0, 0)) 7 rfl ?_
  rw [hE]
  refine wp_go (f' := (240, [.ref 28, .int (nI 13), .int y, .long 0, .retAddr 0, .retAddr 0], [.int (F 6), .int (nI ed), .long 1], MW A B F sw, 0, 0)) 2 rfl ?_
  rw [hM.2.1]
  refine wp_go (f' := (243, [.ref 28, .int (nI 13), .int y, .long 0, .retAddr 0, .retAddr 0], [.ref 28, .ref 28, .int ((nI ed) - (nI n)), .long 1], MW A B F sw, 0, 0)) 3 rfl ?_
  refine wp_call rfl rfl rfl (ev_up (ev_all hM) (by decide)) ?_
  refine wp_eq (f' := (246, [.ref 28, .int (nI 13), .int y, .long 0, .retAddr 0, .retAddr 0], [.int (nI (2 ^ n - 1)), .ref 28, .int ((nI ed) - (nI n)), .long 1], MW A B F sw, 0, 0)) rfl ?_
  refine wp_call rfl rfl rfl (ev_up (ev_parts hM (s := 2 ^ n - 1) (by omega)) (by decide)) ?_
  refine wp_eq (f' := (249, [.ref 28, .int (nI 13), .int y, .long 0, .retAddr 0, .retAddr 0], [.int (nI (partsN n nb (2 ^ n - 1))), .int ((nI ed) - (nI n)), .long 1], MW A B F sw, 0, 0)) rfl ?_
  refine wp_go (f' := (251, [.ref 28, .int (nI 13), .int y, .long 0, .retAddr 0, .retAddr 0], [.long (1 <<< ((((nI ed) - (nI n)) + (nI (partsN n nb (2 ^ n - 1)))).toInt64 &&& 63))], MW A B F sw, 0, 0)) 2 rfl ?_
  exact wp_lret rfl
theorem ev_total_f1 {x y : Int32} (hx : outN x 13 = true) : mv_Ev xs Ls 4 120 [.ref 28, .int x, .int y] (MW A B F sw) (some (.long (-2)), MW A B F sw, 0, 0) := by
  refine ev_of_wp rfl rfl rfl ?_
  refine wp_go (f' := (4, [.ref 28, .int x, .int y, .retAddr 0, .retAddr 0, .retAddr 0], [.int (nI 13), .int (nI 0), .int x], MW A B F sw, 0, 0)) 3 rfl ?_
  refine wp_call rfl rfl rfl (ev_up (ev_isIn x (nI 0) (nI 13) _) (by decide)) ?_
  refine wp_eq (f' := (7, [.ref 28, .int x, .int y, .retAddr 0, .retAddr 0, .retAddr 0], [.int (bI (decide ((nI 0) ≤ x) && decide (x ≤ (nI 13))))], MW A B F sw, 0, 0)) rfl ?_
  refine wp_go (f' := ((if (bI (decide ((nI 0) ≤ x) && decide (x ≤ (nI 13)))) = 0 then 25 else 10), [.ref 28, .int x, .int y, .retAddr 0, .retAddr 0, .retAddr 0], [], MW A B F sw, 0, 0)) 1 rfl ?_
  refine wp_ite (fun _ => ?_) (fun h9 => absurd (bI_f (by have h8 := hx; unfold outN at h8; rw [Bool.not_eq_true'] at h8; exact h8)) h9)
  refine wp_go (f' := (28, [.ref 28, .int x, .int y, .retAddr 0, .retAddr 0, .retAddr 0], [.long (-2)], MW A B F sw, 0, 0)) 1 rfl ?_
  exact wp_lret rfl
theorem ev_total_f2 {x : Int32} (hx : outN x 10 = true) : mv_Ev xs Ls 4 120 [.ref 28, .int (nI 1), .int x] (MW A B F sw) (some (.long (-2)), MW A B F sw, 0, 0) := by
  refine ev_of_wp rfl rfl rfl ?_
  refine wp_go (f' := (4, [.ref 28, .int (nI 1), .int x, .retAddr 0, .retAddr 0, .retAddr 0], [.int (nI 13), .int (nI 0), .int (nI 1)], MW A B F sw, 0, 0)) 3 rfl ?_
  refine wp_call rfl rfl rfl (ev_up (ev_isIn (nI 1) (nI 0) (nI 13) _) (by decide)) ?_
  refine wp_eq (f' := (7, [.ref 28, .int (nI 1), .int x, .retAddr 0, .retAddr 0, .retAddr 0], [.int (bI (decide ((nI 0) ≤ (nI 1)) && decide ((nI 1) ≤ (nI 13))))], MW A B F sw, 0, 0)) rfl ?_
  refine wp_go (f' := ((if (bI (decide ((nI 0) ≤ (nI 1)) && decide ((nI 1) ≤ (nI 13)))) = 0 then 25 else 10), [.ref 28, .int (nI 1), .int x, .retAddr 0, .retAddr 0, .retAddr 0], [], MW A B F sw, 0, 0)) 1 rfl ?_
  refine wp_ite (fun h9 => absurd h9 (by decide : ¬ bI (decide ((nI 0) ≤ (nI 1)) && decide ((nI 1) ≤ (nI 13))) = 0)) (fun _ => ?_)
  refine wp_go (f' := ((if ¬ (nI 1) = (nI 1) then 29 else 15), [.ref 28, .int (nI 1), .int x, .retAddr 0, .retAddr 0, .retAddr 0], [], MW A B F sw, 0, 0)) 3 rfl ?_
  refine wp_ite (fun h9 => absurd h9 (fun h8 => h8 rfl : ¬ ¬ nI 1 = nI 1)) (fun _ => ?_)
  refine wp_go (f' := (19, [.ref 28, .int (nI 1), .int x, .retAddr 0, .retAddr 0, .retAddr 0], [.int (nI 10), .int (nI 0), .int x], MW A B F sw, 0, 0)) 3 rfl ?_
  refine wp_call rfl rfl rfl (ev_up (ev_isIn x (nI 0) (nI 10) _) (by decide)) ?_
  refine wp_eq (f' := (22, [.ref 28, .int (nI 1), .int x, .retAddr 0, .retAddr 0, .retAddr 0], [.int (bI (decide ((nI 0) ≤ x) && decide (x ≤ (nI 10))))], MW A B F sw, 0, 0)) rfl ?_
  refine wp_go (f' := ((if ¬ (bI (decide ((nI 0) ≤ x) && decide (x ≤ (nI 10)))) = 0 then 29 else 25), [.ref 28, .int (nI 1), .int x, .retAddr 0, .retAddr 0, .retAddr 0], [], MW A B F sw, 0, 0)) 1 rfl ?_
  refine wp_ite (fun h9 => absurd h9 (fun h8 => h8 (bI_f (by have h8 := hx; unfold outN at h8; rw [Bool.not_eq_true'] at h8; exact h8)))) (fun _ => ?_)
  refine wp_go (f' := (28, [.ref 28, .int (nI 1), .int x, .retAddr 0, .retAddr 0, .retAddr 0], [.long (-2)], MW A B F sw, 0, 0)) 1 rfl ?_
  exact wp_lret rfl
end MM
end
section
/-! THE CLASS: the graph -/
def bc1 (x : Int32) : Int32 := x - ((x.toUInt32 >>> ((nI 1).toUInt32 &&& Int32.toUInt32 31)).toInt32 &&& 1431655765)
def bc2 (x : Int32) : Int32 := (x &&& 858993459) + ((x.toUInt32 >>> ((nI 2).toUInt32 &&& Int32.toUInt32 31)).toInt32 &&& 858993459)
def bc3 (x : Int32) : Int32 := (x + (x.toUInt32 >>> ((nI 4).toUInt32 &&& Int32.toUInt32 31)).toInt32) &&& 252645135
def bc4 (x : Int32) : Int32 := x + (x.toUInt32 >>> ((nI 8).toUInt32 &&& Int32.toUInt32 31)).toInt32
def bc5 (x : Int32) : Int32 := x + (x.toUInt32 >>> ((nI 16).toUInt32 &&& Int32.toUInt32 31)).toInt32
def bcI (x : Int32) : Int32 := bc5 (bc4 (bc3 (bc2 (bc1 x)))) &&& nI 63
set_option maxRecDepth 100000 in
theorem bc_pop : ∀ s, s < 1024 → bcI (nI s) = nI (pop s) := by decide +kernel
theorem bx_low {s : Nat} (hs : s < 1024) (h0 : s ≠ 0) : nI s &&& (-(nI s)) = nI (2 ^ low s) := by
  have h : ∀ s, s < 1024 → s ≠ 0 → nI s &&& (-(nI s)) = nI (2 ^ low s) := by decide +kernel
  exact h s hs h0
/-- what the class's graph holds -/
def CI (A : Nat → Nat → Int32) (F : Nat → Int32) (n : Nat) (nb : Nat → Nat) : Prop := n ≤ 10 ∧ F 0 = nI n ∧ (∀ v, v < 10 → A 2 v = nI (nb v)) ∧ ∀ v, v < 10 → nb v < 1024
def CWt (A : Nat → Nat → Int32) (wt : Nat → Nat) : Prop := ∀ v, v < 10 → A 3 v = nI (wt v) ∧ wt v ≤ 1000
/-- one round of spread -/
def spS (g : Nat → Nat) (s h : Nat) : Nat := h ||| (g h &&& s)
/-- the class's spread: ten rounds -/
def spN (g : Nat → Nat) (s : Nat) : Nat := itN (spS g s) 10 (2 ^ low s)
theorem sp_sub {g : Nat → Nat} {s : Nat} (hs : s < 1024) (h0 : s ≠ 0) : ∀ k i, (itN (spS g s) k (2 ^ low s)).testBit i = true → s.testBit i = true
  | 0, i, h => by
    simp only [itN, Nat.testBit_two_pow] at h
    have : low s = i := by simpa using h
    rw [← this]; exact low_bit hs h0
  | k + 1, i, h => by
    simp only [itN, spS, Nat.testBit_or, Nat.testBit_and, Bool.or_eq_true, Bool.and_eq_true] at h
    rcases h with h | h
    · exact sp_sub hs h0 k i h
    · exact h.2
theorem sub_le {a b : Nat} (h : ∀ i, a.testBit i = true → b.testBit i = true) : a ≤ b := by
  have : a &&& b = a := by
    apply Nat.eq_of_testBit_eq
    intro i
    rw [Nat.testBit_and]
    cases ha : a.testBit i with
    | false => rfl
    | true => rw [h i ha]; rfl
  rw [← this]
  exact Nat.and_le_right
theorem itN_fix2 {f : Nat → Nat} {x k : Nat} (h : f (itN f k x) = itN f k x) : ∀ m, k ≤ m → itN f m x = itN f k x := by
  intro m
  induction m with
  | zero => intro hk; have : k = 0 := by omega
            subst this; rfl
  | succ m ih =>
    intro hk
    by_cases e : k = m + 1
    · rw [e]
    · simp only [itN]
      rw [ih (by omega), h]
section CC
variable {xs : Nat → Int32} {Ls : Nat} {A : Nat → Nat → Int32} {B : Nat → Nat → Int64} {F : Nat → Int32} {sw : Bool} {n : Nat} {nb : Nat → Nat}
theorem ev_bitCountI (x : Int32) (w : mv_W) : mv_Ev xs Ls 1 20 [.int x] w (some (.int (bcI x)), w, 0, 0) := by
  refine ev_of_wp rfl rfl rfl ?_
  refine wp_go (f' := (10, [.int (x - (((x.toUInt32 >>> ((nI 1).toUInt32 &&& Int32.toUInt32 31)).toInt32) &&& 1431655765))], [], w, 0, 0)) 8 rfl ?_
  refine wp_eq (f' := (10, [.int (bc1 x)], [], w, 0, 0)) rfl ?_
  refine wp_go (f' := (24, [.int (((bc1 x) &&& 858993459) + ((((bc1 x).toUInt32 >>> ((nI 2).toUInt32 &&& Int32.toUInt32 31)).toInt32) &&& 858993459))], [], w, 0, 0)) 10 rfl ?_
  refine wp_eq (f' := (24, [.int (bc2 (bc1 x))], [], w, 0, 0)) rfl ?_
  refine wp_go (f' := (34, [.int (((bc2 (bc1 x)) + (((bc2 (bc1 x)).toUInt32 >>> ((nI 4).toUInt32 &&& Int32.toUInt32 31)).toInt32)) &&& 252645135)], [], w, 0, 0)) 8 rfl ?_
  refine wp_eq (f' := (34, [.int (bc3 (bc2 (bc1 x)))], [], w, 0, 0)) rfl ?_
  refine wp_go (f' := (41, [.int ((bc3 (bc2 (bc1 x))) + (((bc3 (bc2 (bc1 x))).toUInt32 >>> ((nI 8).toUInt32 &&& Int32.toUInt32 31)).toInt32))], [], w, 0, 0)) 6 rfl ?_
  refine wp_eq (f' := (41, [.int (bc4 (bc3 (bc2 (bc1 x))))], [], w, 0, 0)) rfl ?_
  refine wp_go (f' := (48, [.int ((bc4 (bc3 (bc2 (bc1 x)))) + (((bc4 (bc3 (bc2 (bc1 x)))).toUInt32 >>> ((nI 16).toUInt32 &&& Int32.toUInt32 31)).toInt32))], [], w, 0, 0)) 6 rfl ?_
  refine wp_eq (f' := (48, [.int (bc5 (bc4 (bc3 (bc2 (bc1 x)))))], [], w, 0, 0)) rfl ?_
  refine wp_go (f' := (52, [.int (bc5 (bc4 (bc3 (bc2 (bc1 x)))))], [.int ((bc5 (bc4 (bc3 (bc2 (bc1 x))))) &&& (nI 63))], w, 0, 0)) 3 rfl ?_
  exact wp_iret rfl
theorem ev_bitCount {s : Nat} (hs : s < 1024) (w : mv_W) : mv_Ev xs Ls 1 20 [.int (nI s)] w (some (.int (nI (pop s))), w, 0, 0) := by
  have h := ev_bitCountI (xs := xs) (Ls := Ls) (nI s) w
  rw [bc_pop s hs] at h
  exact h
theorem ev_low {s : Nat} (hs : s < 1024) (h0 : s ≠ 0) (w : mv_W) : mv_Ev xs Ls 2 19 [.int (nI s)] w (some (.int (nI (low s))), w, 0, 0) := by
  refine ev_of_wp rfl rfl rfl ?_
  have hlw := low_lt hs h0
  refine wp_go (f' := (4, [.int (nI s)], [.int ((nI s) &&& (-(nI s)))], w, 0, 0)) 4 rfl ?_
  rw [bx_low (by omega) (by omega)]
  have hb1 : 2 ^ low s < 1024 := by first | omega | exact or_lt (by omega) (by omega) | exact and_lt (by omega) | exact and_lt_r (by omega) | exact sd_lt (by omega) | exact pow_lt (by omega)
  refine wp_go (f' := (6, [.int (nI s)], [.int ((nI (2 ^ low s)) - (nI 1))], w, 0, 0)) 2 rfl ?_
  rw [pk_sub Nat.one_le_two_pow]
  refine wp_call rfl rfl rfl (ev_up (ev_bitCount (s := 2 ^ low s - 1) (by omega) _) (by decide)) ?_
  refine wp_eq (f' := (9, [.int (nI s)], [.int (nI (pop (2 ^ low s - 1)))], w, 0, 0)) rfl ?_
  have hpp := pop_le (s := 2 ^ low s - 1) (by omega)
  rw [pop_all (by omega)]
  exact wp_iret rfl
theorem ev_gAll (hC : CI A F n nb) : mv_Ev xs Ls 1 18 [.ref 1] (MW A B F sw) (some (.int (nI (2 ^ n - 1))), MW A B F sw, 0, 0) := by
  refine ev_of_wp rfl rfl rfl ?_
  have hn := hC.1
  have hp := pow10 hn
  have hp1 : 1 ≤ 2 ^ n := Nat.one_le_two_pow
  have hal := all_lt hn
  refine wp_go (f' := (5, [.ref 1], [.int (F 0), .int (nI 1)], MW A B F sw, 0, 0)) 3 rfl ?_
  rw [hC.2.1]
  refine wp_go (f' := (6, [.ref 1], [.int ((nI 1) <<< ((nI n) &&& 31))], MW A B F sw, 0, 0)) 1 rfl ?_
  rw [bx_one (by omega)]
  refine wp_go (f' := (8, [.ref 1], [.int ((nI (2 ^ n)) - (nI 1))], MW A B F sw, 0, 0)) 2 rfl ?_
  rw [pk_sub Nat.one_le_two_pow]
  exact wp_iret rfl
theorem isV_has {n : Nat} {v : Int32} (hn : n ≤ 10) : isV v n = (decide (¬ v < 0) && decide (¬ nI n ≤ v)) := by
  cases h : isV v n with
  | true =>
    obtain ⟨a, ha, rfl⟩ := isV_ex hn h
    rw [decide_eq_true (nI_pos (by omega)), decide_eq_true (nI_ge ha (by omega))]; rfl
  | false =>
    cases h2 : (decide (¬ v < 0) && decide (¬ nI n ≤ v)) with
    | false => rfl
    | true =>
      rw [Bool.and_eq_true, decide_eq_true_eq, decide_eq_true_eq] at h2
      obtain ⟨j, hj, rfl⟩ := nI_of h2.1
      have : ¬ n ≤ j := fun h9 => h2.2 (nI_le h9 hj)
      rw [isV_t hn (by omega)] at h; cases h
theorem ev_gHas (hC : CI A F n nb) (v : Int32) : mv_Ev xs Ls 1 9 [.ref 1, .int v] (MW A B F sw) (some (.int (bI (isV v n))), MW A B F sw, 0, 0) := by
  refine ev_of_wp rfl rfl rfl ?_
  have hn := hC.1
  have hp := pow10 hn
  have hp1 : 1 ≤ 2 ^ n := Nat.one_le_two_pow
  have hal := all_lt hn
  refine wp_go (f' := ((if v < 0 then 16 else 4), [.ref 1, .int v], [], MW A B F sw, 0, 0)) 2 rfl ?_
  refine wp_ite (fun h1 => ?_) (fun h1 => ?_)
  · skip
    refine wp_go (f' := (17, [.ref 1, .int v], [.int (nI 0)], MW A B F sw, 0, 0)) 1 rfl ?_
    rw [show isV v n = false by rw [isV_has hn]; simp [h1]]
    exact wp_zret rfl (by first | exact Or.inl rfl | exact Or.inr rfl)
  · skip
    refine wp_go (f' := (9, [.ref 1, .int v], [.int (F 0), .int v], MW A B F sw, 0, 0)) 3 rfl ?_
    rw [hC.2.1]
    refine wp_go (f' := ((if (nI n) ≤ v then 16 else 12), [.ref 1, .int v], [], MW A B F sw, 0, 0)) 1 rfl ?_
    refine wp_ite (fun h2 => ?_) (fun h2 => ?_)
    · skip
      refine wp_go (f' := (17, [.ref 1, .int v], [.int (nI 0)], MW A B F sw, 0, 0)) 1 rfl ?_
      rw [show isV v n = false by rw [isV_has hn]; simp [h1, h2]]
      exact wp_zret rfl (by first | exact Or.inl rfl | exact Or.inr rfl)
    · skip
      refine wp_go (f' := (17, [.ref 1, .int v], [.int (nI 1)], MW A B F sw, 0, 0)) 2 rfl ?_
      rw [show isV v n = true by rw [isV_has hn]; simp [h1, h2]]
      exact wp_zret rfl (by first | exact Or.inl rfl | exact Or.inr rfl)
theorem ev_gLinked (hC : CI A F n nb) {a b : Nat} (ha : a < 10) (hb : b < 10) : mv_Ev xs Ls 1 10 [.ref 1, .int (nI a), .int (nI b)] (MW A B F sw) (some (.int (bI ((nb a).testBit b))), MW A B F sw, 0, 0) := by
  refine ev_of_wp rfl rfl rfl ?_
  have hn := hC.1
  have hp := pow10 hn
  have hp1 : 1 ≤ 2 ^ n := Nat.one_le_two_pow
  have hal := all_lt hn
  refine wp_go (f' := (5, [.ref 1, .int (nI a), .int (nI b)], [.int (nI a), .ref 2], MW A B F sw, 0, 0)) 3 rfl ?_
  refine wp_iald rfl rfl (by omega) (by decide) ?_
  rw [hC.2.2.1 a (by omega)]
  have hnb := hC.2.2.2 a (by omega)
  refine wp_go (f' := (10, [.ref 1, .int (nI a), .int (nI b)], [.int (((nI (nb a)) >>> ((nI b) &&& 31)) &&& (nI 1))], MW A B F sw, 0, 0)) 4 rfl ?_
  rw [bx_bit (by omega) (by omega)]
  refine wp_go (f' := ((if (bI ((nb a).testBit b)) = 0 then 17 else 13), [.ref 1, .int (nI a), .int (nI b)], [], MW A B F sw, 0, 0)) 1 rfl ?_
  refine wp_ite (fun h1 => ?_) (fun h1 => ?_)
  · have h1 := bI_0.mp h1
    refine wp_go (f' := (18, [.ref 1, .int (nI a), .int (nI b)], [.int (nI 0)], MW A B F sw, 0, 0)) 1 rfl ?_
    rw [show bI ((nb a).testBit b) = nI 0 by simp [h1, bIT, bIF, nI1, nI0]]
    exact wp_zret rfl (by first | exact Or.inl rfl | exact Or.inr rfl)
  · have h1 := bI_n0 h1
    refine wp_go (f' := (18, [.ref 1, .int (nI a), .int (nI b)], [.int (nI 1)], MW A B F sw, 0, 0)) 2 rfl ?_
    rw [show bI ((nb a).testBit b) = nI 1 by simp [h1, bIT, bIF, nI1, nI0]]
    exact wp_zret rfl (by first | exact Or.inl rfl | exact Or.inr rfl)
theorem ev_spread4 {g : Nat → Nat} {s : Nat} (hs : s < 1024) (h0 : s ≠ 0) (hg : ∀ t, t ≤ s → A 4 t = nI (g t)) : mv_Ev xs Ls 1 21 [.ref 4, .int (nI s)] (MW A B F sw) (some (.int (nI (spN g s))), MW A B F sw, 0, 0) := by
  refine ev_of_wp rfl rfl rfl ?_
  have hlw := low_lt hs h0
  refine wp_go (f' := (4, [.ref 4, .int (nI s), .retAddr 0, .retAddr 0, .retAddr 0], [.int ((nI s) &&& (-(nI s)))], MW A B F sw, 0, 0)) 4 rfl ?_
  rw [bx_low (by omega) (by omega)]
  have hb1 : 2 ^ low s < 1024 := by first | omega | exact or_lt (by omega) (by omega) | exact and_lt (by omega) | exact and_lt_r (by omega) | exact sd_lt (by omega) | exact pow_lt (by omega)
  refine wp_go (f' := (7, [.ref 4, .int (nI s), .int (nI (2 ^ low s)), .int (nI 0), .retAddr 0], [], MW A B F sw, 0, 0)) 3 rfl ?_
  refine wh_ind (P := fun (k : Nat) => k ≤ 10 → ∀ d4 : Value, mv_Wp xs Ls 0 2 false (some .int) mv_c21 (7, [.ref 4, .int (nI s), .int (nI (itN (spS g s) k (2 ^ low s))), .int (nI k), d4], [], MW A B F sw, 0, 0) (some (.int (nI (spN g s))), MW A B F sw, 0, 0)) (fun k => 10 - k) ?_ 0 (Nat.zero_le _) _
  intro k ih hk d4
  have hle := sub_le (sp_sub (g := g) hs h0 k)
  have hgl := hg (itN (spS g s) k (2 ^ low s)) hle
  have hle2 := sub_le (sp_sub (g := g) hs h0 (k + 1))
  have hgr : (itN (spS g s) k (2 ^ low s)) ||| ((g (itN (spS g s) k (2 ^ low s))) &&& s) ≤ s := hle2
  refine wp_go (f' := ((if (nI 10) ≤ (nI k) then 40 else 13), [.ref 4, .int (nI s), .int (nI (itN (spS g s) k (2 ^ low s))), .int (nI k), d4], [], MW A B F sw, 0, 0)) 3 rfl ?_
  refine wp_ite (fun h1 => ?_) (fun h1 => ?_)
  · have h1 : 10 ≤ k := (nI_leI (a := 10) (b := k) (by omega) (by omega)).mp h1
    refine wp_go (f' := (41, [.ref 4, .int (nI s), .int (nI (itN (spS g s) k (2 ^ low s))), .int (nI k), d4], [.int (nI (itN (spS g s) k (2 ^ low s)))], MW A B F sw, 0, 0)) 1 rfl ?_
    have e : k = 10 := by omega
    subst e
    exact wp_iret rfl
  · have h1 : ¬ (10 ≤ k) := fun h9 => h1 ((nI_leI (a := 10) (b := k) (by omega) (by omega)).mpr h9)
    refine wp_go (f' := (16, [.ref 4, .int (nI s), .int (nI (itN (spS g s) k (2 ^ low s))), .int (nI k), d4], [.int (nI (itN (spS g s) k (2 ^ low s))), .ref 4, .int (nI (itN (spS g s) k (2 ^ low s)))], MW A B F sw, 0, 0)) 3 rfl ?_
    refine wp_iald rfl rfl (by omega) (by decide) ?_
    rw [hgl]
    refine wp_go (f' := (19, [.ref 4, .int (nI s), .int (nI (itN (spS g s) k (2 ^ low s))), .int (nI k), d4], [.int ((nI (g (itN (spS g s) k (2 ^ low s)))) &&& (nI s)), .int (nI (itN (spS g s) k (2 ^ low s)))], MW A B F sw, 0, 0)) 2 rfl ?_
    rw [bx_and]
    refine wp_go (f' := (20, [.ref 4, .int (nI s), .int (nI (itN (spS g s) k (2 ^ low s))), .int (nI k), d4], [.int ((nI (itN (spS g s) k (2 ^ low s))) ||| (nI ((g (itN (spS g s) k (2 ^ low s))) &&& s)))], MW A B F sw, 0, 0)) 1 rfl ?_
    rw [bx_or]
    refine wp_go (f' := ((if ¬ (nI ((itN (spS g s) k (2 ^ low s)) ||| ((g (itN (spS g s) k (2 ^ low s))) &&& s))) = (nI (itN (spS g s) k (2 ^ low s))) then 31 else 28), [.ref 4, .int (nI s), .int (nI (itN (spS g s) k (2 ^ low s))), .int (nI k), .int (nI ((itN (spS g s) k (2 ^ low s)) ||| ((g (itN (spS g s) k (2 ^ low s))) &&& s)))], [], MW A B F sw, 0, 0)) 4 rfl ?_
    refine wp_ite (fun h2 => ?_) (fun h2 => ?_)
    · have h2 : ¬ ((itN (spS g s) k (2 ^ low s)) ||| ((g (itN (spS g s) k (2 ^ low s))) &&& s) = itN (spS g s) k (2 ^ low s)) := fun h9 => h2 ((nI_eq (a := (itN (spS g s) k (2 ^ low s)) ||| ((g (itN (spS g s) k (2 ^ low s))) &&& s)) (b := itN (spS g s) k (2 ^ low s)) (by omega) (by omega)).mpr h9)
      refine wp_go (f' := (37, [.ref 4, .int (nI s), .int (nI ((itN (spS g s) k (2 ^ low s)) ||| ((g (itN (spS g s) k (2 ^ low s))) &&& s))), .int ((nI k) + 1), .int (nI ((itN (spS g s) k (2 ^ low s)) ||| ((g (itN (spS g s) k (2 ^ low s))) &&& s)))], [], MW A B F sw, 0, 0)) 3 rfl ?_
      rw [nI_1]
      refine wp_go (f' := (7, [.ref 4, .int (nI s), .int (nI ((itN (spS g s) k (2 ^ low s)) ||| ((g (itN (spS g s) k (2 ^ low s))) &&& s))), .int (nI (k + 1)), .int (nI ((itN (spS g s) k (2 ^ low s)) ||| ((g (itN (spS g s) k (2 ^ low s))) &&& s)))], [], MW A B F sw, 0, 0)) 1 rfl ?_
      exact ih (k + 1) (by omega) (by omega) (.int (nI ((itN (spS g s) k (2 ^ low s)) ||| ((g (itN (spS g s) k (2 ^ low s))) &&& s))))
    · have h2 := Classical.not_not.mp h2; have h2 : (itN (spS g s) k (2 ^ low s)) ||| ((g (itN (spS g s) k (2 ^ low s))) &&& s) = itN (spS g s) k (2 ^ low s) := (nI_eq (a := (itN (spS g s) k (2 ^ low s)) ||| ((g (itN (spS g s) k (2 ^ low s))) &&& s)) (b := itN (spS g s) k (2 ^ low s)) (by omega) (by omega)).mp h2
      refine wp_go (f' := (41, [.ref 4, .int (nI s), .int (nI (itN (spS g s) k (2 ^ low s))), .int (nI k), .int (nI ((itN (spS g s) k (2 ^ low s)) ||| ((g (itN (spS g s) k (2 ^ low s))) &&& s)))], [.int (nI (itN (spS g s) k (2 ^ low s)))], MW A B F sw, 0, 0)) 2 rfl ?_
      rw [show spN g s = (itN (spS g s) k (2 ^ low s)) from itN_fix2 h2 10 (by omega)]
      exact wp_iret rfl
theorem ev_spread21 {g : Nat → Nat} {s : Nat} (hs : s < 1024) (h0 : s ≠ 0) (hg : ∀ t, t ≤ s → A 21 t = nI (g t)) : mv_Ev xs Ls 1 21 [.ref 21, .int (nI s)] (MW A B F sw) (some (.int (nI (spN g s))), MW A B F sw, 0, 0) := by
  refine ev_of_wp rfl rfl rfl ?_
  have hlw := low_lt hs h0
  refine wp_go (f' := (4, [.ref 21, .int (nI s), .retAddr 0, .retAddr 0, .retAddr 0], [.int ((nI s) &&& (-(nI s)))], MW A B F sw, 0, 0)) 4 rfl ?_
  rw [bx_low (by omega) (by omega)]
  have hb1 : 2 ^ low s < 1024 := by first | omega | exact or_lt (by omega) (by omega) | exact and_lt (by omega) | exact and_lt_r (by omega) | exact sd_lt (by omega) | exact pow_lt (by omega)
  refine wp_go (f' := (7, [.ref 21, .int (nI s), .int (nI (2 ^ low s)), .int (nI 0), .retAddr 0], [], MW A B F sw, 0, 0)) 3 rfl ?_
  refine wh_ind (P := fun (k : Nat) => k ≤ 10 → ∀ d4 : Value, mv_Wp xs Ls 0 2 false (some .int) mv_c21 (7, [.ref 21, .int (nI s), .int (nI (itN (spS g s) k (2 ^ low s))), .int (nI k), d4], [], MW A B F sw, 0, 0) (some (.int (nI (spN g s))), MW A B F sw, 0, 0)) (fun k => 10 - k) ?_ 0 (Nat.zero_le _) _
  intro k ih hk d4
  have hle := sub_le (sp_sub (g := g) hs h0 k)
  have hgl := hg (itN (spS g s) k (2 ^ low s)) hle
  have hle2 := sub_le (sp_sub (g := g) hs h0 (k + 1))
  have hgr : (itN (spS g s) k (2 ^ low s)) ||| ((g (itN (spS g s) k (2 ^ low s))) &&& s) ≤ s := hle2
  refine wp_go (f' := ((if (nI 10) ≤ (nI k) then 40 else 13), [.ref 21, .int (nI s), .int (nI (itN (spS g s) k (2 ^ low s))), .int (nI k), d4], [], MW A B F sw, 0, 0)) 3 rfl ?_
  refine wp_ite (fun h1 => ?_) (fun h1 => ?_)
  · have h1 : 10 ≤ k := (nI_leI (a := 10) (b := k) (by omega) (by omega)).mp h1
    refine wp_go (f' := (41, [.ref 21, .int (nI s), .int (nI (itN (spS g s) k (2 ^ low s))), .int (nI k), d4], [.int (nI (itN (spS g s) k (2 ^ low s)))], MW A B F sw, 0, 0)) 1 rfl ?_
    have e : k = 10 := by omega
    subst e
    exact wp_iret rfl
  · have h1 : ¬ (10 ≤ k) := fun h9 => h1 ((nI_leI (a := 10) (b := k) (by omega) (by omega)).mpr h9)
    refine wp_go (f' := (16, [.ref 21, .int (nI s), .int (nI (itN (spS g s) k (2 ^ low s))), .int (nI k), d4], [.int (nI (itN (spS g s) k (2 ^ low s))), .ref 21, .int (nI (itN (spS g s) k (2 ^ low s)))], MW A B F sw, 0, 0)) 3 rfl ?_
    refine wp_iald rfl rfl (by omega) (by decide) ?_
    rw [hgl]
    refine wp_go (f' := (19, [.ref 21, .int (nI s), .int (nI (itN (spS g s) k (2 ^ low s))), .int (nI k), d4], [.int ((nI (g (itN (spS g s) k (2 ^ low s)))) &&& (nI s)), .int (nI (itN (spS g s) k (2 ^ low s)))], MW A B F sw, 0, 0)) 2 rfl ?_
    rw [bx_and]
    refine wp_go (f' := (20, [.ref 21, .int (nI s), .int (nI (itN (spS g s) k (2 ^ low s))), .int (nI k), d4], [.int ((nI (itN (spS g s) k (2 ^ low s))) ||| (nI ((g (itN (spS g s) k (2 ^ low s))) &&& s)))], MW A B F sw, 0, 0)) 1 rfl ?_
    rw [bx_or]
    refine wp_go (f' := ((if ¬ (nI ((itN (spS g s) k (2 ^ low s)) ||| ((g (itN (spS g s) k (2 ^ low s))) &&& s))) = (nI (itN (spS g s) k (2 ^ low s))) then 31 else 28), [.ref 21, .int (nI s), .int (nI (itN (spS g s) k (2 ^ low s))), .int (nI k), .int (nI ((itN (spS g s) k (2 ^ low s)) ||| ((g (itN (spS g s) k (2 ^ low s))) &&& s)))], [], MW A B F sw, 0, 0)) 4 rfl ?_
    refine wp_ite (fun h2 => ?_) (fun h2 => ?_)
    · have h2 : ¬ ((itN (spS g s) k (2 ^ low s)) ||| ((g (itN (spS g s) k (2 ^ low s))) &&& s) = itN (spS g s) k (2 ^ low s)) := fun h9 => h2 ((nI_eq (a := (itN (spS g s) k (2 ^ low s)) ||| ((g (itN (spS g s) k (2 ^ low s))) &&& s)) (b := itN (spS g s) k (2 ^ low s)) (by omega) (by omega)).mpr h9)
      refine wp_go (f' := (37, [.ref 21, .int (nI s), .int (nI ((itN (spS g s) k (2 ^ low s)) ||| ((g (itN (spS g s) k (2 ^ low s))) &&& s))), .int ((nI k) + 1), .int (nI ((itN (spS g s) k (2 ^ low s)) ||| ((g (itN (spS g s) k (2 ^ low s))) &&& s)))], [], MW A B F sw, 0, 0)) 3 rfl ?_
      rw [nI_1]
      refine wp_go (f' := (7, [.ref 21, .int (nI s), .int (nI ((itN (spS g s) k (2 ^ low s)) ||| ((g (itN (spS g s) k (2 ^ low s))) &&& s))), .int (nI (k + 1)), .int (nI ((itN (spS g s) k (2 ^ low s)) ||| ((g (itN (spS g s) k (2 ^ low s))) &&& s)))], [], MW A B F sw, 0, 0)) 1 rfl ?_
      exact ih (k + 1) (by omega) (by omega) (.int (nI ((itN (spS g s) k (2 ^ low s)) ||| ((g (itN (spS g s) k (2 ^ low s))) &&& s))))
    · have h2 := Classical.not_not.mp h2; have h2 : (itN (spS g s) k (2 ^ low s)) ||| ((g (itN (spS g s) k (2 ^ low s))) &&& s) = itN (spS g s) k (2 ^ low s) := (nI_eq (a := (itN (spS g s) k (2 ^ low s)) ||| ((g (itN (spS g s) k (2 ^ low s))) &&& s)) (b := itN (spS g s) k (2 ^ low s)) (by omega) (by omega)).mp h2
      refine wp_go (f' := (41, [.ref 21, .int (nI s), .int (nI (itN (spS g s) k (2 ^ low s))), .int (nI k), .int (nI ((itN (spS g s) k (2 ^ low s)) ||| ((g (itN (spS g s) k (2 ^ low s))) &&& s)))], [.int (nI (itN (spS g s) k (2 ^ low s)))], MW A B F sw, 0, 0)) 2 rfl ?_
      rw [show spN g s = (itN (spS g s) k (2 ^ low s)) from itN_fix2 h2 10 (by omega)]
      exact wp_iret rfl
end CC
end
section
/-! the class's rows over all sets, by the set without its lowest vertex -/
def lowF (g : Nat → Nat → Nat) : Nat → Nat → Nat
  | 0, _ => 0
  | f + 1, s => if s = 0 then 0 else g s (lowF g f (s &&& (s - 1)))
def lowN (g : Nat → Nat → Nat) (s : Nat) : Nat := lowF g 1024 s
theorem lowF_succ (g : Nat → Nat → Nat) (f s : Nat) : lowF g (f + 1) s = if s = 0 then 0 else g s (lowF g f (s &&& (s - 1))) := rfl
theorem lowF_fuel {g : Nat → Nat → Nat} : ∀ (f m s : Nat), s ≤ f → s ≤ m → lowF g f s = lowF g m s
  | 0, 0, s, h1, h2 => rfl
  | 0, m + 1, s, h1, h2 => by
    have : s = 0 := by omega
    subst this; simp [lowF]
  | f + 1, 0, s, h1, h2 => by
    have : s = 0 := by omega
    subst this; simp [lowF]
  | f + 1, m + 1, s, h1, h2 => by
    rw [lowF_succ, lowF_succ]
    by_cases h : s = 0
    · rw [if_pos h, if_pos h]
    · rw [if_neg h, if_neg h]
      have : s &&& (s - 1) ≤ s - 1 := Nat.and_le_right
      rw [lowF_fuel f m _ (by omega) (by omega)]
theorem lowN_0 (g : Nat → Nat → Nat) : lowN g 0 = 0 := by
  unfold lowN
  rw [show (1024 : Nat) = 1023 + 1 from rfl, lowF_succ]
  exact if_pos rfl
theorem lowN_s {g : Nat → Nat → Nat} {s : Nat} (hs : s < 1024) (h0 : ¬ s = 0) : lowN g s = g s (lowN g (s &&& (s - 1))) := by
  have : s &&& (s - 1) ≤ s - 1 := Nat.and_le_right
  unfold lowN
  rw [show lowF g 1024 s = lowF g (1023 + 1) s from rfl, lowF_succ, if_neg h0, lowF_fuel 1023 1024 _ (by omega) (by omega)]
/-- all that some vertex of s is linked to -/
def rcN (nb : Nat → Nat) (s : Nat) : Nat := lowN (fun s r => r ||| nb (low s)) s
/-- the edges within s -/
def inN (nb : Nat → Nat) (s : Nat) : Nat := lowN (fun s r => r + pop (nb (low s) &&& (s &&& (s - 1)))) s
/-- the part of s that its lowest vertex is in -/
def pcN (nb : Nat → Nat) (s : Nat) : Nat := if s = 0 then 0 else spN (rcN nb) s
theorem rc_s {nb : Nat → Nat} {s : Nat} (hs : s < 1024) (h0 : ¬ s = 0) : rcN nb s = rcN nb (s &&& (s - 1)) ||| nb (low s) := lowN_s hs h0
theorem in_s {nb : Nat → Nat} {s : Nat} (hs : s < 1024) (h0 : ¬ s = 0) : inN nb s = inN nb (s &&& (s - 1)) + pop (nb (low s) &&& (s &&& (s - 1))) := lowN_s hs h0
/-- a row whose first N places are told -/
def rowT (T : Nat → Nat) (N : Nat) (g : Nat → Int32) : Nat → Int32 := fun j => if j < N then nI (T j) else g j
theorem rowT_at {T : Nat → Nat} {N : Nat} {g : Nat → Int32} {j : Nat} (h : j < N) : rowT T N g j = nI (T j) := if_pos h
theorem rowT_s {T : Nat → Nat} {N : Nat} {g : Nat → Int32} : upd (rowT T N g) N (nI (T N)) = rowT T (N + 1) g := by
  funext j
  unfold upd rowT
  by_cases h : j = N
  · subst h; simp
  · by_cases h2 : j < N
    · simp [h, h2, show j < N + 1 by omega]
    · simp [h, h2, show ¬ j < N + 1 by omega]
theorem rowT_1 {T : Nat → Nat} {g : Nat → Int32} (h : g 0 = nI (T 0)) : rowT T 1 g = g := by
  funext j
  unfold rowT
  by_cases h0 : j < 1
  · have : j = 0 := by omega
    subst this; rw [if_pos h0, h]
  · rw [if_neg h0]
/-- the first place of each row, never written -/
def CZ (A : Nat → Nat → Int32) : Prop := A 4 0 = nI 0 ∧ A 5 0 = nI 0 ∧ A 6 0 = nI 0
section CC
variable {xs : Nat → Int32} {Ls : Nat} {A : Nat → Nat → Int32} {B : Nat → Nat → Int64} {F : Nat → Int32} {sw : Bool} {n : Nat} {nb : Nat → Nat}
theorem ev_rows0 (heq : F 3 = F 2) : mv_Ev xs Ls 3 17 [.ref 1] (MW A B F sw) (none, MW A B F sw, 0, 0) := by
  refine ev_of_wp rfl rfl rfl ?_
  refine wp_go (f' := ((if ¬ (F 3) = (F 2) then 12 else 11), [.ref 1, .retAddr 0, .retAddr 0, .retAddr 0, .retAddr 0], [], MW A B F sw, 0, 0)) 5 rfl ?_
  refine wp_ite (fun h9 => absurd h9 (fun h8 => h8 heq)) (fun _ => ?_)
  exact wp_vret rfl
theorem ev_rows (hC : CI A F n nb) (hZ : CZ A) (heq : ¬ F 3 = F 2) : mv_Ev xs Ls 3 17 [.ref 1] (MW A B F sw) (none, MW (upA (upA (upA A 4 (rowT (rcN nb) (2 ^ n) (A 4))) 5 (rowT (inN nb) (2 ^ n) (A 5))) 6 (rowT (pcN nb) (2 ^ n) (A 6))) B (upF F 3 (F 2)) sw, 0, 0) := by
  refine ev_of_wp rfl rfl rfl ?_
  have hn := hC.1
  have hp := pow10 hn
  have hp1 : 1 ≤ 2 ^ n := Nat.one_le_two_pow
  have hal := all_lt hn
  refine wp_go (f' := ((if ¬ (F 3) = (F 2) then 12 else 11), [.ref 1, .retAddr 0, .retAddr 0, .retAddr 0, .retAddr 0], [], MW A B F sw, 0, 0)) 5 rfl ?_
  refine wp_ite (fun _ => ?_) (fun h9 => absurd heq h9)
  refine wp_go (f' := (21, [.ref 1, .retAddr 0, .retAddr 0, .retAddr 0, .retAddr 0], [.ref 1], MW A B (upF F 3 (F 2)) sw, 0, 0)) 5 rfl ?_
  refine wp_call rfl rfl rfl (ev_up (ev_gAll hC) (by decide)) ?_
  refine wp_eq (f' := (24, [.ref 1, .retAddr 0, .retAddr 0, .retAddr 0, .retAddr 0], [.int (nI (2 ^ n - 1))], MW A B (upF F 3 (F 2)) sw, 0, 0)) rfl ?_
  refine wp_go (f' := (27, [.ref 1, .int (nI (2 ^ n - 1)), .int (nI 1), .retAddr 0, .retAddr 0], [], MW A B (upF F 3 (F 2)) sw, 0, 0)) 3 rfl ?_
  refine wp_eq (f' := (27, [.ref 1, .int (nI (2 ^ n - 1)), .int (nI 1), .retAddr 0, .retAddr 0], [], MW (upA (upA (upA A 4 (A 4)) 5 (A 5)) 6 (A 6)) B (upF F 3 (F 2)) sw, 0, 0)) rfl ?_
  refine wp_eq (f' := (27, [.ref 1, .int (nI (2 ^ n - 1)), .int (nI 1), .retAddr 0, .retAddr 0], [], MW (upA (upA (upA A 4 (rowT (rcN nb) 1 (A 4))) 5 (rowT (inN nb) 1 (A 5))) 6 (rowT (pcN nb) 1 (A 6))) B (upF F 3 (F 2)) sw, 0, 0)) (by rw [rowT_1 (T := rcN nb) (g := A 4) (by rw [hZ.1]; unfold rcN; rw [lowN_0]), rowT_1 (T := inN nb) (g := A 5) (by rw [hZ.2.1]; unfold inN; rw [lowN_0]), rowT_1 (T := pcN nb) (g := A 6) (by rw [hZ.2.2]; rfl)]) ?_
  refine for_ind (P := fun (k : Nat) (_ : Unit) => ∀ d3 d4 : Value, mv_Wp xs Ls 2 2 false none mv_c17 (27, [.ref 1, .int (nI (2 ^ n - 1)), .int (nI (k + 1)), d3, d4], [], MW (upA (upA (upA A 4 (rowT (rcN nb) (k + 1) (A 4))) 5 (rowT (inN nb) (k + 1) (A 5))) 6 (rowT (pcN nb) (k + 1) (A 6))) B (upF F 3 (F 2)) sw, 0, 0) (none, MW (upA (upA (upA A 4 (rowT (rcN nb) (2 ^ n) (A 4))) 5 (rowT (inN nb) (2 ^ n) (A 5))) 6 (rowT (pcN nb) (2 ^ n) (A 6))) B (upF F 3 (F 2)) sw, 0, 0)) (f := fun _ a => a) (n := 2 ^ n - 1) ?_ (2 ^ n - 1) () (Nat.le_refl _) ?_ _ _
  · intro k _ hk ih d3 d4
    have hrl : (k + 1) &&& (k + 1 - 1) ≤ k + 1 - 1 := Nat.and_le_right
    refine wp_go (f' := ((if (nI (2 ^ n - 1)) < (nI (k + 1)) then 104 else 32), [.ref 1, .int (nI (2 ^ n - 1)), .int (nI (k + 1)), d3, d4], [], MW (upA (upA (upA A 4 (rowT (rcN nb) (k + 1) (A 4))) 5 (rowT (inN nb) (k + 1) (A 5))) 6 (rowT (pcN nb) (k + 1) (A 6))) B (upF F 3 (F 2)) sw, 0, 0)) 3 rfl ?_
    refine wp_ite (fun h9 => absurd h9 (nI_nlt (by omega) (by omega))) (fun _ => ?_)
    refine wp_go (f' := (36, [.ref 1, .int (nI (2 ^ n - 1)), .int (nI (k + 1)), d3, d4], [.int ((nI (k + 1)) - (nI 1)), .int (nI (k + 1))], MW (upA (upA (upA A 4 (rowT (rcN nb) (k + 1) (A 4))) 5 (rowT (inN nb) (k + 1) (A 5))) 6 (rowT (pcN nb) (k + 1) (A 6))) B (upF F 3 (F 2)) sw, 0, 0)) 4 rfl ?_
    rw [pk_sub (by omega)]
    refine wp_go (f' := (37, [.ref 1, .int (nI (2 ^ n - 1)), .int (nI (k + 1)), d3, d4], [.int ((nI (k + 1)) &&& (nI ((k + 1) - 1)))], MW (upA (upA (upA A 4 (rowT (rcN nb) (k + 1) (A 4))) 5 (rowT (inN nb) (k + 1) (A 5))) 6 (rowT (pcN nb) (k + 1) (A 6))) B (upF F 3 (F 2)) sw, 0, 0)) 1 rfl ?_
    rw [bx_and]
    refine wp_go (f' := (43, [.ref 1, .int (nI (2 ^ n - 1)), .int (nI (k + 1)), .int (nI ((k + 1) &&& ((k + 1) - 1))), d4], [.int (nI (k + 1)), .ref 2], MW (upA (upA (upA A 4 (rowT (rcN nb) (k + 1) (A 4))) 5 (rowT (inN nb) (k + 1) (A 5))) 6 (rowT (pcN nb) (k + 1) (A 6))) B (upF F 3 (F 2)) sw, 0, 0)) 4 rfl ?_
    refine wp_call rfl rfl rfl (ev_up (ev_low (s := k + 1) (by omega) (by omega) _) (by decide)) ?_
    refine wp_eq (f' := (46, [.ref 1, .int (nI (2 ^ n - 1)), .int (nI (k + 1)), .int (nI ((k + 1) &&& ((k + 1) - 1))), d4], [.int (nI (low (k + 1))), .ref 2], MW (upA (upA (upA A 4 (rowT (rcN nb) (k + 1) (A 4))) 5 (rowT (inN nb) (k + 1) (A 5))) 6 (rowT (pcN nb) (k + 1) (A 6))) B (upF F 3 (F 2)) sw, 0, 0)) rfl ?_
    have hlw := low_lt (s := k + 1) (by omega) (by omega)
    have hnl := hC.2.2.2 (low (k + 1)) (by omega)
    have hb9 : nb (low (k + 1)) &&& ((k + 1) &&& (k + 1 - 1)) < 1024 := and_lt (by omega)
    refine wp_iald rfl rfl (by omega) (by decide) ?_
    refine wp_eq (f' := (47, [.ref 1, .int (nI (2 ^ n - 1)), .int (nI (k + 1)), .int (nI ((k + 1) &&& ((k + 1) - 1))), d4], [.int ((A 2) (low (k + 1)))], MW (upA (upA (upA A 4 (rowT (rcN nb) (k + 1) (A 4))) 5 (rowT (inN nb) (k + 1) (A 5))) 6 (rowT (pcN nb) (k + 1) (A 6))) B (upF F 3 (F 2)) sw, 0, 0)) rfl ?_
    rw [hC.2.2.1 (low (k + 1)) (by omega)]
    have hnb := hC.2.2.2 (low (k + 1)) (by omega)
    refine wp_go (f' := (59, [.ref 1, .int (nI (2 ^ n - 1)), .int (nI (k + 1)), .int (nI ((k + 1) &&& ((k + 1) - 1))), .int (nI (nb (low (k + 1))))], [.int (nI ((k + 1) &&& ((k + 1) - 1))), .ref 4, .int (nI (k + 1)), .ref 4], MW (upA (upA (upA A 4 (rowT (rcN nb) (k + 1) (A 4))) 5 (rowT (inN nb) (k + 1) (A 5))) 6 (rowT (pcN nb) (k + 1) (A 6))) B (upF F 3 (F 2)) sw, 0, 0)) 7 rfl ?_
    refine wp_iald rfl rfl (by omega) (by decide) ?_
    refine wp_eq (f' := (60, [.ref 1, .int (nI (2 ^ n - 1)), .int (nI (k + 1)), .int (nI ((k + 1) &&& ((k + 1) - 1))), .int (nI (nb (low (k + 1))))], [.int ((rowT (rcN nb) (k + 1) (A 4)) ((k + 1) &&& ((k + 1) - 1))), .int (nI (k + 1)), .ref 4], MW (upA (upA (upA A 4 (rowT (rcN nb) (k + 1) (A 4))) 5 (rowT (inN nb) (k + 1) (A 5))) 6 (rowT (pcN nb) (k + 1) (A 6))) B (upF F 3 (F 2)) sw, 0, 0)) rfl ?_
    rw [rowT_at (by omega)]
    refine wp_go (f' := (63, [.ref 1, .int (nI (2 ^ n - 1)), .int (nI (k + 1)), .int (nI ((k + 1) &&& ((k + 1) - 1))), .int (nI (nb (low (k + 1))))], [.int ((nI (rcN nb ((k + 1) &&& ((k + 1) - 1)))) ||| (nI (nb (low (k + 1))))), .int (nI (k + 1)), .ref 4], MW (upA (upA (upA A 4 (rowT (rcN nb) (k + 1) (A 4))) 5 (rowT (inN nb) (k + 1) (A 5))) 6 (rowT (pcN nb) (k + 1) (A 6))) B (upF F 3 (F 2)) sw, 0, 0)) 2 rfl ?_
    rw [bx_or]
    rw [← rc_s (s := k + 1) (by omega) (by omega)]
    refine wp_iast rfl rfl (by omega) (by decide) ?_
    refine wp_eq (f' := (64, [.ref 1, .int (nI (2 ^ n - 1)), .int (nI (k + 1)), .int (nI ((k + 1) &&& ((k + 1) - 1))), .int (nI (nb (low (k + 1))))], [], MW (upA (upA (upA A 5 (rowT (inN nb) (k + 1) (A 5))) 6 (rowT (pcN nb) (k + 1) (A 6))) 4 (upd (rowT (rcN nb) (k + 1) (A 4)) (k + 1) (nI (rcN nb (k + 1))))) B (upF F 3 (F 2)) sw, 0, 0)) rfl ?_
    rw [rowT_s]
    refine wp_go (f' := (74, [.ref 1, .int (nI (2 ^ n - 1)), .int (nI (k + 1)), .int (nI ((k + 1) &&& ((k + 1) - 1))), .int (nI (nb (low (k + 1))))], [.int (nI ((k + 1) &&& ((k + 1) - 1))), .ref 5, .int (nI (k + 1)), .ref 5], MW (upA (upA (upA A 5 (rowT (inN nb) (k + 1) (A 5))) 6 (rowT (pcN nb) (k + 1) (A 6))) 4 (rowT (rcN nb) (k + 1 + 1) (A 4))) B (upF F 3 (F 2)) sw, 0, 0)) 6 rfl ?_
    refine wp_iald rfl rfl (by omega) (by decide) ?_
    refine wp_eq (f' := (75, [.ref 1, .int (nI (2 ^ n - 1)), .int (nI (k + 1)), .int (nI ((k + 1) &&& ((k + 1) - 1))), .int (nI (nb (low (k + 1))))], [.int ((rowT (inN nb) (k + 1) (A 5)) ((k + 1) &&& ((k + 1) - 1))), .int (nI (k + 1)), .ref 5], MW (upA (upA (upA A 5 (rowT (inN nb) (k + 1) (A 5))) 6 (rowT (pcN nb) (k + 1) (A 6))) 4 (rowT (rcN nb) (k + 1 + 1) (A 4))) B (upF F 3 (F 2)) sw, 0, 0)) rfl ?_
    rw [rowT_at (by omega)]
    refine wp_go (f' := (79, [.ref 1, .int (nI (2 ^ n - 1)), .int (nI (k + 1)), .int (nI ((k + 1) &&& ((k + 1) - 1))), .int (nI (nb (low (k + 1))))], [.int ((nI (nb (low (k + 1)))) &&& (nI ((k + 1) &&& ((k + 1) - 1)))), .int (nI (inN nb ((k + 1) &&& ((k + 1) - 1)))), .int (nI (k + 1)), .ref 5], MW (upA (upA (upA A 5 (rowT (inN nb) (k + 1) (A 5))) 6 (rowT (pcN nb) (k + 1) (A 6))) 4 (rowT (rcN nb) (k + 1 + 1) (A 4))) B (upF F 3 (F 2)) sw, 0, 0)) 3 rfl ?_
    rw [bx_and]
    refine wp_call rfl rfl rfl (ev_up (ev_bitCount (s := (nb (low (k + 1))) &&& ((k + 1) &&& ((k + 1) - 1))) (by omega) _) (by decide)) ?_
    refine wp_eq (f' := (82, [.ref 1, .int (nI (2 ^ n - 1)), .int (nI (k + 1)), .int (nI ((k + 1) &&& ((k + 1) - 1))), .int (nI (nb (low (k + 1))))], [.int (nI (pop ((nb (low (k + 1))) &&& ((k + 1) &&& ((k + 1) - 1))))), .int (nI (inN nb ((k + 1) &&& ((k + 1) - 1)))), .int (nI (k + 1)), .ref 5], MW (upA (upA (upA A 5 (rowT (inN nb) (k + 1) (A 5))) 6 (rowT (pcN nb) (k + 1) (A 6))) 4 (rowT (rcN nb) (k + 1 + 1) (A 4))) B (upF F 3 (F 2)) sw, 0, 0)) rfl ?_
    have hpp := pop_le (s := (nb (low (k + 1))) &&& ((k + 1) &&& ((k + 1) - 1))) (by omega)
    refine wp_go (f' := (83, [.ref 1, .int (nI (2 ^ n - 1)), .int (nI (k + 1)), .int (nI ((k + 1) &&& ((k + 1) - 1))), .int (nI (nb (low (k + 1))))], [.int ((nI (inN nb ((k + 1) &&& ((k + 1) - 1)))) + (nI (pop ((nb (low (k + 1))) &&& ((k + 1) &&& ((k + 1) - 1)))))), .int (nI (k + 1)), .ref 5], MW (upA (upA (upA A 5 (rowT (inN nb) (k + 1) (A 5))) 6 (rowT (pcN nb) (k + 1) (A 6))) 4 (rowT (rcN nb) (k + 1 + 1) (A 4))) B (upF F 3 (F 2)) sw, 0, 0)) 1 rfl ?_
    rw [nI_add]
    rw [← in_s (s := k + 1) (by omega) (by omega)]
    refine wp_iast rfl rfl (by omega) (by decide) ?_
    refine wp_eq (f' := (84, [.ref 1, .int (nI (2 ^ n - 1)), .int (nI (k + 1)), .int (nI ((k + 1) &&& ((k + 1) - 1))), .int (nI (nb (low (k + 1))))], [], MW (upA (upA (upA A 6 (rowT (pcN nb) (k + 1) (A 6))) 4 (rowT (rcN nb) (k + 1 + 1) (A 4))) 5 (upd (rowT (inN nb) (k + 1) (A 5)) (k + 1) (nI (inN nb (k + 1))))) B (upF F 3 (F 2)) sw, 0, 0)) rfl ?_
    rw [rowT_s]
    refine wp_go (f' := (94, [.ref 1, .int (nI (2 ^ n - 1)), .int (nI (k + 1)), .int (nI ((k + 1) &&& ((k + 1) - 1))), .int (nI (nb (low (k + 1))))], [.int (nI (k + 1)), .ref 4, .int (nI (k + 1)), .ref 6], MW (upA (upA (upA A 6 (rowT (pcN nb) (k + 1) (A 6))) 4 (rowT (rcN nb) (k + 1 + 1) (A 4))) 5 (rowT (inN nb) (k + 1 + 1) (A 5))) B (upF F 3 (F 2)) sw, 0, 0)) 6 rfl ?_
    refine wp_call rfl rfl rfl (ev_up (ev_spread4 (g := rcN nb) (s := k + 1) (by omega) (by omega) (fun t ht => rowT_at (by omega))) (by decide)) ?_
    refine wp_eq (f' := (97, [.ref 1, .int (nI (2 ^ n - 1)), .int (nI (k + 1)), .int (nI ((k + 1) &&& ((k + 1) - 1))), .int (nI (nb (low (k + 1))))], [.int (nI (pcN nb (k + 1))), .int (nI (k + 1)), .ref 6], MW (upA (upA (upA A 6 (rowT (pcN nb) (k + 1) (A 6))) 4 (rowT (rcN nb) (k + 1 + 1) (A 4))) 5 (rowT (inN nb) (k + 1 + 1) (A 5))) B (upF F 3 (F 2)) sw, 0, 0)) rfl ?_
    refine wp_iast rfl rfl (by omega) (by decide) ?_
    refine wp_eq (f' := (98, [.ref 1, .int (nI (2 ^ n - 1)), .int (nI (k + 1)), .int (nI ((k + 1) &&& ((k + 1) - 1))), .int (nI (nb (low (k + 1))))], [], MW (upA (upA (upA A 4 (rowT (rcN nb) (k + 1 + 1) (A 4))) 5 (rowT (inN nb) (k + 1 + 1) (A 5))) 6 (upd (rowT (pcN nb) (k + 1) (A 6)) (k + 1) (nI (pcN nb (k + 1))))) B (upF F 3 (F 2)) sw, 0, 0)) rfl ?_
    rw [rowT_s]
    refine wp_go (f' := (101, [.ref 1, .int (nI (2 ^ n - 1)), .int ((nI (k + 1)) + 1), .int (nI ((k + 1) &&& ((k + 1) - 1))), .int (nI (nb (low (k + 1))))], [], MW (upA (upA (upA A 4 (rowT (rcN nb) (k + 1 + 1) (A 4))) 5 (rowT (inN nb) (k + 1 + 1) (A 5))) 6 (rowT (pcN nb) (k + 1 + 1) (A 6))) B (upF F 3 (F 2)) sw, 0, 0)) 1 rfl ?_
    rw [nI_1]
    refine wp_go (f' := (27, [.ref 1, .int (nI (2 ^ n - 1)), .int (nI ((k + 1) + 1)), .int (nI ((k + 1) &&& ((k + 1) - 1))), .int (nI (nb (low (k + 1))))], [], MW (upA (upA (upA A 4 (rowT (rcN nb) (k + 1 + 1) (A 4))) 5 (rowT (inN nb) (k + 1 + 1) (A 5))) 6 (rowT (pcN nb) (k + 1 + 1) (A 6))) B (upF F 3 (F 2)) sw, 0, 0)) 1 rfl ?_
    exact ih (.int (nI ((k + 1) &&& ((k + 1) - 1)))) (.int (nI (nb (low (k + 1)))))
  · intro d3 d4
    have e9 : 2 ^ n - 1 + 1 = 2 ^ n := by omega
    rw [e9]
    refine wp_go (f' := ((if (nI (2 ^ n - 1)) < (nI (2 ^ n)) then 104 else 32), [.ref 1, .int (nI (2 ^ n - 1)), .int (nI (2 ^ n)), d3, d4], [], MW (upA (upA (upA A 4 (rowT (rcN nb) (2 ^ n) (A 4))) 5 (rowT (inN nb) (2 ^ n) (A 5))) 6 (rowT (pcN nb) (2 ^ n) (A 6))) B (upF F 3 (F 2)) sw, 0, 0)) 3 rfl ?_
    refine wp_ite (fun _ => ?_) (fun h9 => absurd (nI_lt (by omega) (by omega)) h9)
    exact wp_vret rfl
end CC
end
section
/-- the rows stand -/
def RI (A : Nat → Nat → Int32) (n : Nat) (nb : Nat → Nat) : Prop := ∀ s, s < 2 ^ n → A 4 s = nI (rcN nb s) ∧ A 5 s = nI (inN nb s) ∧ A 6 s = nI (pcN nb s)
theorem pc_sub {nb : Nat → Nat} {s : Nat} (hs : s < 1024) {i : Nat} (h : (pcN nb s).testBit i = true) : s.testBit i = true := by
  unfold pcN at h
  split at h
  · simp at h
  · rename_i h0; exact sp_sub hs h0 10 i h
theorem pc_le {nb : Nat → Nat} {s : Nat} (hs : s < 1024) : pcN nb s ≤ s := sub_le (fun _ h => pc_sub hs h)
theorem rc_lt {nb : Nat → Nat} (hb : ∀ v, v < 10 → nb v < 1024) : ∀ s, s < 1024 → rcN nb s < 1024 := by
  refine wh_ind (P := fun s => s < 1024 → rcN nb s < 1024) (fun s => s) (fun s ih hs => ?_)
  by_cases h0 : s = 0
  · subst h0; unfold rcN; rw [lowN_0]; decide
  · have h1 : s &&& (s - 1) ≤ s - 1 := Nat.and_le_right
    rw [rc_s hs h0]
    exact or_lt (ih _ (by omega) (by omega)) (hb _ (low_lt hs h0))
/-- part after part of t, by their lowest vertices -/
def pieF (nb : Nat → Nat) (g : Nat → Nat → Nat) : Nat → Nat → Nat → Nat
  | 0, _, m => m
  | f + 1, t, m => if t = 0 then m else pieF nb g f (sd (t &&& (t - 1)) (pcN nb t)) (g t m)
def pieN (nb : Nat → Nat) (g : Nat → Nat → Nat) (t m : Nat) : Nat := pieF nb g 1024 t m
theorem pieF_succ (nb : Nat → Nat) (g : Nat → Nat → Nat) (f t m : Nat) : pieF nb g (f + 1) t m = if t = 0 then m else pieF nb g f (sd (t &&& (t - 1)) (pcN nb t)) (g t m) := rfl
theorem pie_less {nb : Nat → Nat} {t : Nat} (h0 : ¬ t = 0) : sd (t &&& (t - 1)) (pcN nb t) < t := by
  have h1 : t &&& (t - 1) ≤ t - 1 := Nat.and_le_right
  have h2 := sd_le (a := t &&& (t - 1)) (b := pcN nb t)
  omega
theorem pieF_fuel {nb : Nat → Nat} {g : Nat → Nat → Nat} : ∀ (f k t m : Nat), t ≤ f → t ≤ k → pieF nb g f t m = pieF nb g k t m
  | 0, 0, t, m, h1, h2 => rfl
  | 0, k + 1, t, m, h1, h2 => by
    have : t = 0 := by omega
    subst this; simp [pieF]
  | f + 1, 0, t, m, h1, h2 => by
    have : t = 0 := by omega
    subst this; simp [pieF]
  | f + 1, k + 1, t, m, h1, h2 => by
    rw [pieF_succ, pieF_succ]
    by_cases h : t = 0
    · rw [if_pos h, if_pos h]
    · rw [if_neg h, if_neg h]
      have := pie_less (nb := nb) h
      exact pieF_fuel f k _ _ (by omega) (by omega)
theorem pieN_0 (nb : Nat → Nat) (g : Nat → Nat → Nat) (m : Nat) : pieN nb g 0 m = m := by
  unfold pieN
  rw [show (1024 : Nat) = 1023 + 1 from rfl, pieF_succ]
  exact if_pos rfl
theorem pieN_s {nb : Nat → Nat} {g : Nat → Nat → Nat} {t m : Nat} (ht : t < 1024) (h0 : ¬ t = 0) : pieN nb g t m = pieN nb g (sd (t &&& (t - 1)) (pcN nb t)) (g t m) := by
  have := pie_less (nb := nb) h0
  unfold pieN
  rw [show pieF nb g 1024 t m = pieF nb g (1023 + 1) t m from rfl, pieF_succ, if_neg h0]
  exact pieF_fuel 1023 1024 _ _ (by omega) (by omega)
theorem pie_ind {P : Nat → Nat → Prop} {nb : Nat → Nat} {g : Nat → Nat → Nat} {N : Nat} (hN : N ≤ 1024) (hs : ∀ t m, t < N → ¬ t = 0 → P (sd (t &&& (t - 1)) (pcN nb t)) (g t m) → P t m) : ∀ (t : Nat) (m : Nat), t < N → P 0 (pieN nb g t m) → P t m := by
  refine wh_ind (P := fun t => ∀ m, t < N → P 0 (pieN nb g t m) → P t m) (fun t => t) (fun t ih m ht h => ?_)
  by_cases h0 : t = 0
  · subst h0; rw [pieN_0] at h; exact h
  · have h2 := pie_less (nb := nb) h0
    rw [pieN_s (by omega) h0] at h
    exact hs t m ht h0 (ih _ h2 _ (by omega) h)
/-- the class's touched -/
def tchN (nb : Nat → Nat) (ahead v : Nat) : Nat := pieN nb (fun t m => if (rcN nb (pcN nb t)).testBit v then m ||| pcN nb t else m) ahead 0
/-- the class's seesPast -/
def pastN (nb : Nat → Nat) (ahead v : Nat) : Nat := sd (sd (nb v ||| rcN nb (tchN nb ahead v)) ahead) (2 ^ v)
theorem pie_inv {nb : Nat → Nat} {g : Nat → Nat → Nat} {I : Nat → Prop} {N : Nat} (hN : N ≤ 1024) (hs : ∀ t m, t < N → I m → I (g t m)) {t m : Nat} (ht : t < N) (h : I m) : I (pieN nb g t m) := by
  have := pie_ind (P := fun t m => I m → t < N → I (pieN nb g t m)) (nb := nb) (g := g) hN (fun t m ht h0 ih hm ht2 => by rw [pieN_s (by omega) h0]; exact ih (hs t m ht hm) (by have := pie_less (nb := nb) h0; omega)) t m ht
  refine this (fun hm _ => by rw [pieN_0]; exact hm) h ht
theorem tch_lt {nb : Nat → Nat} {n ahead v : Nat} (hn : n ≤ 10) (ha : ahead < 2 ^ n) : tchN nb ahead v < 2 ^ n := by
  have hp := pow10 hn
  refine pie_inv (I := fun m => m < 2 ^ n) hp (fun t m ht hm => ?_) ha (Nat.pos_of_ne_zero (by have : 1 ≤ 2 ^ n := Nat.one_le_two_pow; omega))
  split
  · exact Nat.or_lt_two_pow hm (Nat.lt_of_le_of_lt (pc_le (by omega)) ht)
  · exact hm
section CC
variable {xs : Nat → Int32} {Ls : Nat} {A : Nat → Nat → Int32} {B : Nat → Nat → Int64} {F : Nat → Int32} {sw : Bool} {n : Nat} {nb : Nat → Nat}
theorem ev_gHangs (hC : CI A F n nb) (hR : RI A n nb) {s : Nat} (hs : s < 2 ^ n) : mv_Ev xs Ls 1 27 [.ref 1, .int (nI s)] (MW A B F sw) (some (.int (bI (decide (pcN nb s = s)))), MW A B F sw, 0, 0) := by
  refine ev_of_wp rfl rfl rfl ?_
  have hn := hC.1
  have hp := pow10 hn
  have hp1 : 1 ≤ 2 ^ n := Nat.one_le_two_pow
  have hal := all_lt hn
  refine wp_go (f' := (5, [.ref 1, .int (nI s)], [.int (nI s), .ref 6], MW A B F sw, 0, 0)) 3 rfl ?_
  refine wp_iald rfl rfl (by omega) (by decide) ?_
  rw [(hR s (by omega)).2.2]
  have hpcl := pc_le (nb := nb) (s := s) (by omega)
  refine wp_go (f' := ((if ¬ (nI (pcN nb s)) = (nI s) then 14 else 10), [.ref 1, .int (nI s)], [], MW A B F sw, 0, 0)) 2 rfl ?_
  refine wp_ite (fun h1 => ?_) (fun h1 => ?_)
  · have h1 : ¬ (pcN nb s = s) := fun h9 => h1 ((nI_eq (a := pcN nb s) (b := s) (by omega) (by omega)).mpr h9)
    refine wp_go (f' := (15, [.ref 1, .int (nI s)], [.int (nI 0)], MW A B F sw, 0, 0)) 1 rfl ?_
    rw [show bI (decide (pcN nb s = s)) = nI 0 by simp [h1, bIT, bIF, nI1, nI0]]
    exact wp_zret rfl (by first | exact Or.inl rfl | exact Or.inr rfl)
  · have h1 := Classical.not_not.mp h1; have h1 : pcN nb s = s := (nI_eq (a := pcN nb s) (b := s) (by omega) (by omega)).mp h1
    refine wp_go (f' := (15, [.ref 1, .int (nI s)], [.int (nI 1)], MW A B F sw, 0, 0)) 2 rfl ?_
    rw [show bI (decide (pcN nb s = s)) = nI 1 by simp [h1, bIT, bIF, nI1, nI0]]
    exact wp_zret rfl (by first | exact Or.inl rfl | exact Or.inr rfl)
theorem ev_gTouched (hC : CI A F n nb) (hR : RI A n nb) {s v : Nat} (hs : s < 2 ^ n) (hv : v < 10) : mv_Ev xs Ls 1 36 [.ref 1, .int (nI s), .int (nI v)] (MW A B F sw) (some (.int (nI (tchN nb s v))), MW A B F sw, 0, 0) := by
  refine ev_of_wp rfl rfl rfl ?_
  have hn := hC.1
  have hp := pow10 hn
  have hp1 : 1 ≤ 2 ^ n := Nat.one_le_two_pow
  have hal := all_lt hn
  refine wp_go (f' := (5, [.ref 1, .int (nI s), .int (nI v), .int (nI 0), .int (nI s)], [], MW A B F sw, 0, 0)) 4 rfl ?_
  refine pie_ind (P := fun (t m : Nat) => mv_Wp xs Ls 0 2 false (some .int) mv_c36 (5, [.ref 1, .int (nI s), .int (nI v), .int (nI m), .int (nI t)], [], MW A B F sw, 0, 0) (some (.int (nI (tchN nb s v))), MW A B F sw, 0, 0)) (nb := nb) (g := fun t m => if (rcN nb (pcN nb t)).testBit v then m ||| pcN nb t else m) (N := 2 ^ n) hp ?_ s 0 hs ?_
  · intro t m ht ht0 ih
    have hla : t &&& (t - 1) < 1024 := and_lt (by omega)
    refine wp_go (f' := ((if (nI t) = 0 then 61 else 10), [.ref 1, .int (nI s), .int (nI v), .int (nI m), .int (nI t)], [], MW A B F sw, 0, 0)) 2 rfl ?_
    refine wp_ite (fun h9 => absurd h9 (fun h8 => ht0 ((nI_eq (a := t) (b := 0) (by omega) (by omega)).mp h8))) (fun _ => ?_)
    refine wp_go (f' := (20, [.ref 1, .int (nI s), .int (nI v), .int (nI m), .int (nI t)], [.int (nI t), .ref 6, .ref 4], MW A B F sw, 0, 0)) 5 rfl ?_
    refine wp_iald rfl rfl (by omega) (by decide) ?_
    rw [(hR t (by omega)).2.2]
    have hpcl := pc_le (nb := nb) (s := t) (by omega)
    refine wp_iald rfl rfl (by omega) (by decide) ?_
    rw [(hR (pcN nb t) (by omega)).1]
    have hrcl := rc_lt hC.2.2.2 (pcN nb t) (by omega)
    refine wp_go (f' := (26, [.ref 1, .int (nI s), .int (nI v), .int (nI m), .int (nI t)], [.int (((nI (rcN nb (pcN nb t))) >>> ((nI v) &&& 31)) &&& (nI 1))], MW A B F sw, 0, 0)) 4 rfl ?_
    rw [bx_bit (by omega) (by omega)]
    refine wp_go (f' := ((if (bI ((rcN nb (pcN nb t)).testBit v)) = 0 then 39 else 29), [.ref 1, .int (nI s), .int (nI v), .int (nI m), .int (nI t)], [], MW A B F sw, 0, 0)) 1 rfl ?_
    refine wp_ite (fun h1 => ?_) (fun h1 => ?_)
    · have h1 := bI_0.mp h1
      refine wp_go (f' := (45, [.ref 1, .int (nI s), .int (nI v), .int (nI m), .int (nI t)], [.int ((nI t) - (nI 1)), .int (nI t)], MW A B F sw, 0, 0)) 4 rfl ?_
      rw [pk_sub (by omega)]
      refine wp_go (f' := (46, [.ref 1, .int (nI s), .int (nI v), .int (nI m), .int (nI t)], [.int ((nI t) &&& (nI (t - 1)))], MW A B F sw, 0, 0)) 1 rfl ?_
      rw [bx_and]
      refine wp_go (f' := (52, [.ref 1, .int (nI s), .int (nI v), .int (nI m), .int (nI t)], [.int (nI t), .ref 6, .int (nI (t &&& (t - 1)))], MW A B F sw, 0, 0)) 3 rfl ?_
      refine wp_iald rfl rfl (by omega) (by decide) ?_
      rw [(hR t (by omega)).2.2]
      have hpcl := pc_le (nb := nb) (s := t) (by omega)
      refine wp_go (f' := (56, [.ref 1, .int (nI s), .int (nI v), .int (nI m), .int (nI t)], [.int ((nI (t &&& (t - 1))) &&& ((nI (pcN nb t)) ^^^ (-1)))], MW A B F sw, 0, 0)) 3 rfl ?_
      rw [bx_sd (by omega)]
      refine wp_go (f' := (5, [.ref 1, .int (nI s), .int (nI v), .int (nI m), .int (nI (sd (t &&& (t - 1)) (pcN nb t)))], [], MW A B F sw, 0, 0)) 2 rfl ?_
      refine wp_eq ?_ ih
      simp [h1]
    · have h1 := bI_n0 h1
      refine wp_go (f' := (36, [.ref 1, .int (nI s), .int (nI v), .int (nI m), .int (nI t)], [.int (nI t), .ref 6, .int (nI m)], MW A B F sw, 0, 0)) 4 rfl ?_
      refine wp_iald rfl rfl (by omega) (by decide) ?_
      rw [(hR t (by omega)).2.2]
      have hpcl := pc_le (nb := nb) (s := t) (by omega)
      refine wp_go (f' := (38, [.ref 1, .int (nI s), .int (nI v), .int (nI m), .int (nI t)], [.int ((nI m) ||| (nI (pcN nb t)))], MW A B F sw, 0, 0)) 1 rfl ?_
      rw [bx_or]
      refine wp_go (f' := (45, [.ref 1, .int (nI s), .int (nI v), .int (nI (m ||| (pcN nb t))), .int (nI t)], [.int ((nI t) - (nI 1)), .int (nI t)], MW A B F sw, 0, 0)) 5 rfl ?_
      rw [pk_sub (by omega)]
      refine wp_go (f' := (46, [.ref 1, .int (nI s), .int (nI v), .int (nI (m ||| (pcN nb t))), .int (nI t)], [.int ((nI t) &&& (nI (t - 1)))], MW A B F sw, 0, 0)) 1 rfl ?_
      rw [bx_and]
      refine wp_go (f' := (52, [.ref 1, .int (nI s), .int (nI v), .int (nI (m ||| (pcN nb t))), .int (nI t)], [.int (nI t), .ref 6, .int (nI (t &&& (t - 1)))], MW A B F sw, 0, 0)) 3 rfl ?_
      refine wp_iald rfl rfl (by omega) (by decide) ?_
      rw [(hR t (by omega)).2.2]
      have hpcl := pc_le (nb := nb) (s := t) (by omega)
      refine wp_go (f' := (56, [.ref 1, .int (nI s), .int (nI v), .int (nI (m ||| (pcN nb t))), .int (nI t)], [.int ((nI (t &&& (t - 1))) &&& ((nI (pcN nb t)) ^^^ (-1)))], MW A B F sw, 0, 0)) 3 rfl ?_
      rw [bx_sd (by omega)]
      refine wp_go (f' := (5, [.ref 1, .int (nI s), .int (nI v), .int (nI (m ||| (pcN nb t))), .int (nI (sd (t &&& (t - 1)) (pcN nb t)))], [], MW A B F sw, 0, 0)) 2 rfl ?_
      refine wp_eq ?_ ih
      simp [h1]
  · skip
    refine wp_go (f' := ((if (nI 0) = 0 then 61 else 10), [.ref 1, .int (nI s), .int (nI v), .int (nI (tchN nb s v)), .int (nI 0)], [], MW A B F sw, 0, 0)) 2 rfl ?_
    refine wp_ite (fun _ => ?_) (fun h9 => absurd (rfl : nI 0 = 0) h9)
    refine wp_go (f' := (62, [.ref 1, .int (nI s), .int (nI v), .int (nI (tchN nb s v)), .int (nI 0)], [.int (nI (tchN nb s v))], MW A B F sw, 0, 0)) 1 rfl ?_
    exact wp_iret rfl
theorem ev_gSees (hC : CI A F n nb) (hR : RI A n nb) {s v : Nat} (hs : s < 2 ^ n) (hv : v < 10) : mv_Ev xs Ls 2 35 [.ref 1, .int (nI s), .int (nI v)] (MW A B F sw) (some (.int (nI (pastN nb s v))), MW A B F sw, 0, 0) := by
  refine ev_of_wp rfl rfl rfl ?_
  have hn := hC.1
  have hp := pow10 hn
  have hp1 : 1 ≤ 2 ^ n := Nat.one_le_two_pow
  have hal := all_lt hn
  refine wp_go (f' := (5, [.ref 1, .int (nI s), .int (nI v)], [.int (nI v), .ref 2], MW A B F sw, 0, 0)) 3 rfl ?_
  refine wp_iald rfl rfl (by omega) (by decide) ?_
  rw [hC.2.2.1 v (by omega)]
  have hnb := hC.2.2.2 v (by omega)
  refine wp_go (f' := (13, [.ref 1, .int (nI s), .int (nI v)], [.int (nI v), .int (nI s), .ref 1, .ref 4, .int (nI (nb v))], MW A B F sw, 0, 0)) 5 rfl ?_
  refine wp_call rfl rfl rfl (ev_up (ev_gTouched hC hR (s := s) (v := v) (by omega) (by omega)) (by decide)) ?_
  refine wp_eq (f' := (16, [.ref 1, .int (nI s), .int (nI v)], [.int (nI (tchN nb s v)), .ref 4, .int (nI (nb v))], MW A B F sw, 0, 0)) rfl ?_
  have htl := tch_lt (nb := nb) (v := v) hn (ahead := s) (by omega)
  refine wp_iald rfl rfl (by omega) (by decide) ?_
  rw [(hR (tchN nb s v) (by omega)).1]
  have hrcl := rc_lt hC.2.2.2 (tchN nb s v) (by omega)
  refine wp_go (f' := (18, [.ref 1, .int (nI s), .int (nI v)], [.int ((nI (nb v)) ||| (nI (rcN nb (tchN nb s v))))], MW A B F sw, 0, 0)) 1 rfl ?_
  rw [bx_or]
  have hb1 : (nb v) ||| (rcN nb (tchN nb s v)) < 1024 := by first | omega | exact or_lt (by omega) (by omega) | exact and_lt (by omega) | exact and_lt_r (by omega) | exact sd_lt (by omega) | exact pow_lt (by omega)
  refine wp_go (f' := (22, [.ref 1, .int (nI s), .int (nI v)], [.int ((nI ((nb v) ||| (rcN nb (tchN nb s v)))) &&& ((nI s) ^^^ (-1)))], MW A B F sw, 0, 0)) 4 rfl ?_
  rw [bx_sd (by omega)]
  have hb2 : sd ((nb v) ||| (rcN nb (tchN nb s v))) s < 1024 := by first | omega | exact or_lt (by omega) (by omega) | exact and_lt (by omega) | exact and_lt_r (by omega) | exact sd_lt (by omega) | exact pow_lt (by omega)
  refine wp_go (f' := (25, [.ref 1, .int (nI s), .int (nI v)], [.int ((nI 1) <<< ((nI v) &&& 31)), .int (nI (sd ((nb v) ||| (rcN nb (tchN nb s v))) s))], MW A B F sw, 0, 0)) 3 rfl ?_
  rw [bx_one (by omega)]
  have hb3 : 2 ^ v < 1024 := by first | omega | exact or_lt (by omega) (by omega) | exact and_lt (by omega) | exact and_lt_r (by omega) | exact sd_lt (by omega) | exact pow_lt (by omega)
  refine wp_go (f' := (28, [.ref 1, .int (nI s), .int (nI v)], [.int ((nI (sd ((nb v) ||| (rcN nb (tchN nb s v))) s)) &&& ((nI (2 ^ v)) ^^^ (-1)))], MW A B F sw, 0, 0)) 3 rfl ?_
  rw [bx_sd (by omega)]
  have hb4 : sd (sd ((nb v) ||| (rcN nb (tchN nb s v))) s) (2 ^ v) < 1024 := by first | omega | exact or_lt (by omega) (by omega) | exact and_lt (by omega) | exact and_lt_r (by omega) | exact sd_lt (by omega) | exact pow_lt (by omega)
  exact wp_iret rfl
theorem bI_mul {b : Bool} {x : Nat} : bI b * nI x = nI (if b then x else 0) := by cases b <;> simp [bI, nI0]
theorem ev_gWeight (hC : CI A F n nb) {s : Nat} (hs : s < 1024) {wt : Nat → Nat} (hw : CWt A wt) : mv_Ev xs Ls 1 79 [.ref 1, .int (nI s)] (MW A B F sw) (some (.int (nI (weightN n wt s))), MW A B F sw, 0, 0) := by
  refine ev_of_wp rfl rfl rfl ?_
  have hn := hC.1
  have hp := pow10 hn
  have hp1 : 1 ≤ 2 ^ n := Nat.one_le_two_pow
  have hal := all_lt hn
  refine wp_go (f' := (4, [.ref 1, .int (nI s), .int (nI 0), .int (nI 0)], [], MW A B F sw, 0, 0)) 4 rfl ?_
  refine for_ind (P := fun (k : Nat) (m : Nat) => mv_Wp xs Ls 0 2 false (some .int) mv_c79 (4, [.ref 1, .int (nI s), .int (nI m), .int (nI k)], [], MW A B F sw, 0, 0) (some (.int (nI (weightN n wt s))), MW A B F sw, 0, 0)) (f := fun k m => m + (if s.testBit k then wt k else 0)) (n := n) ?_ n 0 (Nat.le_refl _) ?_
  · intro k m hk ih
    refine wp_go (f' := (9, [.ref 1, .int (nI s), .int (nI m), .int (nI k)], [.int (F 0), .int (nI k)], MW A B F sw, 0, 0)) 3 rfl ?_
    rw [hC.2.1]
    refine wp_go (f' := ((if (nI n) ≤ (nI k) then 33 else 12), [.ref 1, .int (nI s), .int (nI m), .int (nI k)], [], MW A B F sw, 0, 0)) 1 rfl ?_
    refine wp_ite (fun h9 => absurd h9 (nI_ge hk (by omega))) (fun _ => ?_)
    refine wp_go (f' := (18, [.ref 1, .int (nI s), .int (nI m), .int (nI k)], [.int (((nI s) >>> ((nI k) &&& 31)) &&& (nI 1)), .int (nI m)], MW A B F sw, 0, 0)) 6 rfl ?_
    rw [bx_bit (by omega) (by omega)]
    refine wp_go (f' := (23, [.ref 1, .int (nI s), .int (nI m), .int (nI k)], [.int (nI k), .ref 3, .int (bI (s.testBit k)), .int (nI m)], MW A B F sw, 0, 0)) 3 rfl ?_
    refine wp_iald rfl rfl (by omega) (by decide) ?_
    rw [(hw k (by omega)).1]
    refine wp_go (f' := (25, [.ref 1, .int (nI s), .int (nI m), .int (nI k)], [.int ((bI (s.testBit k)) * (nI (wt k))), .int (nI m)], MW A B F sw, 0, 0)) 1 rfl ?_
    rw [bI_mul]
    refine wp_go (f' := (26, [.ref 1, .int (nI s), .int (nI m), .int (nI k)], [.int ((nI m) + (nI (if s.testBit k then wt k else 0)))], MW A B F sw, 0, 0)) 1 rfl ?_
    rw [nI_add]
    refine wp_go (f' := (30, [.ref 1, .int (nI s), .int (nI (m + (if s.testBit k then wt k else 0))), .int ((nI k) + 1)], [], MW A B F sw, 0, 0)) 2 rfl ?_
    rw [nI_1]
    refine wp_go (f' := (4, [.ref 1, .int (nI s), .int (nI (m + (if s.testBit k then wt k else 0))), .int (nI (k + 1))], [], MW A B F sw, 0, 0)) 1 rfl ?_
    refine wp_eq ?_ ih
    simp []
  · skip
    refine wp_go (f' := (9, [.ref 1, .int (nI s), .int (nI (weightN n wt s)), .int (nI n)], [.int (F 0), .int (nI n)], MW A B F sw, 0, 0)) 3 rfl ?_
    rw [hC.2.1]
    refine wp_go (f' := ((if (nI n) ≤ (nI n) then 33 else 12), [.ref 1, .int (nI s), .int (nI (weightN n wt s)), .int (nI n)], [], MW A B F sw, 0, 0)) 1 rfl ?_
    refine wp_ite (fun _ => ?_) (fun h9 => absurd (nI_le (Nat.le_refl _) (by omega)) h9)
    refine wp_go (f' := (34, [.ref 1, .int (nI s), .int (nI (weightN n wt s)), .int (nI n)], [.int (nI (weightN n wt s))], MW A B F sw, 0, 0)) 1 rfl ?_
    exact wp_iret rfl
end CC
end
section
section CC
variable {xs : Nat → Int32} {Ls : Nat} {A : Nat → Nat → Int32} {B : Nat → Nat → Int64} {F : Nat → Int32} {sw : Bool} {n : Nat} {nb : Nat → Nat}
/-- after makeRows, whether or not it had to work, the rows stand -/
theorem ev_rows_any (hC : CI A F n nb) (hZ : CZ A) (hco : F 3 = F 2 → RI A n nb) : ∃ r4 r5 r6 : Nat → Int32, mv_Ev xs Ls 3 17 [.ref 1] (MW A B F sw) (none, MW (upA (upA (upA A 4 r4) 5 r5) 6 r6) B (upF F 3 (F 2)) sw, 0, 0) ∧ RI (upA (upA (upA A 4 r4) 5 r5) 6 r6) n nb ∧ CZ (upA (upA (upA A 4 r4) 5 r5) 6 r6) := by
  by_cases heq : F 3 = F 2
  · refine ⟨A 4, A 5, A 6, ?_, ?_, ?_⟩
    · rw [← heq]
      exact ev_rows0 heq
    · exact hco heq
    · exact hZ
  · refine ⟨_, _, _, ev_rows hC hZ heq, fun s hs => ⟨rowT_at hs, rowT_at hs, rowT_at hs⟩, ?_, ?_, ?_⟩
    · show rowT (rcN nb) (2 ^ n) (A 4) 0 = nI 0
      rw [rowT_at (Nat.pos_of_ne_zero (by have : 1 ≤ 2 ^ n := Nat.one_le_two_pow; omega))]; unfold rcN; rw [lowN_0]
    · show rowT (inN nb) (2 ^ n) (A 5) 0 = nI 0
      rw [rowT_at (Nat.pos_of_ne_zero (by have : 1 ≤ 2 ^ n := Nat.one_le_two_pow; omega))]; unfold inN; rw [lowN_0]
    · show rowT (pcN nb) (2 ^ n) (A 6) 0 = nI 0
      rw [rowT_at (Nat.pos_of_ne_zero (by have : 1 ≤ 2 ^ n := Nat.one_le_two_pow; omega))]; rfl
theorem ev_gStart (v : Int32) : mv_Ev xs Ls 1 7 [.ref 1, .int v] (MW A B F sw) (none, MW (upA (upA A 2 (cleared A 2 3).1) 3 (cleared A 2 3).2) B (upF (upF (upF F 0 v) 1 (nI 0)) 2 (F 2 + nI 1)) sw, 0, 0) := by
  refine ev_of_wp rfl rfl rfl ?_
  refine wp_go (f' := (22, [.ref 1, .int v, .int (nI 0)], [], MW A B (upF (upF (upF F 0 v) 1 (nI 0)) 2 ((F 2) + (nI 1))) sw, 0, 0)) 14 rfl ?_
  refine wp_eq (f' := (22, [.ref 1, .int v, .int (nI 0)], [], MW (upA (upA A 2 (A 2)) 3 (A 3)) B (upF (upF (upF F 0 v) 1 (nI 0)) 2 ((F 2) + (nI 1))) sw, 0, 0)) rfl ?_
  refine for_ind (P := fun (k : Nat) (q : (Nat → Int32) × (Nat → Int32)) => mv_Wp xs Ls 0 2 false none mv_c7 (22, [.ref 1, .int v, .int (nI k)], [], MW (upA (upA A 2 q.1) 3 q.2) B (upF (upF (upF F 0 v) 1 (nI 0)) 2 ((F 2) + (nI 1))) sw, 0, 0) (none, MW (upA (upA A 2 (cleared A 2 3).1) 3 (cleared A 2 3).2) B (upF (upF (upF F 0 v) 1 (nI 0)) 2 (F 2 + nI 1)) sw, 0, 0)) (f := fun k q => (upd q.1 k (nI 0), upd q.2 k (nI 1))) (n := 10) ?_ 10 (A 2, A 3) (Nat.le_refl _) ?_
  · intro k q hk ih
    refine wp_go (f' := ((if (nI 10) ≤ (nI k) then 48 else 28), [.ref 1, .int v, .int (nI k)], [], MW (upA (upA A 2 q.1) 3 q.2) B (upF (upF (upF F 0 v) 1 (nI 0)) 2 ((F 2) + (nI 1))) sw, 0, 0)) 3 rfl ?_
    refine wp_ite (fun h9 => absurd h9 (nI_ge hk (by omega))) (fun _ => ?_)
    refine wp_go (f' := (34, [.ref 1, .int v, .int (nI k)], [.int (nI 0), .int (nI k), .ref 2], MW (upA (upA A 2 q.1) 3 q.2) B (upF (upF (upF F 0 v) 1 (nI 0)) 2 ((F 2) + (nI 1))) sw, 0, 0)) 4 rfl ?_
    refine wp_iast rfl rfl (by omega) (by decide) ?_
    refine wp_eq (f' := (35, [.ref 1, .int v, .int (nI k)], [], MW (upA (upA A 3 q.2) 2 (upd q.1 k (nI 0))) B (upF (upF (upF F 0 v) 1 (nI 0)) 2 ((F 2) + (nI 1))) sw, 0, 0)) rfl ?_
    refine wp_go (f' := (41, [.ref 1, .int v, .int (nI k)], [.int (nI 1), .int (nI k), .ref 3], MW (upA (upA A 3 q.2) 2 (upd q.1 k (nI 0))) B (upF (upF (upF F 0 v) 1 (nI 0)) 2 ((F 2) + (nI 1))) sw, 0, 0)) 4 rfl ?_
    refine wp_iast rfl rfl (by omega) (by decide) ?_
    refine wp_eq (f' := (42, [.ref 1, .int v, .int (nI k)], [], MW (upA (upA A 2 (upd q.1 k (nI 0))) 3 (upd q.2 k (nI 1))) B (upF (upF (upF F 0 v) 1 (nI 0)) 2 ((F 2) + (nI 1))) sw, 0, 0)) rfl ?_
    refine wp_go (f' := (45, [.ref 1, .int v, .int ((nI k) + 1)], [], MW (upA (upA A 2 (upd q.1 k (nI 0))) 3 (upd q.2 k (nI 1))) B (upF (upF (upF F 0 v) 1 (nI 0)) 2 ((F 2) + (nI 1))) sw, 0, 0)) 1 rfl ?_
    rw [nI_1]
    refine wp_go (f' := (22, [.ref 1, .int v, .int (nI (k + 1))], [], MW (upA (upA A 2 (upd q.1 k (nI 0))) 3 (upd q.2 k (nI 1))) B (upF (upF (upF F 0 v) 1 (nI 0)) 2 ((F 2) + (nI 1))) sw, 0, 0)) 1 rfl ?_
    exact ih
  · skip
    refine wp_go (f' := ((if (nI 10) ≤ (nI 10) then 48 else 28), [.ref 1, .int v, .int (nI 10)], [], MW (upA (upA A 2 (cleared A 2 3).1) 3 (cleared A 2 3).2) B (upF (upF (upF F 0 v) 1 (nI 0)) 2 ((F 2) + (nI 1))) sw, 0, 0)) 3 rfl ?_
    refine wp_ite (fun _ => ?_) (fun h9 => absurd (nI_le (Nat.le_refl _) (by omega)) h9)
    exact wp_vret rfl
theorem ev_gLink (hC : CI A F n nb) {ed : Nat} (hE : F 1 = nI ed) {a b : Nat} (ha : a < n) (hb : b < n) (hab : a ≠ b) : mv_Ev xs Ls 1 11 [.ref 1, .int (nI a), .int (nI b)] (MW A B F sw) (none, MW (upA A 2 (upd (upd (A 2) a (nI (nb a ||| 2 ^ b))) b (nI (nb b ||| 2 ^ a)))) B (upF (upF F 1 (nI (ed + 1))) 2 (F 2 + nI 1)) sw, 0, 0) := by
  refine ev_of_wp rfl rfl rfl ?_
  have hn := hC.1
  have hna := hC.2.2.2 a (by omega)
  have hnb2 := hC.2.2.2 b (by omega)
  refine wp_go (f' := (6, [.ref 1, .int (nI a), .int (nI b)], [.int (nI a), .ref 2, .int (nI a), .ref 2], MW A B F sw, 0, 0)) 4 rfl ?_
  refine wp_iald rfl rfl (by omega) (by decide) ?_
  rw [hC.2.2.1 a (by omega)]
  have hnb := hC.2.2.2 a (by omega)
  refine wp_go (f' := (10, [.ref 1, .int (nI a), .int (nI b)], [.int ((nI 1) <<< ((nI b) &&& 31)), .int (nI (nb a)), .int (nI a), .ref 2], MW A B F sw, 0, 0)) 3 rfl ?_
  rw [bx_one (by omega)]
  have hb1 : 2 ^ b < 1024 := by first | omega | exact or_lt (by omega) (by omega) | exact and_lt (by omega) | exact and_lt_r (by omega) | exact sd_lt (by omega) | exact pow_lt (by omega)
  refine wp_go (f' := (11, [.ref 1, .int (nI a), .int (nI b)], [.int ((nI (nb a)) ||| (nI (2 ^ b))), .int (nI a), .ref 2], MW A B F sw, 0, 0)) 1 rfl ?_
  rw [bx_or]
  have hb2 : (nb a) ||| (2 ^ b) < 1024 := by first | omega | exact or_lt (by omega) (by omega) | exact and_lt (by omega) | exact and_lt_r (by omega) | exact sd_lt (by omega) | exact pow_lt (by omega)
  refine wp_iast rfl rfl (by omega) (by decide) ?_
  refine wp_eq (f' := (12, [.ref 1, .int (nI a), .int (nI b)], [], MW (upA A 2 (upd (A 2) a (nI ((nb a) ||| (2 ^ b))))) B F sw, 0, 0)) rfl ?_
  refine wp_go (f' := (18, [.ref 1, .int (nI a), .int (nI b)], [.int (nI b), .ref 2, .int (nI b), .ref 2], MW (upA A 2 (upd (A 2) a (nI ((nb a) ||| (2 ^ b))))) B F sw, 0, 0)) 4 rfl ?_
  refine wp_iald rfl rfl (by omega) (by decide) ?_
  refine wp_eq (f' := (19, [.ref 1, .int (nI a), .int (nI b)], [.int ((upd (A 2) a (nI ((nb a) ||| (2 ^ b)))) b), .int (nI b), .ref 2], MW (upA A 2 (upd (A 2) a (nI ((nb a) ||| (2 ^ b))))) B F sw, 0, 0)) rfl ?_
  rw [pk_un (fun h8 => hab h8.symm), hC.2.2.1 b (by omega)]
  refine wp_go (f' := (22, [.ref 1, .int (nI a), .int (nI b)], [.int ((nI 1) <<< ((nI a) &&& 31)), .int (nI (nb b)), .int (nI b), .ref 2], MW (upA A 2 (upd (A 2) a (nI ((nb a) ||| (2 ^ b))))) B F sw, 0, 0)) 3 rfl ?_
  rw [bx_one (by omega)]
  have hb3 : 2 ^ a < 1024 := by first | omega | exact or_lt (by omega) (by omega) | exact and_lt (by omega) | exact and_lt_r (by omega) | exact sd_lt (by omega) | exact pow_lt (by omega)
  refine wp_go (f' := (23, [.ref 1, .int (nI a), .int (nI b)], [.int ((nI (nb b)) ||| (nI (2 ^ a))), .int (nI b), .ref 2], MW (upA A 2 (upd (A 2) a (nI ((nb a) ||| (2 ^ b))))) B F sw, 0, 0)) 1 rfl ?_
  rw [bx_or]
  have hb4 : (nb b) ||| (2 ^ a) < 1024 := by first | omega | exact or_lt (by omega) (by omega) | exact and_lt (by omega) | exact and_lt_r (by omega) | exact sd_lt (by omega) | exact pow_lt (by omega)
  refine wp_iast rfl rfl (by omega) (by decide) ?_
  refine wp_eq (f' := (24, [.ref 1, .int (nI a), .int (nI b)], [], MW (upA A 2 (upd (upd (A 2) a (nI ((nb a) ||| (2 ^ b)))) b (nI ((nb b) ||| (2 ^ a))))) B F sw, 0, 0)) rfl ?_
  refine wp_go (f' := (29, [.ref 1, .int (nI a), .int (nI b)], [.int (F 1), .ref 1], MW (upA A 2 (upd (upd (A 2) a (nI ((nb a) ||| (2 ^ b)))) b (nI ((nb b) ||| (2 ^ a))))) B F sw, 0, 0)) 3 rfl ?_
  rw [hE]
  refine wp_go (f' := (31, [.ref 1, .int (nI a), .int (nI b)], [.int ((nI ed) + (nI 1)), .ref 1], MW (upA A 2 (upd (upd (A 2) a (nI ((nb a) ||| (2 ^ b)))) b (nI ((nb b) ||| (2 ^ a))))) B F sw, 0, 0)) 2 rfl ?_
  rw [nI_add]
  refine wp_go (f' := (44, [.ref 1, .int (nI a), .int (nI b)], [], MW (upA A 2 (upd (upd (A 2) a (nI ((nb a) ||| (2 ^ b)))) b (nI ((nb b) ||| (2 ^ a))))) B (upF (upF F 1 (nI (ed + 1))) 2 ((F 2) + (nI 1))) sw, 0, 0)) 7 rfl ?_
  exact wp_vret rfl
theorem ev_gUnlink (hC : CI A F n nb) {ed : Nat} (hE : F 1 = nI ed) {a b : Nat} (ha : a < n) (hb : b < n) (hab : a ≠ b) (h1 : 1 ≤ ed) : mv_Ev xs Ls 1 13 [.ref 1, .int (nI a), .int (nI b)] (MW A B F sw) (none, MW (upA A 2 (upd (upd (A 2) a (nI (sd (nb a) (2 ^ b)))) b (nI (sd (nb b) (2 ^ a))))) B (upF (upF F 1 (nI (ed - 1))) 2 (F 2 + nI 1)) sw, 0, 0) := by
  refine ev_of_wp rfl rfl rfl ?_
  have hn := hC.1
  have hna := hC.2.2.2 a (by omega)
  have hnb2 := hC.2.2.2 b (by omega)
  refine wp_go (f' := (6, [.ref 1, .int (nI a), .int (nI b)], [.int (nI a), .ref 2, .int (nI a), .ref 2], MW A B F sw, 0, 0)) 4 rfl ?_
  refine wp_iald rfl rfl (by omega) (by decide) ?_
  rw [hC.2.2.1 a (by omega)]
  have hnb := hC.2.2.2 a (by omega)
  refine wp_go (f' := (10, [.ref 1, .int (nI a), .int (nI b)], [.int ((nI 1) <<< ((nI b) &&& 31)), .int (nI (nb a)), .int (nI a), .ref 2], MW A B F sw, 0, 0)) 3 rfl ?_
  rw [bx_one (by omega)]
  have hb1 : 2 ^ b < 1024 := by first | omega | exact or_lt (by omega) (by omega) | exact and_lt (by omega) | exact and_lt_r (by omega) | exact sd_lt (by omega) | exact pow_lt (by omega)
  refine wp_go (f' := (13, [.ref 1, .int (nI a), .int (nI b)], [.int ((nI (nb a)) &&& ((nI (2 ^ b)) ^^^ (-1))), .int (nI a), .ref 2], MW A B F sw, 0, 0)) 3 rfl ?_
  rw [bx_sd (by omega)]
  have hb2 : sd (nb a) (2 ^ b) < 1024 := by first | omega | exact or_lt (by omega) (by omega) | exact and_lt (by omega) | exact and_lt_r (by omega) | exact sd_lt (by omega) | exact pow_lt (by omega)
  refine wp_iast rfl rfl (by omega) (by decide) ?_
  refine wp_eq (f' := (14, [.ref 1, .int (nI a), .int (nI b)], [], MW (upA A 2 (upd (A 2) a (nI (sd (nb a) (2 ^ b))))) B F sw, 0, 0)) rfl ?_
  refine wp_go (f' := (20, [.ref 1, .int (nI a), .int (nI b)], [.int (nI b), .ref 2, .int (nI b), .ref 2], MW (upA A 2 (upd (A 2) a (nI (sd (nb a) (2 ^ b))))) B F sw, 0, 0)) 4 rfl ?_
  refine wp_iald rfl rfl (by omega) (by decide) ?_
  refine wp_eq (f' := (21, [.ref 1, .int (nI a), .int (nI b)], [.int ((upd (A 2) a (nI (sd (nb a) (2 ^ b)))) b), .int (nI b), .ref 2], MW (upA A 2 (upd (A 2) a (nI (sd (nb a) (2 ^ b))))) B F sw, 0, 0)) rfl ?_
  rw [pk_un (fun h8 => hab h8.symm), hC.2.2.1 b (by omega)]
  refine wp_go (f' := (24, [.ref 1, .int (nI a), .int (nI b)], [.int ((nI 1) <<< ((nI a) &&& 31)), .int (nI (nb b)), .int (nI b), .ref 2], MW (upA A 2 (upd (A 2) a (nI (sd (nb a) (2 ^ b))))) B F sw, 0, 0)) 3 rfl ?_
  rw [bx_one (by omega)]
  have hb3 : 2 ^ a < 1024 := by first | omega | exact or_lt (by omega) (by omega) | exact and_lt (by omega) | exact and_lt_r (by omega) | exact sd_lt (by omega) | exact pow_lt (by omega)
  refine wp_go (f' := (27, [.ref 1, .int (nI a), .int (nI b)], [.int ((nI (nb b)) &&& ((nI (2 ^ a)) ^^^ (-1))), .int (nI b), .ref 2], MW (upA A 2 (upd (A 2) a (nI (sd (nb a) (2 ^ b))))) B F sw, 0, 0)) 3 rfl ?_
  rw [bx_sd (by omega)]
  have hb4 : sd (nb b) (2 ^ a) < 1024 := by first | omega | exact or_lt (by omega) (by omega) | exact and_lt (by omega) | exact and_lt_r (by omega) | exact sd_lt (by omega) | exact pow_lt (by omega)
  refine wp_iast rfl rfl (by omega) (by decide) ?_
  refine wp_eq (f' := (28, [.ref 1, .int (nI a), .int (nI b)], [], MW (upA A 2 (upd (upd (A 2) a (nI (sd (nb a) (2 ^ b)))) b (nI (sd (nb b) (2 ^ a))))) B F sw, 0, 0)) rfl ?_
  refine wp_go (f' := (33, [.ref 1, .int (nI a), .int (nI b)], [.int (F 1), .ref 1], MW (upA A 2 (upd (upd (A 2) a (nI (sd (nb a) (2 ^ b)))) b (nI (sd (nb b) (2 ^ a))))) B F sw, 0, 0)) 3 rfl ?_
  rw [hE]
  refine wp_go (f' := (35, [.ref 1, .int (nI a), .int (nI b)], [.int ((nI ed) - (nI 1)), .ref 1], MW (upA A 2 (upd (upd (A 2) a (nI (sd (nb a) (2 ^ b)))) b (nI (sd (nb b) (2 ^ a))))) B F sw, 0, 0)) 2 rfl ?_
  rw [pk_sub (by omega)]
  refine wp_go (f' := (48, [.ref 1, .int (nI a), .int (nI b)], [], MW (upA A 2 (upd (upd (A 2) a (nI (sd (nb a) (2 ^ b)))) b (nI (sd (nb b) (2 ^ a))))) B (upF (upF F 1 (nI (ed - 1))) 2 ((F 2) + (nI 1))) sw, 0, 0)) 7 rfl ?_
  exact wp_vret rfl
theorem ev_hasT (hC : CI A F n nb) {a : Nat} (ha : a < n) : mv_Ev xs Ls 1 9 [.ref 1, .int (nI a)] (MW A B F sw) (some (.int (nI 1)), MW A B F sw, 0, 0) := by
  have h := ev_gHas (xs := xs) (Ls := Ls) (B := B) (sw := sw) hC (nI a)
  rw [isV_t hC.1 ha] at h
  exact h
theorem ev_hasF (hC : CI A F n nb) {v : Int32} (hv : isV v n = false) : mv_Ev xs Ls 1 9 [.ref 1, .int v] (MW A B F sw) (some (.int (nI 0)), MW A B F sw, 0, 0) := by
  have h := ev_gHas (xs := xs) (Ls := Ls) (B := B) (sw := sw) hC v
  rw [hv] at h
  exact h
theorem ev_bNear_f (hC : CI A F n nb) {v : Int32} (hv : isV v n = false) : mv_Ev xs Ls 2 29 [.ref 0, .int v] (MW A B F sw) (some (.int (-2)), MW A B F sw, 0, 0) := by
  refine ev_of_wp rfl rfl rfl ?_
  have hn := hC.1
  have hp := pow10 hn
  have hp1 : 1 ≤ 2 ^ n := Nat.one_le_two_pow
  have hal := all_lt hn
  refine wp_go (f' := (5, [.ref 0, .int v], [.int v, .ref 1], MW A B F sw, 0, 0)) 3 rfl ?_
  refine wp_call rfl rfl rfl (ev_up (ev_hasF hC hv) (by decide)) ?_
  refine wp_eq (f' := (8, [.ref 0, .int v], [.int (nI 0)], MW A B F sw, 0, 0)) rfl ?_
  refine wp_go (f' := ((if (nI 0) = 0 then 23 else 11), [.ref 0, .int v], [], MW A B F sw, 0, 0)) 1 rfl ?_
  refine wp_ite (fun _ => ?_) (fun h9 => absurd (rfl : nI 0 = 0) h9)
  refine wp_go (f' := (25, [.ref 0, .int v], [.int (-2)], MW A B F sw, 0, 0)) 1 rfl ?_
  exact wp_iret rfl
theorem ev_bNear_t (hC : CI A F n nb) {a : Nat} (ha : a < n) : mv_Ev xs Ls 2 29 [.ref 0, .int (nI a)] (MW A B F sw) (some (.int (nI (nb a))), MW A B F sw, 0, 0) := by
  refine ev_of_wp rfl rfl rfl ?_
  have hn := hC.1
  have hp := pow10 hn
  have hp1 : 1 ≤ 2 ^ n := Nat.one_le_two_pow
  have hal := all_lt hn
  refine wp_go (f' := (5, [.ref 0, .int (nI a)], [.int (nI a), .ref 1], MW A B F sw, 0, 0)) 3 rfl ?_
  refine wp_call rfl rfl rfl (ev_up (ev_hasT hC (a := a) (by omega)) (by decide)) ?_
  refine wp_eq (f' := (8, [.ref 0, .int (nI a)], [.int (nI 1)], MW A B F sw, 0, 0)) rfl ?_
  refine wp_go (f' := ((if (nI 1) = 0 then 23 else 11), [.ref 0, .int (nI a)], [], MW A B F sw, 0, 0)) 1 rfl ?_
  refine wp_ite (fun h9 => absurd h9 (by decide : ¬ nI 1 = 0)) (fun _ => ?_)
  refine wp_go (f' := (19, [.ref 0, .int (nI a)], [.int (nI a), .ref 2], MW A B F sw, 0, 0)) 4 rfl ?_
  refine wp_iald rfl rfl (by omega) (by decide) ?_
  rw [hC.2.2.1 a (by omega)]
  have hnb := hC.2.2.2 a (by omega)
  refine wp_go (f' := (25, [.ref 0, .int (nI a)], [.int (nI (nb a))], MW A B F sw, 0, 0)) 1 rfl ?_
  exact wp_iret rfl
theorem ev_bJoin_f1 (hC : CI A F n nb) {v u : Int32} (hv : isV v n = false) : mv_Ev xs Ls 2 8 [.ref 0, .int v, .int u] (MW A B F sw) (some (.int (-2)), MW A B F sw, 0, 0) := by
  refine ev_of_wp rfl rfl rfl ?_
  have hn := hC.1
  have hp := pow10 hn
  have hp1 : 1 ≤ 2 ^ n := Nat.one_le_two_pow
  have hal := all_lt hn
  refine wp_go (f' := (5, [.ref 0, .int v, .int u], [.int v, .ref 1], MW A B F sw, 0, 0)) 3 rfl ?_
  refine wp_call rfl rfl rfl (ev_up (ev_hasF hC hv) (by decide)) ?_
  refine wp_eq (f' := (8, [.ref 0, .int v, .int u], [.int (nI 0)], MW A B F sw, 0, 0)) rfl ?_
  refine wp_go (f' := ((if (nI 0) = 0 then 27 else 11), [.ref 0, .int v, .int u], [], MW A B F sw, 0, 0)) 1 rfl ?_
  refine wp_ite (fun _ => ?_) (fun h9 => absurd (rfl : nI 0 = 0) h9)
  refine wp_go (f' := (29, [.ref 0, .int v, .int u], [.int (-2)], MW A B F sw, 0, 0)) 1 rfl ?_
  exact wp_iret rfl
theorem ev_bJoin_f2 (hC : CI A F n nb) {a : Nat} {u : Int32} (ha : a < n) (hu : isV u n = false) : mv_Ev xs Ls 2 8 [.ref 0, .int (nI a), .int u] (MW A B F sw) (some (.int (-2)), MW A B F sw, 0, 0) := by
  refine ev_of_wp rfl rfl rfl ?_
  have hn := hC.1
  have hp := pow10 hn
  have hp1 : 1 ≤ 2 ^ n := Nat.one_le_two_pow
  have hal := all_lt hn
  refine wp_go (f' := (5, [.ref 0, .int (nI a), .int u], [.int (nI a), .ref 1], MW A B F sw, 0, 0)) 3 rfl ?_
  refine wp_call rfl rfl rfl (ev_up (ev_hasT hC (a := a) (by omega)) (by decide)) ?_
  refine wp_eq (f' := (8, [.ref 0, .int (nI a), .int u], [.int (nI 1)], MW A B F sw, 0, 0)) rfl ?_
  refine wp_go (f' := ((if (nI 1) = 0 then 27 else 11), [.ref 0, .int (nI a), .int u], [], MW A B F sw, 0, 0)) 1 rfl ?_
  refine wp_ite (fun h9 => absurd h9 (by decide : ¬ nI 1 = 0)) (fun _ => ?_)
  refine wp_go (f' := (16, [.ref 0, .int (nI a), .int u], [.int u, .ref 1], MW A B F sw, 0, 0)) 3 rfl ?_
  refine wp_call rfl rfl rfl (ev_up (ev_hasF hC hu) (by decide)) ?_
  refine wp_eq (f' := (19, [.ref 0, .int (nI a), .int u], [.int (nI 0)], MW A B F sw, 0, 0)) rfl ?_
  refine wp_go (f' := ((if (nI 0) = 0 then 27 else 22), [.ref 0, .int (nI a), .int u], [], MW A B F sw, 0, 0)) 1 rfl ?_
  refine wp_ite (fun _ => ?_) (fun h9 => absurd (rfl : nI 0 = 0) h9)
  refine wp_go (f' := (29, [.ref 0, .int (nI a), .int u], [.int (-2)], MW A B F sw, 0, 0)) 1 rfl ?_
  exact wp_iret rfl
theorem ev_bJoin_f3 (hC : CI A F n nb) {a : Nat} (ha : a < n) : mv_Ev xs Ls 2 8 [.ref 0, .int (nI a), .int (nI a)] (MW A B F sw) (some (.int (-2)), MW A B F sw, 0, 0) := by
  refine ev_of_wp rfl rfl rfl ?_
  have hn := hC.1
  have hp := pow10 hn
  have hp1 : 1 ≤ 2 ^ n := Nat.one_le_two_pow
  have hal := all_lt hn
  refine wp_go (f' := (5, [.ref 0, .int (nI a), .int (nI a)], [.int (nI a), .ref 1], MW A B F sw, 0, 0)) 3 rfl ?_
  refine wp_call rfl rfl rfl (ev_up (ev_hasT hC (a := a) (by omega)) (by decide)) ?_
  refine wp_eq (f' := (8, [.ref 0, .int (nI a), .int (nI a)], [.int (nI 1)], MW A B F sw, 0, 0)) rfl ?_
  refine wp_go (f' := ((if (nI 1) = 0 then 27 else 11), [.ref 0, .int (nI a), .int (nI a)], [], MW A B F sw, 0, 0)) 1 rfl ?_
  refine wp_ite (fun h9 => absurd h9 (by decide : ¬ nI 1 = 0)) (fun _ => ?_)
  refine wp_go (f' := (16, [.ref 0, .int (nI a), .int (nI a)], [.int (nI a), .ref 1], MW A B F sw, 0, 0)) 3 rfl ?_
  refine wp_call rfl rfl rfl (ev_up (ev_hasT hC (a := a) (by omega)) (by decide)) ?_
  refine wp_eq (f' := (19, [.ref 0, .int (nI a), .int (nI a)], [.int (nI 1)], MW A B F sw, 0, 0)) rfl ?_
  refine wp_go (f' := ((if (nI 1) = 0 then 27 else 22), [.ref 0, .int (nI a), .int (nI a)], [], MW A B F sw, 0, 0)) 1 rfl ?_
  refine wp_ite (fun h9 => absurd h9 (by decide : ¬ nI 1 = 0)) (fun _ => ?_)
  refine wp_go (f' := ((if ¬ (nI a) = (nI a) then 30 else 27), [.ref 0, .int (nI a), .int (nI a)], [], MW A B F sw, 0, 0)) 3 rfl ?_
  refine wp_ite (fun h9 => absurd h9 (fun h8 => h8 rfl : ¬ ¬ nI a = nI a)) (fun _ => ?_)
  refine wp_go (f' := (29, [.ref 0, .int (nI a), .int (nI a)], [.int (-2)], MW A B F sw, 0, 0)) 1 rfl ?_
  exact wp_iret rfl
theorem ev_bJoin_there (hC : CI A F n nb) {ed : Nat} (hE : F 1 = nI ed) (hed : ed ≤ 20) {a b : Nat} (ha : a < n) (hb : b < n) (hab : a ≠ b) (hx : (nb a).testBit b = true) : mv_Ev xs Ls 2 8 [.ref 0, .int (nI a), .int (nI b)] (MW A B F sw) (some (.int (-4)), MW A B F sw, 0, 0) := by
  refine ev_of_wp rfl rfl rfl ?_
  have hn := hC.1
  have hp := pow10 hn
  have hp1 : 1 ≤ 2 ^ n := Nat.one_le_two_pow
  have hal := all_lt hn
  refine wp_go (f' := (5, [.ref 0, .int (nI a), .int (nI b)], [.int (nI a), .ref 1], MW A B F sw, 0, 0)) 3 rfl ?_
  refine wp_call rfl rfl rfl (ev_up (ev_hasT hC (a := a) (by omega)) (by decide)) ?_
  refine wp_eq (f' := (8, [.ref 0, .int (nI a), .int (nI b)], [.int (nI 1)], MW A B F sw, 0, 0)) rfl ?_
  refine wp_go (f' := ((if (nI 1) = 0 then 27 else 11), [.ref 0, .int (nI a), .int (nI b)], [], MW A B F sw, 0, 0)) 1 rfl ?_
  refine wp_ite (fun h9 => absurd h9 (by decide : ¬ nI 1 = 0)) (fun _ => ?_)
  refine wp_go (f' := (16, [.ref 0, .int (nI a), .int (nI b)], [.int (nI b), .ref 1], MW A B F sw, 0, 0)) 3 rfl ?_
  refine wp_call rfl rfl rfl (ev_up (ev_hasT hC (a := b) (by omega)) (by decide)) ?_
  refine wp_eq (f' := (19, [.ref 0, .int (nI a), .int (nI b)], [.int (nI 1)], MW A B F sw, 0, 0)) rfl ?_
  refine wp_go (f' := ((if (nI 1) = 0 then 27 else 22), [.ref 0, .int (nI a), .int (nI b)], [], MW A B F sw, 0, 0)) 1 rfl ?_
  refine wp_ite (fun h9 => absurd h9 (by decide : ¬ nI 1 = 0)) (fun _ => ?_)
  refine wp_go (f' := ((if ¬ (nI a) = (nI b) then 30 else 27), [.ref 0, .int (nI a), .int (nI b)], [], MW A B F sw, 0, 0)) 3 rfl ?_
  refine wp_ite (fun _ => ?_) (fun h9 => absurd (fun h8 => hab ((nI_eq (a := a) (b := b) (by omega) (by omega)).mp h8)) h9)
  refine wp_go (f' := (36, [.ref 0, .int (nI a), .int (nI b)], [.int (nI b), .int (nI a), .ref 1], MW A B F sw, 0, 0)) 4 rfl ?_
  refine wp_call rfl rfl rfl (ev_up (ev_gLinked hC (a := a) (b := b) (by omega) (by omega)) (by decide)) ?_
  refine wp_eq (f' := (39, [.ref 0, .int (nI a), .int (nI b)], [.int (bI ((nb a).testBit b))], MW A B F sw, 0, 0)) rfl ?_
  refine wp_go (f' := ((if (bI ((nb a).testBit b)) = 0 then 45 else 42), [.ref 0, .int (nI a), .int (nI b)], [], MW A B F sw, 0, 0)) 1 rfl ?_
  refine wp_ite (fun h9 => absurd h9 (by rw [bI_t hx]; decide)) (fun _ => ?_)
  refine wp_go (f' := (44, [.ref 0, .int (nI a), .int (nI b)], [.int (-4)], MW A B F sw, 0, 0)) 1 rfl ?_
  exact wp_iret rfl
theorem ev_bJoin_full (hC : CI A F n nb) {ed : Nat} (hE : F 1 = nI ed) (hed : ed ≤ 20) {a b : Nat} (ha : a < n) (hb : b < n) (hab : a ≠ b) (hx : (nb a).testBit b = false) (h20 : ed = 20) : mv_Ev xs Ls 2 8 [.ref 0, .int (nI a), .int (nI b)] (MW A B F sw) (some (.int (-3)), MW A B F sw, 0, 0) := by
  refine ev_of_wp rfl rfl rfl ?_
  have hn := hC.1
  have hp := pow10 hn
  have hp1 : 1 ≤ 2 ^ n := Nat.one_le_two_pow
  have hal := all_lt hn
  refine wp_go (f' := (5, [.ref 0, .int (nI a), .int (nI b)], [.int (nI a), .ref 1], MW A B F sw, 0, 0)) 3 rfl ?_
  refine wp_call rfl rfl rfl (ev_up (ev_hasT hC (a := a) (by omega)) (by decide)) ?_
  refine wp_eq (f' := (8, [.ref 0, .int (nI a), .int (nI b)], [.int (nI 1)], MW A B F sw, 0, 0)) rfl ?_
  refine wp_go (f' := ((if (nI 1) = 0 then 27 else 11), [.ref 0, .int (nI a), .int (nI b)], [], MW A B F sw, 0, 0)) 1 rfl ?_
  refine wp_ite (fun h9 => absurd h9 (by decide : ¬ nI 1 = 0)) (fun _ => ?_)
  refine wp_go (f' := (16, [.ref 0, .int (nI a), .int (nI b)], [.int (nI b), .ref 1], MW A B F sw, 0, 0)) 3 rfl ?_
  refine wp_call rfl rfl rfl (ev_up (ev_hasT hC (a := b) (by omega)) (by decide)) ?_
  refine wp_eq (f' := (19, [.ref 0, .int (nI a), .int (nI b)], [.int (nI 1)], MW A B F sw, 0, 0)) rfl ?_
  refine wp_go (f' := ((if (nI 1) = 0 then 27 else 22), [.ref 0, .int (nI a), .int (nI b)], [], MW A B F sw, 0, 0)) 1 rfl ?_
  refine wp_ite (fun h9 => absurd h9 (by decide : ¬ nI 1 = 0)) (fun _ => ?_)
  refine wp_go (f' := ((if ¬ (nI a) = (nI b) then 30 else 27), [.ref 0, .int (nI a), .int (nI b)], [], MW A B F sw, 0, 0)) 3 rfl ?_
  refine wp_ite (fun _ => ?_) (fun h9 => absurd (fun h8 => hab ((nI_eq (a := a) (b := b) (by omega) (by omega)).mp h8)) h9)
  refine wp_go (f' := (36, [.ref 0, .int (nI a), .int (nI b)], [.int (nI b), .int (nI a), .ref 1], MW A B F sw, 0, 0)) 4 rfl ?_
  refine wp_call rfl rfl rfl (ev_up (ev_gLinked hC (a := a) (b := b) (by omega) (by omega)) (by decide)) ?_
  refine wp_eq (f' := (39, [.ref 0, .int (nI a), .int (nI b)], [.int (bI ((nb a).testBit b))], MW A B F sw, 0, 0)) rfl ?_
  refine wp_go (f' := ((if (bI ((nb a).testBit b)) = 0 then 45 else 42), [.ref 0, .int (nI a), .int (nI b)], [], MW A B F sw, 0, 0)) 1 rfl ?_
  refine wp_ite (fun _ => ?_) (fun h9 => absurd (bI_f hx) h9)
  refine wp_go (f' := (52, [.ref 0, .int (nI a), .int (nI b)], [.int (F 1)], MW A B F sw, 0, 0)) 3 rfl ?_
  rw [hE]
  refine wp_go (f' := ((if (nI ed) < (nI 20) then 60 else 57), [.ref 0, .int (nI a), .int (nI b)], [], MW A B F sw, 0, 0)) 2 rfl ?_
  refine wp_ite (fun h9 => absurd h9 (nI_nlt (by omega) (by omega))) (fun _ => ?_)
  refine wp_go (f' := (59, [.ref 0, .int (nI a), .int (nI b)], [.int (-3)], MW A B F sw, 0, 0)) 1 rfl ?_
  exact wp_iret rfl
theorem ev_bJoin_ok (hC : CI A F n nb) {ed : Nat} (hE : F 1 = nI ed) (hed : ed ≤ 20) {a b : Nat} (ha : a < n) (hb : b < n) (hab : a ≠ b) (hx : (nb a).testBit b = false) (h20 : ed ≠ 20) : mv_Ev xs Ls 2 8 [.ref 0, .int (nI a), .int (nI b)] (MW A B F sw) (some (.int (nI (ed + 1))), MW (upA A 2 (upd (upd (A 2) a (nI (nb a ||| 2 ^ b))) b (nI (nb b ||| 2 ^ a)))) B (upF (upF F 1 (nI (ed + 1))) 2 (F 2 + nI 1)) sw, 0, 0) := by
  refine ev_of_wp rfl rfl rfl ?_
  have hn := hC.1
  have hp := pow10 hn
  have hp1 : 1 ≤ 2 ^ n := Nat.one_le_two_pow
  have hal := all_lt hn
  refine wp_go (f' := (5, [.ref 0, .int (nI a), .int (nI b)], [.int (nI a), .ref 1], MW A B F sw, 0, 0)) 3 rfl ?_
  refine wp_call rfl rfl rfl (ev_up (ev_hasT hC (a := a) (by omega)) (by decide)) ?_
  refine wp_eq (f' := (8, [.ref 0, .int (nI a), .int (nI b)], [.int (nI 1)], MW A B F sw, 0, 0)) rfl ?_
  refine wp_go (f' := ((if (nI 1) = 0 then 27 else 11), [.ref 0, .int (nI a), .int (nI b)], [], MW A B F sw, 0, 0)) 1 rfl ?_
  refine wp_ite (fun h9 => absurd h9 (by decide : ¬ nI 1 = 0)) (fun _ => ?_)
  refine wp_go (f' := (16, [.ref 0, .int (nI a), .int (nI b)], [.int (nI b), .ref 1], MW A B F sw, 0, 0)) 3 rfl ?_
  refine wp_call rfl rfl rfl (ev_up (ev_hasT hC (a := b) (by omega)) (by decide)) ?_
  refine wp_eq (f' := (19, [.ref 0, .int (nI a), .int (nI b)], [.int (nI 1)], MW A B F sw, 0, 0)) rfl ?_
  refine wp_go (f' := ((if (nI 1) = 0 then 27 else 22), [.ref 0, .int (nI a), .int (nI b)], [], MW A B F sw, 0, 0)) 1 rfl ?_
  refine wp_ite (fun h9 => absurd h9 (by decide : ¬ nI 1 = 0)) (fun _ => ?_)
  refine wp_go (f' := ((if ¬ (nI a) = (nI b) then 30 else 27), [.ref 0, .int (nI a), .int (nI b)], [], MW A B F sw, 0, 0)) 3 rfl ?_
  refine wp_ite (fun _ => ?_) (fun h9 => absurd (fun h8 => hab ((nI_eq (a := a) (b := b) (by omega) (by omega)).mp h8)) h9)
  refine wp_go (f' := (36, [.ref 0, .int (nI a), .int (nI b)], [.int (nI b), .int (nI a), .ref 1], MW A B F sw, 0, 0)) 4 rfl ?_
  refine wp_call rfl rfl rfl (ev_up (ev_gLinked hC (a := a) (b := b) (by omega) (by omega)) (by decide)) ?_
  refine wp_eq (f' := (39, [.ref 0, .int (nI a), .int (nI b)], [.int (bI ((nb a).testBit b))], MW A B F sw, 0, 0)) rfl ?_
  refine wp_go (f' := ((if (bI ((nb a).testBit b)) = 0 then 45 else 42), [.ref 0, .int (nI a), .int (nI b)], [], MW A B F sw, 0, 0)) 1 rfl ?_
  refine wp_ite (fun _ => ?_) (fun h9 => absurd (bI_f hx) h9)
  refine wp_go (f' := (52, [.ref 0, .int (nI a), .int (nI b)], [.int (F 1)], MW A B F sw, 0, 0)) 3 rfl ?_
  rw [hE]
  refine wp_go (f' := ((if (nI ed) < (nI 20) then 60 else 57), [.ref 0, .int (nI a), .int (nI b)], [], MW A B F sw, 0, 0)) 2 rfl ?_
  refine wp_ite (fun _ => ?_) (fun h9 => absurd (nI_lt (by omega) (by omega)) h9)
  refine wp_go (f' := (66, [.ref 0, .int (nI a), .int (nI b)], [.int (nI b), .int (nI a), .ref 1], MW A B F sw, 0, 0)) 4 rfl ?_
  refine wp_call rfl rfl rfl (ev_up (ev_gLink hC hE ha hb hab) (by decide)) ?_
  refine wp_eq (f' := (69, [.ref 0, .int (nI a), .int (nI b)], [], MW (upA A 2 (upd (upd (A 2) a (nI (nb a ||| 2 ^ b))) b (nI (nb b ||| 2 ^ a)))) B (upF (upF F 1 (nI (ed + 1))) 2 (F 2 + nI 1)) sw, 0, 0)) rfl ?_
  refine wp_go (f' := (76, [.ref 0, .int (nI a), .int (nI b)], [.int (nI (ed + 1))], MW (upA A 2 (upd (upd (A 2) a (nI (nb a ||| 2 ^ b))) b (nI (nb b ||| 2 ^ a)))) B (upF (upF F 1 (nI (ed + 1))) 2 (F 2 + nI 1)) sw, 0, 0)) 3 rfl ?_
  exact wp_iret rfl
end CC
end
section
theorem nI_ite {a b c d : Nat} (ha : a < 2 ^ 31) (hb : b < 2 ^ 31) : (if nI a < nI b then nI c else nI d) = nI (if a < b then c else d) := by
  by_cases h : a < b
  · rw [if_pos h, if_pos ((nI_ltI ha hb).mpr h)]
  · rw [if_neg h, if_neg (fun h9 => h ((nI_ltI ha hb).mp h9))]
/-- the class's test of a clique -/
def cclN (n : Nat) (nb : Nat → Nat) (s : Nat) : Bool := decide (¬ s = 0) && decide (forN (fun k c => if s.testBit k then c &&& (nb k ||| 2 ^ k) else c) n (2 ^ n - 1) = s)
/-- the class's test of a separator -/
def cspN (n : Nat) (nb : Nat → Nat) (s : Nat) : Bool := decide (2 ≤ pieN nb (fun t m => if rcN nb (pcN nb t) &&& s = s then m + 1 else m) (sd (2 ^ n - 1) s) 0)
section CC
variable {xs : Nat → Int32} {Ls : Nat} {A : Nat → Nat → Int32} {B : Nat → Nat → Int64} {F : Nat → Int32} {sw : Bool} {n : Nat} {nb : Nat → Nat}
theorem ev_bPart_f1 (hC : CI A F n nb) {v u : Int32} (hv : isV v n = false) : mv_Ev xs Ls 2 12 [.ref 0, .int v, .int u] (MW A B F sw) (some (.int (-2)), MW A B F sw, 0, 0) := by
  refine ev_of_wp rfl rfl rfl ?_
  have hn := hC.1
  have hp := pow10 hn
  have hp1 : 1 ≤ 2 ^ n := Nat.one_le_two_pow
  have hal := all_lt hn
  refine wp_go (f' := (5, [.ref 0, .int v, .int u], [.int v, .ref 1], MW A B F sw, 0, 0)) 3 rfl ?_
  refine wp_call rfl rfl rfl (ev_up (ev_hasF hC hv) (by decide)) ?_
  refine wp_eq (f' := (8, [.ref 0, .int v, .int u], [.int (nI 0)], MW A B F sw, 0, 0)) rfl ?_
  refine wp_go (f' := ((if (nI 0) = 0 then 22 else 11), [.ref 0, .int v, .int u], [], MW A B F sw, 0, 0)) 1 rfl ?_
  refine wp_ite (fun _ => ?_) (fun h9 => absurd (rfl : nI 0 = 0) h9)
  refine wp_go (f' := (24, [.ref 0, .int v, .int u], [.int (-2)], MW A B F sw, 0, 0)) 1 rfl ?_
  exact wp_iret rfl
theorem ev_bPart_f2 (hC : CI A F n nb) {a : Nat} {u : Int32} (ha : a < n) (hu : isV u n = false) : mv_Ev xs Ls 2 12 [.ref 0, .int (nI a), .int u] (MW A B F sw) (some (.int (-2)), MW A B F sw, 0, 0) := by
  refine ev_of_wp rfl rfl rfl ?_
  have hn := hC.1
  have hp := pow10 hn
  have hp1 : 1 ≤ 2 ^ n := Nat.one_le_two_pow
  have hal := all_lt hn
  refine wp_go (f' := (5, [.ref 0, .int (nI a), .int u], [.int (nI a), .ref 1], MW A B F sw, 0, 0)) 3 rfl ?_
  refine wp_call rfl rfl rfl (ev_up (ev_hasT hC (a := a) (by omega)) (by decide)) ?_
  refine wp_eq (f' := (8, [.ref 0, .int (nI a), .int u], [.int (nI 1)], MW A B F sw, 0, 0)) rfl ?_
  refine wp_go (f' := ((if (nI 1) = 0 then 22 else 11), [.ref 0, .int (nI a), .int u], [], MW A B F sw, 0, 0)) 1 rfl ?_
  refine wp_ite (fun h9 => absurd h9 (by decide : ¬ nI 1 = 0)) (fun _ => ?_)
  refine wp_go (f' := (16, [.ref 0, .int (nI a), .int u], [.int u, .ref 1], MW A B F sw, 0, 0)) 3 rfl ?_
  refine wp_call rfl rfl rfl (ev_up (ev_hasF hC hu) (by decide)) ?_
  refine wp_eq (f' := (19, [.ref 0, .int (nI a), .int u], [.int (nI 0)], MW A B F sw, 0, 0)) rfl ?_
  refine wp_go (f' := ((if ¬ (nI 0) = 0 then 25 else 22), [.ref 0, .int (nI a), .int u], [], MW A B F sw, 0, 0)) 1 rfl ?_
  refine wp_ite (fun h9 => absurd h9 (fun h8 => h8 rfl : ¬ ¬ nI 0 = 0)) (fun _ => ?_)
  refine wp_go (f' := (24, [.ref 0, .int (nI a), .int u], [.int (-2)], MW A B F sw, 0, 0)) 1 rfl ?_
  exact wp_iret rfl
theorem ev_bPart_none (hC : CI A F n nb) {a b : Nat} (ha : a < n) (hb : b < n) (hx : (nb a).testBit b = false) : mv_Ev xs Ls 2 12 [.ref 0, .int (nI a), .int (nI b)] (MW A B F sw) (some (.int (-1)), MW A B F sw, 0, 0) := by
  refine ev_of_wp rfl rfl rfl ?_
  have hn := hC.1
  have hp := pow10 hn
  have hp1 : 1 ≤ 2 ^ n := Nat.one_le_two_pow
  have hal := all_lt hn
  refine wp_go (f' := (5, [.ref 0, .int (nI a), .int (nI b)], [.int (nI a), .ref 1], MW A B F sw, 0, 0)) 3 rfl ?_
  refine wp_call rfl rfl rfl (ev_up (ev_hasT hC (a := a) (by omega)) (by decide)) ?_
  refine wp_eq (f' := (8, [.ref 0, .int (nI a), .int (nI b)], [.int (nI 1)], MW A B F sw, 0, 0)) rfl ?_
  refine wp_go (f' := ((if (nI 1) = 0 then 22 else 11), [.ref 0, .int (nI a), .int (nI b)], [], MW A B F sw, 0, 0)) 1 rfl ?_
  refine wp_ite (fun h9 => absurd h9 (by decide : ¬ nI 1 = 0)) (fun _ => ?_)
  refine wp_go (f' := (16, [.ref 0, .int (nI a), .int (nI b)], [.int (nI b), .ref 1], MW A B F sw, 0, 0)) 3 rfl ?_
  refine wp_call rfl rfl rfl (ev_up (ev_hasT hC (a := b) (by omega)) (by decide)) ?_
  refine wp_eq (f' := (19, [.ref 0, .int (nI a), .int (nI b)], [.int (nI 1)], MW A B F sw, 0, 0)) rfl ?_
  refine wp_go (f' := ((if ¬ (nI 1) = 0 then 25 else 22), [.ref 0, .int (nI a), .int (nI b)], [], MW A B F sw, 0, 0)) 1 rfl ?_
  refine wp_ite (fun _ => ?_) (fun h9 => absurd (by decide : ¬ nI 1 = 0) h9)
  refine wp_go (f' := (31, [.ref 0, .int (nI a), .int (nI b)], [.int (nI b), .int (nI a), .ref 1], MW A B F sw, 0, 0)) 4 rfl ?_
  refine wp_call rfl rfl rfl (ev_up (ev_gLinked hC (a := a) (b := b) (by omega) (by omega)) (by decide)) ?_
  refine wp_eq (f' := (34, [.ref 0, .int (nI a), .int (nI b)], [.int (bI ((nb a).testBit b))], MW A B F sw, 0, 0)) rfl ?_
  refine wp_go (f' := ((if ¬ (bI ((nb a).testBit b)) = 0 then 39 else 37), [.ref 0, .int (nI a), .int (nI b)], [], MW A B F sw, 0, 0)) 1 rfl ?_
  refine wp_ite (fun h9 => absurd h9 (fun h8 => h8 (bI_f hx))) (fun _ => ?_)
  refine wp_go (f' := (38, [.ref 0, .int (nI a), .int (nI b)], [.int (-1)], MW A B F sw, 0, 0)) 1 rfl ?_
  exact wp_iret rfl
theorem ev_bPart_ok (hC : CI A F n nb) {ed : Nat} (hE : F 1 = nI ed) (hed : ed ≤ 20) {a b : Nat} (ha : a < n) (hb : b < n) (hab : a ≠ b) (h1 : 1 ≤ ed) (hx : (nb a).testBit b = true) : mv_Ev xs Ls 2 12 [.ref 0, .int (nI a), .int (nI b)] (MW A B F sw) (some (.int (nI (ed - 1))), MW (upA A 2 (upd (upd (A 2) a (nI (sd (nb a) (2 ^ b)))) b (nI (sd (nb b) (2 ^ a))))) B (upF (upF F 1 (nI (ed - 1))) 2 (F 2 + nI 1)) sw, 0, 0) := by
  refine ev_of_wp rfl rfl rfl ?_
  have hn := hC.1
  have hp := pow10 hn
  have hp1 : 1 ≤ 2 ^ n := Nat.one_le_two_pow
  have hal := all_lt hn
  refine wp_go (f' := (5, [.ref 0, .int (nI a), .int (nI b)], [.int (nI a), .ref 1], MW A B F sw, 0, 0)) 3 rfl ?_
  refine wp_call rfl rfl rfl (ev_up (ev_hasT hC (a := a) (by omega)) (by decide)) ?_
  refine wp_eq (f' := (8, [.ref 0, .int (nI a), .int (nI b)], [.int (nI 1)], MW A B F sw, 0, 0)) rfl ?_
  refine wp_go (f' := ((if (nI 1) = 0 then 22 else 11), [.ref 0, .int (nI a), .int (nI b)], [], MW A B F sw, 0, 0)) 1 rfl ?_
  refine wp_ite (fun h9 => absurd h9 (by decide : ¬ nI 1 = 0)) (fun _ => ?_)
  refine wp_go (f' := (16, [.ref 0, .int (nI a), .int (nI b)], [.int (nI b), .ref 1], MW A B F sw, 0, 0)) 3 rfl ?_
  refine wp_call rfl rfl rfl (ev_up (ev_hasT hC (a := b) (by omega)) (by decide)) ?_
  refine wp_eq (f' := (19, [.ref 0, .int (nI a), .int (nI b)], [.int (nI 1)], MW A B F sw, 0, 0)) rfl ?_
  refine wp_go (f' := ((if ¬ (nI 1) = 0 then 25 else 22), [.ref 0, .int (nI a), .int (nI b)], [], MW A B F sw, 0, 0)) 1 rfl ?_
  refine wp_ite (fun _ => ?_) (fun h9 => absurd (by decide : ¬ nI 1 = 0) h9)
  refine wp_go (f' := (31, [.ref 0, .int (nI a), .int (nI b)], [.int (nI b), .int (nI a), .ref 1], MW A B F sw, 0, 0)) 4 rfl ?_
  refine wp_call rfl rfl rfl (ev_up (ev_gLinked hC (a := a) (b := b) (by omega) (by omega)) (by decide)) ?_
  refine wp_eq (f' := (34, [.ref 0, .int (nI a), .int (nI b)], [.int (bI ((nb a).testBit b))], MW A B F sw, 0, 0)) rfl ?_
  refine wp_go (f' := ((if ¬ (bI ((nb a).testBit b)) = 0 then 39 else 37), [.ref 0, .int (nI a), .int (nI b)], [], MW A B F sw, 0, 0)) 1 rfl ?_
  refine wp_ite (fun _ => ?_) (fun h9 => absurd (by rw [bI_t hx]; decide) h9)
  refine wp_go (f' := (45, [.ref 0, .int (nI a), .int (nI b)], [.int (nI b), .int (nI a), .ref 1], MW A B F sw, 0, 0)) 4 rfl ?_
  refine wp_call rfl rfl rfl (ev_up (ev_gUnlink hC hE ha hb hab h1) (by decide)) ?_
  refine wp_eq (f' := (48, [.ref 0, .int (nI a), .int (nI b)], [], MW (upA A 2 (upd (upd (A 2) a (nI (sd (nb a) (2 ^ b)))) b (nI (sd (nb b) (2 ^ a))))) B (upF (upF F 1 (nI (ed - 1))) 2 (F 2 + nI 1)) sw, 0, 0)) rfl ?_
  refine wp_go (f' := (55, [.ref 0, .int (nI a), .int (nI b)], [.int (nI (ed - 1))], MW (upA A 2 (upd (upd (A 2) a (nI (sd (nb a) (2 ^ b)))) b (nI (sd (nb b) (2 ^ a))))) B (upF (upF F 1 (nI (ed - 1))) 2 (F 2 + nI 1)) sw, 0, 0)) 3 rfl ?_
  exact wp_iret rfl
theorem ev_bWeigh_f1 (hC : CI A F n nb) {v x : Int32} (hv : isV v n = false) : mv_Ev xs Ls 2 14 [.ref 0, .int v, .int x] (MW A B F sw) (some (.int (-2)), MW A B F sw, 0, 0) := by
  refine ev_of_wp rfl rfl rfl ?_
  have hn := hC.1
  have hp := pow10 hn
  have hp1 : 1 ≤ 2 ^ n := Nat.one_le_two_pow
  have hal := all_lt hn
  refine wp_go (f' := (5, [.ref 0, .int v, .int x, .retAddr 0], [.int v, .ref 1], MW A B F sw, 0, 0)) 3 rfl ?_
  refine wp_call rfl rfl rfl (ev_up (ev_hasF hC hv) (by decide)) ?_
  refine wp_eq (f' := (8, [.ref 0, .int v, .int x, .retAddr 0], [.int (nI 0)], MW A B F sw, 0, 0)) rfl ?_
  refine wp_go (f' := ((if (nI 0) = 0 then 22 else 11), [.ref 0, .int v, .int x, .retAddr 0], [], MW A B F sw, 0, 0)) 1 rfl ?_
  refine wp_ite (fun _ => ?_) (fun h9 => absurd (rfl : nI 0 = 0) h9)
  refine wp_go (f' := (24, [.ref 0, .int v, .int x, .retAddr 0], [.int (-2)], MW A B F sw, 0, 0)) 1 rfl ?_
  exact wp_iret rfl
theorem ev_bWeigh_f2 (hC : CI A F n nb) {a : Nat} {x : Int32} (ha : a < n) (hx : x < 0) : mv_Ev xs Ls 2 14 [.ref 0, .int (nI a), .int x] (MW A B F sw) (some (.int (-2)), MW A B F sw, 0, 0) := by
  refine ev_of_wp rfl rfl rfl ?_
  have hn := hC.1
  have hp := pow10 hn
  have hp1 : 1 ≤ 2 ^ n := Nat.one_le_two_pow
  have hal := all_lt hn
  refine wp_go (f' := (5, [.ref 0, .int (nI a), .int x, .retAddr 0], [.int (nI a), .ref 1], MW A B F sw, 0, 0)) 3 rfl ?_
  refine wp_call rfl rfl rfl (ev_up (ev_hasT hC (a := a) (by omega)) (by decide)) ?_
  refine wp_eq (f' := (8, [.ref 0, .int (nI a), .int x, .retAddr 0], [.int (nI 1)], MW A B F sw, 0, 0)) rfl ?_
  refine wp_go (f' := ((if (nI 1) = 0 then 22 else 11), [.ref 0, .int (nI a), .int x, .retAddr 0], [], MW A B F sw, 0, 0)) 1 rfl ?_
  refine wp_ite (fun h9 => absurd h9 (by decide : ¬ nI 1 = 0)) (fun _ => ?_)
  refine wp_go (f' := ((if x < 0 then 22 else 15), [.ref 0, .int (nI a), .int x, .retAddr 0], [], MW A B F sw, 0, 0)) 2 rfl ?_
  refine wp_ite (fun _ => ?_) (fun h9 => absurd hx h9)
  refine wp_go (f' := (24, [.ref 0, .int (nI a), .int x, .retAddr 0], [.int (-2)], MW A B F sw, 0, 0)) 1 rfl ?_
  exact wp_iret rfl
theorem ev_bWeigh_f3 (hC : CI A F n nb) {a : Nat} {x : Int32} (ha : a < n) (hx : ¬ x < 0) (hx2 : ¬ x ≤ nI 1000) : mv_Ev xs Ls 2 14 [.ref 0, .int (nI a), .int x] (MW A B F sw) (some (.int (-2)), MW A B F sw, 0, 0) := by
  refine ev_of_wp rfl rfl rfl ?_
  have hn := hC.1
  have hp := pow10 hn
  have hp1 : 1 ≤ 2 ^ n := Nat.one_le_two_pow
  have hal := all_lt hn
  refine wp_go (f' := (5, [.ref 0, .int (nI a), .int x, .retAddr 0], [.int (nI a), .ref 1], MW A B F sw, 0, 0)) 3 rfl ?_
  refine wp_call rfl rfl rfl (ev_up (ev_hasT hC (a := a) (by omega)) (by decide)) ?_
  refine wp_eq (f' := (8, [.ref 0, .int (nI a), .int x, .retAddr 0], [.int (nI 1)], MW A B F sw, 0, 0)) rfl ?_
  refine wp_go (f' := ((if (nI 1) = 0 then 22 else 11), [.ref 0, .int (nI a), .int x, .retAddr 0], [], MW A B F sw, 0, 0)) 1 rfl ?_
  refine wp_ite (fun h9 => absurd h9 (by decide : ¬ nI 1 = 0)) (fun _ => ?_)
  refine wp_go (f' := ((if x < 0 then 22 else 15), [.ref 0, .int (nI a), .int x, .retAddr 0], [], MW A B F sw, 0, 0)) 2 rfl ?_
  refine wp_ite (fun h9 => absurd h9 hx) (fun _ => ?_)
  refine wp_go (f' := ((if x ≤ (nI 1000) then 25 else 22), [.ref 0, .int (nI a), .int x, .retAddr 0], [], MW A B F sw, 0, 0)) 3 rfl ?_
  refine wp_ite (fun h9 => absurd h9 hx2) (fun _ => ?_)
  refine wp_go (f' := (24, [.ref 0, .int (nI a), .int x, .retAddr 0], [.int (-2)], MW A B F sw, 0, 0)) 1 rfl ?_
  exact wp_iret rfl
theorem ev_bWeigh_ok (hC : CI A F n nb) {wt : Nat → Nat} (hw : CWt A wt) {a : Nat} {x : Int32} (ha : a < n) (hx : ¬ x < 0) (hx2 : x ≤ nI 1000) : mv_Ev xs Ls 2 14 [.ref 0, .int (nI a), .int x] (MW A B F sw) (some (.int (nI (wt a))), MW (upA A 3 (upd (A 3) a x)) B F sw, 0, 0) := by
  refine ev_of_wp rfl rfl rfl ?_
  have hn := hC.1
  have hp := pow10 hn
  have hp1 : 1 ≤ 2 ^ n := Nat.one_le_two_pow
  have hal := all_lt hn
  refine wp_go (f' := (5, [.ref 0, .int (nI a), .int x, .retAddr 0], [.int (nI a), .ref 1], MW A B F sw, 0, 0)) 3 rfl ?_
  refine wp_call rfl rfl rfl (ev_up (ev_hasT hC (a := a) (by omega)) (by decide)) ?_
  refine wp_eq (f' := (8, [.ref 0, .int (nI a), .int x, .retAddr 0], [.int (nI 1)], MW A B F sw, 0, 0)) rfl ?_
  refine wp_go (f' := ((if (nI 1) = 0 then 22 else 11), [.ref 0, .int (nI a), .int x, .retAddr 0], [], MW A B F sw, 0, 0)) 1 rfl ?_
  refine wp_ite (fun h9 => absurd h9 (by decide : ¬ nI 1 = 0)) (fun _ => ?_)
  refine wp_go (f' := ((if x < 0 then 22 else 15), [.ref 0, .int (nI a), .int x, .retAddr 0], [], MW A B F sw, 0, 0)) 2 rfl ?_
  refine wp_ite (fun h9 => absurd h9 hx) (fun _ => ?_)
  refine wp_go (f' := ((if x ≤ (nI 1000) then 25 else 22), [.ref 0, .int (nI a), .int x, .retAddr 0], [], MW A B F sw, 0, 0)) 3 rfl ?_
  refine wp_ite (fun _ => ?_) (fun h9 => absurd hx2 h9)
  refine wp_go (f' := (33, [.ref 0, .int (nI a), .int x, .retAddr 0], [.int (nI a), .ref 3], MW A B F sw, 0, 0)) 4 rfl ?_
  refine wp_iald rfl rfl (by omega) (by decide) ?_
  rw [(hw a (by omega)).1]
  refine wp_go (f' := (44, [.ref 0, .int (nI a), .int x, .int (nI (wt a))], [.int x, .int (nI a), .ref 3], MW A B F sw, 0, 0)) 6 rfl ?_
  refine wp_iast rfl rfl (by omega) (by decide) ?_
  refine wp_eq (f' := (45, [.ref 0, .int (nI a), .int x, .int (nI (wt a))], [], MW (upA A 3 (upd (A 3) a x)) B F sw, 0, 0)) rfl ?_
  refine wp_go (f' := (46, [.ref 0, .int (nI a), .int x, .int (nI (wt a))], [.int (nI (wt a))], MW (upA A 3 (upd (A 3) a x)) B F sw, 0, 0)) 1 rfl ?_
  exact wp_iret rfl
theorem ev_bBegin_f1 {v : Int32} (hv : v < 0) : mv_Ev xs Ls 2 6 [.ref 0, .int v] (MW A B F sw) (some (.int (-2)), MW A B F sw, 0, 0) := by
  refine ev_of_wp rfl rfl rfl ?_
  refine wp_go (f' := ((if v < 0 then 10 else 4), [.ref 0, .int v, .retAddr 0], [], MW A B F sw, 0, 0)) 2 rfl ?_
  refine wp_ite (fun _ => ?_) (fun h9 => absurd hv h9)
  refine wp_go (f' := (12, [.ref 0, .int v, .retAddr 0], [.int (-2)], MW A B F sw, 0, 0)) 1 rfl ?_
  exact wp_iret rfl
theorem ev_bBegin_f2 {v : Int32} (hv : ¬ v < 0) (hv2 : ¬ v ≤ nI 10) : mv_Ev xs Ls 2 6 [.ref 0, .int v] (MW A B F sw) (some (.int (-2)), MW A B F sw, 0, 0) := by
  refine ev_of_wp rfl rfl rfl ?_
  refine wp_go (f' := ((if v < 0 then 10 else 4), [.ref 0, .int v, .retAddr 0], [], MW A B F sw, 0, 0)) 2 rfl ?_
  refine wp_ite (fun h9 => absurd h9 hv) (fun _ => ?_)
  refine wp_go (f' := ((if v ≤ (nI 10) then 13 else 10), [.ref 0, .int v, .retAddr 0], [], MW A B F sw, 0, 0)) 3 rfl ?_
  refine wp_ite (fun h9 => absurd h9 hv2) (fun _ => ?_)
  refine wp_go (f' := (12, [.ref 0, .int v, .retAddr 0], [.int (-2)], MW A B F sw, 0, 0)) 1 rfl ?_
  exact wp_iret rfl
theorem ev_bBegin_ok {v : Int32} (hv : ¬ v < 0) (hv2 : v ≤ nI 10) : mv_Ev xs Ls 2 6 [.ref 0, .int v] (MW A B F sw) (some (.int (F 0)), MW (upA (upA A 2 (cleared A 2 3).1) 3 (cleared A 2 3).2) B (upF (upF (upF F 0 v) 1 (nI 0)) 2 (F 2 + nI 1)) sw, 0, 0) := by
  refine ev_of_wp rfl rfl rfl ?_
  refine wp_go (f' := ((if v < 0 then 10 else 4), [.ref 0, .int v, .retAddr 0], [], MW A B F sw, 0, 0)) 2 rfl ?_
  refine wp_ite (fun h9 => absurd h9 hv) (fun _ => ?_)
  refine wp_go (f' := ((if v ≤ (nI 10) then 13 else 10), [.ref 0, .int v, .retAddr 0], [], MW A B F sw, 0, 0)) 3 rfl ?_
  refine wp_ite (fun _ => ?_) (fun h9 => absurd hv2 h9)
  refine wp_go (f' := (26, [.ref 0, .int v, .int (F 0)], [.int v, .ref 1], MW A B F sw, 0, 0)) 7 rfl ?_
  refine wp_call rfl rfl rfl (ev_up (ev_gStart v) (by decide)) ?_
  refine wp_eq (f' := (29, [.ref 0, .int v, .int (F 0)], [], MW (upA (upA A 2 (cleared A 2 3).1) 3 (cleared A 2 3).2) B (upF (upF (upF F 0 v) 1 (nI 0)) 2 (F 2 + nI 1)) sw, 0, 0)) rfl ?_
  refine wp_go (f' := (30, [.ref 0, .int v, .int (F 0)], [.int (F 0)], MW (upA (upA A 2 (cleared A 2 3).1) 3 (cleared A 2 3).2) B (upF (upF (upF F 0 v) 1 (nI 0)) 2 (F 2 + nI 1)) sw, 0, 0)) 1 rfl ?_
  exact wp_iret rfl
theorem ev_fMost (hC : CI A F n nb) : mv_Ev xs Ls 2 22 [.ref 23] (MW A B F sw) (some (.int (nI (degN n nb))), MW A B F sw, 0, 0) := by
  refine ev_of_wp rfl rfl rfl ?_
  have hn := hC.1
  have hp := pow10 hn
  have hp1 : 1 ≤ 2 ^ n := Nat.one_le_two_pow
  have hal := all_lt hn
  refine wp_go (f' := (4, [.ref 23, .int (nI 0), .int (nI 0)], [], MW A B F sw, 0, 0)) 4 rfl ?_
  refine for_ind (P := fun (k : Nat) (m : Nat) => m ≤ 10 → mv_Wp xs Ls 1 1 false (some .int) mv_c22 (4, [.ref 23, .int (nI m), .int (nI k)], [], MW A B F sw, 0, 0) (some (.int (nI (degN n nb))), MW A B F sw, 0, 0)) (f := fun k m => if m < pop (nb k) then pop (nb k) else m) (n := n) ?_ n 0 (Nat.le_refl _) ?_ ?_ 
  · intro k m hk ih hv 
    refine wp_go (f' := (12, [.ref 23, .int (nI m), .int (nI k)], [.int (F 0), .int (nI k)], MW A B F sw, 0, 0)) 4 rfl ?_
    rw [hC.2.1]
    refine wp_go (f' := ((if (nI n) ≤ (nI k) then 38 else 15), [.ref 23, .int (nI m), .int (nI k)], [], MW A B F sw, 0, 0)) 1 rfl ?_
    refine wp_ite (fun h9 => absurd h9 (nI_ge hk (by omega))) (fun _ => ?_)
    refine wp_go (f' := (24, [.ref 23, .int (nI m), .int (nI k)], [.int (nI k), .ref 2, .int (nI m)], MW A B F sw, 0, 0)) 5 rfl ?_
    refine wp_iald rfl rfl (by omega) (by decide) ?_
    rw [hC.2.2.1 k (by omega)]
    have hnb := hC.2.2.2 k (by omega)
    refine wp_call rfl rfl rfl (ev_up (ev_bitCount (s := nb k) (by omega) _) (by decide)) ?_
    refine wp_eq (f' := (28, [.ref 23, .int (nI m), .int (nI k)], [.int (nI (pop (nb k))), .int (nI m)], MW A B F sw, 0, 0)) rfl ?_
    have hpp := pop_le (s := nb k) (by omega)
    refine wp_go (f' := (31, [.ref 23, .int (nI m), .int (nI k)], [.int (if (nI m) < (nI (pop (nb k))) then nI (pop (nb k)) else nI m)], MW A B F sw, 0, 0)) 1 rfl ?_
    rw [nI_ite (by omega) (by omega)]
    refine wp_go (f' := (35, [.ref 23, .int (nI (if m < pop (nb k) then pop (nb k) else m)), .int ((nI k) + 1)], [], MW A B F sw, 0, 0)) 2 rfl ?_
    rw [nI_1]
    refine wp_go (f' := (4, [.ref 23, .int (nI (if m < pop (nb k) then pop (nb k) else m)), .int (nI (k + 1))], [], MW A B F sw, 0, 0)) 1 rfl ?_
    exact ih (by split <;> omega)
  · intro hv 
    refine wp_go (f' := (12, [.ref 23, .int (nI (degN n nb)), .int (nI n)], [.int (F 0), .int (nI n)], MW A B F sw, 0, 0)) 4 rfl ?_
    rw [hC.2.1]
    refine wp_go (f' := ((if (nI n) ≤ (nI n) then 38 else 15), [.ref 23, .int (nI (degN n nb)), .int (nI n)], [], MW A B F sw, 0, 0)) 1 rfl ?_
    refine wp_ite (fun _ => ?_) (fun h9 => absurd (nI_le (Nat.le_refl _) (by omega)) h9)
    refine wp_go (f' := (39, [.ref 23, .int (nI (degN n nb)), .int (nI n)], [.int (nI (degN n nb))], MW A B F sw, 0, 0)) 1 rfl ?_
    exact wp_iret rfl
  · omega
theorem ev_fClique (hC : CI A F n nb) {s : Nat} (hs : s < 1024) : mv_Ev xs Ls 2 55 [.ref 23, .int (nI s)] (MW A B F sw) (some (.int (bI (cclN n nb s))), MW A B F sw, 0, 0) := by
  refine ev_of_wp rfl rfl rfl ?_
  have hn := hC.1
  have hp := pow10 hn
  have hp1 : 1 ≤ 2 ^ n := Nat.one_le_two_pow
  have hal := all_lt hn
  refine wp_go (f' := (4, [.ref 23, .int (nI s), .retAddr 0, .retAddr 0], [.ref 1], MW A B F sw, 0, 0)) 2 rfl ?_
  refine wp_call rfl rfl rfl (ev_up (ev_gAll hC) (by decide)) ?_
  refine wp_eq (f' := (7, [.ref 23, .int (nI s), .retAddr 0, .retAddr 0], [.int (nI (2 ^ n - 1))], MW A B F sw, 0, 0)) rfl ?_
  refine wp_go (f' := (10, [.ref 23, .int (nI s), .int (nI (2 ^ n - 1)), .int (nI 0)], [], MW A B F sw, 0, 0)) 3 rfl ?_
  refine for_ind (P := fun (k : Nat) (c : Nat) => c < 1024 → mv_Wp xs Ls 1 1 false (some .boolean) mv_c55 (10, [.ref 23, .int (nI s), .int (nI c), .int (nI k)], [], MW A B F sw, 0, 0) (some (.int (bI (cclN n nb s))), MW A B F sw, 0, 0)) (f := fun k c => if s.testBit k then c &&& (nb k ||| 2 ^ k) else c) (n := n) ?_ n (2 ^ n - 1) (Nat.le_refl _) ?_ ?_ 
  · intro k c hk ih hv 
    refine wp_go (f' := (18, [.ref 23, .int (nI s), .int (nI c), .int (nI k)], [.int (F 0), .int (nI k)], MW A B F sw, 0, 0)) 4 rfl ?_
    rw [hC.2.1]
    refine wp_go (f' := ((if (nI n) ≤ (nI k) then 51 else 21), [.ref 23, .int (nI s), .int (nI c), .int (nI k)], [], MW A B F sw, 0, 0)) 1 rfl ?_
    refine wp_ite (fun h9 => absurd h9 (nI_ge hk (by omega))) (fun _ => ?_)
    refine wp_go (f' := (26, [.ref 23, .int (nI s), .int (nI c), .int (nI k)], [.int (((nI s) >>> ((nI k) &&& 31)) &&& (nI 1))], MW A B F sw, 0, 0)) 5 rfl ?_
    rw [bx_bit (by omega) (by omega)]
    refine wp_go (f' := ((if (bI (s.testBit k)) = 0 then 45 else 29), [.ref 23, .int (nI s), .int (nI c), .int (nI k)], [], MW A B F sw, 0, 0)) 1 rfl ?_
    refine wp_ite (fun h1 => ?_) (fun h1 => ?_)
    · have h1 := bI_0.mp h1
      refine wp_go (f' := (48, [.ref 23, .int (nI s), .int (nI c), .int ((nI k) + 1)], [], MW A B F sw, 0, 0)) 1 rfl ?_
      rw [nI_1]
      refine wp_go (f' := (10, [.ref 23, .int (nI s), .int (nI c), .int (nI (k + 1))], [], MW A B F sw, 0, 0)) 1 rfl ?_
      have e9 : (if s.testBit k then c &&& (nb k ||| 2 ^ k) else c) = c := by simp [h1]
      have h8 := ih (by rw [e9]; first | omega | exact and_lt (by omega))
      rw [e9] at h8
      exact h8
    · have h1 := bI_n0 h1
      refine wp_go (f' := (38, [.ref 23, .int (nI s), .int (nI c), .int (nI k)], [.int (nI k), .ref 2, .int (nI c)], MW A B F sw, 0, 0)) 5 rfl ?_
      refine wp_iald rfl rfl (by omega) (by decide) ?_
      rw [hC.2.2.1 k (by omega)]
      have hnb := hC.2.2.2 k (by omega)
      refine wp_go (f' := (42, [.ref 23, .int (nI s), .int (nI c), .int (nI k)], [.int ((nI 1) <<< ((nI k) &&& 31)), .int (nI (nb k)), .int (nI c)], MW A B F sw, 0, 0)) 3 rfl ?_
      rw [bx_one (by omega)]
      refine wp_go (f' := (43, [.ref 23, .int (nI s), .int (nI c), .int (nI k)], [.int ((nI (nb k)) ||| (nI (2 ^ k))), .int (nI c)], MW A B F sw, 0, 0)) 1 rfl ?_
      rw [bx_or]
      refine wp_go (f' := (44, [.ref 23, .int (nI s), .int (nI c), .int (nI k)], [.int ((nI c) &&& (nI ((nb k) ||| (2 ^ k))))], MW A B F sw, 0, 0)) 1 rfl ?_
      rw [bx_and]
      refine wp_go (f' := (48, [.ref 23, .int (nI s), .int (nI (c &&& ((nb k) ||| (2 ^ k)))), .int ((nI k) + 1)], [], MW A B F sw, 0, 0)) 2 rfl ?_
      rw [nI_1]
      refine wp_go (f' := (10, [.ref 23, .int (nI s), .int (nI (c &&& ((nb k) ||| (2 ^ k)))), .int (nI (k + 1))], [], MW A B F sw, 0, 0)) 1 rfl ?_
      have e9 : (if s.testBit k then c &&& (nb k ||| 2 ^ k) else c) = c &&& ((nb k) ||| (2 ^ k)) := by simp [h1]
      have h8 := ih (by rw [e9]; first | omega | exact and_lt (by omega))
      rw [e9] at h8
      exact h8
  · intro hv 
    refine wp_go (f' := (18, [.ref 23, .int (nI s), .int (nI (forN (fun k c => if s.testBit k then c &&& (nb k ||| 2 ^ k) else c) n (2 ^ n - 1))), .int (nI n)], [.int (F 0), .int (nI n)], MW A B F sw, 0, 0)) 4 rfl ?_
    rw [hC.2.1]
    refine wp_go (f' := ((if (nI n) ≤ (nI n) then 51 else 21), [.ref 23, .int (nI s), .int (nI (forN (fun k c => if s.testBit k then c &&& (nb k ||| 2 ^ k) else c) n (2 ^ n - 1))), .int (nI n)], [], MW A B F sw, 0, 0)) 1 rfl ?_
    refine wp_ite (fun _ => ?_) (fun h9 => absurd (nI_le (Nat.le_refl _) (by omega)) h9)
    refine wp_go (f' := ((if (nI s) = 0 then 64 else 55), [.ref 23, .int (nI s), .int (nI (forN (fun k c => if s.testBit k then c &&& (nb k ||| 2 ^ k) else c) n (2 ^ n - 1))), .int (nI n)], [], MW A B F sw, 0, 0)) 2 rfl ?_
    refine wp_ite (fun h1 => ?_) (fun h1 => ?_)
    · have h1 : s = 0 := (nI_eq (a := s) (b := 0) (by omega) (by omega)).mp h1
      refine wp_go (f' := (65, [.ref 23, .int (nI s), .int (nI (forN (fun k c => if s.testBit k then c &&& (nb k ||| 2 ^ k) else c) n (2 ^ n - 1))), .int (nI n)], [.int (nI 0)], MW A B F sw, 0, 0)) 1 rfl ?_
      rw [show cclN n nb s = false from ?_]
      · exact wp_zret rfl (by first | exact Or.inl rfl | exact Or.inr rfl)
      · unfold cclN; rw [decide_eq_false (show ¬ ¬ s = 0 from fun h9 => h9 h1)]; rfl
    · have h1 : ¬ (s = 0) := fun h9 => h1 ((nI_eq (a := s) (b := 0) (by omega) (by omega)).mpr h9)
      refine wp_go (f' := ((if ¬ (nI (forN (fun k c => if s.testBit k then c &&& (nb k ||| 2 ^ k) else c) n (2 ^ n - 1))) = (nI s) then 64 else 60), [.ref 23, .int (nI s), .int (nI (forN (fun k c => if s.testBit k then c &&& (nb k ||| 2 ^ k) else c) n (2 ^ n - 1))), .int (nI n)], [], MW A B F sw, 0, 0)) 3 rfl ?_
      refine wp_ite (fun h2 => ?_) (fun h2 => ?_)
      · have h2 : ¬ (forN (fun k c => if s.testBit k then c &&& (nb k ||| 2 ^ k) else c) n (2 ^ n - 1) = s) := fun h9 => h2 ((nI_eq (a := forN (fun k c => if s.testBit k then c &&& (nb k ||| 2 ^ k) else c) n (2 ^ n - 1)) (b := s) (by omega) (by omega)).mpr h9)
        refine wp_go (f' := (65, [.ref 23, .int (nI s), .int (nI (forN (fun k c => if s.testBit k then c &&& (nb k ||| 2 ^ k) else c) n (2 ^ n - 1))), .int (nI n)], [.int (nI 0)], MW A B F sw, 0, 0)) 1 rfl ?_
        rw [show cclN n nb s = false from ?_]
        · exact wp_zret rfl (by first | exact Or.inl rfl | exact Or.inr rfl)
        · unfold cclN; rw [decide_eq_true h1, decide_eq_false h2]; rfl
      · have h2 := Classical.not_not.mp h2; have h2 : forN (fun k c => if s.testBit k then c &&& (nb k ||| 2 ^ k) else c) n (2 ^ n - 1) = s := (nI_eq (a := forN (fun k c => if s.testBit k then c &&& (nb k ||| 2 ^ k) else c) n (2 ^ n - 1)) (b := s) (by omega) (by omega)).mp h2
        refine wp_go (f' := (65, [.ref 23, .int (nI s), .int (nI (forN (fun k c => if s.testBit k then c &&& (nb k ||| 2 ^ k) else c) n (2 ^ n - 1))), .int (nI n)], [.int (nI 1)], MW A B F sw, 0, 0)) 2 rfl ?_
        rw [show cclN n nb s = true from ?_]
        · exact wp_zret rfl (by first | exact Or.inl rfl | exact Or.inr rfl)
        · unfold cclN; rw [decide_eq_true h1, decide_eq_true h2]; rfl
  · omega
end CC
end
section
theorem pie_bound {nb : Nat → Nat} {g : Nat → Nat → Nat} (hg : ∀ t m, g t m ≤ m + 1) : ∀ (f t m : Nat), pieF nb g f t m ≤ m + f
  | 0, t, m => by simp [pieF]
  | f + 1, t, m => by
    rw [pieF_succ]
    split
    · omega
    · have h1 := pie_bound (nb := nb) hg f (sd (t &&& (t - 1)) (pcN nb t)) (g t m)
      have h2 := hg t m
      omega
/-- the class's test of a hole -/
def chlF (n : Nat) (nb : Nat → Nat) (s j : Nat) : Bool := forN (fun k b => b && (!(s.testBit k) || decide (pop (nb k &&& s) = 2))) j true
def chlN (n : Nat) (nb : Nat → Nat) (s : Nat) : Bool := (decide (4 ≤ pop s) && (decide (inN nb s = pop s) && decide (pcN nb s = s))) && chlF n nb s n
theorem chlF_f {n : Nat} {nb : Nat → Nat} {s k : Nat} (h : (!(s.testBit k) || decide (pop (nb k &&& s) = 2)) = false) : ∀ j, k < j → chlF n nb s j = false
  | 0, hk => by omega
  | j + 1, hk => by
    unfold chlF
    simp only [forN]
    by_cases e : k = j
    · subst e; rw [h]; simp
    · have := chlF_f (n := n) h j (by omega)
      unfold chlF at this
      rw [this]; rfl
section CC
variable {xs : Nat → Int32} {Ls : Nat} {A : Nat → Nat → Int32} {B : Nat → Nat → Int64} {F : Nat → Int32} {sw : Bool} {n : Nat} {nb : Nat → Nat}
theorem ev_fSep (hC : CI A F n nb) (hR : RI A n nb) {s : Nat} (hs : s < 1024) : mv_Ev xs Ls 2 52 [.ref 23, .int (nI s)] (MW A B F sw) (some (.int (bI (cspN n nb s))), MW A B F sw, 0, 0) := by
  refine ev_of_wp rfl rfl rfl ?_
  have hn := hC.1
  have hp := pow10 hn
  have hp1 : 1 ≤ 2 ^ n := Nat.one_le_two_pow
  have hal := all_lt hn
  have hlt := sd_lt (b := s) hal
  refine wp_go (f' := (6, [.ref 23, .int (nI s), .int (nI 0), .retAddr 0], [.ref 1], MW A B F sw, 0, 0)) 4 rfl ?_
  refine wp_call rfl rfl rfl (ev_up (ev_gAll hC) (by decide)) ?_
  refine wp_eq (f' := (9, [.ref 23, .int (nI s), .int (nI 0), .retAddr 0], [.int (nI (2 ^ n - 1))], MW A B F sw, 0, 0)) rfl ?_
  refine wp_go (f' := (13, [.ref 23, .int (nI s), .int (nI 0), .retAddr 0], [.int ((nI (2 ^ n - 1)) &&& ((nI s) ^^^ (-1)))], MW A B F sw, 0, 0)) 4 rfl ?_
  rw [bx_sd (by omega)]
  refine wp_go (f' := (14, [.ref 23, .int (nI s), .int (nI 0), .int (nI (sd (2 ^ n - 1) s))], [], MW A B F sw, 0, 0)) 1 rfl ?_
  have hln : sd (2 ^ n - 1) s < 2 ^ n := by have h9 := sd_le (a := 2 ^ n - 1) (b := s); omega
  refine pie_ind (P := fun (t m : Nat) => mv_Wp xs Ls 1 1 false (some .boolean) mv_c52 (14, [.ref 23, .int (nI s), .int (nI m), .int (nI t)], [], MW A B F sw, 0, 0) (some (.int (bI (cspN n nb s))), MW A B F sw, 0, 0)) (nb := nb) (g := fun t m => if rcN nb (pcN nb t) &&& s = s then m + 1 else m) (N := 2 ^ n) hp ?_ (sd (2 ^ n - 1) s) 0 hln ?_
  · intro t m ht ht0 ih
    have hla : t &&& (t - 1) < 1024 := and_lt (by omega)
    have hrs : rcN nb (pcN nb t) &&& s < 1024 := and_lt_r (by omega)
    refine wp_go (f' := ((if (nI t) = 0 then 65 else 18), [.ref 23, .int (nI s), .int (nI m), .int (nI t)], [], MW A B F sw, 0, 0)) 2 rfl ?_
    refine wp_ite (fun h9 => absurd h9 (fun h8 => ht0 ((nI_eq (a := t) (b := 0) (by omega) (by omega)).mp h8))) (fun _ => ?_)
    refine wp_go (f' := (33, [.ref 23, .int (nI s), .int (nI m), .int (nI t)], [.int (nI t), .ref 6, .ref 4], MW A B F sw, 0, 0)) 7 rfl ?_
    refine wp_iald rfl rfl (by omega) (by decide) ?_
    rw [(hR t (by omega)).2.2]
    have hpcl := pc_le (nb := nb) (s := t) (by omega)
    refine wp_iald rfl rfl (by omega) (by decide) ?_
    rw [(hR (pcN nb t) (by omega)).1]
    have hrcl := rc_lt hC.2.2.2 (pcN nb t) (by omega)
    refine wp_go (f' := (37, [.ref 23, .int (nI s), .int (nI m), .int (nI t)], [.int ((nI (rcN nb (pcN nb t))) &&& (nI s))], MW A B F sw, 0, 0)) 2 rfl ?_
    rw [bx_and]
    refine wp_go (f' := ((if ¬ (nI ((rcN nb (pcN nb t)) &&& s)) = (nI s) then 44 else 41), [.ref 23, .int (nI s), .int (nI m), .int (nI t)], [], MW A B F sw, 0, 0)) 2 rfl ?_
    refine wp_ite (fun h1 => ?_) (fun h1 => ?_)
    · have h1 : ¬ ((rcN nb (pcN nb t)) &&& s = s) := fun h9 => h1 ((nI_eq (a := (rcN nb (pcN nb t)) &&& s) (b := s) (by omega) (by omega)).mpr h9)
      refine wp_go (f' := (48, [.ref 23, .int (nI s), .int (nI m), .int (nI t)], [.int ((nI t) - (nI 1)), .int (nI t)], MW A B F sw, 0, 0)) 4 rfl ?_
      rw [pk_sub (by omega)]
      refine wp_go (f' := (49, [.ref 23, .int (nI s), .int (nI m), .int (nI t)], [.int ((nI t) &&& (nI (t - 1)))], MW A B F sw, 0, 0)) 1 rfl ?_
      rw [bx_and]
      refine wp_go (f' := (57, [.ref 23, .int (nI s), .int (nI m), .int (nI t)], [.int (nI t), .ref 6, .int (nI (t &&& (t - 1)))], MW A B F sw, 0, 0)) 4 rfl ?_
      refine wp_iald rfl rfl (by omega) (by decide) ?_
      rw [(hR t (by omega)).2.2]
      have hpcl := pc_le (nb := nb) (s := t) (by omega)
      refine wp_go (f' := (61, [.ref 23, .int (nI s), .int (nI m), .int (nI t)], [.int ((nI (t &&& (t - 1))) &&& ((nI (pcN nb t)) ^^^ (-1)))], MW A B F sw, 0, 0)) 3 rfl ?_
      rw [bx_sd (by omega)]
      refine wp_go (f' := (14, [.ref 23, .int (nI s), .int (nI m), .int (nI (sd (t &&& (t - 1)) (pcN nb t)))], [], MW A B F sw, 0, 0)) 2 rfl ?_
      refine wp_eq ?_ ih
      simp [h1]
    · have h1 := Classical.not_not.mp h1; have h1 : (rcN nb (pcN nb t)) &&& s = s := (nI_eq (a := (rcN nb (pcN nb t)) &&& s) (b := s) (by omega) (by omega)).mp h1
      refine wp_go (f' := (44, [.ref 23, .int (nI s), .int ((nI m) + 1), .int (nI t)], [], MW A B F sw, 0, 0)) 1 rfl ?_
      rw [nI_1]
      refine wp_go (f' := (48, [.ref 23, .int (nI s), .int (nI (m + 1)), .int (nI t)], [.int ((nI t) - (nI 1)), .int (nI t)], MW A B F sw, 0, 0)) 4 rfl ?_
      rw [pk_sub (by omega)]
      refine wp_go (f' := (49, [.ref 23, .int (nI s), .int (nI (m + 1)), .int (nI t)], [.int ((nI t) &&& (nI (t - 1)))], MW A B F sw, 0, 0)) 1 rfl ?_
      rw [bx_and]
      refine wp_go (f' := (57, [.ref 23, .int (nI s), .int (nI (m + 1)), .int (nI t)], [.int (nI t), .ref 6, .int (nI (t &&& (t - 1)))], MW A B F sw, 0, 0)) 4 rfl ?_
      refine wp_iald rfl rfl (by omega) (by decide) ?_
      rw [(hR t (by omega)).2.2]
      have hpcl := pc_le (nb := nb) (s := t) (by omega)
      refine wp_go (f' := (61, [.ref 23, .int (nI s), .int (nI (m + 1)), .int (nI t)], [.int ((nI (t &&& (t - 1))) &&& ((nI (pcN nb t)) ^^^ (-1)))], MW A B F sw, 0, 0)) 3 rfl ?_
      rw [bx_sd (by omega)]
      refine wp_go (f' := (14, [.ref 23, .int (nI s), .int (nI (m + 1)), .int (nI (sd (t &&& (t - 1)) (pcN nb t)))], [], MW A B F sw, 0, 0)) 2 rfl ?_
      refine wp_eq ?_ ih
      simp [h1]
  · have hpb : pieN nb (fun t m => if rcN nb (pcN nb t) &&& s = s then m + 1 else m) (sd (2 ^ n - 1) s) 0 ≤ 0 + 1024 := pie_bound (fun t m => by split <;> omega) 1024 _ _
    refine wp_go (f' := ((if (nI 0) = 0 then 65 else 18), [.ref 23, .int (nI s), .int (nI (pieN nb (fun t m => if rcN nb (pcN nb t) &&& s = s then m + 1 else m) (sd (2 ^ n - 1) s) 0)), .int (nI 0)], [], MW A B F sw, 0, 0)) 2 rfl ?_
    refine wp_ite (fun _ => ?_) (fun h9 => absurd (rfl : nI 0 = 0) h9)
    refine wp_go (f' := ((if (nI (pieN nb (fun t m => if rcN nb (pcN nb t) &&& s = s then m + 1 else m) (sd (2 ^ n - 1) s) 0)) < (nI 2) then 74 else 70), [.ref 23, .int (nI s), .int (nI (pieN nb (fun t m => if rcN nb (pcN nb t) &&& s = s then m + 1 else m) (sd (2 ^ n - 1) s) 0)), .int (nI 0)], [], MW A B F sw, 0, 0)) 3 rfl ?_
    refine wp_ite (fun h1 => ?_) (fun h1 => ?_)
    · have h1 : pieN nb (fun t m => if rcN nb (pcN nb t) &&& s = s then m + 1 else m) (sd (2 ^ n - 1) s) 0 < 2 := (nI_ltI (a := pieN nb (fun t m => if rcN nb (pcN nb t) &&& s = s then m + 1 else m) (sd (2 ^ n - 1) s) 0) (b := 2) (by omega) (by omega)).mp h1
      refine wp_go (f' := (75, [.ref 23, .int (nI s), .int (nI (pieN nb (fun t m => if rcN nb (pcN nb t) &&& s = s then m + 1 else m) (sd (2 ^ n - 1) s) 0)), .int (nI 0)], [.int (nI 0)], MW A B F sw, 0, 0)) 1 rfl ?_
      rw [show cspN n nb s = false from ?_]
      · exact wp_zret rfl (by first | exact Or.inl rfl | exact Or.inr rfl)
      · unfold cspN; exact decide_eq_false (by omega)
    · have h1 : ¬ (pieN nb (fun t m => if rcN nb (pcN nb t) &&& s = s then m + 1 else m) (sd (2 ^ n - 1) s) 0 < 2) := fun h9 => h1 ((nI_ltI (a := pieN nb (fun t m => if rcN nb (pcN nb t) &&& s = s then m + 1 else m) (sd (2 ^ n - 1) s) 0) (b := 2) (by omega) (by omega)).mpr h9)
      refine wp_go (f' := (75, [.ref 23, .int (nI s), .int (nI (pieN nb (fun t m => if rcN nb (pcN nb t) &&& s = s then m + 1 else m) (sd (2 ^ n - 1) s) 0)), .int (nI 0)], [.int (nI 1)], MW A B F sw, 0, 0)) 2 rfl ?_
      rw [show cspN n nb s = true from ?_]
      · exact wp_zret rfl (by first | exact Or.inl rfl | exact Or.inr rfl)
      · unfold cspN; exact decide_eq_true (by omega)
theorem lp_F_separatorAt (hC : CI A F n nb) (hR : RI A n nb) {k : Int32} : ∀ (f s m : Nat), s + f = 2 ^ n → m ≤ s → mv_Wp xs Ls 2 1 false (some .int) mv_c51 (20, [.ref 23, .int k, .int (nI m), .int (nI (2 ^ n - 1)), .int (nI s)], [], MW A B F sw, 0, 0) (some (.int (pickN (cspN n nb) k f s m)), MW A B F sw, 0, 0) := by
  have hn := hC.1
  have hp := pow10 hn
  have hp1 : 1 ≤ 2 ^ n := Nat.one_le_two_pow
  have hal := all_lt hn
  intro f
  induction f with
  | zero =>
    intro s m hs hms
    refine wp_go (f' := ((if (nI (2 ^ n - 1)) < (nI s) then 52 else 26), [.ref 23, .int k, .int (nI m), .int (nI (2 ^ n - 1)), .int (nI s)], [], MW A B F sw, 0, 0)) 3 rfl ?_
    refine wp_ite (fun _ => ?_) (fun h9 => absurd (nI_lt (by omega) (by omega)) h9)
    refine wp_go (f' := (53, [.ref 23, .int k, .int (nI m), .int (nI (2 ^ n - 1)), .int (nI s)], [.int (-1)], MW A B F sw, 0, 0)) 1 rfl ?_
    exact wp_iret rfl
  | succ f ih =>
    intro s m hs hms
    refine wp_go (f' := ((if (nI (2 ^ n - 1)) < (nI s) then 52 else 26), [.ref 23, .int k, .int (nI m), .int (nI (2 ^ n - 1)), .int (nI s)], [], MW A B F sw, 0, 0)) 3 rfl ?_
    refine wp_ite (fun h9 => absurd h9 (nI_nlt (by omega) (by omega))) (fun _ => ?_)
    refine wp_go (f' := (29, [.ref 23, .int k, .int (nI m), .int (nI (2 ^ n - 1)), .int (nI s)], [.int (nI s), .ref 23], MW A B F sw, 0, 0)) 2 rfl ?_
    refine wp_call rfl rfl rfl (ev_up (ev_fSep hC hR (s := s) (by omega)) (by decide)) ?_
    refine wp_eq (f' := (32, [.ref 23, .int k, .int (nI m), .int (nI (2 ^ n - 1)), .int (nI s)], [.int (bI (cspN n nb s))], MW A B F sw, 0, 0)) rfl ?_
    refine wp_go (f' := ((if (bI (cspN n nb s)) = 0 then 46 else 35), [.ref 23, .int k, .int (nI m), .int (nI (2 ^ n - 1)), .int (nI s)], [], MW A B F sw, 0, 0)) 1 rfl ?_
    refine wp_ite (fun h1 => ?_) (fun h1 => ?_)
    · have h1 := bI_0.mp h1
      refine wp_go (f' := (49, [.ref 23, .int k, .int (nI m), .int (nI (2 ^ n - 1)), .int ((nI s) + 1)], [], MW A B F sw, 0, 0)) 1 rfl ?_
      rw [nI_1]
      refine wp_go (f' := (20, [.ref 23, .int k, .int (nI m), .int (nI (2 ^ n - 1)), .int (nI (s + 1))], [], MW A B F sw, 0, 0)) 1 rfl ?_
      simp only [pickN, h1, if_true, if_false, Bool.false_eq_true, reduceIte]
      exact ih (s + 1) m (by omega) (by omega)
    · have h1 := bI_n0 h1
      refine wp_go (f' := ((if ¬ (nI m) = k then 43 else 40), [.ref 23, .int k, .int (nI m), .int (nI (2 ^ n - 1)), .int (nI s)], [], MW A B F sw, 0, 0)) 3 rfl ?_
      refine wp_ite (fun h2 => ?_) (fun h2 => ?_)
      · skip
        refine wp_go (f' := (46, [.ref 23, .int k, .int ((nI m) + 1), .int (nI (2 ^ n - 1)), .int (nI s)], [], MW A B F sw, 0, 0)) 1 rfl ?_
        rw [nI_1]
        refine wp_go (f' := (49, [.ref 23, .int k, .int (nI (m + 1)), .int (nI (2 ^ n - 1)), .int ((nI s) + 1)], [], MW A B F sw, 0, 0)) 1 rfl ?_
        rw [nI_1]
        refine wp_go (f' := (20, [.ref 23, .int k, .int (nI (m + 1)), .int (nI (2 ^ n - 1)), .int (nI (s + 1))], [], MW A B F sw, 0, 0)) 1 rfl ?_
        simp only [pickN, h1, if_true, if_false, Bool.false_eq_true, reduceIte, if_neg h2]
        exact ih (s + 1) (m + 1) (by omega) (by omega)
      · have h2 := Classical.not_not.mp h2
        refine wp_go (f' := (42, [.ref 23, .int k, .int (nI m), .int (nI (2 ^ n - 1)), .int (nI s)], [.int (nI s)], MW A B F sw, 0, 0)) 1 rfl ?_
        simp only [pickN, h1, if_true, reduceIte, if_pos h2]
        exact wp_iret rfl
theorem lp_F_cliqueAt (hC : CI A F n nb) {k : Int32} : ∀ (f s m : Nat), s + f = 2 ^ n → m ≤ s → mv_Wp xs Ls 2 1 false (some .int) mv_c54 (13, [.ref 23, .int k, .int (nI m), .int (nI (2 ^ n - 1)), .int (nI s)], [], MW A B F sw, 0, 0) (some (.int (pickN (cclN n nb) k f s m)), MW A B F sw, 0, 0) := by
  have hn := hC.1
  have hp := pow10 hn
  have hp1 : 1 ≤ 2 ^ n := Nat.one_le_two_pow
  have hal := all_lt hn
  intro f
  induction f with
  | zero =>
    intro s m hs hms
    refine wp_go (f' := ((if (nI (2 ^ n - 1)) < (nI s) then 45 else 19), [.ref 23, .int k, .int (nI m), .int (nI (2 ^ n - 1)), .int (nI s)], [], MW A B F sw, 0, 0)) 3 rfl ?_
    refine wp_ite (fun _ => ?_) (fun h9 => absurd (nI_lt (by omega) (by omega)) h9)
    refine wp_go (f' := (46, [.ref 23, .int k, .int (nI m), .int (nI (2 ^ n - 1)), .int (nI s)], [.int (-1)], MW A B F sw, 0, 0)) 1 rfl ?_
    exact wp_iret rfl
  | succ f ih =>
    intro s m hs hms
    refine wp_go (f' := ((if (nI (2 ^ n - 1)) < (nI s) then 45 else 19), [.ref 23, .int k, .int (nI m), .int (nI (2 ^ n - 1)), .int (nI s)], [], MW A B F sw, 0, 0)) 3 rfl ?_
    refine wp_ite (fun h9 => absurd h9 (nI_nlt (by omega) (by omega))) (fun _ => ?_)
    refine wp_go (f' := (22, [.ref 23, .int k, .int (nI m), .int (nI (2 ^ n - 1)), .int (nI s)], [.int (nI s), .ref 23], MW A B F sw, 0, 0)) 2 rfl ?_
    refine wp_call rfl rfl rfl (ev_up (ev_fClique hC (s := s) (by omega)) (by decide)) ?_
    refine wp_eq (f' := (25, [.ref 23, .int k, .int (nI m), .int (nI (2 ^ n - 1)), .int (nI s)], [.int (bI (cclN n nb s))], MW A B F sw, 0, 0)) rfl ?_
    refine wp_go (f' := ((if (bI (cclN n nb s)) = 0 then 39 else 28), [.ref 23, .int k, .int (nI m), .int (nI (2 ^ n - 1)), .int (nI s)], [], MW A B F sw, 0, 0)) 1 rfl ?_
    refine wp_ite (fun h1 => ?_) (fun h1 => ?_)
    · have h1 := bI_0.mp h1
      refine wp_go (f' := (42, [.ref 23, .int k, .int (nI m), .int (nI (2 ^ n - 1)), .int ((nI s) + 1)], [], MW A B F sw, 0, 0)) 1 rfl ?_
      rw [nI_1]
      refine wp_go (f' := (13, [.ref 23, .int k, .int (nI m), .int (nI (2 ^ n - 1)), .int (nI (s + 1))], [], MW A B F sw, 0, 0)) 1 rfl ?_
      simp only [pickN, h1, if_true, if_false, Bool.false_eq_true, reduceIte]
      exact ih (s + 1) m (by omega) (by omega)
    · have h1 := bI_n0 h1
      refine wp_go (f' := ((if ¬ (nI m) = k then 36 else 33), [.ref 23, .int k, .int (nI m), .int (nI (2 ^ n - 1)), .int (nI s)], [], MW A B F sw, 0, 0)) 3 rfl ?_
      refine wp_ite (fun h2 => ?_) (fun h2 => ?_)
      · skip
        refine wp_go (f' := (39, [.ref 23, .int k, .int ((nI m) + 1), .int (nI (2 ^ n - 1)), .int (nI s)], [], MW A B F sw, 0, 0)) 1 rfl ?_
        rw [nI_1]
        refine wp_go (f' := (42, [.ref 23, .int k, .int (nI (m + 1)), .int (nI (2 ^ n - 1)), .int ((nI s) + 1)], [], MW A B F sw, 0, 0)) 1 rfl ?_
        rw [nI_1]
        refine wp_go (f' := (13, [.ref 23, .int k, .int (nI (m + 1)), .int (nI (2 ^ n - 1)), .int (nI (s + 1))], [], MW A B F sw, 0, 0)) 1 rfl ?_
        simp only [pickN, h1, if_true, if_false, Bool.false_eq_true, reduceIte, if_neg h2]
        exact ih (s + 1) (m + 1) (by omega) (by omega)
      · have h2 := Classical.not_not.mp h2
        refine wp_go (f' := (35, [.ref 23, .int k, .int (nI m), .int (nI (2 ^ n - 1)), .int (nI s)], [.int (nI s)], MW A B F sw, 0, 0)) 1 rfl ?_
        simp only [pickN, h1, if_true, reduceIte, if_pos h2]
        exact wp_iret rfl
theorem ev_fCliqueAt (hC : CI A F n nb) (k : Int32) : mv_Ev xs Ls 3 54 [.ref 23, .int k] (MW A B F sw) (some (.int (pickN (cclN n nb) k (2 ^ n - 1) 1 0)), MW A B F sw, 0, 0) := by
  refine ev_of_wp rfl rfl rfl ?_
  have hn := hC.1
  have hp := pow10 hn
  have hp1 : 1 ≤ 2 ^ n := Nat.one_le_two_pow
  have hal := all_lt hn
  refine wp_go (f' := (6, [.ref 23, .int k, .int (nI 0), .retAddr 0, .retAddr 0], [.ref 1], MW A B F sw, 0, 0)) 4 rfl ?_
  refine wp_call rfl rfl rfl (ev_up (ev_gAll hC) (by decide)) ?_
  refine wp_eq (f' := (9, [.ref 23, .int k, .int (nI 0), .retAddr 0, .retAddr 0], [.int (nI (2 ^ n - 1))], MW A B F sw, 0, 0)) rfl ?_
  refine wp_go (f' := (13, [.ref 23, .int k, .int (nI 0), .int (nI (2 ^ n - 1)), .int (nI 1)], [], MW A B F sw, 0, 0)) 3 rfl ?_
  exact lp_F_cliqueAt hC (2 ^ n - 1) 1 0 (by omega) (by omega)
theorem ev_bClique (hC : CI A F n nb) (k : Int32) : mv_Ev xs Ls 4 53 [.ref 0, .int k] (MW A B F sw) (some (.int (pickN (cclN n nb) k (2 ^ n - 1) 1 0)), MW A B F sw, 0, 0) := by
  refine ev_of_wp rfl rfl rfl ?_
  have hn := hC.1
  have hp := pow10 hn
  have hp1 : 1 ≤ 2 ^ n := Nat.one_le_two_pow
  have hal := all_lt hn
  refine wp_go (f' := (5, [.ref 0, .int k], [.int k, .ref 23], MW A B F sw, 0, 0)) 3 rfl ?_
  refine wp_call rfl rfl rfl (ev_up (ev_fCliqueAt hC k) (by decide)) ?_
  refine wp_eq (f' := (8, [.ref 0, .int k], [.int (pickN (cclN n nb) k (2 ^ n - 1) 1 0)], MW A B F sw, 0, 0)) rfl ?_
  exact wp_iret rfl
theorem wp_deep {d e cls : Nat} {ini : Bool} {ret : Option FieldType} {code : List (Nat × Instr × Nat)} {f : mv_F} {r : mv_R} (h : mv_Wp xs Ls d cls ini ret code f r) (hde : d ≤ e) : mv_Wp xs Ls e cls ini ret code f r := by
  obtain ⟨N0, h⟩ := h
  exact ⟨N0, fun N n hN hn => mv_run_le (mv_call_up N hde) _ _ _ (h N n hN hn)⟩
theorem lq_sepAt (hC : CI A F n nb) (hR : RI A n nb) (k : Int32) : mv_Wp xs Ls 3 1 false (some .int) mv_c51 (7, [.ref 23, .int k, .retAddr 0, .retAddr 0, .retAddr 0], [], MW A B F sw, 0, 0) (some (.int (pickN (cspN n nb) k (2 ^ n) 0 0)), MW A B F sw, 0, 0) := by
  have hn := hC.1
  have hp := pow10 hn
  have hp1 : 1 ≤ 2 ^ n := Nat.one_le_two_pow
  have hal := all_lt hn
  refine wp_go (f' := (13, [.ref 23, .int k, .int (nI 0), .retAddr 0, .retAddr 0], [.ref 1], MW A B F sw, 0, 0)) 4 rfl ?_
  refine wp_call rfl rfl rfl (ev_up (ev_gAll hC) (by decide)) ?_
  refine wp_eq (f' := (16, [.ref 23, .int k, .int (nI 0), .retAddr 0, .retAddr 0], [.int (nI (2 ^ n - 1))], MW A B F sw, 0, 0)) rfl ?_
  refine wp_go (f' := (20, [.ref 23, .int k, .int (nI 0), .int (nI (2 ^ n - 1)), .int (nI 0)], [], MW A B F sw, 0, 0)) 3 rfl ?_
  exact wp_deep (lp_F_separatorAt hC hR (2 ^ n) 0 0 (by omega) (by omega)) (by omega)
theorem ev_fSepAt (hC : CI A F n nb) (hZ : CZ A) (hco : F 3 = F 2 → RI A n nb) (k : Int32) : ∃ r4 r5 r6 : Nat → Int32, mv_Ev xs Ls 4 51 [.ref 23, .int k] (MW A B F sw) (some (.int (pickN (cspN n nb) k (2 ^ n) 0 0)), MW (upA (upA (upA A 4 r4) 5 r5) 6 r6) B (upF F 3 (F 2)) sw, 0, 0) ∧ RI (upA (upA (upA A 4 r4) 5 r5) 6 r6) n nb ∧ CZ (upA (upA (upA A 4 r4) 5 r5) 6 r6) := by
  obtain ⟨r4, r5, r6, hev, hR, hZ2⟩ := ev_rows_any (xs := xs) (Ls := Ls) (B := B) (sw := sw) hC hZ hco
  refine ⟨r4, r5, r6, ?_, hR, hZ2⟩
  refine ev_of_wp rfl rfl rfl ?_
  refine wp_go (f' := (4, [.ref 23, .int k, .retAddr 0, .retAddr 0, .retAddr 0], [.ref 1], MW A B F sw, 0, 0)) 2 rfl ?_
  refine wp_call rfl rfl rfl (ev_up hev (by decide)) ?_
  exact lq_sepAt (A := upA (upA (upA A 4 r4) 5 r5) 6 r6) (F := upF F 3 (F 2)) hC hR k
theorem ev_bSep (hC : CI A F n nb) (hZ : CZ A) (hco : F 3 = F 2 → RI A n nb) (k : Int32) : ∃ r4 r5 r6 : Nat → Int32, mv_Ev xs Ls 5 50 [.ref 0, .int k] (MW A B F sw) (some (.int (pickN (cspN n nb) k (2 ^ n) 0 0)), MW (upA (upA (upA A 4 r4) 5 r5) 6 r6) B (upF F 3 (F 2)) sw, 0, 0) ∧ RI (upA (upA (upA A 4 r4) 5 r5) 6 r6) n nb ∧ CZ (upA (upA (upA A 4 r4) 5 r5) 6 r6) := by
  obtain ⟨r4, r5, r6, hev, hR, hZ2⟩ := ev_fSepAt (xs := xs) (Ls := Ls) (B := B) (sw := sw) hC hZ hco k
  refine ⟨r4, r5, r6, ?_, hR, hZ2⟩
  refine ev_of_wp rfl rfl rfl ?_
  refine wp_go (f' := (5, [.ref 0, .int k], [.int k, .ref 23], MW A B F sw, 0, 0)) 3 rfl ?_
  refine wp_call rfl rfl rfl (ev_up hev (by decide)) ?_
  exact wp_iret rfl
end CC
end
section
/-- one part after the other -/
def cprN (n : Nat) (nb : Nat → Nat) : Nat := pieN nb (fun _ m => m + 1) (2 ^ n - 1) 0
def cholesN (n : Nat) (nb : Nat → Nat) : Nat := forN (fun k m => if chlN n nb k then m + 1 else m) (2 ^ n) 0
def cshortN (n : Nat) (nb : Nat → Nat) : Int32 := forN (fun k (m : Int32) => if chlN n nb k = true ∧ (m = -1 ∨ nI (pop k) < m) then nI (pop k) else m) (2 ^ n) (-1)
/-- a vertex of s with the fewest links into s, and how many these are -/
def looseN (n : Nat) (nb : Nat → Nat) (s : Nat) : Nat × Nat := forN (fun k q => if s.testBit k = true ∧ pop (nb k &&& s) < q.2 then (k, pop (nb k &&& s)) else q) n (0, 1000)
def looseV (n : Nat) (nb : Nat → Nat) (s : Nat) : Nat := (looseN n nb s).1
theorem loose_ok {n : Nat} {nb : Nat → Nat} {s : Nat} (hs : s < 1024) (j : Nat) : (forN (fun k (q : Nat × Nat) => if s.testBit k = true ∧ pop (nb k &&& s) < q.2 then (k, pop (nb k &&& s)) else q) j (0, 1000)).1 ≤ j - 1 ∧ (forN (fun k (q : Nat × Nat) => if s.testBit k = true ∧ pop (nb k &&& s) < q.2 then (k, pop (nb k &&& s)) else q) j (0, 1000)).2 ≤ 1000 := by
  refine forN_inv (I := fun k (q : Nat × Nat) => q.1 ≤ k - 1 ∧ q.2 ≤ 1000) ⟨by omega, by omega⟩ (fun k q hk hq => ?_) j (Nat.le_refl _)
  have := pop_le (s := nb k &&& s) (and_lt_r hs)
  split
  · exact ⟨by omega, by omega⟩
  · exact ⟨by omega, by omega⟩
def ccoreN (n : Nat) (nb : Nat → Nat) (j : Nat) : Nat × Nat := forN (fun _ q => (sd q.1 (2 ^ (looseV n nb q.1)), if q.2 < pop (nb (looseV n nb q.1) &&& q.1) then pop (nb (looseV n nb q.1) &&& q.1) else q.2)) j (2 ^ n - 1, 0)
theorem ccore_ok {n : Nat} (hn : n ≤ 10) {nb : Nat → Nat} (j : Nat) : (ccoreN n nb j).1 < 1024 ∧ (ccoreN n nb j).2 ≤ 10 := by
  have hal := all_lt hn
  refine forN_inv (I := fun k (q : Nat × Nat) => q.1 < 1024 ∧ q.2 ≤ 10) ⟨hal, by omega⟩ (fun k q hk hq => ?_) j (Nat.le_refl _)
  have := pop_le (s := nb (looseV n nb q.1) &&& q.1) (and_lt_r hq.1)
  refine ⟨sd_lt hq.1, ?_⟩
  show (if _ then _ else _) ≤ 10
  split
  · omega
  · omega
section CC
variable {xs : Nat → Int32} {Ls : Nat} {A : Nat → Nat → Int32} {B : Nat → Nat → Int64} {F : Nat → Int32} {sw : Bool} {n : Nat} {nb : Nat → Nat}
theorem lq_gPieces (hC : CI A F n nb) (hR : RI A n nb)  : mv_Wp xs Ls 3 2 false (some .int) mv_c16 (4, [.ref 1, .retAddr 0, .retAddr 0], [], MW A B F sw, 0, 0) (some (.int (nI (cprN n nb))), MW A B F sw, 0, 0) := by
  have hn := hC.1
  have hp := pow10 hn
  have hp1 : 1 ≤ 2 ^ n := Nat.one_le_two_pow
  have hal := all_lt hn
  refine wp_go (f' := (7, [.ref 1, .int (nI 0), .retAddr 0], [.ref 1], MW A B F sw, 0, 0)) 3 rfl ?_
  refine wp_call rfl rfl rfl (ev_up (ev_gAll hC) (by decide)) ?_
  refine wp_eq (f' := (10, [.ref 1, .int (nI 0), .retAddr 0], [.int (nI (2 ^ n - 1))], MW A B F sw, 0, 0)) rfl ?_
  refine wp_go (f' := (11, [.ref 1, .int (nI 0), .int (nI (2 ^ n - 1))], [], MW A B F sw, 0, 0)) 1 rfl ?_
  refine pie_ind (P := fun (t m : Nat) => mv_Wp xs Ls 3 2 false (some .int) mv_c16 (11, [.ref 1, .int (nI m), .int (nI t)], [], MW A B F sw, 0, 0) (some (.int (nI (cprN n nb))), MW A B F sw, 0, 0)) (nb := nb) (g := fun _ m => m + 1) (N := 2 ^ n) hp ?_ (2 ^ n - 1) 0 (by omega) ?_
  · intro t m ht ht0 ih
    have hla : t &&& (t - 1) < 1024 := and_lt (by omega)
    refine wp_go (f' := ((if (nI t) = 0 then 36 else 15), [.ref 1, .int (nI m), .int (nI t)], [], MW A B F sw, 0, 0)) 2 rfl ?_
    refine wp_ite (fun h9 => absurd h9 (fun h8 => ht0 ((nI_eq (a := t) (b := 0) (by omega) (by omega)).mp h8))) (fun _ => ?_)
    refine wp_go (f' := (18, [.ref 1, .int ((nI m) + 1), .int (nI t)], [], MW A B F sw, 0, 0)) 1 rfl ?_
    rw [nI_1]
    refine wp_go (f' := (22, [.ref 1, .int (nI (m + 1)), .int (nI t)], [.int ((nI t) - (nI 1)), .int (nI t)], MW A B F sw, 0, 0)) 4 rfl ?_
    rw [pk_sub (by omega)]
    refine wp_go (f' := (23, [.ref 1, .int (nI (m + 1)), .int (nI t)], [.int ((nI t) &&& (nI (t - 1)))], MW A B F sw, 0, 0)) 1 rfl ?_
    rw [bx_and]
    refine wp_go (f' := (28, [.ref 1, .int (nI (m + 1)), .int (nI t)], [.int (nI t), .ref 6, .int (nI (t &&& (t - 1)))], MW A B F sw, 0, 0)) 3 rfl ?_
    refine wp_iald rfl rfl (by omega) (by decide) ?_
    rw [(hR t (by omega)).2.2]
    have hpcl := pc_le (nb := nb) (s := t) (by omega)
    refine wp_go (f' := (32, [.ref 1, .int (nI (m + 1)), .int (nI t)], [.int ((nI (t &&& (t - 1))) &&& ((nI (pcN nb t)) ^^^ (-1)))], MW A B F sw, 0, 0)) 3 rfl ?_
    rw [bx_sd (by omega)]
    refine wp_go (f' := (11, [.ref 1, .int (nI (m + 1)), .int (nI (sd (t &&& (t - 1)) (pcN nb t)))], [], MW A B F sw, 0, 0)) 2 rfl ?_
    exact ih
  · skip
    refine wp_go (f' := ((if (nI 0) = 0 then 36 else 15), [.ref 1, .int (nI (cprN n nb)), .int (nI 0)], [], MW A B F sw, 0, 0)) 2 rfl ?_
    refine wp_ite (fun _ => ?_) (fun h9 => absurd (rfl : nI 0 = 0) h9)
    refine wp_go (f' := (37, [.ref 1, .int (nI (cprN n nb)), .int (nI 0)], [.int (nI (cprN n nb))], MW A B F sw, 0, 0)) 1 rfl ?_
    exact wp_iret rfl
theorem ev_gPieces (hC : CI A F n nb) (hZ : CZ A) (hco : F 3 = F 2 → RI A n nb)  : ∃ r4 r5 r6 : Nat → Int32, mv_Ev xs Ls 4 16 [.ref 1] (MW A B F sw) (some (.int (nI (cprN n nb))), MW (upA (upA (upA A 4 r4) 5 r5) 6 r6) B (upF F 3 (F 2)) sw, 0, 0) ∧ RI (upA (upA (upA A 4 r4) 5 r5) 6 r6) n nb ∧ CZ (upA (upA (upA A 4 r4) 5 r5) 6 r6) := by
  obtain ⟨r4, r5, r6, hev, hR, hZ2⟩ := ev_rows_any (xs := xs) (Ls := Ls) (B := B) (sw := sw) hC hZ hco
  refine ⟨r4, r5, r6, ?_, hR, hZ2⟩
  refine ev_of_wp rfl rfl rfl ?_
  refine wp_go (f' := (1, [.ref 1, .retAddr 0, .retAddr 0], [.ref 1], MW A B F sw, 0, 0)) 1 rfl ?_
  refine wp_call rfl rfl rfl (ev_up hev (by decide)) ?_
  exact lq_gPieces (A := (upA (upA (upA A 4 r4) 5 r5) 6 r6)) (F := upF F 3 (F 2)) hC hR 
theorem in_le {nb : Nat → Nat} : ∀ s, s < 1024 → inN nb s ≤ 10 * s := by
  refine wh_ind (P := fun s => s < 1024 → inN nb s ≤ 10 * s) (fun s => s) (fun s ih hs => ?_)
  by_cases h0 : s = 0
  · subst h0; unfold inN; rw [lowN_0]; omega
  · have h1 : s &&& (s - 1) ≤ s - 1 := Nat.and_le_right
    have h2 := ih (s &&& (s - 1)) (by omega) (by omega)
    have h3 := pop_le (s := nb (low s) &&& (s &&& (s - 1))) (and_lt_r (by omega))
    rw [in_s hs h0]
    omega
theorem ev_fHole (hC : CI A F n nb) (hR : RI A n nb) {s : Nat} (hs : s < 2 ^ n) : mv_Ev xs Ls 2 26 [.ref 23, .int (nI s)] (MW A B F sw) (some (.int (bI (chlN n nb s))), MW A B F sw, 0, 0) := by
  refine ev_of_wp rfl rfl rfl ?_
  have hn := hC.1
  have hp := pow10 hn
  have hp1 : 1 ≤ 2 ^ n := Nat.one_le_two_pow
  have hal := all_lt hn
  have hin := in_le (nb := nb) s (by omega)
  refine wp_go (f' := (1, [.ref 23, .int (nI s), .retAddr 0, .retAddr 0], [.int (nI s)], MW A B F sw, 0, 0)) 1 rfl ?_
  refine wp_call rfl rfl rfl (ev_up (ev_bitCount (s := s) (by omega) _) (by decide)) ?_
  refine wp_eq (f' := (4, [.ref 23, .int (nI s), .retAddr 0, .retAddr 0], [.int (nI (pop s))], MW A B F sw, 0, 0)) rfl ?_
  have hpp := pop_le (s := s) (by omega)
  refine wp_go (f' := ((if (nI (pop s)) < (nI 4) then 34 else 10), [.ref 23, .int (nI s), .int (nI (pop s)), .retAddr 0], [], MW A B F sw, 0, 0)) 4 rfl ?_
  refine wp_ite (fun h1 => ?_) (fun h1 => ?_)
  · have h1 : pop s < 4 := (nI_ltI (a := pop s) (b := 4) (by omega) (by omega)).mp h1
    refine wp_go (f' := (35, [.ref 23, .int (nI s), .int (nI (pop s)), .retAddr 0], [.int (nI 0)], MW A B F sw, 0, 0)) 1 rfl ?_
    rw [show chlN n nb s = false by unfold chlN; simp [show ¬ 4 ≤ pop s by omega]]
    exact wp_zret rfl (by first | exact Or.inl rfl | exact Or.inr rfl)
  · have h1 : ¬ (pop s < 4) := fun h9 => h1 ((nI_ltI (a := pop s) (b := 4) (by omega) (by omega)).mpr h9)
    refine wp_go (f' := (18, [.ref 23, .int (nI s), .int (nI (pop s)), .retAddr 0], [.int (nI s), .ref 5], MW A B F sw, 0, 0)) 4 rfl ?_
    refine wp_iald rfl rfl (by omega) (by decide) ?_
    rw [(hR s (by omega)).2.1]
    refine wp_go (f' := ((if ¬ (nI (inN nb s)) = (nI (pop s)) then 34 else 23), [.ref 23, .int (nI s), .int (nI (pop s)), .retAddr 0], [], MW A B F sw, 0, 0)) 2 rfl ?_
    refine wp_ite (fun h2 => ?_) (fun h2 => ?_)
    · have h2 : ¬ (inN nb s = pop s) := fun h9 => h2 ((nI_eq (a := inN nb s) (b := pop s) (by omega) (by omega)).mpr h9)
      refine wp_go (f' := (35, [.ref 23, .int (nI s), .int (nI (pop s)), .retAddr 0], [.int (nI 0)], MW A B F sw, 0, 0)) 1 rfl ?_
      rw [show chlN n nb s = false by unfold chlN; simp [h2]]
      exact wp_zret rfl (by first | exact Or.inl rfl | exact Or.inr rfl)
    · have h2 := Classical.not_not.mp h2; have h2 : inN nb s = pop s := (nI_eq (a := inN nb s) (b := pop s) (by omega) (by omega)).mp h2
      refine wp_go (f' := (28, [.ref 23, .int (nI s), .int (nI (pop s)), .retAddr 0], [.int (nI s), .ref 1], MW A B F sw, 0, 0)) 3 rfl ?_
      refine wp_call rfl rfl rfl (ev_up (ev_gHangs hC hR (s := s) (by omega)) (by decide)) ?_
      refine wp_eq (f' := (31, [.ref 23, .int (nI s), .int (nI (pop s)), .retAddr 0], [.int (bI (decide (pcN nb s = s)))], MW A B F sw, 0, 0)) rfl ?_
      refine wp_go (f' := ((if ¬ (bI (decide (pcN nb s = s))) = 0 then 36 else 34), [.ref 23, .int (nI s), .int (nI (pop s)), .retAddr 0], [], MW A B F sw, 0, 0)) 1 rfl ?_
      refine wp_ite (fun h3 => ?_) (fun h3 => ?_)
      · have h3 := bI_n0 h3
        refine wp_go (f' := (38, [.ref 23, .int (nI s), .int (nI (pop s)), .int (nI 0)], [], MW A B F sw, 0, 0)) 2 rfl ?_
        refine for_ind (P := fun (k : Nat) (_ : Unit) => chlF n nb s k = true → mv_Wp xs Ls 1 1 false (some .boolean) mv_c26 (38, [.ref 23, .int (nI s), .int (nI (pop s)), .int (nI k)], [], MW A B F sw, 0, 0) (some (.int (bI (chlN n nb s))), MW A B F sw, 0, 0)) (f := fun _ u => u) (n := n) ?_ n () (Nat.le_refl _) ?_ rfl
        · intro k _ hk ih hv
          have hak : nb k &&& s < 1024 := and_lt_r (by omega)
          refine wp_go (f' := (46, [.ref 23, .int (nI s), .int (nI (pop s)), .int (nI k)], [.int (F 0), .int (nI k)], MW A B F sw, 0, 0)) 4 rfl ?_
          rw [hC.2.1]
          refine wp_go (f' := ((if (nI n) ≤ (nI k) then 83 else 49), [.ref 23, .int (nI s), .int (nI (pop s)), .int (nI k)], [], MW A B F sw, 0, 0)) 1 rfl ?_
          refine wp_ite (fun h9 => absurd h9 (nI_ge hk (by omega))) (fun _ => ?_)
          refine wp_go (f' := (54, [.ref 23, .int (nI s), .int (nI (pop s)), .int (nI k)], [.int (((nI s) >>> ((nI k) &&& 31)) &&& (nI 1))], MW A B F sw, 0, 0)) 5 rfl ?_
          rw [bx_bit (by omega) (by omega)]
          refine wp_go (f' := ((if (bI (s.testBit k)) = 0 then 77 else 57), [.ref 23, .int (nI s), .int (nI (pop s)), .int (nI k)], [], MW A B F sw, 0, 0)) 1 rfl ?_
          refine wp_ite (fun h1 => ?_) (fun h1 => ?_)
          · have h1 := bI_0.mp h1
            refine wp_go (f' := (80, [.ref 23, .int (nI s), .int (nI (pop s)), .int ((nI k) + 1)], [], MW A B F sw, 0, 0)) 1 rfl ?_
            rw [nI_1]
            refine wp_go (f' := (38, [.ref 23, .int (nI s), .int (nI (pop s)), .int (nI (k + 1))], [], MW A B F sw, 0, 0)) 1 rfl ?_
            exact ih (by show (chlF n nb s k && _) = true; rw [hv]; simp [h1])
          · have h1 := bI_n0 h1
            refine wp_go (f' := (65, [.ref 23, .int (nI s), .int (nI (pop s)), .int (nI k)], [.int (nI k), .ref 2], MW A B F sw, 0, 0)) 4 rfl ?_
            refine wp_iald rfl rfl (by omega) (by decide) ?_
            rw [hC.2.2.1 k (by omega)]
            have hnb := hC.2.2.2 k (by omega)
            refine wp_go (f' := (68, [.ref 23, .int (nI s), .int (nI (pop s)), .int (nI k)], [.int ((nI (nb k)) &&& (nI s))], MW A B F sw, 0, 0)) 2 rfl ?_
            rw [bx_and]
            refine wp_call rfl rfl rfl (ev_up (ev_bitCount (s := (nb k) &&& s) (by omega) _) (by decide)) ?_
            refine wp_eq (f' := (71, [.ref 23, .int (nI s), .int (nI (pop s)), .int (nI k)], [.int (nI (pop ((nb k) &&& s)))], MW A B F sw, 0, 0)) rfl ?_
            have hpp := pop_le (s := (nb k) &&& s) (by omega)
            refine wp_go (f' := ((if (nI (pop ((nb k) &&& s))) = (nI 2) then 77 else 75), [.ref 23, .int (nI s), .int (nI (pop s)), .int (nI k)], [], MW A B F sw, 0, 0)) 2 rfl ?_
            refine wp_ite (fun h2 => ?_) (fun h2 => ?_)
            · have h2 : pop ((nb k) &&& s) = 2 := (nI_eq (a := pop ((nb k) &&& s)) (b := 2) (by omega) (by omega)).mp h2
              refine wp_go (f' := (80, [.ref 23, .int (nI s), .int (nI (pop s)), .int ((nI k) + 1)], [], MW A B F sw, 0, 0)) 1 rfl ?_
              rw [nI_1]
              refine wp_go (f' := (38, [.ref 23, .int (nI s), .int (nI (pop s)), .int (nI (k + 1))], [], MW A B F sw, 0, 0)) 1 rfl ?_
              exact ih (by show (chlF n nb s k && _) = true; rw [hv]; simp [h1, h2])
            · have h2 : ¬ (pop ((nb k) &&& s) = 2) := fun h9 => h2 ((nI_eq (a := pop ((nb k) &&& s)) (b := 2) (by omega) (by omega)).mpr h9)
              refine wp_go (f' := (76, [.ref 23, .int (nI s), .int (nI (pop s)), .int (nI k)], [.int (nI 0)], MW A B F sw, 0, 0)) 1 rfl ?_
              rw [show chlN n nb s = false by unfold chlN; rw [chlF_f (n := n) (k := k) (by simp [h1, h2]) n hk]; simp]
              exact wp_zret rfl (by first | exact Or.inl rfl | exact Or.inr rfl)
        · intro hv
          refine wp_go (f' := (46, [.ref 23, .int (nI s), .int (nI (pop s)), .int (nI n)], [.int (F 0), .int (nI n)], MW A B F sw, 0, 0)) 4 rfl ?_
          rw [hC.2.1]
          refine wp_go (f' := ((if (nI n) ≤ (nI n) then 83 else 49), [.ref 23, .int (nI s), .int (nI (pop s)), .int (nI n)], [], MW A B F sw, 0, 0)) 1 rfl ?_
          refine wp_ite (fun _ => ?_) (fun h9 => absurd (nI_le (Nat.le_refl _) (by omega)) h9)
          refine wp_go (f' := (84, [.ref 23, .int (nI s), .int (nI (pop s)), .int (nI n)], [.int (nI 1)], MW A B F sw, 0, 0)) 1 rfl ?_
          rw [show chlN n nb s = true by unfold chlN; rw [hv, decide_eq_true (show 4 ≤ pop s by omega), decide_eq_true (show inN nb s = pop s from h2), h3]; rfl]
          exact wp_zret rfl (by first | exact Or.inl rfl | exact Or.inr rfl)
      · have h3 := Classical.not_not.mp h3; have h3 := bI_0.mp h3
        refine wp_go (f' := (35, [.ref 23, .int (nI s), .int (nI (pop s)), .retAddr 0], [.int (nI 0)], MW A B F sw, 0, 0)) 1 rfl ?_
        rw [show chlN n nb s = false by unfold chlN; simp [h3]]
        exact wp_zret rfl (by first | exact Or.inl rfl | exact Or.inr rfl)
theorem lq_fHoles (hC : CI A F n nb) (hR : RI A n nb)  : mv_Wp xs Ls 3 1 false (some .int) mv_c25 (7, [.ref 23, .retAddr 0, .retAddr 0, .retAddr 0], [], MW A B F sw, 0, 0) (some (.int (nI (cholesN n nb))), MW A B F sw, 0, 0) := by
  have hn := hC.1
  have hp := pow10 hn
  have hp1 : 1 ≤ 2 ^ n := Nat.one_le_two_pow
  have hal := all_lt hn
  refine wp_go (f' := (13, [.ref 23, .int (nI 0), .retAddr 0, .retAddr 0], [.ref 1], MW A B F sw, 0, 0)) 4 rfl ?_
  refine wp_call rfl rfl rfl (ev_up (ev_gAll hC) (by decide)) ?_
  refine wp_eq (f' := (16, [.ref 23, .int (nI 0), .retAddr 0, .retAddr 0], [.int (nI (2 ^ n - 1))], MW A B F sw, 0, 0)) rfl ?_
  refine wp_go (f' := (19, [.ref 23, .int (nI 0), .int (nI (2 ^ n - 1)), .int (nI 0)], [], MW A B F sw, 0, 0)) 3 rfl ?_
  refine for_ind (P := fun (k : Nat) (m : Nat) => mv_Wp xs Ls 3 1 false (some .int) mv_c25 (19, [.ref 23, .int (nI m), .int (nI (2 ^ n - 1)), .int (nI k)], [], MW A B F sw, 0, 0) (some (.int (nI (cholesN n nb))), MW A B F sw, 0, 0)) (f := fun k m => if chlN n nb k then m + 1 else m) (n := (2 ^ n)) ?_ (2 ^ n) 0 (Nat.le_refl _) ?_  
  · intro k m hk ih  
    refine wp_go (f' := ((if (nI (2 ^ n - 1)) < (nI k) then 41 else 24), [.ref 23, .int (nI m), .int (nI (2 ^ n - 1)), .int (nI k)], [], MW A B F sw, 0, 0)) 3 rfl ?_
    refine wp_ite (fun h9 => absurd h9 (nI_nlt (by omega) (by omega))) (fun _ => ?_)
    refine wp_go (f' := (26, [.ref 23, .int (nI m), .int (nI (2 ^ n - 1)), .int (nI k)], [.int (nI k), .ref 23], MW A B F sw, 0, 0)) 2 rfl ?_
    refine wp_call rfl rfl rfl (ev_up (ev_fHole hC hR (s := k) (by omega)) (by decide)) ?_
    refine wp_eq (f' := (29, [.ref 23, .int (nI m), .int (nI (2 ^ n - 1)), .int (nI k)], [.int (bI (chlN n nb k))], MW A B F sw, 0, 0)) rfl ?_
    refine wp_go (f' := ((if (bI (chlN n nb k)) = 0 then 35 else 32), [.ref 23, .int (nI m), .int (nI (2 ^ n - 1)), .int (nI k)], [], MW A B F sw, 0, 0)) 1 rfl ?_
    refine wp_ite (fun h1 => ?_) (fun h1 => ?_)
    · have h1 := bI_0.mp h1
      refine wp_go (f' := (38, [.ref 23, .int (nI m), .int (nI (2 ^ n - 1)), .int ((nI k) + 1)], [], MW A B F sw, 0, 0)) 1 rfl ?_
      rw [nI_1]
      refine wp_go (f' := (19, [.ref 23, .int (nI m), .int (nI (2 ^ n - 1)), .int (nI (k + 1))], [], MW A B F sw, 0, 0)) 1 rfl ?_
      refine wp_eq ?_ (ih  )
      simp [h1, bIT, bIF, nI1, nI0]
    · have h1 := bI_n0 h1
      refine wp_go (f' := (35, [.ref 23, .int ((nI m) + 1), .int (nI (2 ^ n - 1)), .int (nI k)], [], MW A B F sw, 0, 0)) 1 rfl ?_
      rw [nI_1]
      refine wp_go (f' := (38, [.ref 23, .int (nI (m + 1)), .int (nI (2 ^ n - 1)), .int ((nI k) + 1)], [], MW A B F sw, 0, 0)) 1 rfl ?_
      rw [nI_1]
      refine wp_go (f' := (19, [.ref 23, .int (nI (m + 1)), .int (nI (2 ^ n - 1)), .int (nI (k + 1))], [], MW A B F sw, 0, 0)) 1 rfl ?_
      refine wp_eq ?_ (ih  )
      simp [h1, bIT, bIF, nI1, nI0]
  · skip
    refine wp_go (f' := ((if (nI (2 ^ n - 1)) < (nI (2 ^ n)) then 41 else 24), [.ref 23, .int (nI (cholesN n nb)), .int (nI (2 ^ n - 1)), .int (nI (2 ^ n))], [], MW A B F sw, 0, 0)) 3 rfl ?_
    refine wp_ite (fun _ => ?_) (fun h9 => absurd (nI_lt (by omega) (by omega)) h9)
    refine wp_go (f' := (42, [.ref 23, .int (nI (cholesN n nb)), .int (nI (2 ^ n - 1)), .int (nI (2 ^ n))], [.int (nI (cholesN n nb))], MW A B F sw, 0, 0)) 1 rfl ?_
    exact wp_iret rfl
theorem ev_fHoles (hC : CI A F n nb) (hZ : CZ A) (hco : F 3 = F 2 → RI A n nb)  : ∃ r4 r5 r6 : Nat → Int32, mv_Ev xs Ls 4 25 [.ref 23] (MW A B F sw) (some (.int (nI (cholesN n nb))), MW (upA (upA (upA A 4 r4) 5 r5) 6 r6) B (upF F 3 (F 2)) sw, 0, 0) ∧ RI (upA (upA (upA A 4 r4) 5 r5) 6 r6) n nb ∧ CZ (upA (upA (upA A 4 r4) 5 r5) 6 r6) := by
  obtain ⟨r4, r5, r6, hev, hR, hZ2⟩ := ev_rows_any (xs := xs) (Ls := Ls) (B := B) (sw := sw) hC hZ hco
  refine ⟨r4, r5, r6, ?_, hR, hZ2⟩
  refine ev_of_wp rfl rfl rfl ?_
  refine wp_go (f' := (4, [.ref 23, .retAddr 0, .retAddr 0, .retAddr 0], [.ref 1], MW A B F sw, 0, 0)) 2 rfl ?_
  refine wp_call rfl rfl rfl (ev_up hev (by decide)) ?_
  exact lq_fHoles (A := (upA (upA (upA A 4 r4) 5 r5) 6 r6)) (F := upF F 3 (F 2)) hC hR 
theorem lq_fShort (hC : CI A F n nb) (hR : RI A n nb)  : mv_Wp xs Ls 3 1 false (some .int) mv_c28 (7, [.ref 23, .retAddr 0, .retAddr 0, .retAddr 0], [], MW A B F sw, 0, 0) (some (.int (cshortN n nb)), MW A B F sw, 0, 0) := by
  have hn := hC.1
  have hp := pow10 hn
  have hp1 : 1 ≤ 2 ^ n := Nat.one_le_two_pow
  have hal := all_lt hn
  refine wp_go (f' := (13, [.ref 23, .int (-1), .retAddr 0, .retAddr 0], [.ref 1], MW A B F sw, 0, 0)) 4 rfl ?_
  refine wp_call rfl rfl rfl (ev_up (ev_gAll hC) (by decide)) ?_
  refine wp_eq (f' := (16, [.ref 23, .int (-1), .retAddr 0, .retAddr 0], [.int (nI (2 ^ n - 1))], MW A B F sw, 0, 0)) rfl ?_
  refine wp_go (f' := (19, [.ref 23, .int (-1), .int (nI (2 ^ n - 1)), .int (nI 0)], [], MW A B F sw, 0, 0)) 3 rfl ?_
  refine for_ind (P := fun (k : Nat) (m : Int32) => mv_Wp xs Ls 3 1 false (some .int) mv_c28 (19, [.ref 23, .int m, .int (nI (2 ^ n - 1)), .int (nI k)], [], MW A B F sw, 0, 0) (some (.int (cshortN n nb)), MW A B F sw, 0, 0)) (f := fun k (m : Int32) => if chlN n nb k = true ∧ (m = -1 ∨ nI (pop k) < m) then nI (pop k) else m) (n := (2 ^ n)) ?_ (2 ^ n) (-1) (Nat.le_refl _) ?_  
  · intro k m hk ih  
    refine wp_go (f' := ((if (nI (2 ^ n - 1)) < (nI k) then 56 else 24), [.ref 23, .int m, .int (nI (2 ^ n - 1)), .int (nI k)], [], MW A B F sw, 0, 0)) 3 rfl ?_
    refine wp_ite (fun h9 => absurd h9 (nI_nlt (by omega) (by omega))) (fun _ => ?_)
    refine wp_go (f' := (26, [.ref 23, .int m, .int (nI (2 ^ n - 1)), .int (nI k)], [.int (nI k), .ref 23], MW A B F sw, 0, 0)) 2 rfl ?_
    refine wp_call rfl rfl rfl (ev_up (ev_fHole hC hR (s := k) (by omega)) (by decide)) ?_
    refine wp_eq (f' := (29, [.ref 23, .int m, .int (nI (2 ^ n - 1)), .int (nI k)], [.int (bI (chlN n nb k))], MW A B F sw, 0, 0)) rfl ?_
    refine wp_go (f' := ((if (bI (chlN n nb k)) = 0 then 50 else 32), [.ref 23, .int m, .int (nI (2 ^ n - 1)), .int (nI k)], [], MW A B F sw, 0, 0)) 1 rfl ?_
    refine wp_ite (fun h1 => ?_) (fun h1 => ?_)
    · have h1 := bI_0.mp h1
      refine wp_go (f' := (53, [.ref 23, .int m, .int (nI (2 ^ n - 1)), .int ((nI k) + 1)], [], MW A B F sw, 0, 0)) 1 rfl ?_
      rw [nI_1]
      refine wp_go (f' := (19, [.ref 23, .int m, .int (nI (2 ^ n - 1)), .int (nI (k + 1))], [], MW A B F sw, 0, 0)) 1 rfl ?_
      refine wp_eq ?_ ih
      simp [h1]
    · have h1 := bI_n0 h1
      refine wp_go (f' := ((if m = (-1) then 45 else 37), [.ref 23, .int m, .int (nI (2 ^ n - 1)), .int (nI k)], [], MW A B F sw, 0, 0)) 3 rfl ?_
      refine wp_ite (fun h2 => ?_) (fun h2 => ?_)
      · skip
        refine wp_go (f' := (46, [.ref 23, .int m, .int (nI (2 ^ n - 1)), .int (nI k)], [.int (nI k)], MW A B F sw, 0, 0)) 1 rfl ?_
        refine wp_call rfl rfl rfl (ev_up (ev_bitCount (s := k) (by omega) _) (by decide)) ?_
        refine wp_eq (f' := (49, [.ref 23, .int m, .int (nI (2 ^ n - 1)), .int (nI k)], [.int (nI (pop k))], MW A B F sw, 0, 0)) rfl ?_
        have hpp := pop_le (s := k) (by omega)
        refine wp_go (f' := (53, [.ref 23, .int (nI (pop k)), .int (nI (2 ^ n - 1)), .int ((nI k) + 1)], [], MW A B F sw, 0, 0)) 2 rfl ?_
        rw [nI_1]
        refine wp_go (f' := (19, [.ref 23, .int (nI (pop k)), .int (nI (2 ^ n - 1)), .int (nI (k + 1))], [], MW A B F sw, 0, 0)) 1 rfl ?_
        refine wp_eq ?_ ih
        simp [h1, h2]
      · skip
        refine wp_go (f' := (38, [.ref 23, .int m, .int (nI (2 ^ n - 1)), .int (nI k)], [.int (nI k)], MW A B F sw, 0, 0)) 1 rfl ?_
        refine wp_call rfl rfl rfl (ev_up (ev_bitCount (s := k) (by omega) _) (by decide)) ?_
        refine wp_eq (f' := (41, [.ref 23, .int m, .int (nI (2 ^ n - 1)), .int (nI k)], [.int (nI (pop k))], MW A B F sw, 0, 0)) rfl ?_
        have hpp := pop_le (s := k) (by omega)
        refine wp_go (f' := ((if m ≤ (nI (pop k)) then 50 else 45), [.ref 23, .int m, .int (nI (2 ^ n - 1)), .int (nI k)], [], MW A B F sw, 0, 0)) 2 rfl ?_
        refine wp_ite (fun h3 => ?_) (fun h3 => ?_)
        · skip
          refine wp_go (f' := (53, [.ref 23, .int m, .int (nI (2 ^ n - 1)), .int ((nI k) + 1)], [], MW A B F sw, 0, 0)) 1 rfl ?_
          rw [nI_1]
          refine wp_go (f' := (19, [.ref 23, .int m, .int (nI (2 ^ n - 1)), .int (nI (k + 1))], [], MW A B F sw, 0, 0)) 1 rfl ?_
          refine wp_eq ?_ ih
          simp [h1, h2, Int32.not_lt.mpr h3]
        · skip
          refine wp_go (f' := (46, [.ref 23, .int m, .int (nI (2 ^ n - 1)), .int (nI k)], [.int (nI k)], MW A B F sw, 0, 0)) 1 rfl ?_
          refine wp_call rfl rfl rfl (ev_up (ev_bitCount (s := k) (by omega) _) (by decide)) ?_
          refine wp_eq (f' := (49, [.ref 23, .int m, .int (nI (2 ^ n - 1)), .int (nI k)], [.int (nI (pop k))], MW A B F sw, 0, 0)) rfl ?_
          have hpp := pop_le (s := k) (by omega)
          refine wp_go (f' := (53, [.ref 23, .int (nI (pop k)), .int (nI (2 ^ n - 1)), .int ((nI k) + 1)], [], MW A B F sw, 0, 0)) 2 rfl ?_
          rw [nI_1]
          refine wp_go (f' := (19, [.ref 23, .int (nI (pop k)), .int (nI (2 ^ n - 1)), .int (nI (k + 1))], [], MW A B F sw, 0, 0)) 1 rfl ?_
          refine wp_eq ?_ ih
          simp [h1, h2, Int32.not_le.mp h3]
  · skip
    refine wp_go (f' := ((if (nI (2 ^ n - 1)) < (nI (2 ^ n)) then 56 else 24), [.ref 23, .int (cshortN n nb), .int (nI (2 ^ n - 1)), .int (nI (2 ^ n))], [], MW A B F sw, 0, 0)) 3 rfl ?_
    refine wp_ite (fun _ => ?_) (fun h9 => absurd (nI_lt (by omega) (by omega)) h9)
    refine wp_go (f' := (57, [.ref 23, .int (cshortN n nb), .int (nI (2 ^ n - 1)), .int (nI (2 ^ n))], [.int (cshortN n nb)], MW A B F sw, 0, 0)) 1 rfl ?_
    exact wp_iret rfl
theorem ev_fShort (hC : CI A F n nb) (hZ : CZ A) (hco : F 3 = F 2 → RI A n nb)  : ∃ r4 r5 r6 : Nat → Int32, mv_Ev xs Ls 4 28 [.ref 23] (MW A B F sw) (some (.int (cshortN n nb)), MW (upA (upA (upA A 4 r4) 5 r5) 6 r6) B (upF F 3 (F 2)) sw, 0, 0) ∧ RI (upA (upA (upA A 4 r4) 5 r5) 6 r6) n nb ∧ CZ (upA (upA (upA A 4 r4) 5 r5) 6 r6) := by
  obtain ⟨r4, r5, r6, hev, hR, hZ2⟩ := ev_rows_any (xs := xs) (Ls := Ls) (B := B) (sw := sw) hC hZ hco
  refine ⟨r4, r5, r6, ?_, hR, hZ2⟩
  refine ev_of_wp rfl rfl rfl ?_
  refine wp_go (f' := (4, [.ref 23, .retAddr 0, .retAddr 0, .retAddr 0], [.ref 1], MW A B F sw, 0, 0)) 2 rfl ?_
  refine wp_call rfl rfl rfl (ev_up hev (by decide)) ?_
  exact lq_fShort (A := (upA (upA (upA A 4 r4) 5 r5) 6 r6)) (F := upF F 3 (F 2)) hC hR 
theorem ev_fLoose (hC : CI A F n nb) {s : Nat} (hs : s < 1024) : mv_Ev xs Ls 2 24 [.ref 23, .int (nI s)] (MW A B F sw) (some (.int (nI (looseV n nb s))), MW A B F sw, 0, 0) := by
  refine ev_of_wp rfl rfl rfl ?_
  have hn := hC.1
  have hp := pow10 hn
  have hp1 : 1 ≤ 2 ^ n := Nat.one_le_two_pow
  have hal := all_lt hn
  refine wp_go (f' := (9, [.ref 23, .int (nI s), .int (nI 0), .int (nI 1000), .int (nI 0), .retAddr 0], [], MW A B F sw, 0, 0)) 6 rfl ?_
  refine for_ind (P := fun (k : Nat) (q : Nat × Nat) => q.2 ≤ 1000 → ∀ (d5 : Value), mv_Wp xs Ls 1 1 false (some .int) mv_c24 (9, [.ref 23, .int (nI s), .int (nI q.1), .int (nI q.2), .int (nI k), d5], [], MW A B F sw, 0, 0) (some (.int (nI (looseV n nb s))), MW A B F sw, 0, 0)) (f := fun k (q : Nat × Nat) => if s.testBit k = true ∧ pop (nb k &&& s) < q.2 then (k, pop (nb k &&& s)) else q) (n := n) ?_ n (0, 1000) (Nat.le_refl _) ?_ ?_ (.retAddr 0)
  · intro k q hk ih hv d5
    have hak : nb k &&& s < 1024 := and_lt_r (by omega)
    refine wp_go (f' := (18, [.ref 23, .int (nI s), .int (nI q.1), .int (nI q.2), .int (nI k), d5], [.int (F 0), .int (nI k)], MW A B F sw, 0, 0)) 4 rfl ?_
    rw [hC.2.1]
    refine wp_go (f' := ((if (nI n) ≤ (nI k) then 65 else 21), [.ref 23, .int (nI s), .int (nI q.1), .int (nI q.2), .int (nI k), d5], [], MW A B F sw, 0, 0)) 1 rfl ?_
    refine wp_ite (fun h9 => absurd h9 (nI_ge hk (by omega))) (fun _ => ?_)
    refine wp_go (f' := (30, [.ref 23, .int (nI s), .int (nI q.1), .int (nI q.2), .int (nI k), d5], [.int (nI k), .ref 2], MW A B F sw, 0, 0)) 4 rfl ?_
    refine wp_iald rfl rfl (by omega) (by decide) ?_
    rw [hC.2.2.1 k (by omega)]
    have hnb := hC.2.2.2 k (by omega)
    refine wp_go (f' := (33, [.ref 23, .int (nI s), .int (nI q.1), .int (nI q.2), .int (nI k), d5], [.int ((nI (nb k)) &&& (nI s))], MW A B F sw, 0, 0)) 2 rfl ?_
    rw [bx_and]
    refine wp_call rfl rfl rfl (ev_up (ev_bitCount (s := (nb k) &&& s) (by omega) _) (by decide)) ?_
    refine wp_eq (f' := (36, [.ref 23, .int (nI s), .int (nI q.1), .int (nI q.2), .int (nI k), d5], [.int (nI (pop ((nb k) &&& s)))], MW A B F sw, 0, 0)) rfl ?_
    have hpp := pop_le (s := (nb k) &&& s) (by omega)
    refine wp_go (f' := (44, [.ref 23, .int (nI s), .int (nI q.1), .int (nI q.2), .int (nI k), .int (nI (pop ((nb k) &&& s)))], [.int (((nI s) >>> ((nI k) &&& 31)) &&& (nI 1))], MW A B F sw, 0, 0)) 6 rfl ?_
    rw [bx_bit (by omega) (by omega)]
    refine wp_go (f' := ((if (bI (s.testBit k)) = 0 then 59 else 47), [.ref 23, .int (nI s), .int (nI q.1), .int (nI q.2), .int (nI k), .int (nI (pop ((nb k) &&& s)))], [], MW A B F sw, 0, 0)) 1 rfl ?_
    refine wp_ite (fun h1 => ?_) (fun h1 => ?_)
    · have h1 := bI_0.mp h1
      refine wp_go (f' := (62, [.ref 23, .int (nI s), .int (nI q.1), .int (nI q.2), .int ((nI k) + 1), .int (nI (pop ((nb k) &&& s)))], [], MW A B F sw, 0, 0)) 1 rfl ?_
      rw [nI_1]
      refine wp_go (f' := (9, [.ref 23, .int (nI s), .int (nI q.1), .int (nI q.2), .int (nI (k + 1)), .int (nI (pop ((nb k) &&& s)))], [], MW A B F sw, 0, 0)) 1 rfl ?_
      have e9 : (if s.testBit k = true ∧ pop (nb k &&& s) < q.2 then (k, pop (nb k &&& s)) else q) = (q.1, q.2) := by simp [h1]
      have h8 := ih (by rw [e9]; show q.2 ≤ 1000; omega) (.int (nI (pop ((nb k) &&& s))))
      rw [e9] at h8
      exact h8
    · have h1 := bI_n0 h1
      refine wp_go (f' := ((if (nI q.2) ≤ (nI (pop ((nb k) &&& s))) then 59 else 53), [.ref 23, .int (nI s), .int (nI q.1), .int (nI q.2), .int (nI k), .int (nI (pop ((nb k) &&& s)))], [], MW A B F sw, 0, 0)) 3 rfl ?_
      refine wp_ite (fun h2 => ?_) (fun h2 => ?_)
      · have h2 : q.2 ≤ pop ((nb k) &&& s) := (nI_leI (a := q.2) (b := pop ((nb k) &&& s)) (by omega) (by omega)).mp h2
        refine wp_go (f' := (62, [.ref 23, .int (nI s), .int (nI q.1), .int (nI q.2), .int ((nI k) + 1), .int (nI (pop ((nb k) &&& s)))], [], MW A B F sw, 0, 0)) 1 rfl ?_
        rw [nI_1]
        refine wp_go (f' := (9, [.ref 23, .int (nI s), .int (nI q.1), .int (nI q.2), .int (nI (k + 1)), .int (nI (pop ((nb k) &&& s)))], [], MW A B F sw, 0, 0)) 1 rfl ?_
        have e9 : (if s.testBit k = true ∧ pop (nb k &&& s) < q.2 then (k, pop (nb k &&& s)) else q) = (q.1, q.2) := by simp [h1, show ¬ pop (nb k &&& s) < q.2 by omega]
        have h8 := ih (by rw [e9]; show q.2 ≤ 1000; omega) (.int (nI (pop ((nb k) &&& s))))
        rw [e9] at h8
        exact h8
      · have h2 : ¬ (q.2 ≤ pop ((nb k) &&& s)) := fun h9 => h2 ((nI_leI (a := q.2) (b := pop ((nb k) &&& s)) (by omega) (by omega)).mpr h9)
        refine wp_go (f' := (62, [.ref 23, .int (nI s), .int (nI k), .int (nI (pop ((nb k) &&& s))), .int ((nI k) + 1), .int (nI (pop ((nb k) &&& s)))], [], MW A B F sw, 0, 0)) 5 rfl ?_
        rw [nI_1]
        refine wp_go (f' := (9, [.ref 23, .int (nI s), .int (nI k), .int (nI (pop ((nb k) &&& s))), .int (nI (k + 1)), .int (nI (pop ((nb k) &&& s)))], [], MW A B F sw, 0, 0)) 1 rfl ?_
        have e9 : (if s.testBit k = true ∧ pop (nb k &&& s) < q.2 then (k, pop (nb k &&& s)) else q) = (k, pop ((nb k) &&& s)) := by simp [h1, h2]
        have h8 := ih (by rw [e9]; show pop ((nb k) &&& s) ≤ 1000; omega) (.int (nI (pop ((nb k) &&& s))))
        rw [e9] at h8
        exact h8
  · intro hv d5
    refine wp_go (f' := (18, [.ref 23, .int (nI s), .int (nI (looseV n nb s)), .int (nI (looseN n nb s).2), .int (nI n), d5], [.int (F 0), .int (nI n)], MW A B F sw, 0, 0)) 4 rfl ?_
    rw [hC.2.1]
    refine wp_go (f' := ((if (nI n) ≤ (nI n) then 65 else 21), [.ref 23, .int (nI s), .int (nI (looseV n nb s)), .int (nI (looseN n nb s).2), .int (nI n), d5], [], MW A B F sw, 0, 0)) 1 rfl ?_
    refine wp_ite (fun _ => ?_) (fun h9 => absurd (nI_le (Nat.le_refl _) (by omega)) h9)
    refine wp_go (f' := (66, [.ref 23, .int (nI s), .int (nI (looseV n nb s)), .int (nI (looseN n nb s).2), .int (nI n), d5], [.int (nI (looseV n nb s))], MW A B F sw, 0, 0)) 1 rfl ?_
    exact wp_iret rfl
  · exact Nat.le_refl _
theorem ev_fCore (hC : CI A F n nb) : mv_Ev xs Ls 4 23 [.ref 23] (MW A B F sw) (some (.int (nI (ccoreN n nb n).2)), MW A B F sw, 0, 0) := by
  refine ev_of_wp rfl rfl rfl ?_
  have hn := hC.1
  have hp := pow10 hn
  have hp1 : 1 ≤ 2 ^ n := Nat.one_le_two_pow
  have hal := all_lt hn
  refine wp_go (f' := (4, [.ref 23, .retAddr 0, .retAddr 0, .retAddr 0, .retAddr 0], [.ref 1], MW A B F sw, 0, 0)) 2 rfl ?_
  refine wp_call rfl rfl rfl (ev_up (ev_gAll hC) (by decide)) ?_
  refine wp_eq (f' := (7, [.ref 23, .retAddr 0, .retAddr 0, .retAddr 0, .retAddr 0], [.int (nI (2 ^ n - 1))], MW A B F sw, 0, 0)) rfl ?_
  refine wp_go (f' := (12, [.ref 23, .int (nI (2 ^ n - 1)), .int (nI 0), .int (nI 0), .retAddr 0], [], MW A B F sw, 0, 0)) 5 rfl ?_
  refine for_ind (P := fun (k : Nat) (q : Nat × Nat) => q.1 < 1024 ∧ q.2 ≤ 10 → ∀ (d4 : Value), mv_Wp xs Ls 3 1 false (some .int) mv_c23 (12, [.ref 23, .int (nI q.1), .int (nI q.2), .int (nI k), d4], [], MW A B F sw, 0, 0) (some (.int (nI (ccoreN n nb n).2)), MW A B F sw, 0, 0)) (f := fun _ (q : Nat × Nat) => (sd q.1 (2 ^ (looseV n nb q.1)), if q.2 < pop (nb (looseV n nb q.1) &&& q.1) then pop (nb (looseV n nb q.1) &&& q.1) else q.2)) (n := n) ?_ n (2 ^ n - 1, 0) (Nat.le_refl _) ?_ ?_ (.retAddr 0)
  · intro k q hk ih hv d4
    obtain ⟨hv1, hv2⟩ := hv
    have hv := And.intro hv1 hv2
    refine wp_go (f' := (20, [.ref 23, .int (nI q.1), .int (nI q.2), .int (nI k), d4], [.int (F 0), .int (nI k)], MW A B F sw, 0, 0)) 4 rfl ?_
    rw [hC.2.1]
    refine wp_go (f' := ((if (nI n) ≤ (nI k) then 65 else 23), [.ref 23, .int (nI q.1), .int (nI q.2), .int (nI k), d4], [], MW A B F sw, 0, 0)) 1 rfl ?_
    refine wp_ite (fun h9 => absurd h9 (nI_ge hk (by omega))) (fun _ => ?_)
    refine wp_go (f' := (25, [.ref 23, .int (nI q.1), .int (nI q.2), .int (nI k), d4], [.int (nI q.1), .ref 23], MW A B F sw, 0, 0)) 2 rfl ?_
    refine wp_call rfl rfl rfl (ev_up (ev_fLoose hC (s := q.1) (by omega)) (by decide)) ?_
    refine wp_eq (f' := (28, [.ref 23, .int (nI q.1), .int (nI q.2), .int (nI k), d4], [.int (nI (looseV n nb q.1))], MW A B F sw, 0, 0)) rfl ?_
    have hlo : (looseV n nb q.1) ≤ n - 1 := (loose_ok (n := n) (nb := nb) (s := q.1) (by omega) n).1
    have hak : nb (looseV n nb q.1) &&& q.1 < 1024 := and_lt_r (by omega)
    refine wp_go (f' := (40, [.ref 23, .int (nI q.1), .int (nI q.2), .int (nI k), .int (nI (looseV n nb q.1))], [.int (nI (looseV n nb q.1)), .ref 2, .int (nI q.2)], MW A B F sw, 0, 0)) 6 rfl ?_
    refine wp_iald rfl rfl (by omega) (by decide) ?_
    rw [hC.2.2.1 (looseV n nb q.1) (by omega)]
    have hnb := hC.2.2.2 (looseV n nb q.1) (by omega)
    refine wp_go (f' := (43, [.ref 23, .int (nI q.1), .int (nI q.2), .int (nI k), .int (nI (looseV n nb q.1))], [.int ((nI (nb (looseV n nb q.1))) &&& (nI q.1)), .int (nI q.2)], MW A B F sw, 0, 0)) 2 rfl ?_
    rw [bx_and]
    refine wp_call rfl rfl rfl (ev_up (ev_bitCount (s := (nb (looseV n nb q.1)) &&& q.1) (by omega) _) (by decide)) ?_
    refine wp_eq (f' := (46, [.ref 23, .int (nI q.1), .int (nI q.2), .int (nI k), .int (nI (looseV n nb q.1))], [.int (nI (pop ((nb (looseV n nb q.1)) &&& q.1))), .int (nI q.2)], MW A B F sw, 0, 0)) rfl ?_
    have hpp := pop_le (s := (nb (looseV n nb q.1)) &&& q.1) (by omega)
    refine wp_go (f' := (49, [.ref 23, .int (nI q.1), .int (nI q.2), .int (nI k), .int (nI (looseV n nb q.1))], [.int (if (nI q.2) < (nI (pop ((nb (looseV n nb q.1)) &&& q.1))) then nI (pop ((nb (looseV n nb q.1)) &&& q.1)) else nI q.2)], MW A B F sw, 0, 0)) 1 rfl ?_
    rw [nI_ite (by omega) (by omega)]
    refine wp_go (f' := (55, [.ref 23, .int (nI q.1), .int (nI (if q.2 < pop ((nb (looseV n nb q.1)) &&& q.1) then pop ((nb (looseV n nb q.1)) &&& q.1) else q.2)), .int (nI k), .int (nI (looseV n nb q.1))], [.int ((nI 1) <<< ((nI (looseV n nb q.1)) &&& 31)), .int (nI q.1)], MW A B F sw, 0, 0)) 5 rfl ?_
    rw [bx_one (by omega)]
    refine wp_go (f' := (58, [.ref 23, .int (nI q.1), .int (nI (if q.2 < pop ((nb (looseV n nb q.1)) &&& q.1) then pop ((nb (looseV n nb q.1)) &&& q.1) else q.2)), .int (nI k), .int (nI (looseV n nb q.1))], [.int ((nI q.1) &&& ((nI (2 ^ (looseV n nb q.1))) ^^^ (-1)))], MW A B F sw, 0, 0)) 3 rfl ?_
    rw [bx_sd (by omega)]
    refine wp_go (f' := (62, [.ref 23, .int (nI (sd q.1 (2 ^ (looseV n nb q.1)))), .int (nI (if q.2 < pop ((nb (looseV n nb q.1)) &&& q.1) then pop ((nb (looseV n nb q.1)) &&& q.1) else q.2)), .int ((nI k) + 1), .int (nI (looseV n nb q.1))], [], MW A B F sw, 0, 0)) 2 rfl ?_
    rw [nI_1]
    refine wp_go (f' := (12, [.ref 23, .int (nI (sd q.1 (2 ^ (looseV n nb q.1)))), .int (nI (if q.2 < pop ((nb (looseV n nb q.1)) &&& q.1) then pop ((nb (looseV n nb q.1)) &&& q.1) else q.2)), .int (nI (k + 1)), .int (nI (looseV n nb q.1))], [], MW A B F sw, 0, 0)) 1 rfl ?_
    exact ih ⟨sd_lt hv.1, by show (if _ then _ else _) ≤ 10; split <;> omega⟩ (.int (nI (looseV n nb q.1)))
  · intro hv d4
    refine wp_go (f' := (20, [.ref 23, .int (nI (ccoreN n nb n).1), .int (nI (ccoreN n nb n).2), .int (nI n), d4], [.int (F 0), .int (nI n)], MW A B F sw, 0, 0)) 4 rfl ?_
    rw [hC.2.1]
    refine wp_go (f' := ((if (nI n) ≤ (nI n) then 65 else 23), [.ref 23, .int (nI (ccoreN n nb n).1), .int (nI (ccoreN n nb n).2), .int (nI n), d4], [], MW A B F sw, 0, 0)) 1 rfl ?_
    refine wp_ite (fun _ => ?_) (fun h9 => absurd (nI_le (Nat.le_refl _) (by omega)) h9)
    refine wp_go (f' := (66, [.ref 23, .int (nI (ccoreN n nb n).1), .int (nI (ccoreN n nb n).2), .int (nI n), d4], [.int (nI (ccoreN n nb n).2)], MW A B F sw, 0, 0)) 1 rfl ?_
    exact wp_iret rfl
  · exact ⟨hal, Nat.zero_le _⟩
theorem ev_bCount0 (hC : CI A F n nb) : mv_Ev xs Ls 1 15 [.ref 0, .int (nI 0)] (MW A B F sw) (some (.int (nI n)), MW A B F sw, 0, 0) := by
  refine ev_of_wp rfl rfl rfl ?_
  have hn := hC.1
  have hp := pow10 hn
  have hp1 : 1 ≤ 2 ^ n := Nat.one_le_two_pow
  have hal := all_lt hn
  refine wp_go (f' := (51, [.ref 0, .int (nI 0)], [.int (F 0)], MW A B F sw, 0, 0)) 5 rfl ?_
  rw [hC.2.1]
  exact wp_iret rfl
theorem ev_bCount1 (hC : CI A F n nb) {ed : Nat} (hE : F 1 = nI ed) : mv_Ev xs Ls 1 15 [.ref 0, .int (nI 1)] (MW A B F sw) (some (.int (nI ed)), MW A B F sw, 0, 0) := by
  refine ev_of_wp rfl rfl rfl ?_
  have hn := hC.1
  have hp := pow10 hn
  have hp1 : 1 ≤ 2 ^ n := Nat.one_le_two_pow
  have hal := all_lt hn
  refine wp_go (f' := (59, [.ref 0, .int (nI 1)], [.int (F 1)], MW A B F sw, 0, 0)) 5 rfl ?_
  rw [hE]
  exact wp_iret rfl
theorem ev_bCount3 (hC : CI A F n nb) : mv_Ev xs Ls 3 15 [.ref 0, .int (nI 3)] (MW A B F sw) (some (.int (nI (degN n nb))), MW A B F sw, 0, 0) := by
  refine ev_of_wp rfl rfl rfl ?_
  have hn := hC.1
  have hp := pow10 hn
  have hp1 : 1 ≤ 2 ^ n := Nat.one_le_two_pow
  have hal := all_lt hn
  refine wp_go (f' := (72, [.ref 0, .int (nI 3)], [.ref 23], MW A B F sw, 0, 0)) 4 rfl ?_
  refine wp_call rfl rfl rfl (ev_up (ev_fMost hC) (by decide)) ?_
  refine wp_eq (f' := (75, [.ref 0, .int (nI 3)], [.int (nI (degN n nb))], MW A B F sw, 0, 0)) rfl ?_
  exact wp_iret rfl
theorem ev_bCount4 (hC : CI A F n nb) : mv_Ev xs Ls 5 15 [.ref 0, .int (nI 4)] (MW A B F sw) (some (.int (nI (ccoreN n nb n).2)), MW A B F sw, 0, 0) := by
  refine ev_of_wp rfl rfl rfl ?_
  have hn := hC.1
  have hp := pow10 hn
  have hp1 : 1 ≤ 2 ^ n := Nat.one_le_two_pow
  have hal := all_lt hn
  refine wp_go (f' := (80, [.ref 0, .int (nI 4)], [.ref 23], MW A B F sw, 0, 0)) 4 rfl ?_
  refine wp_call rfl rfl rfl (ev_up (ev_fCore hC) (by decide)) ?_
  refine wp_eq (f' := (83, [.ref 0, .int (nI 4)], [.int (nI (ccoreN n nb n).2)], MW A B F sw, 0, 0)) rfl ?_
  exact wp_iret rfl
theorem ev_bCount2 (hC : CI A F n nb) (hZ : CZ A) (hco : F 3 = F 2 → RI A n nb)  : ∃ r4 r5 r6 : Nat → Int32, mv_Ev xs Ls 5 15 [.ref 0, .int (nI 2)] (MW A B F sw) (some (.int (nI (cprN n nb))), MW (upA (upA (upA A 4 r4) 5 r5) 6 r6) B (upF F 3 (F 2)) sw, 0, 0) ∧ RI (upA (upA (upA A 4 r4) 5 r5) 6 r6) n nb ∧ CZ (upA (upA (upA A 4 r4) 5 r5) 6 r6) := by
  obtain ⟨r4, r5, r6, hev, hR, hZ2⟩ := ev_gPieces (xs := xs) (Ls := Ls) (B := B) (sw := sw) hC hZ hco 
  refine ⟨r4, r5, r6, ?_, hR, hZ2⟩
  refine ev_of_wp rfl rfl rfl ?_
  refine wp_go (f' := (64, [.ref 0, .int (nI 2)], [.ref 1], MW A B F sw, 0, 0)) 4 rfl ?_
  refine wp_call rfl rfl rfl (ev_up hev (by decide)) ?_
  exact wp_iret rfl
theorem ev_bCount5 (hC : CI A F n nb) (hZ : CZ A) (hco : F 3 = F 2 → RI A n nb)  : ∃ r4 r5 r6 : Nat → Int32, mv_Ev xs Ls 5 15 [.ref 0, .int (nI 5)] (MW A B F sw) (some (.int (nI (cholesN n nb))), MW (upA (upA (upA A 4 r4) 5 r5) 6 r6) B (upF F 3 (F 2)) sw, 0, 0) ∧ RI (upA (upA (upA A 4 r4) 5 r5) 6 r6) n nb ∧ CZ (upA (upA (upA A 4 r4) 5 r5) 6 r6) := by
  obtain ⟨r4, r5, r6, hev, hR, hZ2⟩ := ev_fHoles (xs := xs) (Ls := Ls) (B := B) (sw := sw) hC hZ hco 
  refine ⟨r4, r5, r6, ?_, hR, hZ2⟩
  refine ev_of_wp rfl rfl rfl ?_
  refine wp_go (f' := (88, [.ref 0, .int (nI 5)], [.ref 23], MW A B F sw, 0, 0)) 4 rfl ?_
  refine wp_call rfl rfl rfl (ev_up hev (by decide)) ?_
  exact wp_iret rfl
theorem ev_bCount6 (hC : CI A F n nb) (hZ : CZ A) (hco : F 3 = F 2 → RI A n nb)  : ∃ r4 r5 r6 : Nat → Int32, mv_Ev xs Ls 5 15 [.ref 0, .int (nI 6)] (MW A B F sw) (some (.int (cshortN n nb)), MW (upA (upA (upA A 4 r4) 5 r5) 6 r6) B (upF F 3 (F 2)) sw, 0, 0) ∧ RI (upA (upA (upA A 4 r4) 5 r5) 6 r6) n nb ∧ CZ (upA (upA (upA A 4 r4) 5 r5) 6 r6) := by
  obtain ⟨r4, r5, r6, hev, hR, hZ2⟩ := ev_fShort (xs := xs) (Ls := Ls) (B := B) (sw := sw) hC hZ hco 
  refine ⟨r4, r5, r6, ?_, hR, hZ2⟩
  refine ev_of_wp rfl rfl rfl ?_
  refine wp_go (f' := (96, [.ref 0, .int (nI 6)], [.ref 23], MW A B F sw, 0, 0)) 4 rfl ?_
  refine wp_call rfl rfl rfl (ev_up hev (by decide)) ?_
  exact wp_iret rfl
theorem ev_bCount_f {x : Int32} (hx : outN x 6 = true) : mv_Ev xs Ls 1 15 [.ref 0, .int x] (MW A B F sw) (some (.int (-2)), MW A B F sw, 0, 0) := by
  refine ev_of_wp rfl rfl rfl ?_
  refine wp_go (f' := (1, [.ref 0, .int x], [.int x], MW A B F sw, 0, 0)) 1 rfl ?_
  refine wp_tsOut rfl (by have h8 := out_int (m := 6) (by omega) hx; omega) rfl ?_
  refine wp_go (f' := (102, [.ref 0, .int x], [.int (-2)], MW A B F sw, 0, 0)) 1 rfl ?_
  exact wp_iret rfl
end CC
end

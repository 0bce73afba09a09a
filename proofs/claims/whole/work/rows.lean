section
-- ===== PART A: goes FIRST, ahead of the names: the tables' words, and 'selects' of the private methods out of them =====
/-- a private method of a class that the tables say can be made, by its rows of tables_1 -/
def lw_okq (q : MethodName × Nat) : Prop := (q.1.cls ≠ "java/lang/invoke/MethodHandle" ∧ q.1.cls ≠ "java/lang/invoke/VarHandle") ∧ Cond.instantiable q.1.cls q.2 ∈ tables_1 ∧ Cond.privateMethod q.1 ∈ tables_1 ∧ Cond.instanceMethod q.1 ∈ tables_1
theorem lw_p0 : lw_okq (⟨"MeshNames$Survey", "clear", "()V"⟩, 6) := ⟨⟨by decide +kernel, by decide +kernel⟩, List.mem_of_getElem? (i := 108) (by decide +kernel), List.mem_of_getElem? (i := 114) (by decide +kernel), List.mem_of_getElem? (i := 115) (by decide +kernel)⟩
theorem lw_p1 : lw_okq (⟨"MeshNames$Paths", "measureFrom", "(I)V"⟩, 8) := ⟨⟨by decide +kernel, by decide +kernel⟩, List.mem_of_getElem? (i := 41) (by decide +kernel), List.mem_of_getElem? (i := 145) (by decide +kernel), List.mem_of_getElem? (i := 146) (by decide +kernel)⟩
theorem lw_p2 : lw_okq (⟨"MeshNames$Paths", "noteSteps", "(III)V"⟩, 8) := ⟨⟨by decide +kernel, by decide +kernel⟩, List.mem_of_getElem? (i := 41) (by decide +kernel), List.mem_of_getElem? (i := 152) (by decide +kernel), List.mem_of_getElem? (i := 153) (by decide +kernel)⟩
theorem lw_p3 : lw_okq (⟨"MeshNames$Paths", "nextOnRing", "(I)I"⟩, 8) := ⟨⟨by decide +kernel, by decide +kernel⟩, List.mem_of_getElem? (i := 41) (by decide +kernel), List.mem_of_getElem? (i := 172) (by decide +kernel), List.mem_of_getElem? (i := 173) (by decide +kernel)⟩
theorem lw_p4 : lw_okq (⟨"MeshNames$Paths", "layFrom", "(II)V"⟩, 8) := ⟨⟨by decide +kernel, by decide +kernel⟩, List.mem_of_getElem? (i := 41) (by decide +kernel), List.mem_of_getElem? (i := 182) (by decide +kernel), List.mem_of_getElem? (i := 183) (by decide +kernel)⟩
theorem lw_p5 : lw_okq (⟨"MeshNames$Paths", "firstNearer", "(II)I"⟩, 8) := ⟨⟨by decide +kernel, by decide +kernel⟩, List.mem_of_getElem? (i := 41) (by decide +kernel), List.mem_of_getElem? (i := 186) (by decide +kernel), List.mem_of_getElem? (i := 187) (by decide +kernel)⟩
theorem lw_p6 : lw_okq (⟨"MeshNames", "refusePacket", "(II)I"⟩, 6) := ⟨⟨by decide +kernel, by decide +kernel⟩, List.mem_of_getElem? (i := 10) (by decide +kernel), List.mem_of_getElem? (i := 298) (by decide +kernel), List.mem_of_getElem? (i := 299) (by decide +kernel)⟩
theorem lw_p7 : lw_okq (⟨"MeshNames$Route", "hopFrom", "(II)I"⟩, 6) := ⟨⟨by decide +kernel, by decide +kernel⟩, List.mem_of_getElem? (i := 83) (by decide +kernel), List.mem_of_getElem? (i := 324) (by decide +kernel), List.mem_of_getElem? (i := 325) (by decide +kernel)⟩
theorem lw_p8 : lw_okq (⟨"MeshNames$Route", "weighEnds", "(III)V"⟩, 6) := ⟨⟨by decide +kernel, by decide +kernel⟩, List.mem_of_getElem? (i := 83) (by decide +kernel), List.mem_of_getElem? (i := 331) (by decide +kernel), List.mem_of_getElem? (i := 332) (by decide +kernel)⟩
theorem lw_p9 : lw_okq (⟨"MeshNames$Route", "weigh", "(III)V"⟩, 6) := ⟨⟨by decide +kernel, by decide +kernel⟩, List.mem_of_getElem? (i := 83) (by decide +kernel), List.mem_of_getElem? (i := 336) (by decide +kernel), List.mem_of_getElem? (i := 337) (by decide +kernel)⟩
theorem lw_p10 : lw_okq (⟨"MeshNames$Survey", "note", "()V"⟩, 6) := ⟨⟨by decide +kernel, by decide +kernel⟩, List.mem_of_getElem? (i := 108) (by decide +kernel), List.mem_of_getElem? (i := 372) (by decide +kernel), List.mem_of_getElem? (i := 373) (by decide +kernel)⟩
theorem lw_p11 : lw_okq (⟨"MeshNames", "refuseImage", "(I)I"⟩, 6) := ⟨⟨by decide +kernel, by decide +kernel⟩, List.mem_of_getElem? (i := 10) (by decide +kernel), List.mem_of_getElem? (i := 416) (by decide +kernel), List.mem_of_getElem? (i := 417) (by decide +kernel)⟩
theorem lw_p12 : lw_okq (⟨"MeshNames$Paths", "isLaidAlike", "(ILMeshNames$Paths;)Z"⟩, 8) := ⟨⟨by decide +kernel, by decide +kernel⟩, List.mem_of_getElem? (i := 41) (by decide +kernel), List.mem_of_getElem? (i := 429) (by decide +kernel), List.mem_of_getElem? (i := 430) (by decide +kernel)⟩
theorem lw_p13 : lw_okq (⟨"MeshNamesModel", "isUp", "(I)Z"⟩, 15) := ⟨⟨by decide +kernel, by decide +kernel⟩, List.mem_of_getElem? (i := 468) (by decide +kernel), List.mem_of_getElem? (i := 534) (by decide +kernel), List.mem_of_getElem? (i := 535) (by decide +kernel)⟩
theorem lw_p14 : lw_okq (⟨"MeshNamesModel", "isTaken", "(I)Z"⟩, 15) := ⟨⟨by decide +kernel, by decide +kernel⟩, List.mem_of_getElem? (i := 468) (by decide +kernel), List.mem_of_getElem? (i := 538) (by decide +kernel), List.mem_of_getElem? (i := 539) (by decide +kernel)⟩
theorem lw_p15 : lw_okq (⟨"MeshNamesModel", "ups", "()I"⟩, 15) := ⟨⟨by decide +kernel, by decide +kernel⟩, List.mem_of_getElem? (i := 468) (by decide +kernel), List.mem_of_getElem? (i := 542) (by decide +kernel), List.mem_of_getElem? (i := 543) (by decide +kernel)⟩
def lw_privs_1 : List (MethodName × Nat) := [(⟨"MeshNames$Survey", "clear", "()V"⟩, 6), (⟨"MeshNames$Paths", "measureFrom", "(I)V"⟩, 8), (⟨"MeshNames$Paths", "noteSteps", "(III)V"⟩, 8), (⟨"MeshNames$Paths", "nextOnRing", "(I)I"⟩, 8), (⟨"MeshNames$Paths", "layFrom", "(II)V"⟩, 8), (⟨"MeshNames$Paths", "firstNearer", "(II)I"⟩, 8), (⟨"MeshNames", "refusePacket", "(II)I"⟩, 6), (⟨"MeshNames$Route", "hopFrom", "(II)I"⟩, 6), (⟨"MeshNames$Route", "weighEnds", "(III)V"⟩, 6), (⟨"MeshNames$Route", "weigh", "(III)V"⟩, 6), (⟨"MeshNames$Survey", "note", "()V"⟩, 6), (⟨"MeshNames", "refuseImage", "(I)I"⟩, 6), (⟨"MeshNames$Paths", "isLaidAlike", "(ILMeshNames$Paths;)Z"⟩, 8), (⟨"MeshNamesModel", "isUp", "(I)Z"⟩, 15), (⟨"MeshNamesModel", "isTaken", "(I)Z"⟩, 15), (⟨"MeshNamesModel", "ups", "()I"⟩, 15)]
theorem lw_r1 : ∀ q ∈ lw_privs_1, lw_okq q := List.forall_mem_cons.mpr ⟨lw_p0, List.forall_mem_cons.mpr ⟨lw_p1, List.forall_mem_cons.mpr ⟨lw_p2, List.forall_mem_cons.mpr ⟨lw_p3, List.forall_mem_cons.mpr ⟨lw_p4, List.forall_mem_cons.mpr ⟨lw_p5, List.forall_mem_cons.mpr ⟨lw_p6, List.forall_mem_cons.mpr ⟨lw_p7, List.forall_mem_cons.mpr ⟨lw_p8, List.forall_mem_cons.mpr ⟨lw_p9, List.forall_mem_cons.mpr ⟨lw_p10, List.forall_mem_cons.mpr ⟨lw_p11, List.forall_mem_cons.mpr ⟨lw_p12, List.forall_mem_cons.mpr ⟨lw_p13, List.forall_mem_cons.mpr ⟨lw_p14, List.forall_mem_cons.mpr ⟨lw_p15, fun _ h => absurd h List.not_mem_nil⟩⟩⟩⟩⟩⟩⟩⟩⟩⟩⟩⟩⟩⟩⟩⟩
theorem lw_p16 : lw_okq (⟨"MeshNamesModel", "links", "()I"⟩, 15) := ⟨⟨by decide +kernel, by decide +kernel⟩, List.mem_of_getElem? (i := 468) (by decide +kernel), List.mem_of_getElem? (i := 557) (by decide +kernel), List.mem_of_getElem? (i := 558) (by decide +kernel)⟩
theorem lw_p17 : lw_okq (⟨"MeshNamesModel", "layPaths", "()V"⟩, 15) := ⟨⟨by decide +kernel, by decide +kernel⟩, List.mem_of_getElem? (i := 468) (by decide +kernel), List.mem_of_getElem? (i := 565) (by decide +kernel), List.mem_of_getElem? (i := 566) (by decide +kernel)⟩
theorem lw_p18 : lw_okq (⟨"MeshNamesModel", "laySteps", "()V"⟩, 15) := ⟨⟨by decide +kernel, by decide +kernel⟩, List.mem_of_getElem? (i := 468) (by decide +kernel), List.mem_of_getElem? (i := 569) (by decide +kernel), List.mem_of_getElem? (i := 570) (by decide +kernel)⟩
theorem lw_p19 : lw_okq (⟨"MeshNamesModel", "shortenOnce", "()Z"⟩, 15) := ⟨⟨by decide +kernel, by decide +kernel⟩, List.mem_of_getElem? (i := 468) (by decide +kernel), List.mem_of_getElem? (i := 573) (by decide +kernel), List.mem_of_getElem? (i := 574) (by decide +kernel)⟩
theorem lw_p20 : lw_okq (⟨"MeshNamesModel", "counts", "(II)Z"⟩, 15) := ⟨⟨by decide +kernel, by decide +kernel⟩, List.mem_of_getElem? (i := 468) (by decide +kernel), List.mem_of_getElem? (i := 577) (by decide +kernel), List.mem_of_getElem? (i := 578) (by decide +kernel)⟩
theorem lw_p21 : lw_okq (⟨"MeshNamesModel", "isLink", "(II)Z"⟩, 15) := ⟨⟨by decide +kernel, by decide +kernel⟩, List.mem_of_getElem? (i := 468) (by decide +kernel), List.mem_of_getElem? (i := 581) (by decide +kernel), List.mem_of_getElem? (i := 582) (by decide +kernel)⟩
theorem lw_p22 : lw_okq (⟨"MeshNamesModel", "nextOf", "(I)I"⟩, 15) := ⟨⟨by decide +kernel, by decide +kernel⟩, List.mem_of_getElem? (i := 468) (by decide +kernel), List.mem_of_getElem? (i := 585) (by decide +kernel), List.mem_of_getElem? (i := 586) (by decide +kernel)⟩
theorem lw_p23 : lw_okq (⟨"MeshNamesModel", "areTogether", "(II)Z"⟩, 15) := ⟨⟨by decide +kernel, by decide +kernel⟩, List.mem_of_getElem? (i := 468) (by decide +kernel), List.mem_of_getElem? (i := 589) (by decide +kernel), List.mem_of_getElem? (i := 590) (by decide +kernel)⟩
theorem lw_p24 : lw_okq (⟨"MeshNamesModel", "ahead", "(II)I"⟩, 15) := ⟨⟨by decide +kernel, by decide +kernel⟩, List.mem_of_getElem? (i := 468) (by decide +kernel), List.mem_of_getElem? (i := 593) (by decide +kernel), List.mem_of_getElem? (i := 594) (by decide +kernel)⟩
theorem lw_p25 : lw_okq (⟨"MeshNamesModel", "layRow", "(I)V"⟩, 15) := ⟨⟨by decide +kernel, by decide +kernel⟩, List.mem_of_getElem? (i := 468) (by decide +kernel), List.mem_of_getElem? (i := 597) (by decide +kernel), List.mem_of_getElem? (i := 598) (by decide +kernel)⟩
theorem lw_p26 : lw_okq (⟨"MeshNamesModel", "nearer", "(II)I"⟩, 15) := ⟨⟨by decide +kernel, by decide +kernel⟩, List.mem_of_getElem? (i := 468) (by decide +kernel), List.mem_of_getElem? (i := 601) (by decide +kernel), List.mem_of_getElem? (i := 602) (by decide +kernel)⟩
theorem lw_p27 : lw_okq (⟨"MeshNamesModel", "partOf", "(I)I"⟩, 15) := ⟨⟨by decide +kernel, by decide +kernel⟩, List.mem_of_getElem? (i := 468) (by decide +kernel), List.mem_of_getElem? (i := 605) (by decide +kernel), List.mem_of_getElem? (i := 606) (by decide +kernel)⟩
theorem lw_p28 : lw_okq (⟨"MeshNamesModel", "beforeOf", "(I)I"⟩, 15) := ⟨⟨by decide +kernel, by decide +kernel⟩, List.mem_of_getElem? (i := 468) (by decide +kernel), List.mem_of_getElem? (i := 609) (by decide +kernel), List.mem_of_getElem? (i := 610) (by decide +kernel)⟩
theorem lw_p29 : lw_okq (⟨"MeshNamesModel", "linksOf", "(I)I"⟩, 15) := ⟨⟨by decide +kernel, by decide +kernel⟩, List.mem_of_getElem? (i := 468) (by decide +kernel), List.mem_of_getElem? (i := 613) (by decide +kernel), List.mem_of_getElem? (i := 614) (by decide +kernel)⟩
theorem lw_p30 : lw_okq (⟨"MeshNamesModel", "pathsOver", "(I)I"⟩, 15) := ⟨⟨by decide +kernel, by decide +kernel⟩, List.mem_of_getElem? (i := 468) (by decide +kernel), List.mem_of_getElem? (i := 617) (by decide +kernel), List.mem_of_getElem? (i := 618) (by decide +kernel)⟩
theorem lw_p31 : lw_okq (⟨"MeshNamesModel", "placeIn", "(II)I"⟩, 15) := ⟨⟨by decide +kernel, by decide +kernel⟩, List.mem_of_getElem? (i := 468) (by decide +kernel), List.mem_of_getElem? (i := 621) (by decide +kernel), List.mem_of_getElem? (i := 622) (by decide +kernel)⟩
def lw_privs_2 : List (MethodName × Nat) := [(⟨"MeshNamesModel", "links", "()I"⟩, 15), (⟨"MeshNamesModel", "layPaths", "()V"⟩, 15), (⟨"MeshNamesModel", "laySteps", "()V"⟩, 15), (⟨"MeshNamesModel", "shortenOnce", "()Z"⟩, 15), (⟨"MeshNamesModel", "counts", "(II)Z"⟩, 15), (⟨"MeshNamesModel", "isLink", "(II)Z"⟩, 15), (⟨"MeshNamesModel", "nextOf", "(I)I"⟩, 15), (⟨"MeshNamesModel", "areTogether", "(II)Z"⟩, 15), (⟨"MeshNamesModel", "ahead", "(II)I"⟩, 15), (⟨"MeshNamesModel", "layRow", "(I)V"⟩, 15), (⟨"MeshNamesModel", "nearer", "(II)I"⟩, 15), (⟨"MeshNamesModel", "partOf", "(I)I"⟩, 15), (⟨"MeshNamesModel", "beforeOf", "(I)I"⟩, 15), (⟨"MeshNamesModel", "linksOf", "(I)I"⟩, 15), (⟨"MeshNamesModel", "pathsOver", "(I)I"⟩, 15), (⟨"MeshNamesModel", "placeIn", "(II)I"⟩, 15)]
theorem lw_r2 : ∀ q ∈ lw_privs_2, lw_okq q := List.forall_mem_cons.mpr ⟨lw_p16, List.forall_mem_cons.mpr ⟨lw_p17, List.forall_mem_cons.mpr ⟨lw_p18, List.forall_mem_cons.mpr ⟨lw_p19, List.forall_mem_cons.mpr ⟨lw_p20, List.forall_mem_cons.mpr ⟨lw_p21, List.forall_mem_cons.mpr ⟨lw_p22, List.forall_mem_cons.mpr ⟨lw_p23, List.forall_mem_cons.mpr ⟨lw_p24, List.forall_mem_cons.mpr ⟨lw_p25, List.forall_mem_cons.mpr ⟨lw_p26, List.forall_mem_cons.mpr ⟨lw_p27, List.forall_mem_cons.mpr ⟨lw_p28, List.forall_mem_cons.mpr ⟨lw_p29, List.forall_mem_cons.mpr ⟨lw_p30, List.forall_mem_cons.mpr ⟨lw_p31, fun _ h => absurd h List.not_mem_nil⟩⟩⟩⟩⟩⟩⟩⟩⟩⟩⟩⟩⟩⟩⟩⟩
theorem lw_p32 : lw_okq (⟨"MeshNamesModel", "knownAt", "(I)I"⟩, 15) := ⟨⟨by decide +kernel, by decide +kernel⟩, List.mem_of_getElem? (i := 468) (by decide +kernel), List.mem_of_getElem? (i := 625) (by decide +kernel), List.mem_of_getElem? (i := 626) (by decide +kernel)⟩
theorem lw_p33 : lw_okq (⟨"MeshNamesModel", "nearest", "(II)I"⟩, 15) := ⟨⟨by decide +kernel, by decide +kernel⟩, List.mem_of_getElem? (i := 468) (by decide +kernel), List.mem_of_getElem? (i := 644) (by decide +kernel), List.mem_of_getElem? (i := 645) (by decide +kernel)⟩
theorem lw_p34 : lw_okq (⟨"MeshNamesModel", "isNearer", "(III)Z"⟩, 15) := ⟨⟨by decide +kernel, by decide +kernel⟩, List.mem_of_getElem? (i := 468) (by decide +kernel), List.mem_of_getElem? (i := 648) (by decide +kernel), List.mem_of_getElem? (i := 649) (by decide +kernel)⟩
theorem lw_p35 : lw_okq (⟨"MeshNamesModel", "layRoute", "(II)V"⟩, 15) := ⟨⟨by decide +kernel, by decide +kernel⟩, List.mem_of_getElem? (i := 468) (by decide +kernel), List.mem_of_getElem? (i := 662) (by decide +kernel), List.mem_of_getElem? (i := 663) (by decide +kernel)⟩
theorem lw_p36 : lw_okq (⟨"MeshNamesModel", "goOn", "(II)I"⟩, 15) := ⟨⟨by decide +kernel, by decide +kernel⟩, List.mem_of_getElem? (i := 468) (by decide +kernel), List.mem_of_getElem? (i := 666) (by decide +kernel), List.mem_of_getElem? (i := 667) (by decide +kernel)⟩
theorem lw_p37 : lw_okq (⟨"MeshNamesModel", "leftOn", "(III)I"⟩, 15) := ⟨⟨by decide +kernel, by decide +kernel⟩, List.mem_of_getElem? (i := 468) (by decide +kernel), List.mem_of_getElem? (i := 670) (by decide +kernel), List.mem_of_getElem? (i := 671) (by decide +kernel)⟩
theorem lw_p38 : lw_okq (⟨"MeshNamesModel", "spareNow", "()I"⟩, 15) := ⟨⟨by decide +kernel, by decide +kernel⟩, List.mem_of_getElem? (i := 468) (by decide +kernel), List.mem_of_getElem? (i := 678) (by decide +kernel), List.mem_of_getElem? (i := 679) (by decide +kernel)⟩
theorem lw_p39 : lw_okq (⟨"MeshNamesModel", "count", "(II)V"⟩, 15) := ⟨⟨by decide +kernel, by decide +kernel⟩, List.mem_of_getElem? (i := 468) (by decide +kernel), List.mem_of_getElem? (i := 686) (by decide +kernel), List.mem_of_getElem? (i := 687) (by decide +kernel)⟩
theorem lw_p40 : lw_okq (⟨"MeshNamesModel", "isBetween", "(I)Z"⟩, 15) := ⟨⟨by decide +kernel, by decide +kernel⟩, List.mem_of_getElem? (i := 468) (by decide +kernel), List.mem_of_getElem? (i := 690) (by decide +kernel), List.mem_of_getElem? (i := 691) (by decide +kernel)⟩
theorem lw_p41 : lw_okq (⟨"MeshNamesModel", "mostMet", "()I"⟩, 15) := ⟨⟨by decide +kernel, by decide +kernel⟩, List.mem_of_getElem? (i := 468) (by decide +kernel), List.mem_of_getElem? (i := 694) (by decide +kernel), List.mem_of_getElem? (i := 695) (by decide +kernel)⟩
theorem lw_p42 : lw_okq (⟨"MeshNamesModel", "isSideBySide", "(III)Z"⟩, 15) := ⟨⟨by decide +kernel, by decide +kernel⟩, List.mem_of_getElem? (i := 468) (by decide +kernel), List.mem_of_getElem? (i := 702) (by decide +kernel), List.mem_of_getElem? (i := 703) (by decide +kernel)⟩
theorem lw_p43 : lw_okq (⟨"MeshNamesModel", "isBridge", "(II)Z"⟩, 15) := ⟨⟨by decide +kernel, by decide +kernel⟩, List.mem_of_getElem? (i := 468) (by decide +kernel), List.mem_of_getElem? (i := 710) (by decide +kernel), List.mem_of_getElem? (i := 711) (by decide +kernel)⟩
theorem lw_p44 : lw_okq (⟨"MeshNamesModel", "save", "(I)V"⟩, 15) := ⟨⟨by decide +kernel, by decide +kernel⟩, List.mem_of_getElem? (i := 468) (by decide +kernel), List.mem_of_getElem? (i := 718) (by decide +kernel), List.mem_of_getElem? (i := 719) (by decide +kernel)⟩
theorem lw_p45 : lw_okq (⟨"MeshNamesModel", "load", "(I)V"⟩, 15) := ⟨⟨by decide +kernel, by decide +kernel⟩, List.mem_of_getElem? (i := 468) (by decide +kernel), List.mem_of_getElem? (i := 722) (by decide +kernel), List.mem_of_getElem? (i := 723) (by decide +kernel)⟩
theorem lw_p46 : lw_okq (⟨"MeshNamesModel", "isOther", "(I)Z"⟩, 15) := ⟨⟨by decide +kernel, by decide +kernel⟩, List.mem_of_getElem? (i := 468) (by decide +kernel), List.mem_of_getElem? (i := 726) (by decide +kernel), List.mem_of_getElem? (i := 727) (by decide +kernel)⟩
theorem lw_p47 : lw_okq (⟨"MeshNamesModel", "counting", "()I"⟩, 15) := ⟨⟨by decide +kernel, by decide +kernel⟩, List.mem_of_getElem? (i := 468) (by decide +kernel), List.mem_of_getElem? (i := 742) (by decide +kernel), List.mem_of_getElem? (i := 743) (by decide +kernel)⟩
def lw_privs_3 : List (MethodName × Nat) := [(⟨"MeshNamesModel", "knownAt", "(I)I"⟩, 15), (⟨"MeshNamesModel", "nearest", "(II)I"⟩, 15), (⟨"MeshNamesModel", "isNearer", "(III)Z"⟩, 15), (⟨"MeshNamesModel", "layRoute", "(II)V"⟩, 15), (⟨"MeshNamesModel", "goOn", "(II)I"⟩, 15), (⟨"MeshNamesModel", "leftOn", "(III)I"⟩, 15), (⟨"MeshNamesModel", "spareNow", "()I"⟩, 15), (⟨"MeshNamesModel", "count", "(II)V"⟩, 15), (⟨"MeshNamesModel", "isBetween", "(I)Z"⟩, 15), (⟨"MeshNamesModel", "mostMet", "()I"⟩, 15), (⟨"MeshNamesModel", "isSideBySide", "(III)Z"⟩, 15), (⟨"MeshNamesModel", "isBridge", "(II)Z"⟩, 15), (⟨"MeshNamesModel", "save", "(I)V"⟩, 15), (⟨"MeshNamesModel", "load", "(I)V"⟩, 15), (⟨"MeshNamesModel", "isOther", "(I)Z"⟩, 15), (⟨"MeshNamesModel", "counting", "()I"⟩, 15)]
theorem lw_r3 : ∀ q ∈ lw_privs_3, lw_okq q := List.forall_mem_cons.mpr ⟨lw_p32, List.forall_mem_cons.mpr ⟨lw_p33, List.forall_mem_cons.mpr ⟨lw_p34, List.forall_mem_cons.mpr ⟨lw_p35, List.forall_mem_cons.mpr ⟨lw_p36, List.forall_mem_cons.mpr ⟨lw_p37, List.forall_mem_cons.mpr ⟨lw_p38, List.forall_mem_cons.mpr ⟨lw_p39, List.forall_mem_cons.mpr ⟨lw_p40, List.forall_mem_cons.mpr ⟨lw_p41, List.forall_mem_cons.mpr ⟨lw_p42, List.forall_mem_cons.mpr ⟨lw_p43, List.forall_mem_cons.mpr ⟨lw_p44, List.forall_mem_cons.mpr ⟨lw_p45, List.forall_mem_cons.mpr ⟨lw_p46, List.forall_mem_cons.mpr ⟨lw_p47, fun _ h => absurd h List.not_mem_nil⟩⟩⟩⟩⟩⟩⟩⟩⟩⟩⟩⟩⟩⟩⟩⟩
theorem lw_p48 : lw_okq (⟨"MeshNamesModel", "parts", "()I"⟩, 15) := ⟨⟨by decide +kernel, by decide +kernel⟩, List.mem_of_getElem? (i := 468) (by decide +kernel), List.mem_of_getElem? (i := 746) (by decide +kernel), List.mem_of_getElem? (i := 747) (by decide +kernel)⟩
theorem lw_p49 : lw_okq (⟨"MeshNamesModel", "paths", "()I"⟩, 15) := ⟨⟨by decide +kernel, by decide +kernel⟩, List.mem_of_getElem? (i := 468) (by decide +kernel), List.mem_of_getElem? (i := 750) (by decide +kernel), List.mem_of_getElem? (i := 751) (by decide +kernel)⟩
theorem lw_p50 : lw_okq (⟨"MeshNamesModel", "allRows", "()I"⟩, 15) := ⟨⟨by decide +kernel, by decide +kernel⟩, List.mem_of_getElem? (i := 468) (by decide +kernel), List.mem_of_getElem? (i := 754) (by decide +kernel), List.mem_of_getElem? (i := 755) (by decide +kernel)⟩
theorem lw_p51 : lw_okq (⟨"MeshNamesModel", "upSet", "()I"⟩, 15) := ⟨⟨by decide +kernel, by decide +kernel⟩, List.mem_of_getElem? (i := 468) (by decide +kernel), List.mem_of_getElem? (i := 758) (by decide +kernel), List.mem_of_getElem? (i := 759) (by decide +kernel)⟩
def lw_privs_4 : List (MethodName × Nat) := [(⟨"MeshNamesModel", "parts", "()I"⟩, 15), (⟨"MeshNamesModel", "paths", "()I"⟩, 15), (⟨"MeshNamesModel", "allRows", "()I"⟩, 15), (⟨"MeshNamesModel", "upSet", "()I"⟩, 15)]
theorem lw_r4 : ∀ q ∈ lw_privs_4, lw_okq q := List.forall_mem_cons.mpr ⟨lw_p48, List.forall_mem_cons.mpr ⟨lw_p49, List.forall_mem_cons.mpr ⟨lw_p50, List.forall_mem_cons.mpr ⟨lw_p51, fun _ h => absurd h List.not_mem_nil⟩⟩⟩⟩
def lw_privs : List (MethodName × Nat) := lw_privs_1 ++ (lw_privs_2 ++ (lw_privs_3 ++ (lw_privs_4)))
def lw_tbl : List Cond := k2_sels lw_privs ++ tables_1
theorem lw_privs_ok : ∀ q ∈ lw_privs, lw_okq q := by
  show ∀ q ∈ lw_privs_1 ++ (lw_privs_2 ++ (lw_privs_3 ++ (lw_privs_4))), lw_okq q
  exact List.forall_mem_append.mpr ⟨lw_r1, List.forall_mem_append.mpr ⟨lw_r2, List.forall_mem_append.mpr ⟨lw_r3, lw_r4⟩⟩⟩
-- ===== end of PART A; then your names; then what follows =====
/-! classes, their fields in the order of the slots -/
def cN0 : String := "MeshNames$Mesh"
def cF0 : u_T := fun k => match k with
  | 0 => ("MeshNames$Mesh", "names", "[I", true)
  | 1 => ("MeshNames$Mesh", "links", "[I", true)
  | _ => ("MeshNames$Mesh", "upSet", "I", false)
def cY0 : Nat → FieldType := fun k => match k with
  | 0 => .array .int
  | 1 => .array .int
  | _ => .int
def cN1 : String := "MeshNames$Paths"
def cF1 : u_T := fun k => match k with
  | 0 => ("MeshNames$Paths", "mesh", "LMeshNames$Mesh;", true)
  | 1 => ("MeshNames$Paths", "parts", "[I", true)
  | 2 => ("MeshNames$Paths", "nexts", "[I", true)
  | 3 => ("MeshNames$Paths", "befores", "[I", true)
  | 4 => ("MeshNames$Paths", "steps", "[I", true)
  | 5 => ("MeshNames$Paths", "lengths", "[I", true)
  | 6 => ("MeshNames$Paths", "rows", "[I", true)
  | _ => ("MeshNames$Paths", "places", "[I", true)
def cY1 : Nat → FieldType := fun k => match k with
  | 0 => .object "MeshNames$Mesh"
  | 1 => .array .int
  | 2 => .array .int
  | 3 => .array .int
  | 4 => .array .int
  | 5 => .array .int
  | 6 => .array .int
  | _ => .array .int
def cN2 : String := "MeshNames$Route"
def cF2 : u_T := fun k => match k with
  | 0 => ("MeshNames$Route", "paths", "LMeshNames$Paths;", true)
  | 1 => ("MeshNames$Route", "row", "[I", true)
  | 2 => ("MeshNames$Route", "length", "I", false)
  | 3 => ("MeshNames$Route", "bestRank", "I", false)
  | 4 => ("MeshNames$Route", "fewestLeft", "I", false)
  | _ => ("MeshNames$Route", "hop", "I", false)
def cY2 : Nat → FieldType := fun k => match k with
  | 0 => .object "MeshNames$Paths"
  | 1 => .array .int
  | 2 => .int
  | 3 => .int
  | 4 => .int
  | _ => .int
def cN3 : String := "MeshNames$Survey"
def cF3 : u_T := fun k => match k with
  | 0 => ("MeshNames$Survey", "paths", "LMeshNames$Paths;", true)
  | 1 => ("MeshNames$Survey", "packet", "LMeshNames$Route;", true)
  | 2 => ("MeshNames$Survey", "visits", "[I", true)
  | 3 => ("MeshNames$Survey", "greatestSpare", "I", false)
  | 4 => ("MeshNames$Survey", "allSpares", "I", false)
  | _ => ("MeshNames$Survey", "mostSteps", "I", false)
def cY3 : Nat → FieldType := fun k => match k with
  | 0 => .object "MeshNames$Paths"
  | 1 => .object "MeshNames$Route"
  | 2 => .array .int
  | 3 => .int
  | 4 => .int
  | _ => .int
def cN4 : String := "MeshNames"
def cF4 : u_T := fun k => match k with
  | 0 => ("MeshNames", "mesh", "LMeshNames$Mesh;", true)
  | 1 => ("MeshNames", "paths", "LMeshNames$Paths;", true)
  | 2 => ("MeshNames", "packet", "LMeshNames$Route;", true)
  | 3 => ("MeshNames", "survey", "LMeshNames$Survey;", true)
  | 4 => ("MeshNames", "images", "[LMeshNames$Paths;", true)
  | _ => ("MeshNames", "keptImages", "I", false)
def cY4 : Nat → FieldType := fun k => match k with
  | 0 => .object "MeshNames$Mesh"
  | 1 => .object "MeshNames$Paths"
  | 2 => .object "MeshNames$Route"
  | 3 => .object "MeshNames$Survey"
  | 4 => .array (.object "MeshNames$Paths")
  | _ => .int
def cN5 : String := "MeshNamesModel"
def cF5 : u_T := fun k => match k with
  | 0 => ("MeshNamesModel", "state", "[I", true)
  | 1 => ("MeshNamesModel", "images", "[I", true)
  | 2 => ("MeshNamesModel", "isKept", "[Z", true)
  | 3 => ("MeshNamesModel", "steps", "[I", true)
  | 4 => ("MeshNamesModel", "next", "[I", true)
  | 5 => ("MeshNamesModel", "row", "[I", true)
  | 6 => ("MeshNamesModel", "rowMany", "[I", true)
  | 7 => ("MeshNamesModel", "route", "[I", true)
  | 8 => ("MeshNamesModel", "routeMany", "I", false)
  | 9 => ("MeshNamesModel", "mostSpare", "I", false)
  | 10 => ("MeshNamesModel", "allSpare", "I", false)
  | 11 => ("MeshNamesModel", "longest", "I", false)
  | 12 => ("MeshNamesModel", "met", "[I", true)
  | 13 => ("MeshNamesModel", "rowThen", "[I", true)
  | _ => ("MeshNamesModel", "rowManyThen", "[I", true)
def cY5 : Nat → FieldType := fun k => match k with
  | 0 => .array .int
  | 1 => .array .int
  | 2 => .array .boolean
  | 3 => .array .int
  | 4 => .array .int
  | 5 => .array .int
  | 6 => .array .int
  | 7 => .array .int
  | 8 => .int
  | 9 => .int
  | 10 => .int
  | 11 => .int
  | 12 => .array .int
  | 13 => .array .int
  | _ => .array .int
abbrev cls : List vw_C := [(cN0, cF0, 3), (cN1, cF1, 8), (cN2, cF2, 6), (cN3, cF3, 6), (cN4, cF4, 6), (cN5, cF5, 15)]
/-! the values of the small machine: an int, or null, or the script, or a cell by its number; its cells: arrays of ints (of booleans), of references, objects -/
abbrev AV : Type := Int32 ⊕ Option (Option Nat)
abbrev AC : Type := (Bool × Nat × (Nat → Int32)) ⊕ ((Nat × (Nat → Option Nat)) ⊕ (Nat × List AV))
abbrev AW : Type := List AC
abbrev AE : Type := Instr × (Nat × Nat × Nat × Nat) × List Nat × Int32
abbrev MI : Type := MethodName × ByteArray × Nat × Option FieldType × (Nat × Nat × Nat × Nat) × Nat × Nat
abbrev vI (x : Int32) : AV := .inl x
abbrev vN : AV := .inr none
abbrev vS : AV := .inr (some none)
abbrev vR (k : Nat) : AV := .inr (some (some k))
def cDs : List (List AV) := [[vN, vN, vI 0], [vN, vN, vN, vN, vN, vN, vN, vN], [vN, vN, vI 0, vI 0, vI 0, vI 0], [vN, vN, vN, vI 0, vI 0, vI 0], [vN, vN, vN, vN, vN, vI 0], [vN, vN, vN, vN, vN, vN, vN, vN, vI 0, vI 0, vI 0, vI 0, vN, vN, vN]]
/-! methods: name, bytes, locals, what it returns, (frames, words of locals, cells, slots) of its room, its arguments, the class of its receiver (99: none) -/
def m_0 : MI := (⟨"MeshNames$Mesh", "<init>", "()V"⟩, prog_2_method_1_code, 1, none, (1, 20, 2, 16), 1, 0)
def m_1 : MI := (⟨"MeshNames$Paths", "<init>", "(LMeshNames$Mesh;)V"⟩, prog_3_method_1_code, 2, none, (1, 20, 7, 224), 2, 1)
def m_2 : MI := (⟨"MeshNames$Route", "<init>", "(LMeshNames$Paths;)V"⟩, prog_4_method_1_code, 2, none, (1, 20, 1, 8), 2, 2)
def m_3 : MI := (⟨"MeshNames$Survey", "clear", "()V"⟩, prog_5_method_2_code, 2, none, (0, 0, 0, 0), 1, 3)
def m_4 : MI := (⟨"MeshNames$Survey", "<init>", "(LMeshNames$Paths;LMeshNames$Route;)V"⟩, prog_5_method_1_code, 3, none, (1, 21, 1, 8), 3, 3)
def m_5 : MI := (⟨"MeshNames", "bit", "(I)I"⟩, prog_1_method_23_code, 1, some .int, (0, 0, 0, 0), 1, 99)
def m_6 : MI := (⟨"MeshNames", "has", "(II)Z"⟩, prog_1_method_24_code, 2, some .boolean, (0, 0, 0, 0), 2, 99)
def m_7 : MI := (⟨"MeshNames$Paths", "noteSteps", "(III)V"⟩, prog_3_method_4_code, 5, none, (1, 21, 0, 0), 4, 1)
def m_8 : MI := (⟨"MeshNames$Mesh", "isUp", "(I)Z"⟩, prog_2_method_2_code, 2, some .boolean, (1, 21, 0, 0), 2, 0)
def m_9 : MI := (⟨"MeshNames$Mesh", "neighbours", "(I)I"⟩, prog_2_method_8_code, 2, some .int, (2, 42, 0, 0), 2, 0)
def m_10 : MI := (⟨"MeshNames$Mesh", "neighboursOfAll", "(I)I"⟩, prog_2_method_9_code, 4, some .int, (3, 63, 0, 0), 2, 0)
def m_11 : MI := (⟨"MeshNames$Paths", "measureFrom", "(I)V"⟩, prog_3_method_3_code, 5, none, (4, 86, 0, 0), 2, 1)
def m_12 : MI := (⟨"java/lang/Math", "floorMod", "(II)I"⟩, prog_9_method_50_code, 3, some .int, (0, 0, 0, 0), 2, 99)
def m_13 : MI := (⟨"MeshNames$Paths", "nextOnRing", "(I)I"⟩, prog_3_method_5_code, 6, some .int, (1, 22, 0, 0), 2, 1)
def m_14 : MI := (⟨"MeshNames", "isNode", "(I)Z"⟩, prog_1_method_20_code, 1, some .boolean, (0, 0, 0, 0), 1, 99)
def m_15 : MI := (⟨"MeshNames$Paths", "firstNearer", "(II)I"⟩, prog_3_method_7_code, 6, some .int, (3, 63, 0, 0), 3, 1)
def m_16 : MI := (⟨"MeshNames$Paths", "layFrom", "(II)V"⟩, prog_3_method_6_code, 5, none, (4, 88, 0, 0), 3, 1)
def m_17 : MI := (⟨"MeshNames$Paths", "lay", "()V"⟩, prog_3_method_2_code, 3, none, (5, 112, 0, 0), 1, 1)
def m_18 : MI := (⟨"MeshNames", "<init>", "()V"⟩, prog_1_method_1_code, 2, none, (6, 134, 38, 783), 1, 4)
def m_19 : MI := (⟨"MeshNamesModel", "<init>", "()V"⟩, prog_7_method_1_code, 1, none, (1, 20, 11, 1570), 1, 5)
def m_20 : MI := (⟨"MeshNames", "isName", "(I)Z"⟩, prog_1_method_21_code, 1, some .boolean, (0, 0, 0, 0), 1, 99)
def m_21 : MI := (⟨"MeshNames$Mesh", "isTaken", "(I)Z"⟩, prog_2_method_3_code, 3, some .boolean, (2, 42, 0, 0), 2, 0)
def m_22 : MI := (⟨"MeshNames$Mesh", "raise", "(II)V"⟩, prog_2_method_4_code, 3, none, (1, 20, 0, 0), 3, 0)
def m_23 : MI := (⟨"java/lang/Integer", "bitCount", "(I)I"⟩, prog_8_method_49_code, 1, some .int, (0, 0, 0, 0), 1, 99)
def m_24 : MI := (⟨"MeshNames", "up", "(II)I"⟩, prog_1_method_2_code, 3, some .int, (6, 134, 0, 0), 3, 4)
def m_25 : MI := (⟨"MeshNamesModel", "in", "(III)Z"⟩, prog_7_method_2_code, 3, some .boolean, (0, 0, 0, 0), 3, 99)
def m_26 : MI := (⟨"MeshNamesModel", "isNode", "(I)Z"⟩, prog_7_method_3_code, 1, some .boolean, (1, 22, 0, 0), 1, 99)
def m_27 : MI := (⟨"MeshNamesModel", "isName", "(I)Z"⟩, prog_7_method_4_code, 1, some .boolean, (1, 22, 0, 0), 1, 99)
def m_28 : MI := (⟨"MeshNamesModel", "isUp", "(I)Z"⟩, prog_7_method_5_code, 2, some .boolean, (0, 0, 0, 0), 2, 5)
def m_29 : MI := (⟨"MeshNamesModel", "isTaken", "(I)Z"⟩, prog_7_method_12_code, 4, some .boolean, (1, 21, 0, 0), 2, 5)
def m_30 : MI := (⟨"MeshNamesModel", "ups", "()I"⟩, prog_7_method_10_code, 3, some .int, (0, 0, 0, 0), 1, 5)
def m_31 : MI := (⟨"MeshNamesModel", "up", "(II)I"⟩, prog_7_method_13_code, 3, some .int, (2, 44, 0, 0), 3, 5)
def m_32 : MI := (⟨"MeshNames$Mesh", "lower", "(I)V"⟩, prog_2_method_5_code, 2, none, (1, 20, 0, 0), 2, 0)
def m_33 : MI := (⟨"MeshNames", "down", "(I)I"⟩, prog_1_method_3_code, 3, some .int, (6, 134, 0, 0), 2, 4)
def m_34 : MI := (⟨"MeshNamesModel", "down", "(I)I"⟩, prog_7_method_14_code, 3, some .int, (2, 42, 0, 0), 2, 5)
def m_35 : MI := (⟨"MeshNames$Mesh", "setLink", "(IIZ)V"⟩, prog_2_method_6_code, 4, none, (1, 20, 0, 0), 4, 0)
def m_36 : MI := (⟨"MeshNames$Mesh", "countLinks", "()I"⟩, prog_2_method_12_code, 3, some .int, (1, 20, 0, 0), 1, 0)
def m_37 : MI := (⟨"MeshNames", "link", "(III)I"⟩, prog_1_method_4_code, 4, some .int, (6, 134, 0, 0), 4, 4)
def m_38 : MI := (⟨"MeshNamesModel", "pair", "(II)I"⟩, prog_7_method_6_code, 2, some .int, (0, 0, 0, 0), 2, 99)
def m_39 : MI := (⟨"MeshNamesModel", "links", "()I"⟩, prog_7_method_11_code, 3, some .int, (0, 0, 0, 0), 1, 5)
def m_40 : MI := (⟨"MeshNamesModel", "link", "(III)I"⟩, prog_7_method_15_code, 4, some .int, (2, 42, 0, 0), 4, 5)
def m_41 : MI := (⟨"MeshNames$Paths", "placeOf", "(II)I"⟩, prog_3_method_10_code, 3, some .int, (0, 0, 0, 0), 3, 1)
def m_42 : MI := (⟨"MeshNames$Paths", "goesOver", "(II)Z"⟩, prog_3_method_11_code, 3, some .boolean, (1, 22, 0, 0), 3, 1)
def m_43 : MI := (⟨"MeshNames$Paths", "countOver", "(I)I"⟩, prog_3_method_12_code, 4, some .int, (2, 44, 0, 0), 2, 1)
def m_44 : MI := (⟨"MeshNames$Paths", "countKnown", "(I)I"⟩, prog_3_method_13_code, 4, some .int, (2, 44, 0, 0), 2, 1)
def m_45 : MI := (⟨"MeshNames", "of", "(II)I"⟩, prog_1_method_5_code, 3, some .int, (3, 67, 0, 0), 3, 4)
def m_46 : MI := (⟨"MeshNamesModel", "isLink", "(II)Z"⟩, prog_7_method_7_code, 3, some .boolean, (1, 21, 0, 0), 3, 5)
def m_47 : MI := (⟨"MeshNamesModel", "counts", "(II)Z"⟩, prog_7_method_8_code, 3, some .boolean, (2, 43, 0, 0), 3, 5)
def m_48 : MI := (⟨"MeshNamesModel", "shortenOnce", "()Z"⟩, prog_7_method_16_code, 5, some .boolean, (3, 65, 0, 0), 1, 5)
def m_49 : MI := (⟨"MeshNamesModel", "laySteps", "()V"⟩, prog_7_method_17_code, 2, none, (4, 89, 0, 0), 1, 5)
def m_50 : MI := (⟨"MeshNamesModel", "areTogether", "(II)Z"⟩, prog_7_method_18_code, 3, some .boolean, (0, 0, 0, 0), 3, 5)
def m_51 : MI := (⟨"MeshNamesModel", "ahead", "(II)I"⟩, prog_7_method_20_code, 3, some .int, (0, 0, 0, 0), 3, 5)
def m_52 : MI := (⟨"MeshNamesModel", "nextOf", "(I)I"⟩, prog_7_method_19_code, 4, some .int, (1, 22, 0, 0), 2, 5)
def m_53 : MI := (⟨"MeshNamesModel", "nearer", "(II)I"⟩, prog_7_method_22_code, 5, some .int, (3, 65, 0, 0), 3, 5)
def m_54 : MI := (⟨"MeshNamesModel", "layRow", "(I)V"⟩, prog_7_method_21_code, 3, none, (4, 89, 0, 0), 2, 5)
def m_55 : MI := (⟨"MeshNamesModel", "layPaths", "()V"⟩, prog_7_method_23_code, 2, none, (5, 111, 0, 0), 1, 5)
def m_56 : MI := (⟨"MeshNamesModel", "partOf", "(I)I"⟩, prog_7_method_28_code, 4, some .int, (1, 22, 0, 0), 2, 5)
def m_57 : MI := (⟨"MeshNamesModel", "beforeOf", "(I)I"⟩, prog_7_method_29_code, 4, some .int, (0, 0, 0, 0), 2, 5)
def m_58 : MI := (⟨"MeshNamesModel", "linksOf", "(I)I"⟩, prog_7_method_30_code, 4, some .int, (3, 65, 0, 0), 2, 5)
def m_59 : MI := (⟨"MeshNamesModel", "placeIn", "(II)I"⟩, prog_7_method_24_code, 5, some .int, (0, 0, 0, 0), 3, 5)
def m_60 : MI := (⟨"MeshNamesModel", "pathsOver", "(I)I"⟩, prog_7_method_25_code, 4, some .int, (1, 24, 0, 0), 2, 5)
def m_61 : MI := (⟨"MeshNamesModel", "knownAt", "(I)I"⟩, prog_7_method_26_code, 4, some .int, (1, 24, 0, 0), 2, 5)
def m_62 : MI := (⟨"MeshNamesModel", "size", "(I)I"⟩, prog_7_method_27_code, 3, some .int, (0, 0, 0, 0), 1, 99)
def m_63 : MI := (⟨"MeshNamesModel", "of", "(II)I"⟩, prog_7_method_31_code, 3, some .int, (6, 132, 0, 0), 3, 5)
def m_64 : MI := (⟨"MeshNames$Paths", "isLaid", "(I)Z"⟩, prog_3_method_8_code, 2, some .boolean, (0, 0, 0, 0), 2, 1)
def m_65 : MI := (⟨"MeshNames$Paths", "nodeAt", "(II)I"⟩, prog_3_method_9_code, 3, some .int, (0, 0, 0, 0), 3, 1)
def m_66 : MI := (⟨"MeshNames", "path", "(II)I"⟩, prog_1_method_6_code, 3, some .int, (2, 42, 0, 0), 3, 4)
def m_67 : MI := (⟨"MeshNamesModel", "path", "(II)I"⟩, prog_7_method_32_code, 3, some .int, (6, 132, 0, 0), 3, 5)
def m_68 : MI := (⟨"MeshNames", "over", "(II)I"⟩, prog_1_method_7_code, 3, some .int, (2, 44, 0, 0), 3, 4)
def m_69 : MI := (⟨"MeshNamesModel", "over", "(II)I"⟩, prog_7_method_33_code, 3, some .int, (6, 132, 0, 0), 3, 5)
def m_70 : MI := (⟨"MeshNames", "refusePacket", "(II)I"⟩, prog_1_method_18_code, 3, some .int, (2, 42, 0, 0), 3, 4)
def m_71 : MI := (⟨"java/lang/Math", "abs", "(I)I"⟩, prog_9_method_59_code, 1, some .int, (0, 0, 0, 0), 1, 99)
def m_72 : MI := (⟨"java/lang/Math", "min", "(II)I"⟩, prog_9_method_69_code, 2, some .int, (0, 0, 0, 0), 2, 99)
def m_73 : MI := (⟨"MeshNames", "rank", "(II)I"⟩, prog_1_method_25_code, 3, some .int, (1, 21, 0, 0), 2, 99)
def m_74 : MI := (⟨"MeshNames$Paths", "nearestInPart", "(II)I"⟩, prog_3_method_14_code, 5, some .int, (2, 43, 0, 0), 3, 1)
def m_75 : MI := (⟨"MeshNames", "owner", "(II)I"⟩, prog_1_method_8_code, 4, some .int, (3, 67, 0, 0), 3, 4)
def m_76 : MI := (⟨"MeshNamesModel", "less", "(II)I"⟩, prog_7_method_9_code, 2, some .int, (0, 0, 0, 0), 2, 99)
def m_77 : MI := (⟨"MeshNamesModel", "away", "(II)I"⟩, prog_7_method_34_code, 3, some .int, (1, 21, 0, 0), 2, 99)
def m_78 : MI := (⟨"MeshNamesModel", "isNearer", "(III)Z"⟩, prog_7_method_35_code, 6, some .boolean, (2, 43, 0, 0), 4, 5)
def m_79 : MI := (⟨"MeshNamesModel", "nearest", "(II)I"⟩, prog_7_method_36_code, 5, some .int, (3, 68, 0, 0), 3, 5)
def m_80 : MI := (⟨"MeshNamesModel", "owner", "(II)I"⟩, prog_7_method_37_code, 3, some .int, (5, 110, 0, 0), 3, 5)
def m_81 : MI := (⟨"MeshNames$Route", "weigh", "(III)V"⟩, prog_4_method_5_code, 4, none, (0, 0, 0, 0), 4, 2)
def m_82 : MI := (⟨"MeshNames$Route", "weighEnds", "(III)V"⟩, prog_4_method_4_code, 6, none, (2, 43, 0, 0), 4, 2)
def m_83 : MI := (⟨"MeshNames$Route", "hopFrom", "(II)I"⟩, prog_4_method_3_code, 4, some .int, (3, 68, 0, 0), 3, 2)
def m_84 : MI := (⟨"MeshNames$Route", "follow", "(II)V"⟩, prog_4_method_2_code, 5, none, (4, 91, 0, 0), 3, 2)
def m_85 : MI := (⟨"MeshNames$Route", "countSteps", "()I"⟩, prog_4_method_6_code, 1, some .int, (0, 0, 0, 0), 1, 2)
def m_86 : MI := (⟨"MeshNames$Route", "nodeAt", "(I)I"⟩, prog_4_method_7_code, 2, some .int, (0, 0, 0, 0), 2, 2)
def m_87 : MI := (⟨"MeshNames", "route", "(III)I"⟩, prog_1_method_9_code, 5, some .int, (5, 115, 0, 0), 4, 4)
def m_88 : MI := (⟨"MeshNamesModel", "leftOn", "(III)I"⟩, prog_7_method_38_code, 5, some .int, (1, 24, 0, 0), 4, 5)
def m_89 : MI := (⟨"MeshNamesModel", "goOn", "(II)I"⟩, prog_7_method_39_code, 7, some .int, (2, 48, 0, 0), 3, 5)
def m_90 : MI := (⟨"MeshNamesModel", "layRoute", "(II)V"⟩, prog_7_method_40_code, 5, none, (4, 92, 0, 0), 3, 5)
def m_91 : MI := (⟨"MeshNamesModel", "route", "(III)I"⟩, prog_7_method_42_code, 4, some .int, (6, 132, 0, 0), 4, 5)
def m_92 : MI := (⟨"MeshNames$Route", "lastNode", "()I"⟩, prog_4_method_8_code, 1, some .int, (1, 21, 0, 0), 1, 2)
def m_93 : MI := (⟨"MeshNames$Route", "countSpare", "()I"⟩, prog_4_method_9_code, 3, some .int, (2, 41, 0, 0), 1, 2)
def m_94 : MI := (⟨"MeshNames", "spare", "(II)I"⟩, prog_1_method_10_code, 4, some .int, (5, 115, 0, 0), 3, 4)
def m_95 : MI := (⟨"MeshNamesModel", "spareNow", "()I"⟩, prog_7_method_41_code, 1, some .int, (0, 0, 0, 0), 1, 5)
def m_96 : MI := (⟨"MeshNamesModel", "spare", "(II)I"⟩, prog_7_method_43_code, 3, some .int, (6, 132, 0, 0), 3, 5)
def m_97 : MI := (⟨"java/lang/Math", "max", "(II)I"⟩, prog_9_method_65_code, 2, some .int, (0, 0, 0, 0), 2, 99)
def m_98 : MI := (⟨"MeshNames$Route", "between", "()I"⟩, prog_4_method_10_code, 3, some .int, (2, 41, 0, 0), 1, 2)
def m_99 : MI := (⟨"MeshNames$Survey", "note", "()V"⟩, prog_5_method_4_code, 4, none, (3, 63, 0, 0), 1, 3)
def m_100 : MI := (⟨"MeshNames$Survey", "take", "()V"⟩, prog_5_method_3_code, 3, none, (5, 115, 0, 0), 1, 3)
def m_101 : MI := (⟨"MeshNames$Survey", "busiest", "()I"⟩, prog_5_method_5_code, 4, some .int, (0, 0, 0, 0), 1, 3)
def m_102 : MI := (⟨"MeshNames", "worst", "(I)I"⟩, prog_1_method_11_code, 2, some .int, (6, 137, 0, 0), 2, 4)
def m_103 : MI := (⟨"MeshNamesModel", "isBetween", "(I)Z"⟩, prog_7_method_44_code, 4, some .boolean, (0, 0, 0, 0), 2, 5)
def m_104 : MI := (⟨"MeshNamesModel", "count", "(II)V"⟩, prog_7_method_45_code, 5, none, (5, 116, 0, 0), 3, 5)
def m_105 : MI := (⟨"MeshNamesModel", "mostMet", "()I"⟩, prog_7_method_46_code, 4, some .int, (0, 0, 0, 0), 1, 5)
def m_106 : MI := (⟨"MeshNamesModel", "worst", "(I)I"⟩, prog_7_method_47_code, 3, some .int, (6, 140, 0, 0), 2, 5)
def m_107 : MI := (⟨"MeshNames$Mesh", "countsBetween", "(II)Z"⟩, prog_2_method_10_code, 3, some .boolean, (3, 63, 0, 0), 3, 0)
def m_108 : MI := (⟨"MeshNames$Paths", "laidAlong", "(II)I"⟩, prog_3_method_15_code, 5, some .int, (2, 44, 0, 0), 3, 1)
def m_109 : MI := (⟨"MeshNames", "torn", "(II)I"⟩, prog_1_method_12_code, 3, some .int, (4, 85, 0, 0), 3, 4)
def m_110 : MI := (⟨"MeshNamesModel", "isSideBySide", "(III)Z"⟩, prog_7_method_48_code, 8, some .boolean, (0, 0, 0, 0), 4, 5)
def m_111 : MI := (⟨"MeshNamesModel", "torn", "(II)I"⟩, prog_7_method_49_code, 5, some .int, (6, 132, 0, 0), 3, 5)
def m_112 : MI := (⟨"MeshNames$Mesh", "holdsWithout", "(II)Z"⟩, prog_2_method_11_code, 6, some .boolean, (4, 86, 0, 0), 3, 0)
def m_113 : MI := (⟨"MeshNames", "bridges", "()I"⟩, prog_1_method_13_code, 4, some .int, (5, 111, 0, 0), 1, 4)
def m_114 : MI := (⟨"MeshNamesModel", "isBridge", "(II)Z"⟩, prog_7_method_50_code, 3, some .boolean, (5, 110, 0, 0), 3, 5)
def m_115 : MI := (⟨"MeshNamesModel", "bridges", "()I"⟩, prog_7_method_51_code, 4, some .int, (6, 132, 0, 0), 1, 5)
def m_116 : MI := (⟨"MeshNames", "isImage", "(I)Z"⟩, prog_1_method_22_code, 1, some .boolean, (0, 0, 0, 0), 1, 99)
def m_117 : MI := (⟨"MeshNames", "refuseImage", "(I)I"⟩, prog_1_method_19_code, 2, some .int, (1, 21, 0, 0), 2, 4)
def m_118 : MI := (⟨"MeshNames$Paths", "isLaidAlike", "(ILMeshNames$Paths;)Z"⟩, prog_3_method_17_code, 4, some .boolean, (1, 22, 0, 0), 3, 1)
def m_119 : MI := (⟨"MeshNames$Paths", "countUnlike", "(LMeshNames$Paths;)I"⟩, prog_3_method_16_code, 4, some .int, (2, 45, 0, 0), 2, 1)
def m_120 : MI := (⟨"MeshNames", "changed", "(I)I"⟩, prog_1_method_14_code, 3, some .int, (3, 68, 0, 0), 2, 4)
def m_121 : MI := (⟨"MeshNamesModel", "save", "(I)V"⟩, prog_7_method_54_code, 3, none, (0, 0, 0, 0), 2, 5)
def m_122 : MI := (⟨"MeshNamesModel", "load", "(I)V"⟩, prog_7_method_55_code, 3, none, (0, 0, 0, 0), 2, 5)
def m_123 : MI := (⟨"MeshNamesModel", "isOther", "(I)Z"⟩, prog_7_method_52_code, 4, some .boolean, (0, 0, 0, 0), 2, 5)
def m_124 : MI := (⟨"MeshNamesModel", "changed", "(I)I"⟩, prog_7_method_53_code, 4, some .int, (6, 132, 0, 0), 2, 5)
def m_125 : MI := (⟨"MeshNames$Mesh", "become", "(LMeshNames$Mesh;)V"⟩, prog_2_method_7_code, 3, none, (0, 0, 0, 0), 2, 0)
def m_126 : MI := (⟨"MeshNames", "image", "(I)I"⟩, prog_1_method_15_code, 2, some .int, (6, 134, 0, 0), 2, 4)
def m_127 : MI := (⟨"MeshNamesModel", "image", "(I)I"⟩, prog_7_method_56_code, 2, some .int, (1, 22, 0, 0), 2, 5)
def m_128 : MI := (⟨"MeshNames", "restore", "(I)I"⟩, prog_1_method_16_code, 3, some .int, (6, 134, 0, 0), 2, 4)
def m_129 : MI := (⟨"MeshNamesModel", "restore", "(I)I"⟩, prog_7_method_57_code, 2, some .int, (1, 22, 0, 0), 2, 5)
def m_130 : MI := (⟨"MeshNames$Mesh", "countLinksThatCount", "()I"⟩, prog_2_method_13_code, 3, some .int, (3, 63, 0, 0), 1, 0)
def m_131 : MI := (⟨"MeshNames$Paths", "countParts", "()I"⟩, prog_3_method_18_code, 3, some .int, (2, 42, 0, 0), 1, 1)
def m_132 : MI := (⟨"MeshNames$Paths", "countPaths", "()I"⟩, prog_3_method_19_code, 3, some .int, (1, 21, 0, 0), 1, 1)
def m_133 : MI := (⟨"MeshNames$Paths", "countNodesOfPaths", "()I"⟩, prog_3_method_20_code, 3, some .int, (0, 0, 0, 0), 1, 1)
def m_134 : MI := (⟨"MeshNames", "count", "(I)I"⟩, prog_1_method_17_code, 2, some .int, (4, 85, 0, 0), 2, 4)
def m_135 : MI := (⟨"MeshNamesModel", "counting", "()I"⟩, prog_7_method_58_code, 4, some .int, (3, 65, 0, 0), 1, 5)
def m_136 : MI := (⟨"MeshNamesModel", "parts", "()I"⟩, prog_7_method_59_code, 3, some .int, (2, 45, 0, 0), 1, 5)
def m_137 : MI := (⟨"MeshNamesModel", "paths", "()I"⟩, prog_7_method_60_code, 3, some .int, (0, 0, 0, 0), 1, 5)
def m_138 : MI := (⟨"MeshNamesModel", "allRows", "()I"⟩, prog_7_method_61_code, 3, some .int, (0, 0, 0, 0), 1, 5)
def m_139 : MI := (⟨"MeshNamesModel", "upSet", "()I"⟩, prog_7_method_62_code, 3, some .int, (1, 21, 0, 0), 1, 5)
def m_140 : MI := (⟨"MeshNamesModel", "count", "(I)I"⟩, prog_7_method_63_code, 2, some .int, (6, 132, 0, 0), 2, 5)
def m_141 : MI := (⟨"MeshNamesLaw", "law", "([I)Z"⟩, code, 4, some .boolean, (7, 162, 600000, 7302250), 1, 99)
def mT : List MI := [m_0, m_1, m_2, m_3, m_4, m_5, m_6, m_7, m_8, m_9, m_10, m_11, m_12, m_13, m_14, m_15, m_16, m_17, m_18, m_19, m_20, m_21, m_22, m_23, m_24, m_25, m_26, m_27, m_28, m_29, m_30, m_31, m_32, m_33, m_34, m_35, m_36, m_37, m_38, m_39, m_40, m_41, m_42, m_43, m_44, m_45, m_46, m_47, m_48, m_49, m_50, m_51, m_52, m_53, m_54, m_55, m_56, m_57, m_58, m_59, m_60, m_61, m_62, m_63, m_64, m_65, m_66, m_67, m_68, m_69, m_70, m_71, m_72, m_73, m_74, m_75, m_76, m_77, m_78, m_79, m_80, m_81, m_82, m_83, m_84, m_85, m_86, m_87, m_88, m_89, m_90, m_91, m_92, m_93, m_94, m_95, m_96, m_97, m_98, m_99, m_100, m_101, m_102, m_103, m_104, m_105, m_106, m_107, m_108, m_109, m_110, m_111, m_112, m_113, m_114, m_115, m_116, m_117, m_118, m_119, m_120, m_121, m_122, m_123, m_124, m_125, m_126, m_127, m_128, m_129, m_130, m_131, m_132, m_133, m_134, m_135, m_136, m_137, m_138, m_139, m_140, m_141]
/-- MeshNames$Mesh.<init>()V -/
def k_0 : List (Option AE) := [some ((.aload_n 0), (1, 0, 0, 0), [], 0), some ((.invokespecial 3), (3, 0, 0, 74), [4], 0), none, none, some ((.aload_n 0), (1, 0, 0, 0), [], 0), some ((.bipush 8), (2, 0, 0, 0), [], 8), none, some ((.newarray .int), (2, 0, 0, 0), [], 0), none, some ((.putfield 9), (3, 0, 0, 75), [1, 1], 0), none, none, some ((.aload_n 0), (1, 0, 0, 0), [], 0), some ((.bipush 8), (2, 0, 0, 0), [], 8), none, some ((.newarray .int), (2, 0, 0, 0), [], 0), none, some ((.putfield 15), (3, 0, 1, 80), [1, 1], 0), none, none, some ((.aload_n 0), (1, 0, 0, 0), [], 0), some ((.iconst 0), (1, 0, 0, 0), [], 0), some ((.putfield 18), (3, 0, 2, 81), [0, 0], 0), none, none, some (.return_, (1, 0, 0, 0), [], 0)]
/-- MeshNames$Paths.<init>(LMeshNames$Mesh;)V -/
def k_1 : List (Option AE) := [some ((.aload_n 0), (1, 0, 0, 0), [], 0), some ((.invokespecial 3), (3, 0, 0, 97), [4], 0), none, none, some ((.aload_n 0), (1, 0, 0, 0), [], 0), some ((.aload_n 1), (1, 0, 0, 0), [], 0), some ((.putfield 9), (3, 1, 0, 98), [1, 1], 0), none, none, some ((.aload_n 0), (1, 0, 0, 0), [], 0), some ((.bipush 8), (2, 0, 0, 0), [], 8), none, some ((.newarray .int), (2, 0, 0, 0), [], 0), none, some ((.putfield 15), (3, 1, 1, 102), [1, 1], 0), none, none, some ((.aload_n 0), (1, 0, 0, 0), [], 0), some ((.bipush 8), (2, 0, 0, 0), [], 8), none, some ((.newarray .int), (2, 0, 0, 0), [], 0), none, some ((.putfield 19), (3, 1, 2, 105), [1, 1], 0), none, none, some ((.aload_n 0), (1, 0, 0, 0), [], 0), some ((.bipush 8), (2, 0, 0, 0), [], 8), none, some ((.newarray .int), (2, 0, 0, 0), [], 0), none, some ((.putfield 22), (3, 1, 3, 108), [1, 1], 0), none, none, some ((.aload_n 0), (1, 0, 0, 0), [], 0), some ((.bipush 64), (2, 0, 0, 0), [], 64), none, some ((.newarray .int), (2, 0, 0, 0), [], 0), none, some ((.putfield 25), (3, 1, 4, 110), [1, 1], 0), none, none, some ((.aload_n 0), (1, 0, 0, 0), [], 0), some ((.bipush 8), (2, 0, 0, 0), [], 8), none, some ((.newarray .int), (2, 0, 0, 0), [], 0), none, some ((.putfield 28), (3, 1, 5, 112), [1, 1], 0), none, none, some ((.aload_n 0), (1, 0, 0, 0), [], 0), some ((.bipush 64), (2, 0, 0, 0), [], 64), none, some ((.newarray .int), (2, 0, 0, 0), [], 0), none, some ((.putfield 31), (3, 1, 6, 115), [1, 1], 0), none, none, some ((.aload_n 0), (1, 0, 0, 0), [], 0), some ((.bipush 64), (2, 0, 0, 0), [], 64), none, some ((.newarray .int), (2, 0, 0, 0), [], 0), none, some ((.putfield 34), (3, 1, 7, 116), [1, 1], 0), none, none, some (.return_, (1, 0, 0, 0), [], 0)]
/-- MeshNames$Route.<init>(LMeshNames$Paths;)V -/
def k_2 : List (Option AE) := [some ((.aload_n 0), (1, 0, 0, 0), [], 0), some ((.invokespecial 3), (3, 0, 0, 139), [4], 0), none, none, some ((.aload_n 0), (1, 0, 0, 0), [], 0), some ((.aload_n 1), (1, 0, 0, 0), [], 0), some ((.putfield 9), (3, 2, 0, 140), [1, 1], 0), none, none, some ((.aload_n 0), (1, 0, 0, 0), [], 0), some ((.bipush 8), (2, 0, 0, 0), [], 8), none, some ((.newarray .int), (2, 0, 0, 0), [], 0), none, some ((.putfield 15), (3, 2, 1, 141), [1, 1], 0), none, none, some ((.aload_n 0), (1, 0, 0, 0), [], 0), some ((.iconst 0), (1, 0, 0, 0), [], 0), some ((.putfield 19), (3, 2, 2, 142), [0, 0], 0), none, none, some ((.aload_n 0), (1, 0, 0, 0), [], 0), some ((.iconst 0), (1, 0, 0, 0), [], 0), some ((.putfield 23), (3, 2, 3, 143), [0, 0], 0), none, none, some ((.aload_n 0), (1, 0, 0, 0), [], 0), some ((.iconst 0), (1, 0, 0, 0), [], 0), some ((.putfield 26), (3, 2, 4, 144), [0, 0], 0), none, none, some ((.aload_n 0), (1, 0, 0, 0), [], 0), some ((.bipush (-6)), (2, 0, 0, 0), [], (-6)), none, some ((.putfield 29), (3, 2, 5, 145), [0, 0], 0), none, none, some (.return_, (1, 0, 0, 0), [], 0)]
/-- MeshNames$Survey.clear()V -/
def k_3 : List (Option AE) := [some ((.aload_n 0), (1, 0, 0, 0), [], 0), some ((.iconst 0), (1, 0, 0, 0), [], 0), some ((.putfield 26), (3, 3, 3, 172), [0, 0], 0), none, none, some ((.aload_n 0), (1, 0, 0, 0), [], 0), some ((.iconst 0), (1, 0, 0, 0), [], 0), some ((.putfield 30), (3, 3, 4, 174), [0, 0], 0), none, none, some ((.aload_n 0), (1, 0, 0, 0), [], 0), some ((.iconst 0), (1, 0, 0, 0), [], 0), some ((.putfield 33), (3, 3, 5, 176), [0, 0], 0), none, none, some ((.iconst 0), (1, 0, 0, 0), [], 0), some ((.istore_n 1), (1, 0, 0, 0), [], 0), some ((.iload_n 1), (1, 0, 0, 0), [], 0), some ((.bipush 8), (2, 0, 0, 0), [], 8), none, some ((.if_icmp .ge 16), (3, 36, 0, 0), [], 0), none, none, some ((.aload_n 0), (1, 0, 0, 0), [], 0), some ((.getfield 19), (3, 3, 2, 171), [1, 1], 0), none, none, some ((.iload_n 1), (1, 0, 0, 0), [], 0), some ((.iconst 0), (1, 0, 0, 0), [], 0), some (.iastore, (1, 0, 0, 0), [], 0), some ((.iinc 1 1), (3, 0, 0, 0), [], 1), none, none, some ((.goto (-16)), (3, 17, 0, 0), [], 0), none, none, some (.return_, (1, 0, 0, 0), [], 0)]
/-- MeshNames$Survey.<init>(LMeshNames$Paths;LMeshNames$Route;)V -/
def k_4 : List (Option AE) := [some ((.aload_n 0), (1, 0, 0, 0), [], 0), some ((.invokespecial 3), (3, 0, 0, 164), [4], 0), none, none, some ((.aload_n 0), (1, 0, 0, 0), [], 0), some ((.aload_n 1), (1, 0, 0, 0), [], 0), some ((.putfield 9), (3, 3, 0, 169), [1, 1], 0), none, none, some ((.aload_n 0), (1, 0, 0, 0), [], 0), some ((.aload_n 2), (1, 0, 0, 0), [], 0), some ((.putfield 15), (3, 3, 1, 170), [1, 1], 0), none, none, some ((.aload_n 0), (1, 0, 0, 0), [], 0), some ((.bipush 8), (2, 0, 0, 0), [], 8), none, some ((.newarray .int), (2, 0, 0, 0), [], 0), none, some ((.putfield 19), (3, 3, 2, 171), [1, 1], 0), none, none, some ((.aload_n 0), (1, 0, 0, 0), [], 0), some ((.invokevirtual 23), (3, 3, 1, 165), [2], 0), none, none, some (.return_, (1, 0, 0, 0), [], 0)]
/-- MeshNames.bit(I)I -/
def k_5 : List (Option AE) := [some ((.iconst 1), (1, 0, 0, 0), [], 1), some ((.iload_n 0), (1, 0, 0, 0), [], 0), some (.ishl, (1, 0, 0, 0), [], 0), some (.ireturn, (1, 0, 0, 0), [], 0)]
/-- MeshNames.has(II)Z -/
def k_6 : List (Option AE) := [some ((.iload_n 0), (1, 0, 0, 0), [], 0), some ((.iload_n 1), (1, 0, 0, 0), [], 0), some (.ishr, (1, 0, 0, 0), [], 0), some ((.iconst 1), (1, 0, 0, 0), [], 1), some (.iand, (1, 0, 0, 0), [], 0), some ((.ifCond .eq 7), (3, 12, 0, 0), [], 0), none, none, some ((.iconst 1), (1, 0, 0, 0), [], 1), some ((.goto 4), (3, 13, 0, 0), [], 0), none, none, some ((.iconst 0), (1, 0, 0, 0), [], 0), some (.ireturn, (1, 0, 0, 0), [], 0)]
/-- MeshNames$Paths.noteSteps(III)V -/
def k_7 : List (Option AE) := [some ((.iconst 0), (1, 0, 0, 0), [], 0), some ((.istore 4), (2, 0, 0, 0), [], 0), none, some ((.iload 4), (2, 0, 0, 0), [], 0), none, some ((.bipush 8), (2, 0, 0, 0), [], 8), none, some ((.if_icmp .ge 31), (3, 38, 0, 0), [], 0), none, none, some ((.iload_n 2), (1, 0, 0, 0), [], 0), some ((.iload 4), (2, 0, 0, 0), [], 0), none, some ((.invokestatic 69), (3, 6, 2, 207), [1], 0), none, none, some ((.ifCond .eq 16), (3, 32, 0, 0), [], 0), none, none, some ((.aload_n 0), (1, 0, 0, 0), [], 0), some ((.getfield 25), (3, 1, 4, 110), [1, 1], 0), none, none, some ((.iload_n 1), (1, 0, 0, 0), [], 0), some ((.bipush 8), (2, 0, 0, 0), [], 8), none, some (.imul, (1, 0, 0, 0), [], 0), some ((.iload 4), (2, 0, 0, 0), [], 0), none, some (.iadd, (1, 0, 0, 0), [], 0), some ((.iload_n 3), (1, 0, 0, 0), [], 0), some (.iastore, (1, 0, 0, 0), [], 0), some ((.iinc 4 1), (3, 0, 0, 0), [], 1), none, none, some ((.goto (-32)), (3, 3, 0, 0), [], 0), none, none, some (.return_, (1, 0, 0, 0), [], 0)]
/-- MeshNames$Mesh.isUp(I)Z -/
def k_8 : List (Option AE) := [some ((.aload_n 0), (1, 0, 0, 0), [], 0), some ((.getfield 18), (3, 0, 2, 81), [0, 0], 0), none, none, some ((.iload_n 1), (1, 0, 0, 0), [], 0), some ((.invokestatic 22), (3, 6, 2, 214), [1], 0), none, none, some (.ireturn, (1, 0, 0, 0), [], 0)]
/-- MeshNames$Mesh.neighbours(I)I -/
def k_9 : List (Option AE) := [some ((.aload_n 0), (1, 0, 0, 0), [], 0), some ((.iload_n 1), (1, 0, 0, 0), [], 0), some ((.invokevirtual 26), (3, 8, 2, 219), [2], 0), none, none, some ((.ifCond .eq 17), (3, 22, 0, 0), [], 0), none, none, some ((.aload_n 0), (1, 0, 0, 0), [], 0), some ((.getfield 15), (3, 0, 1, 80), [1, 1], 0), none, none, some ((.iload_n 1), (1, 0, 0, 0), [], 0), some (.iaload, (1, 0, 0, 0), [], 0), some ((.aload_n 0), (1, 0, 0, 0), [], 0), some ((.getfield 18), (3, 0, 2, 81), [0, 0], 0), none, none, some (.iand, (1, 0, 0, 0), [], 0), some ((.goto 4), (3, 23, 0, 0), [], 0), none, none, some ((.iconst 0), (1, 0, 0, 0), [], 0), some (.ireturn, (1, 0, 0, 0), [], 0)]
/-- MeshNames$Mesh.neighboursOfAll(I)I -/
def k_10 : List (Option AE) := [some ((.iconst 0), (1, 0, 0, 0), [], 0), some ((.istore_n 2), (1, 0, 0, 0), [], 0), some ((.iconst 0), (1, 0, 0, 0), [], 0), some ((.istore_n 3), (1, 0, 0, 0), [], 0), some ((.iload_n 3), (1, 0, 0, 0), [], 0), some ((.bipush 8), (2, 0, 0, 0), [], 8), none, some ((.if_icmp .ge 25), (3, 32, 0, 0), [], 0), none, none, some ((.iload_n 1), (1, 0, 0, 0), [], 0), some ((.iload_n 3), (1, 0, 0, 0), [], 0), some ((.invokestatic 22), (3, 6, 2, 214), [1], 0), none, none, some ((.ifCond .eq 11), (3, 26, 0, 0), [], 0), none, none, some ((.iload_n 2), (1, 0, 0, 0), [], 0), some ((.aload_n 0), (1, 0, 0, 0), [], 0), some ((.iload_n 3), (1, 0, 0, 0), [], 0), some ((.invokevirtual 34), (3, 9, 2, 215), [2], 0), none, none, some (.ior, (1, 0, 0, 0), [], 0), some ((.istore_n 2), (1, 0, 0, 0), [], 0), some ((.iinc 3 1), (3, 0, 0, 0), [], 1), none, none, some ((.goto (-25)), (3, 4, 0, 0), [], 0), none, none, some ((.iload_n 2), (1, 0, 0, 0), [], 0), some (.ireturn, (1, 0, 0, 0), [], 0)]
/-- MeshNames$Paths.measureFrom(I)V -/
def k_11 : List (Option AE) := [some ((.iconst 0), (1, 0, 0, 0), [], 0), some ((.istore_n 2), (1, 0, 0, 0), [], 0), some ((.aload_n 0), (1, 0, 0, 0), [], 0), some ((.getfield 9), (3, 1, 0, 98), [1, 1], 0), none, none, some ((.getfield 53), (3, 0, 2, 83), [0, 0], 0), none, none, some ((.iload_n 1), (1, 0, 0, 0), [], 0), some ((.invokestatic 59), (3, 5, 1, 200), [1], 0), none, none, some (.iand, (1, 0, 0, 0), [], 0), some ((.istore_n 3), (1, 0, 0, 0), [], 0), some ((.iconst 0), (1, 0, 0, 0), [], 0), some ((.istore 4), (2, 0, 0, 0), [], 0), none, some ((.iload 4), (2, 0, 0, 0), [], 0), none, some ((.bipush 8), (2, 0, 0, 0), [], 8), none, some ((.if_icmp .ge 23), (3, 45, 0, 0), [], 0), none, none, some ((.aload_n 0), (1, 0, 0, 0), [], 0), some ((.getfield 25), (3, 1, 4, 110), [1, 1], 0), none, none, some ((.iload_n 1), (1, 0, 0, 0), [], 0), some ((.bipush 8), (2, 0, 0, 0), [], 8), none, some (.imul, (1, 0, 0, 0), [], 0), some ((.iload 4), (2, 0, 0, 0), [], 0), none, some (.iadd, (1, 0, 0, 0), [], 0), some ((.bipush (-6)), (2, 0, 0, 0), [], (-6)), none, some (.iastore, (1, 0, 0, 0), [], 0), some ((.iinc 4 1), (3, 0, 0, 0), [], 1), none, none, some ((.goto (-24)), (3, 18, 0, 0), [], 0), none, none, some ((.iconst 0), (1, 0, 0, 0), [], 0), some ((.istore 4), (2, 0, 0, 0), [], 0), none, some ((.iload 4), (2, 0, 0, 0), [], 0), none, some ((.bipush 8), (2, 0, 0, 0), [], 8), none, some ((.if_icmp .ge 38), (3, 90, 0, 0), [], 0), none, none, some ((.iload_n 3), (1, 0, 0, 0), [], 0), some ((.ifCond .eq 34), (3, 90, 0, 0), [], 0), none, none, some ((.aload_n 0), (1, 0, 0, 0), [], 0), some ((.iload_n 1), (1, 0, 0, 0), [], 0), some ((.iload_n 3), (1, 0, 0, 0), [], 0), some ((.iload 4), (2, 0, 0, 0), [], 0), none, some ((.invokevirtual 62), (3, 7, 4, 203), [2], 0), none, none, some ((.iload_n 2), (1, 0, 0, 0), [], 0), some ((.iload_n 3), (1, 0, 0, 0), [], 0), some (.ior, (1, 0, 0, 0), [], 0), some ((.istore_n 2), (1, 0, 0, 0), [], 0), some ((.aload_n 0), (1, 0, 0, 0), [], 0), some ((.getfield 9), (3, 1, 0, 98), [1, 1], 0), none, none, some ((.iload_n 3), (1, 0, 0, 0), [], 0), some ((.invokevirtual 66), (3, 10, 2, 210), [2], 0), none, none, some ((.iload_n 2), (1, 0, 0, 0), [], 0), some ((.iconst (-1)), (1, 0, 0, 0), [], (-1)), some (.ixor, (1, 0, 0, 0), [], 0), some (.iand, (1, 0, 0, 0), [], 0), some ((.istore_n 3), (1, 0, 0, 0), [], 0), some ((.iinc 4 1), (3, 0, 0, 0), [], 1), none, none, some ((.goto (-39)), (3, 48, 0, 0), [], 0), none, none, some ((.aload_n 0), (1, 0, 0, 0), [], 0), some ((.getfield 15), (3, 1, 1, 102), [1, 1], 0), none, none, some ((.iload_n 1), (1, 0, 0, 0), [], 0), some ((.iload_n 2), (1, 0, 0, 0), [], 0), some (.iastore, (1, 0, 0, 0), [], 0), some (.return_, (1, 0, 0, 0), [], 0)]
/-- java/lang/Math.floorMod(II)I -/
def k_12 : List (Option AE) := [some ((.iload_n 0), (1, 0, 0, 0), [], 0), some ((.iload_n 1), (1, 0, 0, 0), [], 0), some (.irem, (1, 0, 0, 0), [], 0), some ((.istore_n 2), (1, 0, 0, 0), [], 0), some ((.iload_n 0), (1, 0, 0, 0), [], 0), some ((.iload_n 1), (1, 0, 0, 0), [], 0), some (.ixor, (1, 0, 0, 0), [], 0), some ((.ifCond .ge 11), (3, 18, 0, 0), [], 0), none, none, some ((.iload_n 2), (1, 0, 0, 0), [], 0), some ((.ifCond .eq 7), (3, 18, 0, 0), [], 0), none, none, some ((.iload_n 2), (1, 0, 0, 0), [], 0), some ((.iload_n 1), (1, 0, 0, 0), [], 0), some (.iadd, (1, 0, 0, 0), [], 0), some (.ireturn, (1, 0, 0, 0), [], 0), some ((.iload_n 2), (1, 0, 0, 0), [], 0), some (.ireturn, (1, 0, 0, 0), [], 0)]
/-- MeshNames$Paths.nextOnRing(I)I -/
def k_13 : List (Option AE) := [some ((.bipush (-6)), (2, 0, 0, 0), [], (-6)), none, some ((.istore_n 2), (1, 0, 0, 0), [], 0), some ((.sipush 256), (3, 0, 0, 0), [], 256), none, none, some ((.istore_n 3), (1, 0, 0, 0), [], 0), some ((.iconst 0), (1, 0, 0, 0), [], 0), some ((.istore 4), (2, 0, 0, 0), [], 0), none, some ((.iload 4), (2, 0, 0, 0), [], 0), none, some ((.bipush 8), (2, 0, 0, 0), [], 8), none, some ((.if_icmp .ge 69), (3, 83, 0, 0), [], 0), none, none, some ((.iload 4), (2, 0, 0, 0), [], 0), none, some ((.iload_n 1), (1, 0, 0, 0), [], 0), some ((.if_icmp .eq 57), (3, 77, 0, 0), [], 0), none, none, some ((.aload_n 0), (1, 0, 0, 0), [], 0), some ((.getfield 15), (3, 1, 1, 102), [1, 1], 0), none, none, some ((.iload_n 1), (1, 0, 0, 0), [], 0), some (.iaload, (1, 0, 0, 0), [], 0), some ((.iload 4), (2, 0, 0, 0), [], 0), none, some ((.invokestatic 69), (3, 6, 2, 207), [1], 0), none, none, some ((.ifCond .eq 43), (3, 77, 0, 0), [], 0), none, none, some ((.aload_n 0), (1, 0, 0, 0), [], 0), some ((.getfield 9), (3, 1, 0, 98), [1, 1], 0), none, none, some ((.getfield 73), (3, 0, 0, 79), [1, 1], 0), none, none, some ((.iload 4), (2, 0, 0, 0), [], 0), none, some (.iaload, (1, 0, 0, 0), [], 0), some ((.aload_n 0), (1, 0, 0, 0), [], 0), some ((.getfield 9), (3, 1, 0, 98), [1, 1], 0), none, none, some ((.getfield 73), (3, 0, 0, 79), [1, 1], 0), none, none, some ((.iload_n 1), (1, 0, 0, 0), [], 0), some (.iaload, (1, 0, 0, 0), [], 0), some (.isub, (1, 0, 0, 0), [], 0), some ((.sipush 256), (3, 0, 0, 0), [], 256), none, none, some ((.invokestatic 76), (3, 12, 2, 227), [0], 0), none, none, some ((.istore 5), (2, 0, 0, 0), [], 0), none, some ((.iload 5), (2, 0, 0, 0), [], 0), none, some ((.iload_n 3), (1, 0, 0, 0), [], 0), some ((.if_icmp .ge 9), (3, 77, 0, 0), [], 0), none, none, some ((.iload 5), (2, 0, 0, 0), [], 0), none, some ((.istore_n 3), (1, 0, 0, 0), [], 0), some ((.iload 4), (2, 0, 0, 0), [], 0), none, some ((.istore_n 2), (1, 0, 0, 0), [], 0), some ((.iinc 4 1), (3, 0, 0, 0), [], 1), none, none, some ((.goto (-70)), (3, 10, 0, 0), [], 0), none, none, some ((.iload_n 2), (1, 0, 0, 0), [], 0), some (.ireturn, (1, 0, 0, 0), [], 0)]
/-- MeshNames.isNode(I)Z -/
def k_14 : List (Option AE) := [some ((.iload_n 0), (1, 0, 0, 0), [], 0), some ((.ifCond .lt 13), (3, 14, 0, 0), [], 0), none, none, some ((.iload_n 0), (1, 0, 0, 0), [], 0), some ((.bipush 8), (2, 0, 0, 0), [], 8), none, some ((.if_icmp .ge 7), (3, 14, 0, 0), [], 0), none, none, some ((.iconst 1), (1, 0, 0, 0), [], 1), some ((.goto 4), (3, 15, 0, 0), [], 0), none, none, some ((.iconst 0), (1, 0, 0, 0), [], 0), some (.ireturn, (1, 0, 0, 0), [], 0)]
/-- MeshNames$Paths.firstNearer(II)I -/
def k_15 : List (Option AE) := [some ((.aload_n 0), (1, 0, 0, 0), [], 0), some ((.getfield 25), (3, 1, 4, 110), [1, 1], 0), none, none, some ((.iload_n 1), (1, 0, 0, 0), [], 0), some ((.bipush 8), (2, 0, 0, 0), [], 8), none, some (.imul, (1, 0, 0, 0), [], 0), some ((.iload_n 2), (1, 0, 0, 0), [], 0), some (.iadd, (1, 0, 0, 0), [], 0), some (.iaload, (1, 0, 0, 0), [], 0), some ((.iconst 1), (1, 0, 0, 0), [], 1), some (.isub, (1, 0, 0, 0), [], 0), some ((.istore_n 3), (1, 0, 0, 0), [], 0), some ((.aload_n 0), (1, 0, 0, 0), [], 0), some ((.getfield 9), (3, 1, 0, 98), [1, 1], 0), none, none, some ((.iload_n 1), (1, 0, 0, 0), [], 0), some ((.invokevirtual 85), (3, 9, 2, 241), [2], 0), none, none, some ((.istore 4), (2, 0, 0, 0), [], 0), none, some ((.iconst 0), (1, 0, 0, 0), [], 0), some ((.istore 5), (2, 0, 0, 0), [], 0), none, some ((.iload 5), (2, 0, 0, 0), [], 0), none, some ((.bipush 8), (2, 0, 0, 0), [], 8), none, some ((.if_icmp .ge 42), (3, 73, 0, 0), [], 0), none, none, some ((.iload_n 3), (1, 0, 0, 0), [], 0), some ((.ifCond .lt 38), (3, 73, 0, 0), [], 0), none, none, some ((.iload 4), (2, 0, 0, 0), [], 0), none, some ((.iload 5), (2, 0, 0, 0), [], 0), none, some ((.invokestatic 69), (3, 6, 2, 207), [1], 0), none, none, some ((.ifCond .eq 22), (3, 67, 0, 0), [], 0), none, none, some ((.aload_n 0), (1, 0, 0, 0), [], 0), some ((.getfield 25), (3, 1, 4, 110), [1, 1], 0), none, none, some ((.iload 5), (2, 0, 0, 0), [], 0), none, some ((.bipush 8), (2, 0, 0, 0), [], 8), none, some (.imul, (1, 0, 0, 0), [], 0), some ((.iload_n 2), (1, 0, 0, 0), [], 0), some (.iadd, (1, 0, 0, 0), [], 0), some (.iaload, (1, 0, 0, 0), [], 0), some ((.iload_n 3), (1, 0, 0, 0), [], 0), some ((.if_icmp .ne 6), (3, 67, 0, 0), [], 0), none, none, some ((.iload 5), (2, 0, 0, 0), [], 0), none, some (.ireturn, (1, 0, 0, 0), [], 0), some ((.iinc 5 1), (3, 0, 0, 0), [], 1), none, none, some ((.goto (-43)), (3, 27, 0, 0), [], 0), none, none, some ((.bipush (-6)), (2, 0, 0, 0), [], (-6)), none, some (.ireturn, (1, 0, 0, 0), [], 0)]
/-- MeshNames$Paths.layFrom(II)V -/
def k_16 : List (Option AE) := [some ((.aload_n 0), (1, 0, 0, 0), [], 0), some ((.getfield 28), (3, 1, 5, 112), [1, 1], 0), none, none, some ((.iload_n 1), (1, 0, 0, 0), [], 0), some ((.iconst 0), (1, 0, 0, 0), [], 0), some (.iastore, (1, 0, 0, 0), [], 0), some ((.iconst 0), (1, 0, 0, 0), [], 0), some ((.istore_n 3), (1, 0, 0, 0), [], 0), some ((.iload_n 3), (1, 0, 0, 0), [], 0), some ((.bipush 8), (2, 0, 0, 0), [], 8), none, some ((.if_icmp .ge 22), (3, 34, 0, 0), [], 0), none, none, some ((.aload_n 0), (1, 0, 0, 0), [], 0), some ((.getfield 34), (3, 1, 7, 116), [1, 1], 0), none, none, some ((.iload_n 1), (1, 0, 0, 0), [], 0), some ((.bipush 8), (2, 0, 0, 0), [], 8), none, some (.imul, (1, 0, 0, 0), [], 0), some ((.iload_n 3), (1, 0, 0, 0), [], 0), some (.iadd, (1, 0, 0, 0), [], 0), some ((.bipush (-6)), (2, 0, 0, 0), [], (-6)), none, some (.iastore, (1, 0, 0, 0), [], 0), some ((.iinc 3 1), (3, 0, 0, 0), [], 1), none, none, some ((.goto (-22)), (3, 9, 0, 0), [], 0), none, none, some ((.iload_n 2), (1, 0, 0, 0), [], 0), some ((.invokestatic 45), (3, 14, 1, 230), [1], 0), none, none, some ((.ifCond .eq 7), (3, 45, 0, 0), [], 0), none, none, some ((.iload_n 1), (1, 0, 0, 0), [], 0), some ((.goto 5), (3, 47, 0, 0), [], 0), none, none, some ((.bipush (-6)), (2, 0, 0, 0), [], (-6)), none, some ((.istore_n 3), (1, 0, 0, 0), [], 0), some ((.iconst 0), (1, 0, 0, 0), [], 0), some ((.istore 4), (2, 0, 0, 0), [], 0), none, some ((.iload 4), (2, 0, 0, 0), [], 0), none, some ((.bipush 8), (2, 0, 0, 0), [], 8), none, some ((.if_icmp .ge 59), (3, 114, 0, 0), [], 0), none, none, some ((.iload_n 3), (1, 0, 0, 0), [], 0), some ((.invokestatic 45), (3, 14, 1, 230), [1], 0), none, none, some ((.ifCond .eq 52), (3, 114, 0, 0), [], 0), none, none, some ((.aload_n 0), (1, 0, 0, 0), [], 0), some ((.getfield 31), (3, 1, 6, 115), [1, 1], 0), none, none, some ((.iload_n 1), (1, 0, 0, 0), [], 0), some ((.bipush 8), (2, 0, 0, 0), [], 8), none, some (.imul, (1, 0, 0, 0), [], 0), some ((.iload 4), (2, 0, 0, 0), [], 0), none, some (.iadd, (1, 0, 0, 0), [], 0), some ((.iload_n 3), (1, 0, 0, 0), [], 0), some (.iastore, (1, 0, 0, 0), [], 0), some ((.aload_n 0), (1, 0, 0, 0), [], 0), some ((.getfield 34), (3, 1, 7, 116), [1, 1], 0), none, none, some ((.iload_n 1), (1, 0, 0, 0), [], 0), some ((.bipush 8), (2, 0, 0, 0), [], 8), none, some (.imul, (1, 0, 0, 0), [], 0), some ((.iload_n 3), (1, 0, 0, 0), [], 0), some (.iadd, (1, 0, 0, 0), [], 0), some ((.iload 4), (2, 0, 0, 0), [], 0), none, some (.iastore, (1, 0, 0, 0), [], 0), some ((.aload_n 0), (1, 0, 0, 0), [], 0), some ((.getfield 28), (3, 1, 5, 112), [1, 1], 0), none, none, some ((.iload_n 1), (1, 0, 0, 0), [], 0), some ((.iload 4), (2, 0, 0, 0), [], 0), none, some ((.iconst 1), (1, 0, 0, 0), [], 1), some (.iadd, (1, 0, 0, 0), [], 0), some (.iastore, (1, 0, 0, 0), [], 0), some ((.aload_n 0), (1, 0, 0, 0), [], 0), some ((.iload_n 3), (1, 0, 0, 0), [], 0), some ((.iload_n 2), (1, 0, 0, 0), [], 0), some ((.invokevirtual 82), (3, 15, 3, 237), [2], 0), none, none, some ((.istore_n 3), (1, 0, 0, 0), [], 0), some ((.iinc 4 1), (3, 0, 0, 0), [], 1), none, none, some ((.goto (-60)), (3, 51, 0, 0), [], 0), none, none, some (.return_, (1, 0, 0, 0), [], 0)]
/-- MeshNames$Paths.lay()V -/
def k_17 : List (Option AE) := [some ((.iconst 0), (1, 0, 0, 0), [], 0), some ((.istore_n 1), (1, 0, 0, 0), [], 0), some ((.iload_n 1), (1, 0, 0, 0), [], 0), some ((.bipush 8), (2, 0, 0, 0), [], 8), none, some ((.if_icmp .ge 22), (3, 27, 0, 0), [], 0), none, none, some ((.aload_n 0), (1, 0, 0, 0), [], 0), some ((.getfield 22), (3, 1, 3, 108), [1, 1], 0), none, none, some ((.iload_n 1), (1, 0, 0, 0), [], 0), some ((.bipush (-6)), (2, 0, 0, 0), [], (-6)), none, some (.iastore, (1, 0, 0, 0), [], 0), some ((.aload_n 0), (1, 0, 0, 0), [], 0), some ((.iload_n 1), (1, 0, 0, 0), [], 0), some ((.invokevirtual 37), (3, 11, 2, 196), [2], 0), none, none, some ((.iinc 1 1), (3, 0, 0, 0), [], 1), none, none, some ((.goto (-22)), (3, 2, 0, 0), [], 0), none, none, some ((.iconst 0), (1, 0, 0, 0), [], 0), some ((.istore_n 1), (1, 0, 0, 0), [], 0), some ((.iload_n 1), (1, 0, 0, 0), [], 0), some ((.bipush 8), (2, 0, 0, 0), [], 8), none, some ((.if_icmp .ge 42), (3, 74, 0, 0), [], 0), none, none, some ((.aload_n 0), (1, 0, 0, 0), [], 0), some ((.iload_n 1), (1, 0, 0, 0), [], 0), some ((.invokevirtual 41), (3, 13, 2, 223), [2], 0), none, none, some ((.istore_n 2), (1, 0, 0, 0), [], 0), some ((.aload_n 0), (1, 0, 0, 0), [], 0), some ((.getfield 19), (3, 1, 2, 105), [1, 1], 0), none, none, some ((.iload_n 1), (1, 0, 0, 0), [], 0), some ((.iload_n 2), (1, 0, 0, 0), [], 0), some (.iastore, (1, 0, 0, 0), [], 0), some ((.iload_n 2), (1, 0, 0, 0), [], 0), some ((.invokestatic 45), (3, 14, 1, 230), [1], 0), none, none, some ((.ifCond .eq 10), (3, 62, 0, 0), [], 0), none, none, some ((.aload_n 0), (1, 0, 0, 0), [], 0), some ((.getfield 22), (3, 1, 3, 108), [1, 1], 0), none, none, some ((.iload_n 2), (1, 0, 0, 0), [], 0), some ((.iload_n 1), (1, 0, 0, 0), [], 0), some (.iastore, (1, 0, 0, 0), [], 0), some ((.aload_n 0), (1, 0, 0, 0), [], 0), some ((.iload_n 1), (1, 0, 0, 0), [], 0), some ((.iload_n 2), (1, 0, 0, 0), [], 0), some ((.invokevirtual 49), (3, 16, 3, 233), [2], 0), none, none, some ((.iinc 1 1), (3, 0, 0, 0), [], 1), none, none, some ((.goto (-42)), (3, 29, 0, 0), [], 0), none, none, some (.return_, (1, 0, 0, 0), [], 0)]
/-- MeshNames.<init>()V -/
def k_18 : List (Option AE) := [some ((.aload_n 0), (1, 0, 0, 0), [], 0), some ((.invokespecial 1), (3, 0, 0, 66), [4], 0), none, none, some ((.aload_n 0), (1, 0, 0, 0), [], 0), some ((.new 7), (3, 0, 0, 69), [], 0), none, none, some (.dup, (1, 0, 0, 0), [], 0), some ((.invokespecial 9), (3, 0, 1, 71), [3], 0), none, none, some ((.putfield 10), (3, 4, 0, 242), [1, 1], 0), none, none, some ((.aload_n 0), (1, 0, 0, 0), [], 0), some ((.new 16), (3, 1, 0, 92), [], 0), none, none, some (.dup, (1, 0, 0, 0), [], 0), some ((.aload_n 0), (1, 0, 0, 0), [], 0), some ((.getfield 10), (3, 4, 0, 242), [1, 1], 0), none, none, some ((.invokespecial 18), (3, 1, 2, 94), [3], 0), none, none, some ((.putfield 21), (3, 4, 1, 243), [1, 1], 0), none, none, some ((.aload_n 0), (1, 0, 0, 0), [], 0), some ((.new 25), (3, 2, 0, 134), [], 0), none, none, some (.dup, (1, 0, 0, 0), [], 0), some ((.aload_n 0), (1, 0, 0, 0), [], 0), some ((.getfield 21), (3, 4, 1, 243), [1, 1], 0), none, none, some ((.invokespecial 27), (3, 2, 2, 136), [3], 0), none, none, some ((.putfield 30), (3, 4, 2, 244), [1, 1], 0), none, none, some ((.aload_n 0), (1, 0, 0, 0), [], 0), some ((.new 34), (3, 3, 0, 159), [], 0), none, none, some (.dup, (1, 0, 0, 0), [], 0), some ((.aload_n 0), (1, 0, 0, 0), [], 0), some ((.getfield 21), (3, 4, 1, 243), [1, 1], 0), none, none, some ((.aload_n 0), (1, 0, 0, 0), [], 0), some ((.getfield 30), (3, 4, 2, 244), [1, 1], 0), none, none, some ((.invokespecial 36), (3, 4, 3, 161), [3], 0), none, none, some ((.putfield 39), (3, 4, 3, 245), [1, 1], 0), none, none, some ((.aload_n 0), (1, 0, 0, 0), [], 0), some ((.iconst 2), (1, 0, 0, 0), [], 2), some ((.anewarray 16), (3, 0, 0, 92), [], 0), none, none, some ((.putfield 43), (3, 4, 4, 246), [1, 1], 0), none, none, some ((.iconst 0), (1, 0, 0, 0), [], 0), some ((.istore_n 1), (1, 0, 0, 0), [], 0), some ((.iload_n 1), (1, 0, 0, 0), [], 0), some ((.iconst 2), (1, 0, 0, 0), [], 2), some ((.if_icmp .ge 29), (3, 105, 0, 0), [], 0), none, none, some ((.aload_n 0), (1, 0, 0, 0), [], 0), some ((.getfield 43), (3, 4, 4, 246), [1, 1], 0), none, none, some ((.iload_n 1), (1, 0, 0, 0), [], 0), some ((.new 16), (3, 1, 0, 92), [], 0), none, none, some (.dup, (1, 0, 0, 0), [], 0), some ((.new 7), (3, 0, 0, 69), [], 0), none, none, some (.dup, (1, 0, 0, 0), [], 0), some ((.invokespecial 9), (3, 0, 1, 71), [3], 0), none, none, some ((.invokespecial 18), (3, 1, 2, 94), [3], 0), none, none, some (.aastore, (1, 0, 0, 0), [], 0), some ((.iinc 1 1), (3, 0, 0, 0), [], 1), none, none, some ((.goto (-28)), (3, 74, 0, 0), [], 0), none, none, some ((.aload_n 0), (1, 0, 0, 0), [], 0), some ((.iconst 0), (1, 0, 0, 0), [], 0), some ((.putfield 47), (3, 4, 5, 247), [0, 0], 0), none, none, some ((.aload_n 0), (1, 0, 0, 0), [], 0), some ((.getfield 21), (3, 4, 1, 243), [1, 1], 0), none, none, some ((.invokevirtual 51), (3, 17, 1, 192), [2], 0), none, none, some (.return_, (1, 0, 0, 0), [], 0)]
/-- MeshNamesModel.<init>()V -/
def k_19 : List (Option AE) := [some ((.aload_n 0), (1, 0, 0, 0), [], 0), some ((.invokespecial 1), (3, 0, 0, 524), [4], 0), none, none, some ((.aload_n 0), (1, 0, 0, 0), [], 0), some ((.bipush 80), (2, 0, 0, 0), [], 80), none, some ((.newarray .int), (2, 0, 0, 0), [], 0), none, some ((.putfield 7), (3, 5, 0, 525), [1, 1], 0), none, none, some ((.aload_n 0), (1, 0, 0, 0), [], 0), some ((.sipush 240), (3, 0, 0, 0), [], 240), none, none, some ((.newarray .int), (2, 0, 0, 0), [], 0), none, some ((.putfield 13), (3, 5, 1, 526), [1, 1], 0), none, none, some ((.aload_n 0), (1, 0, 0, 0), [], 0), some ((.iconst 2), (1, 0, 0, 0), [], 2), some ((.newarray .boolean), (2, 0, 0, 0), [], 0), none, some ((.putfield 16), (3, 5, 2, 527), [1, 1], 0), none, none, some ((.aload_n 0), (1, 0, 0, 0), [], 0), some ((.bipush 64), (2, 0, 0, 0), [], 64), none, some ((.newarray .int), (2, 0, 0, 0), [], 0), none, some ((.putfield 20), (3, 5, 3, 528), [1, 1], 0), none, none, some ((.aload_n 0), (1, 0, 0, 0), [], 0), some ((.bipush 8), (2, 0, 0, 0), [], 8), none, some ((.newarray .int), (2, 0, 0, 0), [], 0), none, some ((.putfield 23), (3, 5, 4, 529), [1, 1], 0), none, none, some ((.aload_n 0), (1, 0, 0, 0), [], 0), some ((.bipush 64), (2, 0, 0, 0), [], 64), none, some ((.newarray .int), (2, 0, 0, 0), [], 0), none, some ((.putfield 26), (3, 5, 5, 530), [1, 1], 0), none, none, some ((.aload_n 0), (1, 0, 0, 0), [], 0), some ((.bipush 8), (2, 0, 0, 0), [], 8), none, some ((.newarray .int), (2, 0, 0, 0), [], 0), none, some ((.putfield 29), (3, 5, 6, 531), [1, 1], 0), none, none, some ((.aload_n 0), (1, 0, 0, 0), [], 0), some ((.sipush 1024), (3, 0, 0, 0), [], 1024), none, none, some ((.newarray .int), (2, 0, 0, 0), [], 0), none, some ((.putfield 32), (3, 5, 7, 532), [1, 1], 0), none, none, some ((.aload_n 0), (1, 0, 0, 0), [], 0), some ((.bipush 8), (2, 0, 0, 0), [], 8), none, some ((.newarray .int), (2, 0, 0, 0), [], 0), none, some ((.putfield 35), (3, 5, 12, 537), [1, 1], 0), none, none, some ((.aload_n 0), (1, 0, 0, 0), [], 0), some ((.bipush 64), (2, 0, 0, 0), [], 64), none, some ((.newarray .int), (2, 0, 0, 0), [], 0), none, some ((.putfield 38), (3, 5, 13, 538), [1, 1], 0), none, none, some ((.aload_n 0), (1, 0, 0, 0), [], 0), some ((.bipush 8), (2, 0, 0, 0), [], 8), none, some ((.newarray .int), (2, 0, 0, 0), [], 0), none, some ((.putfield 41), (3, 5, 14, 539), [1, 1], 0), none, none, some (.return_, (1, 0, 0, 0), [], 0)]
/-- MeshNames.isName(I)Z -/
def k_20 : List (Option AE) := [some ((.iload_n 0), (1, 0, 0, 0), [], 0), some ((.ifCond .lt 14), (3, 15, 0, 0), [], 0), none, none, some ((.iload_n 0), (1, 0, 0, 0), [], 0), some ((.sipush 256), (3, 0, 0, 0), [], 256), none, none, some ((.if_icmp .ge 7), (3, 15, 0, 0), [], 0), none, none, some ((.iconst 1), (1, 0, 0, 0), [], 1), some ((.goto 4), (3, 16, 0, 0), [], 0), none, none, some ((.iconst 0), (1, 0, 0, 0), [], 0), some (.ireturn, (1, 0, 0, 0), [], 0)]
/-- MeshNames$Mesh.isTaken(I)Z -/
def k_21 : List (Option AE) := [some ((.iconst 0), (1, 0, 0, 0), [], 0), some ((.istore_n 2), (1, 0, 0, 0), [], 0), some ((.iload_n 2), (1, 0, 0, 0), [], 0), some ((.bipush 8), (2, 0, 0, 0), [], 8), none, some ((.if_icmp .ge 29), (3, 34, 0, 0), [], 0), none, none, some ((.aload_n 0), (1, 0, 0, 0), [], 0), some ((.iload_n 2), (1, 0, 0, 0), [], 0), some ((.invokevirtual 26), (3, 8, 2, 219), [2], 0), none, none, some ((.ifCond .eq 15), (3, 28, 0, 0), [], 0), none, none, some ((.aload_n 0), (1, 0, 0, 0), [], 0), some ((.getfield 9), (3, 0, 0, 75), [1, 1], 0), none, none, some ((.iload_n 2), (1, 0, 0, 0), [], 0), some (.iaload, (1, 0, 0, 0), [], 0), some ((.iload_n 1), (1, 0, 0, 0), [], 0), some ((.if_icmp .ne 5), (3, 28, 0, 0), [], 0), none, none, some ((.iconst 1), (1, 0, 0, 0), [], 1), some (.ireturn, (1, 0, 0, 0), [], 0), some ((.iinc 2 1), (3, 0, 0, 0), [], 1), none, none, some ((.goto (-29)), (3, 2, 0, 0), [], 0), none, none, some ((.iconst 0), (1, 0, 0, 0), [], 0), some (.ireturn, (1, 0, 0, 0), [], 0)]
/-- MeshNames$Mesh.raise(II)V -/
def k_22 : List (Option AE) := [some ((.aload_n 0), (1, 0, 0, 0), [], 0), some (.dup, (1, 0, 0, 0), [], 0), some ((.getfield 18), (3, 0, 2, 81), [0, 0], 0), none, none, some ((.iload_n 1), (1, 0, 0, 0), [], 0), some ((.invokestatic 30), (3, 5, 1, 278), [1], 0), none, none, some (.ior, (1, 0, 0, 0), [], 0), some ((.putfield 18), (3, 0, 2, 81), [0, 0], 0), none, none, some ((.aload_n 0), (1, 0, 0, 0), [], 0), some ((.getfield 9), (3, 0, 0, 75), [1, 1], 0), none, none, some ((.iload_n 1), (1, 0, 0, 0), [], 0), some ((.iload_n 2), (1, 0, 0, 0), [], 0), some (.iastore, (1, 0, 0, 0), [], 0), some (.return_, (1, 0, 0, 0), [], 0)]
/-- java/lang/Integer.bitCount(I)I -/
def k_23 : List (Option AE) := [some ((.iload_n 0), (1, 0, 0, 0), [], 0), some ((.iload_n 0), (1, 0, 0, 0), [], 0), some ((.iconst 1), (1, 0, 0, 0), [], 1), some (.iushr, (1, 0, 0, 0), [], 0), some ((.ldc_w 265), (3, 0, 0, 282), [], 1431655765), none, none, some (.iand, (1, 0, 0, 0), [], 0), some (.isub, (1, 0, 0, 0), [], 0), some ((.istore_n 0), (1, 0, 0, 0), [], 0), some ((.iload_n 0), (1, 0, 0, 0), [], 0), some ((.ldc_w 266), (3, 0, 0, 283), [], 858993459), none, none, some (.iand, (1, 0, 0, 0), [], 0), some ((.iload_n 0), (1, 0, 0, 0), [], 0), some ((.iconst 2), (1, 0, 0, 0), [], 2), some (.iushr, (1, 0, 0, 0), [], 0), some ((.ldc_w 266), (3, 0, 0, 283), [], 858993459), none, none, some (.iand, (1, 0, 0, 0), [], 0), some (.iadd, (1, 0, 0, 0), [], 0), some ((.istore_n 0), (1, 0, 0, 0), [], 0), some ((.iload_n 0), (1, 0, 0, 0), [], 0), some ((.iload_n 0), (1, 0, 0, 0), [], 0), some ((.iconst 4), (1, 0, 0, 0), [], 4), some (.iushr, (1, 0, 0, 0), [], 0), some (.iadd, (1, 0, 0, 0), [], 0), some ((.ldc_w 267), (3, 0, 0, 284), [], 252645135), none, none, some (.iand, (1, 0, 0, 0), [], 0), some ((.istore_n 0), (1, 0, 0, 0), [], 0), some ((.iload_n 0), (1, 0, 0, 0), [], 0), some ((.iload_n 0), (1, 0, 0, 0), [], 0), some ((.bipush 8), (2, 0, 0, 0), [], 8), none, some (.iushr, (1, 0, 0, 0), [], 0), some (.iadd, (1, 0, 0, 0), [], 0), some ((.istore_n 0), (1, 0, 0, 0), [], 0), some ((.iload_n 0), (1, 0, 0, 0), [], 0), some ((.iload_n 0), (1, 0, 0, 0), [], 0), some ((.bipush 16), (2, 0, 0, 0), [], 16), none, some (.iushr, (1, 0, 0, 0), [], 0), some (.iadd, (1, 0, 0, 0), [], 0), some ((.istore_n 0), (1, 0, 0, 0), [], 0), some ((.iload_n 0), (1, 0, 0, 0), [], 0), some ((.bipush 63), (2, 0, 0, 0), [], 63), none, some (.iand, (1, 0, 0, 0), [], 0), some (.ireturn, (1, 0, 0, 0), [], 0)]
/-- MeshNames.up(II)I -/
def k_24 : List (Option AE) := [some ((.iload_n 1), (1, 0, 0, 0), [], 0), some ((.invokestatic 54), (3, 14, 1, 265), [0], 0), none, none, some ((.ifCond .ne 5), (3, 9, 0, 0), [], 0), none, none, some ((.iconst (-1)), (1, 0, 0, 0), [], (-1)), some (.ireturn, (1, 0, 0, 0), [], 0), some ((.iload_n 2), (1, 0, 0, 0), [], 0), some ((.invokestatic 58), (3, 20, 1, 266), [0], 0), none, none, some ((.ifCond .ne 6), (3, 19, 0, 0), [], 0), none, none, some ((.bipush (-2)), (2, 0, 0, 0), [], (-2)), none, some (.ireturn, (1, 0, 0, 0), [], 0), some ((.aload_n 0), (1, 0, 0, 0), [], 0), some ((.getfield 10), (3, 4, 0, 242), [1, 1], 0), none, none, some ((.iload_n 1), (1, 0, 0, 0), [], 0), some ((.invokevirtual 61), (3, 8, 2, 269), [2], 0), none, none, some ((.ifCond .eq 6), (3, 33, 0, 0), [], 0), none, none, some ((.bipush (-3)), (2, 0, 0, 0), [], (-3)), none, some (.ireturn, (1, 0, 0, 0), [], 0), some ((.aload_n 0), (1, 0, 0, 0), [], 0), some ((.getfield 10), (3, 4, 0, 242), [1, 1], 0), none, none, some ((.iload_n 2), (1, 0, 0, 0), [], 0), some ((.invokevirtual 64), (3, 21, 2, 270), [2], 0), none, none, some ((.ifCond .eq 6), (3, 47, 0, 0), [], 0), none, none, some ((.bipush (-5)), (2, 0, 0, 0), [], (-5)), none, some (.ireturn, (1, 0, 0, 0), [], 0), some ((.aload_n 0), (1, 0, 0, 0), [], 0), some ((.getfield 10), (3, 4, 0, 242), [1, 1], 0), none, none, some ((.iload_n 1), (1, 0, 0, 0), [], 0), some ((.iload_n 2), (1, 0, 0, 0), [], 0), some ((.invokevirtual 67), (3, 22, 3, 274), [2], 0), none, none, some ((.aload_n 0), (1, 0, 0, 0), [], 0), some ((.getfield 21), (3, 4, 1, 243), [1, 1], 0), none, none, some ((.invokevirtual 51), (3, 17, 1, 192), [2], 0), none, none, some ((.aload_n 0), (1, 0, 0, 0), [], 0), some ((.getfield 10), (3, 4, 0, 242), [1, 1], 0), none, none, some ((.getfield 71), (3, 0, 2, 82), [0, 0], 0), none, none, some ((.invokestatic 74), (3, 23, 1, 279), [0], 0), none, none, some (.ireturn, (1, 0, 0, 0), [], 0)]
/-- MeshNamesModel.in(III)Z -/
def k_25 : List (Option AE) := [some ((.iload_n 0), (1, 0, 0, 0), [], 0), some ((.iload_n 1), (1, 0, 0, 0), [], 0), some ((.if_icmp .lt 12), (3, 14, 0, 0), [], 0), none, none, some ((.iload_n 0), (1, 0, 0, 0), [], 0), some ((.iload_n 2), (1, 0, 0, 0), [], 0), some ((.if_icmp .gt 7), (3, 14, 0, 0), [], 0), none, none, some ((.iconst 1), (1, 0, 0, 0), [], 1), some ((.goto 4), (3, 15, 0, 0), [], 0), none, none, some ((.iconst 0), (1, 0, 0, 0), [], 0), some (.ireturn, (1, 0, 0, 0), [], 0)]
/-- MeshNamesModel.isNode(I)Z -/
def k_26 : List (Option AE) := [some ((.iload_n 0), (1, 0, 0, 0), [], 0), some ((.iconst 0), (1, 0, 0, 0), [], 0), some ((.bipush 7), (2, 0, 0, 0), [], 7), none, some ((.invokestatic 44), (3, 25, 3, 579), [0], 0), none, none, some (.ireturn, (1, 0, 0, 0), [], 0)]
/-- MeshNamesModel.isName(I)Z -/
def k_27 : List (Option AE) := [some ((.iload_n 0), (1, 0, 0, 0), [], 0), some ((.iconst 0), (1, 0, 0, 0), [], 0), some ((.sipush 255), (3, 0, 0, 0), [], 255), none, none, some ((.invokestatic 44), (3, 25, 3, 579), [0], 0), none, none, some (.ireturn, (1, 0, 0, 0), [], 0)]
/-- MeshNamesModel.isUp(I)Z -/
def k_28 : List (Option AE) := [some ((.aload_n 0), (1, 0, 0, 0), [], 0), some ((.getfield 7), (3, 5, 0, 525), [1, 1], 0), none, none, some ((.iconst 0), (1, 0, 0, 0), [], 0), some ((.iload_n 1), (1, 0, 0, 0), [], 0), some (.iadd, (1, 0, 0, 0), [], 0), some (.iaload, (1, 0, 0, 0), [], 0), some ((.iconst 1), (1, 0, 0, 0), [], 1), some ((.if_icmp .ne 7), (3, 16, 0, 0), [], 0), none, none, some ((.iconst 1), (1, 0, 0, 0), [], 1), some ((.goto 4), (3, 17, 0, 0), [], 0), none, none, some ((.iconst 0), (1, 0, 0, 0), [], 0), some (.ireturn, (1, 0, 0, 0), [], 0)]
/-- MeshNamesModel.isTaken(I)Z -/
def k_29 : List (Option AE) := [some ((.iconst 0), (1, 0, 0, 0), [], 0), some ((.istore_n 2), (1, 0, 0, 0), [], 0), some ((.iconst 0), (1, 0, 0, 0), [], 0), some ((.istore_n 3), (1, 0, 0, 0), [], 0), some ((.iload_n 3), (1, 0, 0, 0), [], 0), some ((.bipush 8), (2, 0, 0, 0), [], 8), none, some ((.if_icmp .ge 40), (3, 47, 0, 0), [], 0), none, none, some ((.iload_n 2), (1, 0, 0, 0), [], 0), some ((.ifCond .ne 24), (3, 35, 0, 0), [], 0), none, none, some ((.aload_n 0), (1, 0, 0, 0), [], 0), some ((.iload_n 3), (1, 0, 0, 0), [], 0), some ((.invokevirtual 56), (3, 28, 2, 585), [2], 0), none, none, some ((.ifCond .eq 20), (3, 39, 0, 0), [], 0), none, none, some ((.aload_n 0), (1, 0, 0, 0), [], 0), some ((.getfield 7), (3, 5, 0, 525), [1, 1], 0), none, none, some ((.bipush 8), (2, 0, 0, 0), [], 8), none, some ((.iload_n 3), (1, 0, 0, 0), [], 0), some (.iadd, (1, 0, 0, 0), [], 0), some (.iaload, (1, 0, 0, 0), [], 0), some ((.iload_n 1), (1, 0, 0, 0), [], 0), some ((.if_icmp .ne 7), (3, 39, 0, 0), [], 0), none, none, some ((.iconst 1), (1, 0, 0, 0), [], 1), some ((.goto 4), (3, 40, 0, 0), [], 0), none, none, some ((.iconst 0), (1, 0, 0, 0), [], 0), some ((.istore_n 2), (1, 0, 0, 0), [], 0), some ((.iinc 3 1), (3, 0, 0, 0), [], 1), none, none, some ((.goto (-40)), (3, 4, 0, 0), [], 0), none, none, some ((.iload_n 2), (1, 0, 0, 0), [], 0), some (.ireturn, (1, 0, 0, 0), [], 0)]
/-- MeshNamesModel.ups()I -/
def k_30 : List (Option AE) := [some ((.iconst 0), (1, 0, 0, 0), [], 0), some ((.istore_n 1), (1, 0, 0, 0), [], 0), some ((.iconst 0), (1, 0, 0, 0), [], 0), some ((.istore_n 2), (1, 0, 0, 0), [], 0), some ((.iload_n 2), (1, 0, 0, 0), [], 0), some ((.bipush 8), (2, 0, 0, 0), [], 8), none, some ((.if_icmp .ge 20), (3, 27, 0, 0), [], 0), none, none, some ((.iload_n 1), (1, 0, 0, 0), [], 0), some ((.aload_n 0), (1, 0, 0, 0), [], 0), some ((.getfield 7), (3, 5, 0, 525), [1, 1], 0), none, none, some ((.iconst 0), (1, 0, 0, 0), [], 0), some ((.iload_n 2), (1, 0, 0, 0), [], 0), some (.iadd, (1, 0, 0, 0), [], 0), some (.iaload, (1, 0, 0, 0), [], 0), some (.iadd, (1, 0, 0, 0), [], 0), some ((.istore_n 1), (1, 0, 0, 0), [], 0), some ((.iinc 2 1), (3, 0, 0, 0), [], 1), none, none, some ((.goto (-20)), (3, 4, 0, 0), [], 0), none, none, some ((.iload_n 1), (1, 0, 0, 0), [], 0), some (.ireturn, (1, 0, 0, 0), [], 0)]
/-- MeshNamesModel.up(II)I -/
def k_31 : List (Option AE) := [some ((.iload_n 1), (1, 0, 0, 0), [], 0), some ((.invokestatic 60), (3, 26, 1, 576), [0], 0), none, none, some ((.ifCond .ne 5), (3, 9, 0, 0), [], 0), none, none, some ((.iconst (-1)), (1, 0, 0, 0), [], (-1)), some (.ireturn, (1, 0, 0, 0), [], 0), some ((.iload_n 2), (1, 0, 0, 0), [], 0), some ((.invokestatic 63), (3, 27, 1, 582), [0], 0), none, none, some ((.ifCond .ne 6), (3, 19, 0, 0), [], 0), none, none, some ((.bipush (-2)), (2, 0, 0, 0), [], (-2)), none, some (.ireturn, (1, 0, 0, 0), [], 0), some ((.aload_n 0), (1, 0, 0, 0), [], 0), some ((.iload_n 1), (1, 0, 0, 0), [], 0), some ((.invokevirtual 56), (3, 28, 2, 585), [2], 0), none, none, some ((.ifCond .eq 6), (3, 30, 0, 0), [], 0), none, none, some ((.bipush (-3)), (2, 0, 0, 0), [], (-3)), none, some (.ireturn, (1, 0, 0, 0), [], 0), some ((.aload_n 0), (1, 0, 0, 0), [], 0), some ((.iload_n 2), (1, 0, 0, 0), [], 0), some ((.invokevirtual 66), (3, 29, 2, 589), [2], 0), none, none, some ((.ifCond .eq 6), (3, 41, 0, 0), [], 0), none, none, some ((.bipush (-5)), (2, 0, 0, 0), [], (-5)), none, some (.ireturn, (1, 0, 0, 0), [], 0), some ((.aload_n 0), (1, 0, 0, 0), [], 0), some ((.getfield 7), (3, 5, 0, 525), [1, 1], 0), none, none, some ((.iconst 0), (1, 0, 0, 0), [], 0), some ((.iload_n 1), (1, 0, 0, 0), [], 0), some (.iadd, (1, 0, 0, 0), [], 0), some ((.iconst 1), (1, 0, 0, 0), [], 1), some (.iastore, (1, 0, 0, 0), [], 0), some ((.aload_n 0), (1, 0, 0, 0), [], 0), some ((.getfield 7), (3, 5, 0, 525), [1, 1], 0), none, none, some ((.bipush 8), (2, 0, 0, 0), [], 8), none, some ((.iload_n 1), (1, 0, 0, 0), [], 0), some (.iadd, (1, 0, 0, 0), [], 0), some ((.iload_n 2), (1, 0, 0, 0), [], 0), some (.iastore, (1, 0, 0, 0), [], 0), some ((.aload_n 0), (1, 0, 0, 0), [], 0), some ((.invokevirtual 69), (3, 30, 1, 593), [2], 0), none, none, some (.ireturn, (1, 0, 0, 0), [], 0)]
/-- MeshNames$Mesh.lower(I)V -/
def k_32 : List (Option AE) := [some ((.aload_n 0), (1, 0, 0, 0), [], 0), some (.dup, (1, 0, 0, 0), [], 0), some ((.getfield 18), (3, 0, 2, 81), [0, 0], 0), none, none, some ((.iload_n 1), (1, 0, 0, 0), [], 0), some ((.invokestatic 30), (3, 5, 1, 278), [1], 0), none, none, some ((.iconst (-1)), (1, 0, 0, 0), [], (-1)), some (.ixor, (1, 0, 0, 0), [], 0), some (.iand, (1, 0, 0, 0), [], 0), some ((.putfield 18), (3, 0, 2, 81), [0, 0], 0), none, none, some (.return_, (1, 0, 0, 0), [], 0)]
/-- MeshNames.down(I)I -/
def k_33 : List (Option AE) := [some ((.iload_n 1), (1, 0, 0, 0), [], 0), some ((.invokestatic 54), (3, 14, 1, 265), [0], 0), none, none, some ((.ifCond .ne 5), (3, 9, 0, 0), [], 0), none, none, some ((.iconst (-1)), (1, 0, 0, 0), [], (-1)), some (.ireturn, (1, 0, 0, 0), [], 0), some ((.aload_n 0), (1, 0, 0, 0), [], 0), some ((.getfield 10), (3, 4, 0, 242), [1, 1], 0), none, none, some ((.iload_n 1), (1, 0, 0, 0), [], 0), some ((.invokevirtual 61), (3, 8, 2, 269), [2], 0), none, none, some ((.ifCond .ne 6), (3, 23, 0, 0), [], 0), none, none, some ((.bipush (-3)), (2, 0, 0, 0), [], (-3)), none, some (.ireturn, (1, 0, 0, 0), [], 0), some ((.aload_n 0), (1, 0, 0, 0), [], 0), some ((.getfield 10), (3, 4, 0, 242), [1, 1], 0), none, none, some ((.getfield 80), (3, 0, 0, 77), [1, 1], 0), none, none, some ((.iload_n 1), (1, 0, 0, 0), [], 0), some (.iaload, (1, 0, 0, 0), [], 0), some ((.istore_n 2), (1, 0, 0, 0), [], 0), some ((.aload_n 0), (1, 0, 0, 0), [], 0), some ((.getfield 10), (3, 4, 0, 242), [1, 1], 0), none, none, some ((.iload_n 1), (1, 0, 0, 0), [], 0), some ((.invokevirtual 84), (3, 32, 2, 289), [2], 0), none, none, some ((.aload_n 0), (1, 0, 0, 0), [], 0), some ((.getfield 21), (3, 4, 1, 243), [1, 1], 0), none, none, some ((.invokevirtual 51), (3, 17, 1, 192), [2], 0), none, none, some ((.iload_n 2), (1, 0, 0, 0), [], 0), some (.ireturn, (1, 0, 0, 0), [], 0)]
/-- MeshNamesModel.down(I)I -/
def k_34 : List (Option AE) := [some ((.iload_n 1), (1, 0, 0, 0), [], 0), some ((.invokestatic 60), (3, 26, 1, 576), [0], 0), none, none, some ((.ifCond .ne 5), (3, 9, 0, 0), [], 0), none, none, some ((.iconst (-1)), (1, 0, 0, 0), [], (-1)), some (.ireturn, (1, 0, 0, 0), [], 0), some ((.aload_n 0), (1, 0, 0, 0), [], 0), some ((.iload_n 1), (1, 0, 0, 0), [], 0), some ((.invokevirtual 56), (3, 28, 2, 585), [2], 0), none, none, some ((.ifCond .ne 6), (3, 20, 0, 0), [], 0), none, none, some ((.bipush (-3)), (2, 0, 0, 0), [], (-3)), none, some (.ireturn, (1, 0, 0, 0), [], 0), some ((.aload_n 0), (1, 0, 0, 0), [], 0), some ((.getfield 7), (3, 5, 0, 525), [1, 1], 0), none, none, some ((.bipush 8), (2, 0, 0, 0), [], 8), none, some ((.iload_n 1), (1, 0, 0, 0), [], 0), some (.iadd, (1, 0, 0, 0), [], 0), some (.iaload, (1, 0, 0, 0), [], 0), some ((.istore_n 2), (1, 0, 0, 0), [], 0), some ((.aload_n 0), (1, 0, 0, 0), [], 0), some ((.getfield 7), (3, 5, 0, 525), [1, 1], 0), none, none, some ((.iconst 0), (1, 0, 0, 0), [], 0), some ((.iload_n 1), (1, 0, 0, 0), [], 0), some (.iadd, (1, 0, 0, 0), [], 0), some ((.iconst 0), (1, 0, 0, 0), [], 0), some (.iastore, (1, 0, 0, 0), [], 0), some ((.aload_n 0), (1, 0, 0, 0), [], 0), some ((.getfield 7), (3, 5, 0, 525), [1, 1], 0), none, none, some ((.bipush 8), (2, 0, 0, 0), [], 8), none, some ((.iload_n 1), (1, 0, 0, 0), [], 0), some (.iadd, (1, 0, 0, 0), [], 0), some ((.iconst 0), (1, 0, 0, 0), [], 0), some (.iastore, (1, 0, 0, 0), [], 0), some ((.iload_n 2), (1, 0, 0, 0), [], 0), some (.ireturn, (1, 0, 0, 0), [], 0)]
/-- MeshNames$Mesh.setLink(IIZ)V -/
def k_35 : List (Option AE) := [some ((.iload_n 3), (1, 0, 0, 0), [], 0), some ((.ifCond .eq 32), (3, 33, 0, 0), [], 0), none, none, some ((.aload_n 0), (1, 0, 0, 0), [], 0), some ((.getfield 15), (3, 0, 1, 80), [1, 1], 0), none, none, some ((.iload_n 1), (1, 0, 0, 0), [], 0), some (.dup2, (1, 0, 0, 0), [], 0), some (.iaload, (1, 0, 0, 0), [], 0), some ((.iload_n 2), (1, 0, 0, 0), [], 0), some ((.invokestatic 30), (3, 5, 1, 278), [1], 0), none, none, some (.ior, (1, 0, 0, 0), [], 0), some (.iastore, (1, 0, 0, 0), [], 0), some ((.aload_n 0), (1, 0, 0, 0), [], 0), some ((.getfield 15), (3, 0, 1, 80), [1, 1], 0), none, none, some ((.iload_n 2), (1, 0, 0, 0), [], 0), some (.dup2, (1, 0, 0, 0), [], 0), some (.iaload, (1, 0, 0, 0), [], 0), some ((.iload_n 1), (1, 0, 0, 0), [], 0), some ((.invokestatic 30), (3, 5, 1, 278), [1], 0), none, none, some (.ior, (1, 0, 0, 0), [], 0), some (.iastore, (1, 0, 0, 0), [], 0), some ((.goto 33), (3, 63, 0, 0), [], 0), none, none, some ((.aload_n 0), (1, 0, 0, 0), [], 0), some ((.getfield 15), (3, 0, 1, 80), [1, 1], 0), none, none, some ((.iload_n 1), (1, 0, 0, 0), [], 0), some (.dup2, (1, 0, 0, 0), [], 0), some (.iaload, (1, 0, 0, 0), [], 0), some ((.iload_n 2), (1, 0, 0, 0), [], 0), some ((.invokestatic 30), (3, 5, 1, 278), [1], 0), none, none, some ((.iconst (-1)), (1, 0, 0, 0), [], (-1)), some (.ixor, (1, 0, 0, 0), [], 0), some (.iand, (1, 0, 0, 0), [], 0), some (.iastore, (1, 0, 0, 0), [], 0), some ((.aload_n 0), (1, 0, 0, 0), [], 0), some ((.getfield 15), (3, 0, 1, 80), [1, 1], 0), none, none, some ((.iload_n 2), (1, 0, 0, 0), [], 0), some (.dup2, (1, 0, 0, 0), [], 0), some (.iaload, (1, 0, 0, 0), [], 0), some ((.iload_n 1), (1, 0, 0, 0), [], 0), some ((.invokestatic 30), (3, 5, 1, 278), [1], 0), none, none, some ((.iconst (-1)), (1, 0, 0, 0), [], (-1)), some (.ixor, (1, 0, 0, 0), [], 0), some (.iand, (1, 0, 0, 0), [], 0), some (.iastore, (1, 0, 0, 0), [], 0), some (.return_, (1, 0, 0, 0), [], 0)]
/-- MeshNames$Mesh.countLinks()I -/
def k_36 : List (Option AE) := [some ((.iconst 0), (1, 0, 0, 0), [], 0), some ((.istore_n 1), (1, 0, 0, 0), [], 0), some ((.iconst 0), (1, 0, 0, 0), [], 0), some ((.istore_n 2), (1, 0, 0, 0), [], 0), some ((.iload_n 2), (1, 0, 0, 0), [], 0), some ((.bipush 8), (2, 0, 0, 0), [], 8), none, some ((.if_icmp .ge 21), (3, 28, 0, 0), [], 0), none, none, some ((.iload_n 1), (1, 0, 0, 0), [], 0), some ((.aload_n 0), (1, 0, 0, 0), [], 0), some ((.getfield 15), (3, 0, 1, 80), [1, 1], 0), none, none, some ((.iload_n 2), (1, 0, 0, 0), [], 0), some (.iaload, (1, 0, 0, 0), [], 0), some ((.invokestatic 40), (3, 23, 1, 305), [0], 0), none, none, some (.iadd, (1, 0, 0, 0), [], 0), some ((.istore_n 1), (1, 0, 0, 0), [], 0), some ((.iinc 2 1), (3, 0, 0, 0), [], 1), none, none, some ((.goto (-21)), (3, 4, 0, 0), [], 0), none, none, some ((.iload_n 1), (1, 0, 0, 0), [], 0), some ((.iconst 2), (1, 0, 0, 0), [], 2), some (.idiv, (1, 0, 0, 0), [], 0), some (.ireturn, (1, 0, 0, 0), [], 0)]
/-- MeshNames.link(III)I -/
def k_37 : List (Option AE) := [some ((.iload_n 1), (1, 0, 0, 0), [], 0), some ((.invokestatic 54), (3, 14, 1, 265), [0], 0), none, none, some ((.ifCond .eq 10), (3, 14, 0, 0), [], 0), none, none, some ((.iload_n 2), (1, 0, 0, 0), [], 0), some ((.invokestatic 54), (3, 14, 1, 265), [0], 0), none, none, some ((.ifCond .ne 5), (3, 16, 0, 0), [], 0), none, none, some ((.iconst (-1)), (1, 0, 0, 0), [], (-1)), some (.ireturn, (1, 0, 0, 0), [], 0), some ((.iload_n 3), (1, 0, 0, 0), [], 0), some ((.ifCond .lt 13), (3, 30, 0, 0), [], 0), none, none, some ((.iload_n 3), (1, 0, 0, 0), [], 0), some ((.iconst 1), (1, 0, 0, 0), [], 1), some ((.if_icmp .gt 8), (3, 30, 0, 0), [], 0), none, none, some ((.iload_n 1), (1, 0, 0, 0), [], 0), some ((.iload_n 2), (1, 0, 0, 0), [], 0), some ((.if_icmp .ne 6), (3, 33, 0, 0), [], 0), none, none, some ((.bipush (-2)), (2, 0, 0, 0), [], (-2)), none, some (.ireturn, (1, 0, 0, 0), [], 0), some ((.aload_n 0), (1, 0, 0, 0), [], 0), some ((.getfield 10), (3, 4, 0, 242), [1, 1], 0), none, none, some ((.iload_n 1), (1, 0, 0, 0), [], 0), some ((.iload_n 2), (1, 0, 0, 0), [], 0), some ((.iload_n 3), (1, 0, 0, 0), [], 0), some ((.iconst 1), (1, 0, 0, 0), [], 1), some ((.if_icmp .ne 7), (3, 48, 0, 0), [], 0), none, none, some ((.iconst 1), (1, 0, 0, 0), [], 1), some ((.goto 4), (3, 49, 0, 0), [], 0), none, none, some ((.iconst 0), (1, 0, 0, 0), [], 0), some ((.invokevirtual 88), (3, 35, 4, 297), [2], 0), none, none, some ((.aload_n 0), (1, 0, 0, 0), [], 0), some ((.getfield 21), (3, 4, 1, 243), [1, 1], 0), none, none, some ((.invokevirtual 51), (3, 17, 1, 192), [2], 0), none, none, some ((.aload_n 0), (1, 0, 0, 0), [], 0), some ((.getfield 10), (3, 4, 0, 242), [1, 1], 0), none, none, some ((.invokevirtual 92), (3, 36, 1, 301), [2], 0), none, none, some (.ireturn, (1, 0, 0, 0), [], 0)]
/-- MeshNamesModel.pair(II)I -/
def k_38 : List (Option AE) := [some ((.bipush 16), (2, 0, 0, 0), [], 16), none, some ((.iload_n 0), (1, 0, 0, 0), [], 0), some ((.iload_n 1), (1, 0, 0, 0), [], 0), some ((.if_icmp .ge 12), (3, 16, 0, 0), [], 0), none, none, some ((.bipush 8), (2, 0, 0, 0), [], 8), none, some ((.iload_n 0), (1, 0, 0, 0), [], 0), some (.imul, (1, 0, 0, 0), [], 0), some ((.iload_n 1), (1, 0, 0, 0), [], 0), some (.iadd, (1, 0, 0, 0), [], 0), some ((.goto 9), (3, 22, 0, 0), [], 0), none, none, some ((.bipush 8), (2, 0, 0, 0), [], 8), none, some ((.iload_n 1), (1, 0, 0, 0), [], 0), some (.imul, (1, 0, 0, 0), [], 0), some ((.iload_n 0), (1, 0, 0, 0), [], 0), some (.iadd, (1, 0, 0, 0), [], 0), some (.iadd, (1, 0, 0, 0), [], 0), some (.ireturn, (1, 0, 0, 0), [], 0)]
/-- MeshNamesModel.links()I -/
def k_39 : List (Option AE) := [some ((.iconst 0), (1, 0, 0, 0), [], 0), some ((.istore_n 1), (1, 0, 0, 0), [], 0), some ((.iconst 0), (1, 0, 0, 0), [], 0), some ((.istore_n 2), (1, 0, 0, 0), [], 0), some ((.iload_n 2), (1, 0, 0, 0), [], 0), some ((.bipush 64), (2, 0, 0, 0), [], 64), none, some ((.if_icmp .ge 21), (3, 28, 0, 0), [], 0), none, none, some ((.iload_n 1), (1, 0, 0, 0), [], 0), some ((.aload_n 0), (1, 0, 0, 0), [], 0), some ((.getfield 7), (3, 5, 0, 525), [1, 1], 0), none, none, some ((.bipush 16), (2, 0, 0, 0), [], 16), none, some ((.iload_n 2), (1, 0, 0, 0), [], 0), some (.iadd, (1, 0, 0, 0), [], 0), some (.iaload, (1, 0, 0, 0), [], 0), some (.iadd, (1, 0, 0, 0), [], 0), some ((.istore_n 1), (1, 0, 0, 0), [], 0), some ((.iinc 2 1), (3, 0, 0, 0), [], 1), none, none, some ((.goto (-21)), (3, 4, 0, 0), [], 0), none, none, some ((.iload_n 1), (1, 0, 0, 0), [], 0), some (.ireturn, (1, 0, 0, 0), [], 0)]
/-- MeshNamesModel.link(III)I -/
def k_40 : List (Option AE) := [some ((.iload_n 1), (1, 0, 0, 0), [], 0), some ((.invokestatic 60), (3, 26, 1, 576), [0], 0), none, none, some ((.ifCond .eq 10), (3, 14, 0, 0), [], 0), none, none, some ((.iload_n 2), (1, 0, 0, 0), [], 0), some ((.invokestatic 60), (3, 26, 1, 576), [0], 0), none, none, some ((.ifCond .ne 5), (3, 16, 0, 0), [], 0), none, none, some ((.iconst (-1)), (1, 0, 0, 0), [], (-1)), some (.ireturn, (1, 0, 0, 0), [], 0), some ((.iload_n 3), (1, 0, 0, 0), [], 0), some ((.iconst 0), (1, 0, 0, 0), [], 0), some ((.iconst 1), (1, 0, 0, 0), [], 1), some ((.invokestatic 44), (3, 25, 3, 579), [0], 0), none, none, some ((.ifCond .eq 8), (3, 30, 0, 0), [], 0), none, none, some ((.iload_n 1), (1, 0, 0, 0), [], 0), some ((.iload_n 2), (1, 0, 0, 0), [], 0), some ((.if_icmp .ne 6), (3, 33, 0, 0), [], 0), none, none, some ((.bipush (-2)), (2, 0, 0, 0), [], (-2)), none, some (.ireturn, (1, 0, 0, 0), [], 0), some ((.aload_n 0), (1, 0, 0, 0), [], 0), some ((.getfield 7), (3, 5, 0, 525), [1, 1], 0), none, none, some ((.iload_n 1), (1, 0, 0, 0), [], 0), some ((.iload_n 2), (1, 0, 0, 0), [], 0), some ((.invokestatic 48), (3, 38, 2, 605), [0], 0), none, none, some ((.iload_n 3), (1, 0, 0, 0), [], 0), some (.iastore, (1, 0, 0, 0), [], 0), some ((.aload_n 0), (1, 0, 0, 0), [], 0), some ((.invokevirtual 73), (3, 39, 1, 608), [2], 0), none, none, some (.ireturn, (1, 0, 0, 0), [], 0)]
/-- MeshNames$Paths.placeOf(II)I -/
def k_41 : List (Option AE) := [some ((.aload_n 0), (1, 0, 0, 0), [], 0), some ((.getfield 34), (3, 1, 7, 116), [1, 1], 0), none, none, some ((.iload_n 1), (1, 0, 0, 0), [], 0), some ((.bipush 8), (2, 0, 0, 0), [], 8), none, some (.imul, (1, 0, 0, 0), [], 0), some ((.iload_n 2), (1, 0, 0, 0), [], 0), some (.iadd, (1, 0, 0, 0), [], 0), some (.iaload, (1, 0, 0, 0), [], 0), some (.ireturn, (1, 0, 0, 0), [], 0)]
/-- MeshNames$Paths.goesOver(II)Z -/
def k_42 : List (Option AE) := [some ((.aload_n 0), (1, 0, 0, 0), [], 0), some ((.iload_n 1), (1, 0, 0, 0), [], 0), some ((.iload_n 2), (1, 0, 0, 0), [], 0), some ((.invokevirtual 88), (3, 41, 3, 319), [2], 0), none, none, some ((.bipush (-6)), (2, 0, 0, 0), [], (-6)), none, some ((.if_icmp .eq 7), (3, 15, 0, 0), [], 0), none, none, some ((.iconst 1), (1, 0, 0, 0), [], 1), some ((.goto 4), (3, 16, 0, 0), [], 0), none, none, some ((.iconst 0), (1, 0, 0, 0), [], 0), some (.ireturn, (1, 0, 0, 0), [], 0)]
/-- MeshNames$Paths.countOver(I)I -/
def k_43 : List (Option AE) := [some ((.iconst 0), (1, 0, 0, 0), [], 0), some ((.istore_n 2), (1, 0, 0, 0), [], 0), some ((.iconst 0), (1, 0, 0, 0), [], 0), some ((.istore_n 3), (1, 0, 0, 0), [], 0), some ((.iload_n 3), (1, 0, 0, 0), [], 0), some ((.bipush 8), (2, 0, 0, 0), [], 8), none, some ((.if_icmp .ge 21), (3, 28, 0, 0), [], 0), none, none, some ((.aload_n 0), (1, 0, 0, 0), [], 0), some ((.iload_n 3), (1, 0, 0, 0), [], 0), some ((.iload_n 1), (1, 0, 0, 0), [], 0), some ((.invokevirtual 91), (3, 42, 3, 315), [2], 0), none, none, some ((.ifCond .eq 6), (3, 22, 0, 0), [], 0), none, none, some ((.iinc 2 1), (3, 0, 0, 0), [], 1), none, none, some ((.iinc 3 1), (3, 0, 0, 0), [], 1), none, none, some ((.goto (-21)), (3, 4, 0, 0), [], 0), none, none, some ((.iload_n 2), (1, 0, 0, 0), [], 0), some (.ireturn, (1, 0, 0, 0), [], 0)]
/-- MeshNames$Paths.countKnown(I)I -/
def k_44 : List (Option AE) := [some ((.iconst 0), (1, 0, 0, 0), [], 0), some ((.istore_n 2), (1, 0, 0, 0), [], 0), some ((.iconst 0), (1, 0, 0, 0), [], 0), some ((.istore_n 3), (1, 0, 0, 0), [], 0), some ((.iload_n 3), (1, 0, 0, 0), [], 0), some ((.bipush 8), (2, 0, 0, 0), [], 8), none, some ((.if_icmp .ge 35), (3, 42, 0, 0), [], 0), none, none, some ((.aload_n 0), (1, 0, 0, 0), [], 0), some ((.iload_n 3), (1, 0, 0, 0), [], 0), some ((.iload_n 1), (1, 0, 0, 0), [], 0), some ((.invokevirtual 91), (3, 42, 3, 315), [2], 0), none, none, some ((.ifCond .eq 20), (3, 36, 0, 0), [], 0), none, none, some ((.iload_n 2), (1, 0, 0, 0), [], 0), some ((.iload_n 3), (1, 0, 0, 0), [], 0), some ((.invokestatic 59), (3, 5, 1, 200), [1], 0), none, none, some ((.aload_n 0), (1, 0, 0, 0), [], 0), some ((.getfield 19), (3, 1, 2, 105), [1, 1], 0), none, none, some ((.iload_n 3), (1, 0, 0, 0), [], 0), some (.iaload, (1, 0, 0, 0), [], 0), some ((.invokestatic 59), (3, 5, 1, 200), [1], 0), none, none, some (.ior, (1, 0, 0, 0), [], 0), some (.ior, (1, 0, 0, 0), [], 0), some ((.istore_n 2), (1, 0, 0, 0), [], 0), some ((.iinc 3 1), (3, 0, 0, 0), [], 1), none, none, some ((.goto (-35)), (3, 4, 0, 0), [], 0), none, none, some ((.iload_n 2), (1, 0, 0, 0), [], 0), some ((.iload_n 1), (1, 0, 0, 0), [], 0), some ((.invokestatic 59), (3, 5, 1, 200), [1], 0), none, none, some ((.iconst (-1)), (1, 0, 0, 0), [], (-1)), some (.ixor, (1, 0, 0, 0), [], 0), some (.iand, (1, 0, 0, 0), [], 0), some ((.invokestatic 94), (3, 23, 1, 327), [0], 0), none, none, some (.ireturn, (1, 0, 0, 0), [], 0)]
/-- MeshNames.of(II)I -/
def k_45 : List (Option AE) := [some ((.iload_n 1), (1, 0, 0, 0), [], 0), some ((.invokestatic 54), (3, 14, 1, 265), [0], 0), none, none, some ((.ifCond .ne 5), (3, 9, 0, 0), [], 0), none, none, some ((.iconst (-1)), (1, 0, 0, 0), [], (-1)), some (.ireturn, (1, 0, 0, 0), [], 0), some ((.iload_n 2), (1, 0, 0, 0), [], 0), some ((.ifCond .lt 9), (3, 19, 0, 0), [], 0), none, none, some ((.iload_n 2), (1, 0, 0, 0), [], 0), some ((.bipush 6), (2, 0, 0, 0), [], 6), none, some ((.if_icmp .le 6), (3, 22, 0, 0), [], 0), none, none, some ((.bipush (-2)), (2, 0, 0, 0), [], (-2)), none, some (.ireturn, (1, 0, 0, 0), [], 0), some ((.aload_n 0), (1, 0, 0, 0), [], 0), some ((.getfield 10), (3, 4, 0, 242), [1, 1], 0), none, none, some ((.iload_n 1), (1, 0, 0, 0), [], 0), some ((.invokevirtual 61), (3, 8, 2, 269), [2], 0), none, none, some ((.ifCond .ne 6), (3, 36, 0, 0), [], 0), none, none, some ((.bipush (-3)), (2, 0, 0, 0), [], (-3)), none, some (.ireturn, (1, 0, 0, 0), [], 0), some ((.iload_n 2), (1, 0, 0, 0), [], 0), some ((.tableswitch 100 0 5 #[39, 49, 59, 69, 79, 91]), (39, 137, 0, 0), [76, 86, 96, 106, 116, 128], 0), none, none, none, none, none, none, none, none, none, none, none, none, none, none, none, none, none, none, none, none, none, none, none, none, none, none, none, none, none, none, none, none, none, none, none, none, none, none, some ((.aload_n 0), (1, 0, 0, 0), [], 0), some ((.getfield 10), (3, 4, 0, 242), [1, 1], 0), none, none, some ((.getfield 80), (3, 0, 0, 77), [1, 1], 0), none, none, some ((.iload_n 1), (1, 0, 0, 0), [], 0), some (.iaload, (1, 0, 0, 0), [], 0), some (.ireturn, (1, 0, 0, 0), [], 0), some ((.aload_n 0), (1, 0, 0, 0), [], 0), some ((.getfield 21), (3, 4, 1, 243), [1, 1], 0), none, none, some ((.getfield 96), (3, 1, 1, 104), [1, 1], 0), none, none, some ((.iload_n 1), (1, 0, 0, 0), [], 0), some (.iaload, (1, 0, 0, 0), [], 0), some (.ireturn, (1, 0, 0, 0), [], 0), some ((.aload_n 0), (1, 0, 0, 0), [], 0), some ((.getfield 21), (3, 4, 1, 243), [1, 1], 0), none, none, some ((.getfield 99), (3, 1, 2, 107), [1, 1], 0), none, none, some ((.iload_n 1), (1, 0, 0, 0), [], 0), some (.iaload, (1, 0, 0, 0), [], 0), some (.ireturn, (1, 0, 0, 0), [], 0), some ((.aload_n 0), (1, 0, 0, 0), [], 0), some ((.getfield 21), (3, 4, 1, 243), [1, 1], 0), none, none, some ((.getfield 102), (3, 1, 3, 109), [1, 1], 0), none, none, some ((.iload_n 1), (1, 0, 0, 0), [], 0), some (.iaload, (1, 0, 0, 0), [], 0), some (.ireturn, (1, 0, 0, 0), [], 0), some ((.aload_n 0), (1, 0, 0, 0), [], 0), some ((.getfield 10), (3, 4, 0, 242), [1, 1], 0), none, none, some ((.iload_n 1), (1, 0, 0, 0), [], 0), some ((.invokevirtual 105), (3, 9, 2, 310), [2], 0), none, none, some ((.invokestatic 74), (3, 23, 1, 279), [0], 0), none, none, some (.ireturn, (1, 0, 0, 0), [], 0), some ((.aload_n 0), (1, 0, 0, 0), [], 0), some ((.getfield 21), (3, 4, 1, 243), [1, 1], 0), none, none, some ((.iload_n 1), (1, 0, 0, 0), [], 0), some ((.invokevirtual 108), (3, 43, 2, 311), [2], 0), none, none, some (.ireturn, (1, 0, 0, 0), [], 0), some ((.aload_n 0), (1, 0, 0, 0), [], 0), some ((.getfield 21), (3, 4, 1, 243), [1, 1], 0), none, none, some ((.iload_n 1), (1, 0, 0, 0), [], 0), some ((.invokevirtual 111), (3, 44, 2, 323), [2], 0), none, none, some (.ireturn, (1, 0, 0, 0), [], 0)]
/-- MeshNamesModel.isLink(II)Z -/
def k_46 : List (Option AE) := [some ((.iload_n 1), (1, 0, 0, 0), [], 0), some ((.iload_n 2), (1, 0, 0, 0), [], 0), some ((.if_icmp .eq 21), (3, 23, 0, 0), [], 0), none, none, some ((.aload_n 0), (1, 0, 0, 0), [], 0), some ((.getfield 7), (3, 5, 0, 525), [1, 1], 0), none, none, some ((.iload_n 1), (1, 0, 0, 0), [], 0), some ((.iload_n 2), (1, 0, 0, 0), [], 0), some ((.invokestatic 48), (3, 38, 2, 605), [0], 0), none, none, some (.iaload, (1, 0, 0, 0), [], 0), some ((.iconst 1), (1, 0, 0, 0), [], 1), some ((.if_icmp .ne 7), (3, 23, 0, 0), [], 0), none, none, some ((.iconst 1), (1, 0, 0, 0), [], 1), some ((.goto 4), (3, 24, 0, 0), [], 0), none, none, some ((.iconst 0), (1, 0, 0, 0), [], 0), some (.ireturn, (1, 0, 0, 0), [], 0)]
/-- MeshNamesModel.counts(II)Z -/
def k_47 : List (Option AE) := [some ((.aload_n 0), (1, 0, 0, 0), [], 0), some ((.iload_n 1), (1, 0, 0, 0), [], 0), some ((.iload_n 2), (1, 0, 0, 0), [], 0), some ((.invokevirtual 52), (3, 46, 3, 632), [2], 0), none, none, some ((.ifCond .eq 23), (3, 29, 0, 0), [], 0), none, none, some ((.aload_n 0), (1, 0, 0, 0), [], 0), some ((.iload_n 1), (1, 0, 0, 0), [], 0), some ((.invokevirtual 56), (3, 28, 2, 585), [2], 0), none, none, some ((.ifCond .eq 15), (3, 29, 0, 0), [], 0), none, none, some ((.aload_n 0), (1, 0, 0, 0), [], 0), some ((.iload_n 2), (1, 0, 0, 0), [], 0), some ((.invokevirtual 56), (3, 28, 2, 585), [2], 0), none, none, some ((.ifCond .eq 7), (3, 29, 0, 0), [], 0), none, none, some ((.iconst 1), (1, 0, 0, 0), [], 1), some ((.goto 4), (3, 30, 0, 0), [], 0), none, none, some ((.iconst 0), (1, 0, 0, 0), [], 0), some (.ireturn, (1, 0, 0, 0), [], 0)]
/-- MeshNamesModel.shortenOnce()Z -/
def k_48 : List (Option AE) := [some ((.iconst 0), (1, 0, 0, 0), [], 0), some ((.istore_n 1), (1, 0, 0, 0), [], 0), some ((.iconst 0), (1, 0, 0, 0), [], 0), some ((.istore_n 2), (1, 0, 0, 0), [], 0), some ((.iload_n 2), (1, 0, 0, 0), [], 0), some ((.bipush 8), (2, 0, 0, 0), [], 8), none, some ((.if_icmp .ge 104), (3, 111, 0, 0), [], 0), none, none, some ((.iconst 0), (1, 0, 0, 0), [], 0), some ((.istore_n 3), (1, 0, 0, 0), [], 0), some ((.iload_n 3), (1, 0, 0, 0), [], 0), some ((.bipush 8), (2, 0, 0, 0), [], 8), none, some ((.if_icmp .ge 90), (3, 105, 0, 0), [], 0), none, none, some ((.iconst 0), (1, 0, 0, 0), [], 0), some ((.istore 4), (2, 0, 0, 0), [], 0), none, some ((.iload 4), (2, 0, 0, 0), [], 0), none, some ((.bipush 8), (2, 0, 0, 0), [], 8), none, some ((.if_icmp .ge 74), (3, 99, 0, 0), [], 0), none, none, some ((.aload_n 0), (1, 0, 0, 0), [], 0), some ((.iload_n 3), (1, 0, 0, 0), [], 0), some ((.iload 4), (2, 0, 0, 0), [], 0), none, some ((.invokevirtual 76), (3, 47, 3, 628), [2], 0), none, none, some ((.ifCond .eq 58), (3, 93, 0, 0), [], 0), none, none, some ((.aload_n 0), (1, 0, 0, 0), [], 0), some ((.getfield 20), (3, 5, 3, 528), [1, 1], 0), none, none, some ((.bipush 8), (2, 0, 0, 0), [], 8), none, some ((.iload_n 2), (1, 0, 0, 0), [], 0), some (.imul, (1, 0, 0, 0), [], 0), some ((.iload_n 3), (1, 0, 0, 0), [], 0), some (.iadd, (1, 0, 0, 0), [], 0), some (.iaload, (1, 0, 0, 0), [], 0), some ((.iconst 1), (1, 0, 0, 0), [], 1), some (.iadd, (1, 0, 0, 0), [], 0), some ((.aload_n 0), (1, 0, 0, 0), [], 0), some ((.getfield 20), (3, 5, 3, 528), [1, 1], 0), none, none, some ((.bipush 8), (2, 0, 0, 0), [], 8), none, some ((.iload_n 2), (1, 0, 0, 0), [], 0), some (.imul, (1, 0, 0, 0), [], 0), some ((.iload 4), (2, 0, 0, 0), [], 0), none, some (.iadd, (1, 0, 0, 0), [], 0), some (.iaload, (1, 0, 0, 0), [], 0), some ((.if_icmp .ge 30), (3, 93, 0, 0), [], 0), none, none, some ((.aload_n 0), (1, 0, 0, 0), [], 0), some ((.getfield 20), (3, 5, 3, 528), [1, 1], 0), none, none, some ((.bipush 8), (2, 0, 0, 0), [], 8), none, some ((.iload_n 2), (1, 0, 0, 0), [], 0), some (.imul, (1, 0, 0, 0), [], 0), some ((.iload 4), (2, 0, 0, 0), [], 0), none, some (.iadd, (1, 0, 0, 0), [], 0), some ((.aload_n 0), (1, 0, 0, 0), [], 0), some ((.getfield 20), (3, 5, 3, 528), [1, 1], 0), none, none, some ((.bipush 8), (2, 0, 0, 0), [], 8), none, some ((.iload_n 2), (1, 0, 0, 0), [], 0), some (.imul, (1, 0, 0, 0), [], 0), some ((.iload_n 3), (1, 0, 0, 0), [], 0), some (.iadd, (1, 0, 0, 0), [], 0), some (.iaload, (1, 0, 0, 0), [], 0), some ((.iconst 1), (1, 0, 0, 0), [], 1), some (.iadd, (1, 0, 0, 0), [], 0), some (.iastore, (1, 0, 0, 0), [], 0), some ((.iconst 1), (1, 0, 0, 0), [], 1), some ((.istore_n 1), (1, 0, 0, 0), [], 0), some ((.iinc 4 1), (3, 0, 0, 0), [], 1), none, none, some ((.goto (-75)), (3, 21, 0, 0), [], 0), none, none, some ((.iinc 3 1), (3, 0, 0, 0), [], 1), none, none, some ((.goto (-90)), (3, 12, 0, 0), [], 0), none, none, some ((.iinc 2 1), (3, 0, 0, 0), [], 1), none, none, some ((.goto (-104)), (3, 4, 0, 0), [], 0), none, none, some ((.iload_n 1), (1, 0, 0, 0), [], 0), some (.ireturn, (1, 0, 0, 0), [], 0)]
/-- MeshNamesModel.laySteps()V -/
def k_49 : List (Option AE) := [some ((.iconst 0), (1, 0, 0, 0), [], 0), some ((.istore_n 1), (1, 0, 0, 0), [], 0), some ((.iload_n 1), (1, 0, 0, 0), [], 0), some ((.bipush 64), (2, 0, 0, 0), [], 64), none, some ((.if_icmp .ge 44), (3, 49, 0, 0), [], 0), none, none, some ((.aload_n 0), (1, 0, 0, 0), [], 0), some ((.getfield 20), (3, 5, 3, 528), [1, 1], 0), none, none, some ((.iload_n 1), (1, 0, 0, 0), [], 0), some ((.iload_n 1), (1, 0, 0, 0), [], 0), some ((.bipush 8), (2, 0, 0, 0), [], 8), none, some (.idiv, (1, 0, 0, 0), [], 0), some ((.iload_n 1), (1, 0, 0, 0), [], 0), some ((.bipush 8), (2, 0, 0, 0), [], 8), none, some (.irem, (1, 0, 0, 0), [], 0), some ((.if_icmp .ne 18), (3, 39, 0, 0), [], 0), none, none, some ((.aload_n 0), (1, 0, 0, 0), [], 0), some ((.iload_n 1), (1, 0, 0, 0), [], 0), some ((.bipush 8), (2, 0, 0, 0), [], 8), none, some (.idiv, (1, 0, 0, 0), [], 0), some ((.invokevirtual 56), (3, 28, 2, 585), [2], 0), none, none, some ((.ifCond .eq 7), (3, 39, 0, 0), [], 0), none, none, some ((.iconst 0), (1, 0, 0, 0), [], 0), some ((.goto 6), (3, 42, 0, 0), [], 0), none, none, some ((.sipush 1000), (3, 0, 0, 0), [], 1000), none, none, some (.iastore, (1, 0, 0, 0), [], 0), some ((.iinc 1 1), (3, 0, 0, 0), [], 1), none, none, some ((.goto (-44)), (3, 2, 0, 0), [], 0), none, none, some ((.iconst 1), (1, 0, 0, 0), [], 1), some ((.istore_n 1), (1, 0, 0, 0), [], 0), some ((.iload_n 1), (1, 0, 0, 0), [], 0), some ((.ifCond .eq 11), (3, 63, 0, 0), [], 0), none, none, some ((.aload_n 0), (1, 0, 0, 0), [], 0), some ((.invokevirtual 79), (3, 48, 1, 624), [2], 0), none, none, some ((.istore_n 1), (1, 0, 0, 0), [], 0), some ((.goto (-9)), (3, 51, 0, 0), [], 0), none, none, some (.return_, (1, 0, 0, 0), [], 0)]
/-- MeshNamesModel.areTogether(II)Z -/
def k_50 : List (Option AE) := [some ((.aload_n 0), (1, 0, 0, 0), [], 0), some ((.getfield 20), (3, 5, 3, 528), [1, 1], 0), none, none, some ((.bipush 8), (2, 0, 0, 0), [], 8), none, some ((.iload_n 1), (1, 0, 0, 0), [], 0), some (.imul, (1, 0, 0, 0), [], 0), some ((.iload_n 2), (1, 0, 0, 0), [], 0), some (.iadd, (1, 0, 0, 0), [], 0), some (.iaload, (1, 0, 0, 0), [], 0), some ((.sipush 1000), (3, 0, 0, 0), [], 1000), none, none, some ((.if_icmp .ge 7), (3, 21, 0, 0), [], 0), none, none, some ((.iconst 1), (1, 0, 0, 0), [], 1), some ((.goto 4), (3, 22, 0, 0), [], 0), none, none, some ((.iconst 0), (1, 0, 0, 0), [], 0), some (.ireturn, (1, 0, 0, 0), [], 0)]
/-- MeshNamesModel.ahead(II)I -/
def k_51 : List (Option AE) := [some ((.aload_n 0), (1, 0, 0, 0), [], 0), some ((.getfield 7), (3, 5, 0, 525), [1, 1], 0), none, none, some ((.bipush 8), (2, 0, 0, 0), [], 8), none, some ((.iload_n 2), (1, 0, 0, 0), [], 0), some (.iadd, (1, 0, 0, 0), [], 0), some (.iaload, (1, 0, 0, 0), [], 0), some ((.aload_n 0), (1, 0, 0, 0), [], 0), some ((.getfield 7), (3, 5, 0, 525), [1, 1], 0), none, none, some ((.bipush 8), (2, 0, 0, 0), [], 8), none, some ((.iload_n 1), (1, 0, 0, 0), [], 0), some (.iadd, (1, 0, 0, 0), [], 0), some (.iaload, (1, 0, 0, 0), [], 0), some (.isub, (1, 0, 0, 0), [], 0), some ((.sipush 256), (3, 0, 0, 0), [], 256), none, none, some (.iadd, (1, 0, 0, 0), [], 0), some ((.sipush 256), (3, 0, 0, 0), [], 256), none, none, some (.irem, (1, 0, 0, 0), [], 0), some (.ireturn, (1, 0, 0, 0), [], 0)]
/-- MeshNamesModel.nextOf(I)I -/
def k_52 : List (Option AE) := [some ((.bipush (-6)), (2, 0, 0, 0), [], (-6)), none, some ((.istore_n 2), (1, 0, 0, 0), [], 0), some ((.iconst 0), (1, 0, 0, 0), [], 0), some ((.istore_n 3), (1, 0, 0, 0), [], 0), some ((.iload_n 3), (1, 0, 0, 0), [], 0), some ((.bipush 8), (2, 0, 0, 0), [], 8), none, some ((.if_icmp .ge 48), (3, 56, 0, 0), [], 0), none, none, some ((.iload_n 3), (1, 0, 0, 0), [], 0), some ((.iload_n 1), (1, 0, 0, 0), [], 0), some ((.if_icmp .eq 37), (3, 50, 0, 0), [], 0), none, none, some ((.aload_n 0), (1, 0, 0, 0), [], 0), some ((.iload_n 1), (1, 0, 0, 0), [], 0), some ((.iload_n 3), (1, 0, 0, 0), [], 0), some ((.invokevirtual 83), (3, 50, 3, 640), [2], 0), none, none, some ((.ifCond .eq 28), (3, 50, 0, 0), [], 0), none, none, some ((.iload_n 2), (1, 0, 0, 0), [], 0), some ((.ifCond .lt 18), (3, 44, 0, 0), [], 0), none, none, some ((.aload_n 0), (1, 0, 0, 0), [], 0), some ((.iload_n 1), (1, 0, 0, 0), [], 0), some ((.iload_n 3), (1, 0, 0, 0), [], 0), some ((.invokevirtual 86), (3, 51, 3, 644), [2], 0), none, none, some ((.aload_n 0), (1, 0, 0, 0), [], 0), some ((.iload_n 1), (1, 0, 0, 0), [], 0), some ((.iload_n 2), (1, 0, 0, 0), [], 0), some ((.invokevirtual 86), (3, 51, 3, 644), [2], 0), none, none, some ((.if_icmp .ge 7), (3, 48, 0, 0), [], 0), none, none, some ((.iload_n 3), (1, 0, 0, 0), [], 0), some ((.goto 4), (3, 49, 0, 0), [], 0), none, none, some ((.iload_n 2), (1, 0, 0, 0), [], 0), some ((.istore_n 2), (1, 0, 0, 0), [], 0), some ((.iinc 3 1), (3, 0, 0, 0), [], 1), none, none, some ((.goto (-48)), (3, 5, 0, 0), [], 0), none, none, some ((.iload_n 2), (1, 0, 0, 0), [], 0), some (.ireturn, (1, 0, 0, 0), [], 0)]
/-- MeshNamesModel.nearer(II)I -/
def k_53 : List (Option AE) := [some ((.bipush (-6)), (2, 0, 0, 0), [], (-6)), none, some ((.istore_n 3), (1, 0, 0, 0), [], 0), some ((.bipush 7), (2, 0, 0, 0), [], 7), none, some ((.istore 4), (2, 0, 0, 0), [], 0), none, some ((.iload 4), (2, 0, 0, 0), [], 0), none, some ((.ifCond .lt 54), (3, 63, 0, 0), [], 0), none, none, some ((.aload_n 0), (1, 0, 0, 0), [], 0), some ((.iload_n 1), (1, 0, 0, 0), [], 0), some ((.iload 4), (2, 0, 0, 0), [], 0), none, some ((.invokevirtual 76), (3, 47, 3, 628), [2], 0), none, none, some ((.ifCond .eq 36), (3, 55, 0, 0), [], 0), none, none, some ((.aload_n 0), (1, 0, 0, 0), [], 0), some ((.getfield 20), (3, 5, 3, 528), [1, 1], 0), none, none, some ((.bipush 8), (2, 0, 0, 0), [], 8), none, some ((.iload 4), (2, 0, 0, 0), [], 0), none, some (.imul, (1, 0, 0, 0), [], 0), some ((.iload_n 2), (1, 0, 0, 0), [], 0), some (.iadd, (1, 0, 0, 0), [], 0), some (.iaload, (1, 0, 0, 0), [], 0), some ((.aload_n 0), (1, 0, 0, 0), [], 0), some ((.getfield 20), (3, 5, 3, 528), [1, 1], 0), none, none, some ((.bipush 8), (2, 0, 0, 0), [], 8), none, some ((.iload_n 1), (1, 0, 0, 0), [], 0), some (.imul, (1, 0, 0, 0), [], 0), some ((.iload_n 2), (1, 0, 0, 0), [], 0), some (.iadd, (1, 0, 0, 0), [], 0), some (.iaload, (1, 0, 0, 0), [], 0), some ((.iconst 1), (1, 0, 0, 0), [], 1), some (.isub, (1, 0, 0, 0), [], 0), some ((.if_icmp .ne 8), (3, 55, 0, 0), [], 0), none, none, some ((.iload 4), (2, 0, 0, 0), [], 0), none, some ((.goto 4), (3, 56, 0, 0), [], 0), none, none, some ((.iload_n 3), (1, 0, 0, 0), [], 0), some ((.istore_n 3), (1, 0, 0, 0), [], 0), some ((.iinc 4 (-1)), (3, 0, 0, 0), [], (-1)), none, none, some ((.goto (-53)), (3, 7, 0, 0), [], 0), none, none, some ((.iload_n 3), (1, 0, 0, 0), [], 0), some (.ireturn, (1, 0, 0, 0), [], 0)]
/-- MeshNamesModel.layRow(I)V -/
def k_54 : List (Option AE) := [some ((.aload_n 0), (1, 0, 0, 0), [], 0), some ((.getfield 29), (3, 5, 6, 531), [1, 1], 0), none, none, some ((.iload_n 1), (1, 0, 0, 0), [], 0), some ((.iconst 0), (1, 0, 0, 0), [], 0), some (.iastore, (1, 0, 0, 0), [], 0), some ((.aload_n 0), (1, 0, 0, 0), [], 0), some ((.getfield 23), (3, 5, 4, 529), [1, 1], 0), none, none, some ((.iload_n 1), (1, 0, 0, 0), [], 0), some (.iaload, (1, 0, 0, 0), [], 0), some ((.ifCond .ge 4), (3, 17, 0, 0), [], 0), none, none, some (.return_, (1, 0, 0, 0), [], 0), some ((.iload_n 1), (1, 0, 0, 0), [], 0), some ((.istore_n 2), (1, 0, 0, 0), [], 0), some ((.aload_n 0), (1, 0, 0, 0), [], 0), some ((.getfield 26), (3, 5, 5, 530), [1, 1], 0), none, none, some ((.bipush 8), (2, 0, 0, 0), [], 8), none, some ((.iload_n 1), (1, 0, 0, 0), [], 0), some (.imul, (1, 0, 0, 0), [], 0), some ((.iload_n 1), (1, 0, 0, 0), [], 0), some (.iastore, (1, 0, 0, 0), [], 0), some ((.aload_n 0), (1, 0, 0, 0), [], 0), some ((.getfield 29), (3, 5, 6, 531), [1, 1], 0), none, none, some ((.iload_n 1), (1, 0, 0, 0), [], 0), some ((.iconst 1), (1, 0, 0, 0), [], 1), some (.iastore, (1, 0, 0, 0), [], 0), some ((.iload_n 2), (1, 0, 0, 0), [], 0), some ((.aload_n 0), (1, 0, 0, 0), [], 0), some ((.getfield 23), (3, 5, 4, 529), [1, 1], 0), none, none, some ((.iload_n 1), (1, 0, 0, 0), [], 0), some (.iaload, (1, 0, 0, 0), [], 0), some ((.if_icmp .eq 45), (3, 88, 0, 0), [], 0), none, none, some ((.aload_n 0), (1, 0, 0, 0), [], 0), some ((.iload_n 2), (1, 0, 0, 0), [], 0), some ((.aload_n 0), (1, 0, 0, 0), [], 0), some ((.getfield 23), (3, 5, 4, 529), [1, 1], 0), none, none, some ((.iload_n 1), (1, 0, 0, 0), [], 0), some (.iaload, (1, 0, 0, 0), [], 0), some ((.invokevirtual 89), (3, 53, 3, 652), [2], 0), none, none, some ((.istore_n 2), (1, 0, 0, 0), [], 0), some ((.aload_n 0), (1, 0, 0, 0), [], 0), some ((.getfield 26), (3, 5, 5, 530), [1, 1], 0), none, none, some ((.bipush 8), (2, 0, 0, 0), [], 8), none, some ((.iload_n 1), (1, 0, 0, 0), [], 0), some (.imul, (1, 0, 0, 0), [], 0), some ((.aload_n 0), (1, 0, 0, 0), [], 0), some ((.getfield 29), (3, 5, 6, 531), [1, 1], 0), none, none, some ((.iload_n 1), (1, 0, 0, 0), [], 0), some (.iaload, (1, 0, 0, 0), [], 0), some (.iadd, (1, 0, 0, 0), [], 0), some ((.iload_n 2), (1, 0, 0, 0), [], 0), some (.iastore, (1, 0, 0, 0), [], 0), some ((.aload_n 0), (1, 0, 0, 0), [], 0), some ((.getfield 29), (3, 5, 6, 531), [1, 1], 0), none, none, some ((.iload_n 1), (1, 0, 0, 0), [], 0), some (.dup2, (1, 0, 0, 0), [], 0), some (.iaload, (1, 0, 0, 0), [], 0), some ((.iconst 1), (1, 0, 0, 0), [], 1), some (.iadd, (1, 0, 0, 0), [], 0), some (.iastore, (1, 0, 0, 0), [], 0), some ((.goto (-49)), (3, 36, 0, 0), [], 0), none, none, some (.return_, (1, 0, 0, 0), [], 0)]
/-- MeshNamesModel.layPaths()V -/
def k_55 : List (Option AE) := [some ((.aload_n 0), (1, 0, 0, 0), [], 0), some ((.invokevirtual 92), (3, 49, 1, 620), [2], 0), none, none, some ((.iconst 0), (1, 0, 0, 0), [], 0), some ((.istore_n 1), (1, 0, 0, 0), [], 0), some ((.iload_n 1), (1, 0, 0, 0), [], 0), some ((.bipush 8), (2, 0, 0, 0), [], 8), none, some ((.if_icmp .ge 33), (3, 42, 0, 0), [], 0), none, none, some ((.aload_n 0), (1, 0, 0, 0), [], 0), some ((.getfield 23), (3, 5, 4, 529), [1, 1], 0), none, none, some ((.iload_n 1), (1, 0, 0, 0), [], 0), some ((.aload_n 0), (1, 0, 0, 0), [], 0), some ((.iload_n 1), (1, 0, 0, 0), [], 0), some ((.invokevirtual 56), (3, 28, 2, 585), [2], 0), none, none, some ((.ifCond .eq 11), (3, 33, 0, 0), [], 0), none, none, some ((.aload_n 0), (1, 0, 0, 0), [], 0), some ((.iload_n 1), (1, 0, 0, 0), [], 0), some ((.invokevirtual 95), (3, 52, 2, 636), [2], 0), none, none, some ((.goto 5), (3, 35, 0, 0), [], 0), none, none, some ((.bipush (-6)), (2, 0, 0, 0), [], (-6)), none, some (.iastore, (1, 0, 0, 0), [], 0), some ((.iinc 1 1), (3, 0, 0, 0), [], 1), none, none, some ((.goto (-33)), (3, 6, 0, 0), [], 0), none, none, some ((.iconst 0), (1, 0, 0, 0), [], 0), some ((.istore_n 1), (1, 0, 0, 0), [], 0), some ((.iload_n 1), (1, 0, 0, 0), [], 0), some ((.bipush 8), (2, 0, 0, 0), [], 8), none, some ((.if_icmp .ge 14), (3, 61, 0, 0), [], 0), none, none, some ((.aload_n 0), (1, 0, 0, 0), [], 0), some ((.iload_n 1), (1, 0, 0, 0), [], 0), some ((.invokevirtual 99), (3, 54, 2, 648), [2], 0), none, none, some ((.iinc 1 1), (3, 0, 0, 0), [], 1), none, none, some ((.goto (-14)), (3, 44, 0, 0), [], 0), none, none, some (.return_, (1, 0, 0, 0), [], 0)]
/-- MeshNamesModel.partOf(I)I -/
def k_56 : List (Option AE) := [some ((.iconst 0), (1, 0, 0, 0), [], 0), some ((.istore_n 2), (1, 0, 0, 0), [], 0), some ((.iconst 0), (1, 0, 0, 0), [], 0), some ((.istore_n 3), (1, 0, 0, 0), [], 0), some ((.iload_n 3), (1, 0, 0, 0), [], 0), some ((.bipush 8), (2, 0, 0, 0), [], 8), none, some ((.if_icmp .ge 28), (3, 35, 0, 0), [], 0), none, none, some ((.iload_n 2), (1, 0, 0, 0), [], 0), some ((.aload_n 0), (1, 0, 0, 0), [], 0), some ((.iload_n 1), (1, 0, 0, 0), [], 0), some ((.iload_n 3), (1, 0, 0, 0), [], 0), some ((.invokevirtual 83), (3, 50, 3, 640), [2], 0), none, none, some ((.ifCond .eq 9), (3, 26, 0, 0), [], 0), none, none, some ((.iconst 1), (1, 0, 0, 0), [], 1), some ((.iload_n 3), (1, 0, 0, 0), [], 0), some (.ishl, (1, 0, 0, 0), [], 0), some ((.goto 4), (3, 27, 0, 0), [], 0), none, none, some ((.iconst 0), (1, 0, 0, 0), [], 0), some (.ior, (1, 0, 0, 0), [], 0), some ((.istore_n 2), (1, 0, 0, 0), [], 0), some ((.iinc 3 1), (3, 0, 0, 0), [], 1), none, none, some ((.goto (-28)), (3, 4, 0, 0), [], 0), none, none, some ((.iload_n 2), (1, 0, 0, 0), [], 0), some (.ireturn, (1, 0, 0, 0), [], 0)]
/-- MeshNamesModel.beforeOf(I)I -/
def k_57 : List (Option AE) := [some ((.bipush (-6)), (2, 0, 0, 0), [], (-6)), none, some ((.istore_n 2), (1, 0, 0, 0), [], 0), some ((.iconst 0), (1, 0, 0, 0), [], 0), some ((.istore_n 3), (1, 0, 0, 0), [], 0), some ((.iload_n 3), (1, 0, 0, 0), [], 0), some ((.bipush 8), (2, 0, 0, 0), [], 8), none, some ((.if_icmp .ge 25), (3, 33, 0, 0), [], 0), none, none, some ((.aload_n 0), (1, 0, 0, 0), [], 0), some ((.getfield 23), (3, 5, 4, 529), [1, 1], 0), none, none, some ((.iload_n 3), (1, 0, 0, 0), [], 0), some (.iaload, (1, 0, 0, 0), [], 0), some ((.iload_n 1), (1, 0, 0, 0), [], 0), some ((.if_icmp .ne 7), (3, 25, 0, 0), [], 0), none, none, some ((.iload_n 3), (1, 0, 0, 0), [], 0), some ((.goto 4), (3, 26, 0, 0), [], 0), none, none, some ((.iload_n 2), (1, 0, 0, 0), [], 0), some ((.istore_n 2), (1, 0, 0, 0), [], 0), some ((.iinc 3 1), (3, 0, 0, 0), [], 1), none, none, some ((.goto (-25)), (3, 5, 0, 0), [], 0), none, none, some ((.iload_n 2), (1, 0, 0, 0), [], 0), some (.ireturn, (1, 0, 0, 0), [], 0)]
/-- MeshNamesModel.linksOf(I)I -/
def k_58 : List (Option AE) := [some ((.iconst 0), (1, 0, 0, 0), [], 0), some ((.istore_n 2), (1, 0, 0, 0), [], 0), some ((.iconst 0), (1, 0, 0, 0), [], 0), some ((.istore_n 3), (1, 0, 0, 0), [], 0), some ((.iload_n 3), (1, 0, 0, 0), [], 0), some ((.bipush 8), (2, 0, 0, 0), [], 8), none, some ((.if_icmp .ge 26), (3, 33, 0, 0), [], 0), none, none, some ((.iload_n 2), (1, 0, 0, 0), [], 0), some ((.aload_n 0), (1, 0, 0, 0), [], 0), some ((.iload_n 1), (1, 0, 0, 0), [], 0), some ((.iload_n 3), (1, 0, 0, 0), [], 0), some ((.invokevirtual 76), (3, 47, 3, 628), [2], 0), none, none, some ((.ifCond .eq 7), (3, 24, 0, 0), [], 0), none, none, some ((.iconst 1), (1, 0, 0, 0), [], 1), some ((.goto 4), (3, 25, 0, 0), [], 0), none, none, some ((.iconst 0), (1, 0, 0, 0), [], 0), some (.iadd, (1, 0, 0, 0), [], 0), some ((.istore_n 2), (1, 0, 0, 0), [], 0), some ((.iinc 3 1), (3, 0, 0, 0), [], 1), none, none, some ((.goto (-26)), (3, 4, 0, 0), [], 0), none, none, some ((.iload_n 2), (1, 0, 0, 0), [], 0), some (.ireturn, (1, 0, 0, 0), [], 0)]
/-- MeshNamesModel.placeIn(II)I -/
def k_59 : List (Option AE) := [some ((.bipush (-6)), (2, 0, 0, 0), [], (-6)), none, some ((.istore_n 3), (1, 0, 0, 0), [], 0), some ((.iconst 0), (1, 0, 0, 0), [], 0), some ((.istore 4), (2, 0, 0, 0), [], 0), none, some ((.iload 4), (2, 0, 0, 0), [], 0), none, some ((.aload_n 0), (1, 0, 0, 0), [], 0), some ((.getfield 29), (3, 5, 6, 531), [1, 1], 0), none, none, some ((.iload_n 1), (1, 0, 0, 0), [], 0), some (.iaload, (1, 0, 0, 0), [], 0), some ((.if_icmp .ge 32), (3, 46, 0, 0), [], 0), none, none, some ((.aload_n 0), (1, 0, 0, 0), [], 0), some ((.getfield 26), (3, 5, 5, 530), [1, 1], 0), none, none, some ((.bipush 8), (2, 0, 0, 0), [], 8), none, some ((.iload_n 1), (1, 0, 0, 0), [], 0), some (.imul, (1, 0, 0, 0), [], 0), some ((.iload 4), (2, 0, 0, 0), [], 0), none, some (.iadd, (1, 0, 0, 0), [], 0), some (.iaload, (1, 0, 0, 0), [], 0), some ((.iload_n 2), (1, 0, 0, 0), [], 0), some ((.if_icmp .ne 8), (3, 38, 0, 0), [], 0), none, none, some ((.iload 4), (2, 0, 0, 0), [], 0), none, some ((.goto 4), (3, 39, 0, 0), [], 0), none, none, some ((.iload_n 3), (1, 0, 0, 0), [], 0), some ((.istore_n 3), (1, 0, 0, 0), [], 0), some ((.iinc 4 1), (3, 0, 0, 0), [], 1), none, none, some ((.goto (-37)), (3, 6, 0, 0), [], 0), none, none, some ((.iload_n 3), (1, 0, 0, 0), [], 0), some (.ireturn, (1, 0, 0, 0), [], 0)]
/-- MeshNamesModel.pathsOver(I)I -/
def k_60 : List (Option AE) := [some ((.iconst 0), (1, 0, 0, 0), [], 0), some ((.istore_n 2), (1, 0, 0, 0), [], 0), some ((.iconst 0), (1, 0, 0, 0), [], 0), some ((.istore_n 3), (1, 0, 0, 0), [], 0), some ((.iload_n 3), (1, 0, 0, 0), [], 0), some ((.bipush 8), (2, 0, 0, 0), [], 8), none, some ((.if_icmp .ge 26), (3, 33, 0, 0), [], 0), none, none, some ((.iload_n 2), (1, 0, 0, 0), [], 0), some ((.aload_n 0), (1, 0, 0, 0), [], 0), some ((.iload_n 3), (1, 0, 0, 0), [], 0), some ((.iload_n 1), (1, 0, 0, 0), [], 0), some ((.invokevirtual 103), (3, 59, 3, 672), [2], 0), none, none, some ((.ifCond .lt 7), (3, 24, 0, 0), [], 0), none, none, some ((.iconst 1), (1, 0, 0, 0), [], 1), some ((.goto 4), (3, 25, 0, 0), [], 0), none, none, some ((.iconst 0), (1, 0, 0, 0), [], 0), some (.iadd, (1, 0, 0, 0), [], 0), some ((.istore_n 2), (1, 0, 0, 0), [], 0), some ((.iinc 3 1), (3, 0, 0, 0), [], 1), none, none, some ((.goto (-26)), (3, 4, 0, 0), [], 0), none, none, some ((.iload_n 2), (1, 0, 0, 0), [], 0), some (.ireturn, (1, 0, 0, 0), [], 0)]
/-- MeshNamesModel.knownAt(I)I -/
def k_61 : List (Option AE) := [some ((.iconst 0), (1, 0, 0, 0), [], 0), some ((.istore_n 2), (1, 0, 0, 0), [], 0), some ((.iconst 0), (1, 0, 0, 0), [], 0), some ((.istore_n 3), (1, 0, 0, 0), [], 0), some ((.iload_n 3), (1, 0, 0, 0), [], 0), some ((.bipush 8), (2, 0, 0, 0), [], 8), none, some ((.if_icmp .ge 37), (3, 44, 0, 0), [], 0), none, none, some ((.iload_n 2), (1, 0, 0, 0), [], 0), some ((.aload_n 0), (1, 0, 0, 0), [], 0), some ((.iload_n 3), (1, 0, 0, 0), [], 0), some ((.iload_n 1), (1, 0, 0, 0), [], 0), some ((.invokevirtual 103), (3, 59, 3, 672), [2], 0), none, none, some ((.ifCond .lt 18), (3, 35, 0, 0), [], 0), none, none, some ((.iconst 1), (1, 0, 0, 0), [], 1), some ((.iload_n 3), (1, 0, 0, 0), [], 0), some (.ishl, (1, 0, 0, 0), [], 0), some ((.iconst 1), (1, 0, 0, 0), [], 1), some ((.aload_n 0), (1, 0, 0, 0), [], 0), some ((.getfield 23), (3, 5, 4, 529), [1, 1], 0), none, none, some ((.iload_n 3), (1, 0, 0, 0), [], 0), some (.iaload, (1, 0, 0, 0), [], 0), some (.ishl, (1, 0, 0, 0), [], 0), some (.ior, (1, 0, 0, 0), [], 0), some ((.goto 4), (3, 36, 0, 0), [], 0), none, none, some ((.iconst 0), (1, 0, 0, 0), [], 0), some (.ior, (1, 0, 0, 0), [], 0), some ((.istore_n 2), (1, 0, 0, 0), [], 0), some ((.iinc 3 1), (3, 0, 0, 0), [], 1), none, none, some ((.goto (-37)), (3, 4, 0, 0), [], 0), none, none, some ((.iload_n 2), (1, 0, 0, 0), [], 0), some (.ireturn, (1, 0, 0, 0), [], 0)]
/-- MeshNamesModel.size(I)I -/
def k_62 : List (Option AE) := [some ((.iconst 0), (1, 0, 0, 0), [], 0), some ((.istore_n 1), (1, 0, 0, 0), [], 0), some ((.iconst 0), (1, 0, 0, 0), [], 0), some ((.istore_n 2), (1, 0, 0, 0), [], 0), some ((.iload_n 2), (1, 0, 0, 0), [], 0), some ((.bipush 8), (2, 0, 0, 0), [], 8), none, some ((.if_icmp .ge 17), (3, 24, 0, 0), [], 0), none, none, some ((.iload_n 1), (1, 0, 0, 0), [], 0), some ((.iload_n 0), (1, 0, 0, 0), [], 0), some ((.iload_n 2), (1, 0, 0, 0), [], 0), some (.ishr, (1, 0, 0, 0), [], 0), some ((.iconst 1), (1, 0, 0, 0), [], 1), some (.iand, (1, 0, 0, 0), [], 0), some (.iadd, (1, 0, 0, 0), [], 0), some ((.istore_n 1), (1, 0, 0, 0), [], 0), some ((.iinc 2 1), (3, 0, 0, 0), [], 1), none, none, some ((.goto (-17)), (3, 4, 0, 0), [], 0), none, none, some ((.iload_n 1), (1, 0, 0, 0), [], 0), some (.ireturn, (1, 0, 0, 0), [], 0)]
/-- MeshNamesModel.of(II)I -/
def k_63 : List (Option AE) := [some ((.iload_n 1), (1, 0, 0, 0), [], 0), some ((.invokestatic 60), (3, 26, 1, 576), [0], 0), none, none, some ((.ifCond .ne 5), (3, 9, 0, 0), [], 0), none, none, some ((.iconst (-1)), (1, 0, 0, 0), [], (-1)), some (.ireturn, (1, 0, 0, 0), [], 0), some ((.iload_n 2), (1, 0, 0, 0), [], 0), some ((.iconst 0), (1, 0, 0, 0), [], 0), some ((.bipush 6), (2, 0, 0, 0), [], 6), none, some ((.invokestatic 44), (3, 25, 3, 579), [0], 0), none, none, some ((.ifCond .ne 6), (3, 22, 0, 0), [], 0), none, none, some ((.bipush (-2)), (2, 0, 0, 0), [], (-2)), none, some (.ireturn, (1, 0, 0, 0), [], 0), some ((.aload_n 0), (1, 0, 0, 0), [], 0), some ((.iload_n 1), (1, 0, 0, 0), [], 0), some ((.invokevirtual 56), (3, 28, 2, 585), [2], 0), none, none, some ((.ifCond .ne 6), (3, 33, 0, 0), [], 0), none, none, some ((.bipush (-3)), (2, 0, 0, 0), [], (-3)), none, some (.ireturn, (1, 0, 0, 0), [], 0), some ((.aload_n 0), (1, 0, 0, 0), [], 0), some ((.invokevirtual 106), (3, 55, 1, 616), [2], 0), none, none, some ((.iload_n 2), (1, 0, 0, 0), [], 0), some ((.tableswitch 79 0 5 #[38, 48, 54, 61, 67, 73]), (38, 117, 0, 0), [76, 86, 92, 99, 105, 111], 0), none, none, none, none, none, none, none, none, none, none, none, none, none, none, none, none, none, none, none, none, none, none, none, none, none, none, none, none, none, none, none, none, none, none, none, none, none, some ((.aload_n 0), (1, 0, 0, 0), [], 0), some ((.getfield 7), (3, 5, 0, 525), [1, 1], 0), none, none, some ((.bipush 8), (2, 0, 0, 0), [], 8), none, some ((.iload_n 1), (1, 0, 0, 0), [], 0), some (.iadd, (1, 0, 0, 0), [], 0), some (.iaload, (1, 0, 0, 0), [], 0), some (.ireturn, (1, 0, 0, 0), [], 0), some ((.aload_n 0), (1, 0, 0, 0), [], 0), some ((.iload_n 1), (1, 0, 0, 0), [], 0), some ((.invokevirtual 109), (3, 56, 2, 656), [2], 0), none, none, some (.ireturn, (1, 0, 0, 0), [], 0), some ((.aload_n 0), (1, 0, 0, 0), [], 0), some ((.getfield 23), (3, 5, 4, 529), [1, 1], 0), none, none, some ((.iload_n 1), (1, 0, 0, 0), [], 0), some (.iaload, (1, 0, 0, 0), [], 0), some (.ireturn, (1, 0, 0, 0), [], 0), some ((.aload_n 0), (1, 0, 0, 0), [], 0), some ((.iload_n 1), (1, 0, 0, 0), [], 0), some ((.invokevirtual 112), (3, 57, 2, 660), [2], 0), none, none, some (.ireturn, (1, 0, 0, 0), [], 0), some ((.aload_n 0), (1, 0, 0, 0), [], 0), some ((.iload_n 1), (1, 0, 0, 0), [], 0), some ((.invokevirtual 115), (3, 58, 2, 664), [2], 0), none, none, some (.ireturn, (1, 0, 0, 0), [], 0), some ((.aload_n 0), (1, 0, 0, 0), [], 0), some ((.iload_n 1), (1, 0, 0, 0), [], 0), some ((.invokevirtual 118), (3, 60, 2, 668), [2], 0), none, none, some (.ireturn, (1, 0, 0, 0), [], 0), some ((.aload_n 0), (1, 0, 0, 0), [], 0), some ((.iload_n 1), (1, 0, 0, 0), [], 0), some ((.invokevirtual 121), (3, 61, 2, 676), [2], 0), none, none, some ((.iconst 1), (1, 0, 0, 0), [], 1), some ((.iload_n 1), (1, 0, 0, 0), [], 0), some (.ishl, (1, 0, 0, 0), [], 0), some ((.iconst (-1)), (1, 0, 0, 0), [], (-1)), some (.ixor, (1, 0, 0, 0), [], 0), some (.iand, (1, 0, 0, 0), [], 0), some ((.invokestatic 124), (3, 62, 1, 680), [0], 0), none, none, some (.ireturn, (1, 0, 0, 0), [], 0)]
/-- MeshNames$Paths.isLaid(I)Z -/
def k_64 : List (Option AE) := [some ((.aload_n 0), (1, 0, 0, 0), [], 0), some ((.getfield 28), (3, 1, 5, 112), [1, 1], 0), none, none, some ((.iload_n 1), (1, 0, 0, 0), [], 0), some (.iaload, (1, 0, 0, 0), [], 0), some ((.ifCond .le 7), (3, 13, 0, 0), [], 0), none, none, some ((.iconst 1), (1, 0, 0, 0), [], 1), some ((.goto 4), (3, 14, 0, 0), [], 0), none, none, some ((.iconst 0), (1, 0, 0, 0), [], 0), some (.ireturn, (1, 0, 0, 0), [], 0)]
/-- MeshNames$Paths.nodeAt(II)I -/
def k_65 : List (Option AE) := [some ((.iload_n 2), (1, 0, 0, 0), [], 0), some ((.ifCond .lt 27), (3, 28, 0, 0), [], 0), none, none, some ((.iload_n 2), (1, 0, 0, 0), [], 0), some ((.aload_n 0), (1, 0, 0, 0), [], 0), some ((.getfield 28), (3, 1, 5, 112), [1, 1], 0), none, none, some ((.iload_n 1), (1, 0, 0, 0), [], 0), some (.iaload, (1, 0, 0, 0), [], 0), some ((.if_icmp .ge 17), (3, 28, 0, 0), [], 0), none, none, some ((.aload_n 0), (1, 0, 0, 0), [], 0), some ((.getfield 31), (3, 1, 6, 115), [1, 1], 0), none, none, some ((.iload_n 1), (1, 0, 0, 0), [], 0), some ((.bipush 8), (2, 0, 0, 0), [], 8), none, some (.imul, (1, 0, 0, 0), [], 0), some ((.iload_n 2), (1, 0, 0, 0), [], 0), some (.iadd, (1, 0, 0, 0), [], 0), some (.iaload, (1, 0, 0, 0), [], 0), some ((.goto 5), (3, 30, 0, 0), [], 0), none, none, some ((.bipush (-6)), (2, 0, 0, 0), [], (-6)), none, some (.ireturn, (1, 0, 0, 0), [], 0)]
/-- MeshNames.path(II)I -/
def k_66 : List (Option AE) := [some ((.iload_n 1), (1, 0, 0, 0), [], 0), some ((.invokestatic 54), (3, 14, 1, 265), [0], 0), none, none, some ((.ifCond .ne 5), (3, 9, 0, 0), [], 0), none, none, some ((.iconst (-1)), (1, 0, 0, 0), [], (-1)), some (.ireturn, (1, 0, 0, 0), [], 0), some ((.iload_n 2), (1, 0, 0, 0), [], 0), some ((.iconst (-1)), (1, 0, 0, 0), [], (-1)), some ((.if_icmp .ge 6), (3, 17, 0, 0), [], 0), none, none, some ((.bipush (-2)), (2, 0, 0, 0), [], (-2)), none, some (.ireturn, (1, 0, 0, 0), [], 0), some ((.aload_n 0), (1, 0, 0, 0), [], 0), some ((.getfield 10), (3, 4, 0, 242), [1, 1], 0), none, none, some ((.iload_n 1), (1, 0, 0, 0), [], 0), some ((.invokevirtual 61), (3, 8, 2, 269), [2], 0), none, none, some ((.ifCond .ne 6), (3, 31, 0, 0), [], 0), none, none, some ((.bipush (-3)), (2, 0, 0, 0), [], (-3)), none, some (.ireturn, (1, 0, 0, 0), [], 0), some ((.aload_n 0), (1, 0, 0, 0), [], 0), some ((.getfield 21), (3, 4, 1, 243), [1, 1], 0), none, none, some ((.iload_n 1), (1, 0, 0, 0), [], 0), some ((.invokevirtual 114), (3, 64, 2, 332), [2], 0), none, none, some ((.ifCond .ne 6), (3, 45, 0, 0), [], 0), none, none, some ((.bipush (-5)), (2, 0, 0, 0), [], (-5)), none, some (.ireturn, (1, 0, 0, 0), [], 0), some ((.iload_n 2), (1, 0, 0, 0), [], 0), some ((.iconst (-1)), (1, 0, 0, 0), [], (-1)), some ((.if_icmp .ne 15), (3, 62, 0, 0), [], 0), none, none, some ((.aload_n 0), (1, 0, 0, 0), [], 0), some ((.getfield 21), (3, 4, 1, 243), [1, 1], 0), none, none, some ((.getfield 117), (3, 1, 5, 114), [1, 1], 0), none, none, some ((.iload_n 1), (1, 0, 0, 0), [], 0), some (.iaload, (1, 0, 0, 0), [], 0), some ((.goto 12), (3, 71, 0, 0), [], 0), none, none, some ((.aload_n 0), (1, 0, 0, 0), [], 0), some ((.getfield 21), (3, 4, 1, 243), [1, 1], 0), none, none, some ((.iload_n 1), (1, 0, 0, 0), [], 0), some ((.iload_n 2), (1, 0, 0, 0), [], 0), some ((.invokevirtual 120), (3, 65, 3, 336), [2], 0), none, none, some (.ireturn, (1, 0, 0, 0), [], 0)]
/-- MeshNamesModel.path(II)I -/
def k_67 : List (Option AE) := [some ((.iload_n 1), (1, 0, 0, 0), [], 0), some ((.invokestatic 60), (3, 26, 1, 576), [0], 0), none, none, some ((.ifCond .ne 5), (3, 9, 0, 0), [], 0), none, none, some ((.iconst (-1)), (1, 0, 0, 0), [], (-1)), some (.ireturn, (1, 0, 0, 0), [], 0), some ((.iload_n 2), (1, 0, 0, 0), [], 0), some ((.iconst (-1)), (1, 0, 0, 0), [], (-1)), some ((.if_icmp .ge 6), (3, 17, 0, 0), [], 0), none, none, some ((.bipush (-2)), (2, 0, 0, 0), [], (-2)), none, some (.ireturn, (1, 0, 0, 0), [], 0), some ((.aload_n 0), (1, 0, 0, 0), [], 0), some ((.iload_n 1), (1, 0, 0, 0), [], 0), some ((.invokevirtual 56), (3, 28, 2, 585), [2], 0), none, none, some ((.ifCond .ne 6), (3, 28, 0, 0), [], 0), none, none, some ((.bipush (-3)), (2, 0, 0, 0), [], (-3)), none, some (.ireturn, (1, 0, 0, 0), [], 0), some ((.aload_n 0), (1, 0, 0, 0), [], 0), some ((.invokevirtual 106), (3, 55, 1, 616), [2], 0), none, none, some ((.aload_n 0), (1, 0, 0, 0), [], 0), some ((.getfield 23), (3, 5, 4, 529), [1, 1], 0), none, none, some ((.iload_n 1), (1, 0, 0, 0), [], 0), some (.iaload, (1, 0, 0, 0), [], 0), some ((.ifCond .ge 6), (3, 44, 0, 0), [], 0), none, none, some ((.bipush (-5)), (2, 0, 0, 0), [], (-5)), none, some (.ireturn, (1, 0, 0, 0), [], 0), some ((.iload_n 2), (1, 0, 0, 0), [], 0), some ((.iconst (-1)), (1, 0, 0, 0), [], (-1)), some ((.if_icmp .ne 12), (3, 58, 0, 0), [], 0), none, none, some ((.aload_n 0), (1, 0, 0, 0), [], 0), some ((.getfield 29), (3, 5, 6, 531), [1, 1], 0), none, none, some ((.iload_n 1), (1, 0, 0, 0), [], 0), some (.iaload, (1, 0, 0, 0), [], 0), some ((.goto 29), (3, 84, 0, 0), [], 0), none, none, some ((.iload_n 2), (1, 0, 0, 0), [], 0), some ((.aload_n 0), (1, 0, 0, 0), [], 0), some ((.getfield 29), (3, 5, 6, 531), [1, 1], 0), none, none, some ((.iload_n 1), (1, 0, 0, 0), [], 0), some (.iaload, (1, 0, 0, 0), [], 0), some ((.if_icmp .ge 17), (3, 82, 0, 0), [], 0), none, none, some ((.aload_n 0), (1, 0, 0, 0), [], 0), some ((.getfield 26), (3, 5, 5, 530), [1, 1], 0), none, none, some ((.bipush 8), (2, 0, 0, 0), [], 8), none, some ((.iload_n 1), (1, 0, 0, 0), [], 0), some (.imul, (1, 0, 0, 0), [], 0), some ((.iload_n 2), (1, 0, 0, 0), [], 0), some (.iadd, (1, 0, 0, 0), [], 0), some (.iaload, (1, 0, 0, 0), [], 0), some ((.goto 5), (3, 84, 0, 0), [], 0), none, none, some ((.bipush (-6)), (2, 0, 0, 0), [], (-6)), none, some (.ireturn, (1, 0, 0, 0), [], 0)]
/-- MeshNames.over(II)I -/
def k_68 : List (Option AE) := [some ((.iload_n 1), (1, 0, 0, 0), [], 0), some ((.invokestatic 54), (3, 14, 1, 265), [0], 0), none, none, some ((.ifCond .eq 10), (3, 14, 0, 0), [], 0), none, none, some ((.iload_n 2), (1, 0, 0, 0), [], 0), some ((.invokestatic 54), (3, 14, 1, 265), [0], 0), none, none, some ((.ifCond .ne 5), (3, 16, 0, 0), [], 0), none, none, some ((.iconst (-1)), (1, 0, 0, 0), [], (-1)), some (.ireturn, (1, 0, 0, 0), [], 0), some ((.aload_n 0), (1, 0, 0, 0), [], 0), some ((.getfield 10), (3, 4, 0, 242), [1, 1], 0), none, none, some ((.iload_n 1), (1, 0, 0, 0), [], 0), some ((.invokevirtual 61), (3, 8, 2, 269), [2], 0), none, none, some ((.ifCond .ne 6), (3, 30, 0, 0), [], 0), none, none, some ((.bipush (-3)), (2, 0, 0, 0), [], (-3)), none, some (.ireturn, (1, 0, 0, 0), [], 0), some ((.aload_n 0), (1, 0, 0, 0), [], 0), some ((.getfield 21), (3, 4, 1, 243), [1, 1], 0), none, none, some ((.iload_n 1), (1, 0, 0, 0), [], 0), some ((.invokevirtual 114), (3, 64, 2, 332), [2], 0), none, none, some ((.ifCond .ne 6), (3, 44, 0, 0), [], 0), none, none, some ((.bipush (-5)), (2, 0, 0, 0), [], (-5)), none, some (.ireturn, (1, 0, 0, 0), [], 0), some ((.aload_n 0), (1, 0, 0, 0), [], 0), some ((.getfield 21), (3, 4, 1, 243), [1, 1], 0), none, none, some ((.iload_n 1), (1, 0, 0, 0), [], 0), some ((.iload_n 2), (1, 0, 0, 0), [], 0), some ((.invokevirtual 124), (3, 42, 3, 344), [2], 0), none, none, some ((.ifCond .eq 7), (3, 60, 0, 0), [], 0), none, none, some ((.iconst 1), (1, 0, 0, 0), [], 1), some ((.goto 4), (3, 61, 0, 0), [], 0), none, none, some ((.iconst 0), (1, 0, 0, 0), [], 0), some (.ireturn, (1, 0, 0, 0), [], 0)]
/-- MeshNamesModel.over(II)I -/
def k_69 : List (Option AE) := [some ((.iload_n 1), (1, 0, 0, 0), [], 0), some ((.invokestatic 60), (3, 26, 1, 576), [0], 0), none, none, some ((.ifCond .eq 10), (3, 14, 0, 0), [], 0), none, none, some ((.iload_n 2), (1, 0, 0, 0), [], 0), some ((.invokestatic 60), (3, 26, 1, 576), [0], 0), none, none, some ((.ifCond .ne 5), (3, 16, 0, 0), [], 0), none, none, some ((.iconst (-1)), (1, 0, 0, 0), [], (-1)), some (.ireturn, (1, 0, 0, 0), [], 0), some ((.aload_n 0), (1, 0, 0, 0), [], 0), some ((.iload_n 1), (1, 0, 0, 0), [], 0), some ((.invokevirtual 56), (3, 28, 2, 585), [2], 0), none, none, some ((.ifCond .ne 6), (3, 27, 0, 0), [], 0), none, none, some ((.bipush (-3)), (2, 0, 0, 0), [], (-3)), none, some (.ireturn, (1, 0, 0, 0), [], 0), some ((.aload_n 0), (1, 0, 0, 0), [], 0), some ((.invokevirtual 106), (3, 55, 1, 616), [2], 0), none, none, some ((.aload_n 0), (1, 0, 0, 0), [], 0), some ((.getfield 23), (3, 5, 4, 529), [1, 1], 0), none, none, some ((.iload_n 1), (1, 0, 0, 0), [], 0), some (.iaload, (1, 0, 0, 0), [], 0), some ((.ifCond .ge 6), (3, 43, 0, 0), [], 0), none, none, some ((.bipush (-5)), (2, 0, 0, 0), [], (-5)), none, some (.ireturn, (1, 0, 0, 0), [], 0), some ((.aload_n 0), (1, 0, 0, 0), [], 0), some ((.iload_n 1), (1, 0, 0, 0), [], 0), some ((.iload_n 2), (1, 0, 0, 0), [], 0), some ((.invokevirtual 103), (3, 59, 3, 672), [2], 0), none, none, some ((.ifCond .lt 7), (3, 56, 0, 0), [], 0), none, none, some ((.iconst 1), (1, 0, 0, 0), [], 1), some ((.goto 4), (3, 57, 0, 0), [], 0), none, none, some ((.iconst 0), (1, 0, 0, 0), [], 0), some (.ireturn, (1, 0, 0, 0), [], 0)]
/-- MeshNames.refusePacket(II)I -/
def k_70 : List (Option AE) := [some ((.iload_n 1), (1, 0, 0, 0), [], 0), some ((.invokestatic 54), (3, 14, 1, 265), [0], 0), none, none, some ((.ifCond .ne 5), (3, 9, 0, 0), [], 0), none, none, some ((.iconst (-1)), (1, 0, 0, 0), [], (-1)), some (.ireturn, (1, 0, 0, 0), [], 0), some ((.iload_n 2), (1, 0, 0, 0), [], 0), some ((.invokestatic 58), (3, 20, 1, 266), [0], 0), none, none, some ((.ifCond .ne 6), (3, 19, 0, 0), [], 0), none, none, some ((.bipush (-2)), (2, 0, 0, 0), [], (-2)), none, some (.ireturn, (1, 0, 0, 0), [], 0), some ((.aload_n 0), (1, 0, 0, 0), [], 0), some ((.getfield 10), (3, 4, 0, 242), [1, 1], 0), none, none, some ((.iload_n 1), (1, 0, 0, 0), [], 0), some ((.invokevirtual 61), (3, 8, 2, 269), [2], 0), none, none, some ((.ifCond .eq 7), (3, 34, 0, 0), [], 0), none, none, some ((.iconst 0), (1, 0, 0, 0), [], 0), some ((.goto 5), (3, 36, 0, 0), [], 0), none, none, some ((.bipush (-3)), (2, 0, 0, 0), [], (-3)), none, some (.ireturn, (1, 0, 0, 0), [], 0)]
/-- java/lang/Math.abs(I)I -/
def k_71 : List (Option AE) := [some ((.iload_n 0), (1, 0, 0, 0), [], 0), some ((.ifCond .ge 8), (3, 9, 0, 0), [], 0), none, none, some ((.iload_n 0), (1, 0, 0, 0), [], 0), some (.ineg, (1, 0, 0, 0), [], 0), some ((.goto 4), (3, 10, 0, 0), [], 0), none, none, some ((.iload_n 0), (1, 0, 0, 0), [], 0), some (.ireturn, (1, 0, 0, 0), [], 0)]
/-- java/lang/Math.min(II)I -/
def k_72 : List (Option AE) := [some ((.iload_n 0), (1, 0, 0, 0), [], 0), some ((.iload_n 1), (1, 0, 0, 0), [], 0), some ((.if_icmp .gt 7), (3, 9, 0, 0), [], 0), none, none, some ((.iload_n 0), (1, 0, 0, 0), [], 0), some ((.goto 4), (3, 10, 0, 0), [], 0), none, none, some ((.iload_n 1), (1, 0, 0, 0), [], 0), some (.ireturn, (1, 0, 0, 0), [], 0)]
/-- MeshNames.rank(II)I -/
def k_73 : List (Option AE) := [some ((.iload_n 0), (1, 0, 0, 0), [], 0), some ((.iload_n 1), (1, 0, 0, 0), [], 0), some (.isub, (1, 0, 0, 0), [], 0), some ((.invokestatic 201), (3, 71, 1, 360), [0], 0), none, none, some ((.istore_n 2), (1, 0, 0, 0), [], 0), some ((.iload_n 2), (1, 0, 0, 0), [], 0), some ((.sipush 256), (3, 0, 0, 0), [], 256), none, none, some ((.iload_n 2), (1, 0, 0, 0), [], 0), some (.isub, (1, 0, 0, 0), [], 0), some ((.invokestatic 206), (3, 72, 2, 363), [0], 0), none, none, some ((.sipush 256), (3, 0, 0, 0), [], 256), none, none, some (.imul, (1, 0, 0, 0), [], 0), some ((.iload_n 0), (1, 0, 0, 0), [], 0), some (.iadd, (1, 0, 0, 0), [], 0), some (.ireturn, (1, 0, 0, 0), [], 0)]
/-- MeshNames$Paths.nearestInPart(II)I -/
def k_74 : List (Option AE) := [some ((.iload_n 1), (1, 0, 0, 0), [], 0), some ((.istore_n 3), (1, 0, 0, 0), [], 0), some ((.iconst 0), (1, 0, 0, 0), [], 0), some ((.istore 4), (2, 0, 0, 0), [], 0), none, some ((.iload 4), (2, 0, 0, 0), [], 0), none, some ((.bipush 8), (2, 0, 0, 0), [], 8), none, some ((.if_icmp .ge 56), (3, 65, 0, 0), [], 0), none, none, some ((.aload_n 0), (1, 0, 0, 0), [], 0), some ((.getfield 15), (3, 1, 1, 102), [1, 1], 0), none, none, some ((.iload_n 1), (1, 0, 0, 0), [], 0), some (.iaload, (1, 0, 0, 0), [], 0), some ((.iload 4), (2, 0, 0, 0), [], 0), none, some ((.invokestatic 69), (3, 6, 2, 207), [1], 0), none, none, some ((.ifCond .eq 36), (3, 59, 0, 0), [], 0), none, none, some ((.aload_n 0), (1, 0, 0, 0), [], 0), some ((.getfield 9), (3, 1, 0, 98), [1, 1], 0), none, none, some ((.getfield 73), (3, 0, 0, 79), [1, 1], 0), none, none, some ((.iload 4), (2, 0, 0, 0), [], 0), none, some (.iaload, (1, 0, 0, 0), [], 0), some ((.iload_n 2), (1, 0, 0, 0), [], 0), some ((.invokestatic 99), (3, 73, 2, 357), [1], 0), none, none, some ((.aload_n 0), (1, 0, 0, 0), [], 0), some ((.getfield 9), (3, 1, 0, 98), [1, 1], 0), none, none, some ((.getfield 73), (3, 0, 0, 79), [1, 1], 0), none, none, some ((.iload_n 3), (1, 0, 0, 0), [], 0), some (.iaload, (1, 0, 0, 0), [], 0), some ((.iload_n 2), (1, 0, 0, 0), [], 0), some ((.invokestatic 99), (3, 73, 2, 357), [1], 0), none, none, some ((.if_icmp .ge 6), (3, 59, 0, 0), [], 0), none, none, some ((.iload 4), (2, 0, 0, 0), [], 0), none, some ((.istore_n 3), (1, 0, 0, 0), [], 0), some ((.iinc 4 1), (3, 0, 0, 0), [], 1), none, none, some ((.goto (-57)), (3, 5, 0, 0), [], 0), none, none, some ((.iload_n 3), (1, 0, 0, 0), [], 0), some (.ireturn, (1, 0, 0, 0), [], 0)]
/-- MeshNames.owner(II)I -/
def k_75 : List (Option AE) := [some ((.aload_n 0), (1, 0, 0, 0), [], 0), some ((.iload_n 1), (1, 0, 0, 0), [], 0), some ((.iload_n 2), (1, 0, 0, 0), [], 0), some ((.invokevirtual 128), (3, 70, 3, 349), [2], 0), none, none, some ((.istore_n 3), (1, 0, 0, 0), [], 0), some ((.iload_n 3), (1, 0, 0, 0), [], 0), some ((.ifCond .eq 7), (3, 15, 0, 0), [], 0), none, none, some ((.iload_n 3), (1, 0, 0, 0), [], 0), some ((.goto 12), (3, 24, 0, 0), [], 0), none, none, some ((.aload_n 0), (1, 0, 0, 0), [], 0), some ((.getfield 21), (3, 4, 1, 243), [1, 1], 0), none, none, some ((.iload_n 1), (1, 0, 0, 0), [], 0), some ((.iload_n 2), (1, 0, 0, 0), [], 0), some ((.invokevirtual 131), (3, 74, 3, 353), [2], 0), none, none, some (.ireturn, (1, 0, 0, 0), [], 0)]
/-- MeshNamesModel.less(II)I -/
def k_76 : List (Option AE) := [some ((.iload_n 0), (1, 0, 0, 0), [], 0), some ((.iload_n 1), (1, 0, 0, 0), [], 0), some ((.if_icmp .ge 7), (3, 9, 0, 0), [], 0), none, none, some ((.iload_n 0), (1, 0, 0, 0), [], 0), some ((.goto 4), (3, 10, 0, 0), [], 0), none, none, some ((.iload_n 1), (1, 0, 0, 0), [], 0), some (.ireturn, (1, 0, 0, 0), [], 0)]
/-- MeshNamesModel.away(II)I -/
def k_77 : List (Option AE) := [some ((.iload_n 0), (1, 0, 0, 0), [], 0), some ((.iload_n 1), (1, 0, 0, 0), [], 0), some ((.if_icmp .ge 9), (3, 11, 0, 0), [], 0), none, none, some ((.iload_n 1), (1, 0, 0, 0), [], 0), some ((.iload_n 0), (1, 0, 0, 0), [], 0), some (.isub, (1, 0, 0, 0), [], 0), some ((.goto 6), (3, 14, 0, 0), [], 0), none, none, some ((.iload_n 0), (1, 0, 0, 0), [], 0), some ((.iload_n 1), (1, 0, 0, 0), [], 0), some (.isub, (1, 0, 0, 0), [], 0), some ((.istore_n 2), (1, 0, 0, 0), [], 0), some ((.iload_n 2), (1, 0, 0, 0), [], 0), some ((.sipush 256), (3, 0, 0, 0), [], 256), none, none, some ((.iload_n 2), (1, 0, 0, 0), [], 0), some (.isub, (1, 0, 0, 0), [], 0), some ((.invokestatic 127), (3, 76, 2, 706), [0], 0), none, none, some (.ireturn, (1, 0, 0, 0), [], 0)]
/-- MeshNamesModel.isNearer(III)Z -/
def k_78 : List (Option AE) := [some ((.iload_n 2), (1, 0, 0, 0), [], 0), some ((.ifCond .ge 5), (3, 6, 0, 0), [], 0), none, none, some ((.iconst 1), (1, 0, 0, 0), [], 1), some (.ireturn, (1, 0, 0, 0), [], 0), some ((.aload_n 0), (1, 0, 0, 0), [], 0), some ((.getfield 7), (3, 5, 0, 525), [1, 1], 0), none, none, some ((.bipush 8), (2, 0, 0, 0), [], 8), none, some ((.iload_n 1), (1, 0, 0, 0), [], 0), some (.iadd, (1, 0, 0, 0), [], 0), some (.iaload, (1, 0, 0, 0), [], 0), some ((.iload_n 3), (1, 0, 0, 0), [], 0), some ((.invokestatic 130), (3, 77, 2, 703), [0], 0), none, none, some ((.istore 4), (2, 0, 0, 0), [], 0), none, some ((.aload_n 0), (1, 0, 0, 0), [], 0), some ((.getfield 7), (3, 5, 0, 525), [1, 1], 0), none, none, some ((.bipush 8), (2, 0, 0, 0), [], 8), none, some ((.iload_n 2), (1, 0, 0, 0), [], 0), some (.iadd, (1, 0, 0, 0), [], 0), some (.iaload, (1, 0, 0, 0), [], 0), some ((.iload_n 3), (1, 0, 0, 0), [], 0), some ((.invokestatic 130), (3, 77, 2, 703), [0], 0), none, none, some ((.istore 5), (2, 0, 0, 0), [], 0), none, some ((.iload 4), (2, 0, 0, 0), [], 0), none, some ((.iload 5), (2, 0, 0, 0), [], 0), none, some ((.if_icmp .lt 31), (3, 71, 0, 0), [], 0), none, none, some ((.iload 4), (2, 0, 0, 0), [], 0), none, some ((.iload 5), (2, 0, 0, 0), [], 0), none, some ((.if_icmp .ne 28), (3, 75, 0, 0), [], 0), none, none, some ((.aload_n 0), (1, 0, 0, 0), [], 0), some ((.getfield 7), (3, 5, 0, 525), [1, 1], 0), none, none, some ((.bipush 8), (2, 0, 0, 0), [], 8), none, some ((.iload_n 1), (1, 0, 0, 0), [], 0), some (.iadd, (1, 0, 0, 0), [], 0), some (.iaload, (1, 0, 0, 0), [], 0), some ((.aload_n 0), (1, 0, 0, 0), [], 0), some ((.getfield 7), (3, 5, 0, 525), [1, 1], 0), none, none, some ((.bipush 8), (2, 0, 0, 0), [], 8), none, some ((.iload_n 2), (1, 0, 0, 0), [], 0), some (.iadd, (1, 0, 0, 0), [], 0), some (.iaload, (1, 0, 0, 0), [], 0), some ((.if_icmp .ge 7), (3, 75, 0, 0), [], 0), none, none, some ((.iconst 1), (1, 0, 0, 0), [], 1), some ((.goto 4), (3, 76, 0, 0), [], 0), none, none, some ((.iconst 0), (1, 0, 0, 0), [], 0), some (.ireturn, (1, 0, 0, 0), [], 0)]
/-- MeshNamesModel.nearest(II)I -/
def k_79 : List (Option AE) := [some ((.bipush (-6)), (2, 0, 0, 0), [], (-6)), none, some ((.istore_n 3), (1, 0, 0, 0), [], 0), some ((.iconst 0), (1, 0, 0, 0), [], 0), some ((.istore 4), (2, 0, 0, 0), [], 0), none, some ((.iload 4), (2, 0, 0, 0), [], 0), none, some ((.bipush 8), (2, 0, 0, 0), [], 8), none, some ((.if_icmp .ge 37), (3, 47, 0, 0), [], 0), none, none, some ((.iload_n 1), (1, 0, 0, 0), [], 0), some ((.iload 4), (2, 0, 0, 0), [], 0), none, some (.ishr, (1, 0, 0, 0), [], 0), some ((.iconst 1), (1, 0, 0, 0), [], 1), some (.iand, (1, 0, 0, 0), [], 0), some ((.iconst 1), (1, 0, 0, 0), [], 1), some ((.if_icmp .ne 19), (3, 39, 0, 0), [], 0), none, none, some ((.aload_n 0), (1, 0, 0, 0), [], 0), some ((.iload 4), (2, 0, 0, 0), [], 0), none, some ((.iload_n 3), (1, 0, 0, 0), [], 0), some ((.iload_n 2), (1, 0, 0, 0), [], 0), some ((.invokevirtual 133), (3, 78, 4, 699), [2], 0), none, none, some ((.ifCond .eq 8), (3, 39, 0, 0), [], 0), none, none, some ((.iload 4), (2, 0, 0, 0), [], 0), none, some ((.goto 4), (3, 40, 0, 0), [], 0), none, none, some ((.iload_n 3), (1, 0, 0, 0), [], 0), some ((.istore_n 3), (1, 0, 0, 0), [], 0), some ((.iinc 4 1), (3, 0, 0, 0), [], 1), none, none, some ((.goto (-38)), (3, 6, 0, 0), [], 0), none, none, some ((.iload_n 3), (1, 0, 0, 0), [], 0), some (.ireturn, (1, 0, 0, 0), [], 0)]
/-- MeshNamesModel.owner(II)I -/
def k_80 : List (Option AE) := [some ((.iload_n 1), (1, 0, 0, 0), [], 0), some ((.invokestatic 60), (3, 26, 1, 576), [0], 0), none, none, some ((.ifCond .ne 5), (3, 9, 0, 0), [], 0), none, none, some ((.iconst (-1)), (1, 0, 0, 0), [], (-1)), some (.ireturn, (1, 0, 0, 0), [], 0), some ((.iload_n 2), (1, 0, 0, 0), [], 0), some ((.invokestatic 63), (3, 27, 1, 582), [0], 0), none, none, some ((.ifCond .ne 6), (3, 19, 0, 0), [], 0), none, none, some ((.bipush (-2)), (2, 0, 0, 0), [], (-2)), none, some (.ireturn, (1, 0, 0, 0), [], 0), some ((.aload_n 0), (1, 0, 0, 0), [], 0), some ((.iload_n 1), (1, 0, 0, 0), [], 0), some ((.invokevirtual 56), (3, 28, 2, 585), [2], 0), none, none, some ((.ifCond .ne 6), (3, 30, 0, 0), [], 0), none, none, some ((.bipush (-3)), (2, 0, 0, 0), [], (-3)), none, some (.ireturn, (1, 0, 0, 0), [], 0), some ((.aload_n 0), (1, 0, 0, 0), [], 0), some ((.invokevirtual 92), (3, 49, 1, 620), [2], 0), none, none, some ((.aload_n 0), (1, 0, 0, 0), [], 0), some ((.aload_n 0), (1, 0, 0, 0), [], 0), some ((.iload_n 1), (1, 0, 0, 0), [], 0), some ((.invokevirtual 109), (3, 56, 2, 656), [2], 0), none, none, some ((.iload_n 2), (1, 0, 0, 0), [], 0), some ((.invokevirtual 136), (3, 79, 3, 695), [2], 0), none, none, some (.ireturn, (1, 0, 0, 0), [], 0)]
/-- MeshNames$Route.weigh(III)V -/
def k_81 : List (Option AE) := [some ((.iload_n 1), (1, 0, 0, 0), [], 0), some ((.aload_n 0), (1, 0, 0, 0), [], 0), some ((.getfield 23), (3, 2, 3, 143), [0, 0], 0), none, none, some ((.if_icmp .lt 19), (3, 24, 0, 0), [], 0), none, none, some ((.iload_n 1), (1, 0, 0, 0), [], 0), some ((.aload_n 0), (1, 0, 0, 0), [], 0), some ((.getfield 23), (3, 2, 3, 143), [0, 0], 0), none, none, some ((.if_icmp .ne 26), (3, 39, 0, 0), [], 0), none, none, some ((.iload_n 2), (1, 0, 0, 0), [], 0), some ((.aload_n 0), (1, 0, 0, 0), [], 0), some ((.getfield 26), (3, 2, 4, 144), [0, 0], 0), none, none, some ((.if_icmp .ge 18), (3, 39, 0, 0), [], 0), none, none, some ((.aload_n 0), (1, 0, 0, 0), [], 0), some ((.iload_n 1), (1, 0, 0, 0), [], 0), some ((.putfield 23), (3, 2, 3, 143), [0, 0], 0), none, none, some ((.aload_n 0), (1, 0, 0, 0), [], 0), some ((.iload_n 2), (1, 0, 0, 0), [], 0), some ((.putfield 26), (3, 2, 4, 144), [0, 0], 0), none, none, some ((.aload_n 0), (1, 0, 0, 0), [], 0), some ((.iload_n 3), (1, 0, 0, 0), [], 0), some ((.putfield 29), (3, 2, 5, 145), [0, 0], 0), none, none, some (.return_, (1, 0, 0, 0), [], 0)]
/-- MeshNames$Route.weighEnds(III)V -/
def k_82 : List (Option AE) := [some ((.aload_n 0), (1, 0, 0, 0), [], 0), some ((.getfield 9), (3, 2, 0, 140), [1, 1], 0), none, none, some ((.getfield 65), (3, 1, 5, 113), [1, 1], 0), none, none, some ((.iload_n 1), (1, 0, 0, 0), [], 0), some (.iaload, (1, 0, 0, 0), [], 0), some ((.iconst 1), (1, 0, 0, 0), [], 1), some (.isub, (1, 0, 0, 0), [], 0), some ((.istore 4), (2, 0, 0, 0), [], 0), none, some ((.aload_n 0), (1, 0, 0, 0), [], 0), some ((.getfield 9), (3, 2, 0, 140), [1, 1], 0), none, none, some ((.getfield 68), (3, 1, 2, 106), [1, 1], 0), none, none, some ((.iload_n 1), (1, 0, 0, 0), [], 0), some (.iaload, (1, 0, 0, 0), [], 0), some ((.istore 5), (2, 0, 0, 0), [], 0), none, some ((.iload_n 2), (1, 0, 0, 0), [], 0), some ((.ifCond .le 35), (3, 60, 0, 0), [], 0), none, none, some ((.aload_n 0), (1, 0, 0, 0), [], 0), some ((.aload_n 0), (1, 0, 0, 0), [], 0), some ((.getfield 9), (3, 2, 0, 140), [1, 1], 0), none, none, some ((.getfield 40), (3, 1, 0, 99), [1, 1], 0), none, none, some ((.getfield 46), (3, 0, 0, 76), [1, 1], 0), none, none, some ((.iload_n 1), (1, 0, 0, 0), [], 0), some (.iaload, (1, 0, 0, 0), [], 0), some ((.iload_n 3), (1, 0, 0, 0), [], 0), some ((.invokestatic 51), (3, 73, 2, 379), [1], 0), none, none, some ((.iload_n 2), (1, 0, 0, 0), [], 0), some ((.aload_n 0), (1, 0, 0, 0), [], 0), some ((.getfield 9), (3, 2, 0, 140), [1, 1], 0), none, none, some ((.iload_n 1), (1, 0, 0, 0), [], 0), some ((.iload_n 2), (1, 0, 0, 0), [], 0), some ((.iconst 1), (1, 0, 0, 0), [], 1), some (.isub, (1, 0, 0, 0), [], 0), some ((.invokevirtual 71), (3, 65, 3, 386), [2], 0), none, none, some ((.invokevirtual 74), (3, 81, 4, 387), [2], 0), none, none, some ((.iload_n 2), (1, 0, 0, 0), [], 0), some ((.iload 4), (2, 0, 0, 0), [], 0), none, some ((.if_icmp .ge 47), (3, 110, 0, 0), [], 0), none, none, some ((.iload 5), (2, 0, 0, 0), [], 0), none, some ((.invokestatic 32), (3, 14, 1, 374), [1], 0), none, none, some ((.ifCond .eq 39), (3, 110, 0, 0), [], 0), none, none, some ((.aload_n 0), (1, 0, 0, 0), [], 0), some ((.aload_n 0), (1, 0, 0, 0), [], 0), some ((.getfield 9), (3, 2, 0, 140), [1, 1], 0), none, none, some ((.getfield 40), (3, 1, 0, 99), [1, 1], 0), none, none, some ((.getfield 46), (3, 0, 0, 76), [1, 1], 0), none, none, some ((.iload 5), (2, 0, 0, 0), [], 0), none, some (.iaload, (1, 0, 0, 0), [], 0), some ((.iload_n 3), (1, 0, 0, 0), [], 0), some ((.invokestatic 51), (3, 73, 2, 379), [1], 0), none, none, some ((.iload 4), (2, 0, 0, 0), [], 0), none, some ((.iload_n 2), (1, 0, 0, 0), [], 0), some (.isub, (1, 0, 0, 0), [], 0), some ((.aload_n 0), (1, 0, 0, 0), [], 0), some ((.getfield 9), (3, 2, 0, 140), [1, 1], 0), none, none, some ((.iload_n 1), (1, 0, 0, 0), [], 0), some ((.iload_n 2), (1, 0, 0, 0), [], 0), some ((.iconst 1), (1, 0, 0, 0), [], 1), some (.iadd, (1, 0, 0, 0), [], 0), some ((.invokevirtual 71), (3, 65, 3, 386), [2], 0), none, none, some ((.invokevirtual 74), (3, 81, 4, 387), [2], 0), none, none, some (.return_, (1, 0, 0, 0), [], 0)]
/-- MeshNames$Route.hopFrom(II)I -/
def k_83 : List (Option AE) := [some ((.aload_n 0), (1, 0, 0, 0), [], 0), some ((.aload_n 0), (1, 0, 0, 0), [], 0), some ((.getfield 9), (3, 2, 0, 140), [1, 1], 0), none, none, some ((.getfield 40), (3, 1, 0, 99), [1, 1], 0), none, none, some ((.getfield 46), (3, 0, 0, 76), [1, 1], 0), none, none, some ((.iload_n 1), (1, 0, 0, 0), [], 0), some (.iaload, (1, 0, 0, 0), [], 0), some ((.iload_n 2), (1, 0, 0, 0), [], 0), some ((.invokestatic 51), (3, 73, 2, 379), [1], 0), none, none, some ((.putfield 23), (3, 2, 3, 143), [0, 0], 0), none, none, some ((.aload_n 0), (1, 0, 0, 0), [], 0), some ((.iconst 0), (1, 0, 0, 0), [], 0), some ((.putfield 26), (3, 2, 4, 144), [0, 0], 0), none, none, some ((.aload_n 0), (1, 0, 0, 0), [], 0), some ((.bipush (-6)), (2, 0, 0, 0), [], (-6)), none, some ((.putfield 29), (3, 2, 5, 145), [0, 0], 0), none, none, some ((.iconst 0), (1, 0, 0, 0), [], 0), some ((.istore_n 3), (1, 0, 0, 0), [], 0), some ((.iload_n 3), (1, 0, 0, 0), [], 0), some ((.bipush 8), (2, 0, 0, 0), [], 8), none, some ((.if_icmp .ge 36), (3, 72, 0, 0), [], 0), none, none, some ((.aload_n 0), (1, 0, 0, 0), [], 0), some ((.getfield 9), (3, 2, 0, 140), [1, 1], 0), none, none, some ((.iload_n 3), (1, 0, 0, 0), [], 0), some ((.iload_n 1), (1, 0, 0, 0), [], 0), some ((.invokevirtual 54), (3, 42, 3, 380), [2], 0), none, none, some ((.ifCond .eq 18), (3, 66, 0, 0), [], 0), none, none, some ((.aload_n 0), (1, 0, 0, 0), [], 0), some ((.iload_n 3), (1, 0, 0, 0), [], 0), some ((.aload_n 0), (1, 0, 0, 0), [], 0), some ((.getfield 9), (3, 2, 0, 140), [1, 1], 0), none, none, some ((.iload_n 3), (1, 0, 0, 0), [], 0), some ((.iload_n 1), (1, 0, 0, 0), [], 0), some ((.invokevirtual 58), (3, 41, 3, 381), [2], 0), none, none, some ((.iload_n 2), (1, 0, 0, 0), [], 0), some ((.invokevirtual 61), (3, 82, 4, 382), [2], 0), none, none, some ((.iinc 3 1), (3, 0, 0, 0), [], 1), none, none, some ((.goto (-36)), (3, 33, 0, 0), [], 0), none, none, some ((.aload_n 0), (1, 0, 0, 0), [], 0), some ((.getfield 29), (3, 2, 5, 145), [0, 0], 0), none, none, some (.ireturn, (1, 0, 0, 0), [], 0)]
/-- MeshNames$Route.follow(II)V -/
def k_84 : List (Option AE) := [some ((.aload_n 0), (1, 0, 0, 0), [], 0), some ((.iconst 0), (1, 0, 0, 0), [], 0), some ((.putfield 19), (3, 2, 2, 142), [0, 0], 0), none, none, some ((.iload_n 1), (1, 0, 0, 0), [], 0), some ((.istore_n 3), (1, 0, 0, 0), [], 0), some ((.iconst 0), (1, 0, 0, 0), [], 0), some ((.istore 4), (2, 0, 0, 0), [], 0), none, some ((.iload 4), (2, 0, 0, 0), [], 0), none, some ((.bipush 8), (2, 0, 0, 0), [], 8), none, some ((.if_icmp .ge 39), (3, 53, 0, 0), [], 0), none, none, some ((.iload_n 3), (1, 0, 0, 0), [], 0), some ((.invokestatic 32), (3, 14, 1, 374), [1], 0), none, none, some ((.ifCond .eq 32), (3, 53, 0, 0), [], 0), none, none, some ((.aload_n 0), (1, 0, 0, 0), [], 0), some ((.getfield 15), (3, 2, 1, 141), [1, 1], 0), none, none, some ((.iload 4), (2, 0, 0, 0), [], 0), none, some ((.iload_n 3), (1, 0, 0, 0), [], 0), some (.iastore, (1, 0, 0, 0), [], 0), some ((.aload_n 0), (1, 0, 0, 0), [], 0), some ((.iload 4), (2, 0, 0, 0), [], 0), none, some ((.iconst 1), (1, 0, 0, 0), [], 1), some (.iadd, (1, 0, 0, 0), [], 0), some ((.putfield 19), (3, 2, 2, 142), [0, 0], 0), none, none, some ((.aload_n 0), (1, 0, 0, 0), [], 0), some ((.iload_n 3), (1, 0, 0, 0), [], 0), some ((.iload_n 2), (1, 0, 0, 0), [], 0), some ((.invokevirtual 36), (3, 83, 3, 375), [2], 0), none, none, some ((.istore_n 3), (1, 0, 0, 0), [], 0), some ((.iinc 4 1), (3, 0, 0, 0), [], 1), none, none, some ((.goto (-40)), (3, 10, 0, 0), [], 0), none, none, some (.return_, (1, 0, 0, 0), [], 0)]
/-- MeshNames$Route.countSteps()I -/
def k_85 : List (Option AE) := [some ((.aload_n 0), (1, 0, 0, 0), [], 0), some ((.getfield 19), (3, 2, 2, 142), [0, 0], 0), none, none, some ((.iconst 1), (1, 0, 0, 0), [], 1), some (.isub, (1, 0, 0, 0), [], 0), some (.ireturn, (1, 0, 0, 0), [], 0)]
/-- MeshNames$Route.nodeAt(I)I -/
def k_86 : List (Option AE) := [some ((.iload_n 1), (1, 0, 0, 0), [], 0), some ((.ifCond .lt 20), (3, 21, 0, 0), [], 0), none, none, some ((.iload_n 1), (1, 0, 0, 0), [], 0), some ((.aload_n 0), (1, 0, 0, 0), [], 0), some ((.getfield 19), (3, 2, 2, 142), [0, 0], 0), none, none, some ((.if_icmp .ge 12), (3, 21, 0, 0), [], 0), none, none, some ((.aload_n 0), (1, 0, 0, 0), [], 0), some ((.getfield 15), (3, 2, 1, 141), [1, 1], 0), none, none, some ((.iload_n 1), (1, 0, 0, 0), [], 0), some (.iaload, (1, 0, 0, 0), [], 0), some ((.goto 5), (3, 23, 0, 0), [], 0), none, none, some ((.bipush (-6)), (2, 0, 0, 0), [], (-6)), none, some (.ireturn, (1, 0, 0, 0), [], 0)]
/-- MeshNames.route(III)I -/
def k_87 : List (Option AE) := [some ((.iload_n 1), (1, 0, 0, 0), [], 0), some ((.invokestatic 54), (3, 14, 1, 265), [0], 0), none, none, some ((.ifCond .ne 5), (3, 9, 0, 0), [], 0), none, none, some ((.iconst (-1)), (1, 0, 0, 0), [], (-1)), some (.ireturn, (1, 0, 0, 0), [], 0), some ((.iload_n 3), (1, 0, 0, 0), [], 0), some ((.iconst (-1)), (1, 0, 0, 0), [], (-1)), some ((.if_icmp .ge 6), (3, 17, 0, 0), [], 0), none, none, some ((.bipush (-2)), (2, 0, 0, 0), [], (-2)), none, some (.ireturn, (1, 0, 0, 0), [], 0), some ((.aload_n 0), (1, 0, 0, 0), [], 0), some ((.iload_n 1), (1, 0, 0, 0), [], 0), some ((.iload_n 2), (1, 0, 0, 0), [], 0), some ((.invokevirtual 128), (3, 70, 3, 349), [2], 0), none, none, some ((.istore 4), (2, 0, 0, 0), [], 0), none, some ((.iload 4), (2, 0, 0, 0), [], 0), none, some ((.ifCond .eq 6), (3, 33, 0, 0), [], 0), none, none, some ((.iload 4), (2, 0, 0, 0), [], 0), none, some (.ireturn, (1, 0, 0, 0), [], 0), some ((.aload_n 0), (1, 0, 0, 0), [], 0), some ((.getfield 30), (3, 4, 2, 244), [1, 1], 0), none, none, some ((.iload_n 1), (1, 0, 0, 0), [], 0), some ((.iload_n 2), (1, 0, 0, 0), [], 0), some ((.invokevirtual 134), (3, 84, 3, 370), [2], 0), none, none, some ((.iload_n 3), (1, 0, 0, 0), [], 0), some ((.iconst (-1)), (1, 0, 0, 0), [], (-1)), some ((.if_icmp .ne 13), (3, 57, 0, 0), [], 0), none, none, some ((.aload_n 0), (1, 0, 0, 0), [], 0), some ((.getfield 30), (3, 4, 2, 244), [1, 1], 0), none, none, some ((.invokevirtual 137), (3, 85, 1, 391), [2], 0), none, none, some ((.goto 11), (3, 65, 0, 0), [], 0), none, none, some ((.aload_n 0), (1, 0, 0, 0), [], 0), some ((.getfield 30), (3, 4, 2, 244), [1, 1], 0), none, none, some ((.iload_n 3), (1, 0, 0, 0), [], 0), some ((.invokevirtual 140), (3, 86, 2, 395), [2], 0), none, none, some (.ireturn, (1, 0, 0, 0), [], 0)]
/-- MeshNamesModel.leftOn(III)I -/
def k_88 : List (Option AE) := [some ((.aload_n 0), (1, 0, 0, 0), [], 0), some ((.iload_n 1), (1, 0, 0, 0), [], 0), some ((.iload_n 2), (1, 0, 0, 0), [], 0), some ((.invokevirtual 103), (3, 59, 3, 672), [2], 0), none, none, some ((.istore 4), (2, 0, 0, 0), [], 0), none, some ((.iload 4), (2, 0, 0, 0), [], 0), none, some ((.ifCond .ge 7), (3, 17, 0, 0), [], 0), none, none, some ((.sipush 1000), (3, 0, 0, 0), [], 1000), none, none, some (.ireturn, (1, 0, 0, 0), [], 0), some ((.iload_n 3), (1, 0, 0, 0), [], 0), some ((.aload_n 0), (1, 0, 0, 0), [], 0), some ((.getfield 23), (3, 5, 4, 529), [1, 1], 0), none, none, some ((.iload_n 1), (1, 0, 0, 0), [], 0), some (.iaload, (1, 0, 0, 0), [], 0), some ((.if_icmp .ne 17), (3, 41, 0, 0), [], 0), none, none, some ((.aload_n 0), (1, 0, 0, 0), [], 0), some ((.getfield 29), (3, 5, 6, 531), [1, 1], 0), none, none, some ((.iload_n 1), (1, 0, 0, 0), [], 0), some (.iaload, (1, 0, 0, 0), [], 0), some ((.iconst 1), (1, 0, 0, 0), [], 1), some (.isub, (1, 0, 0, 0), [], 0), some ((.iload 4), (2, 0, 0, 0), [], 0), none, some (.isub, (1, 0, 0, 0), [], 0), some ((.goto 16), (3, 54, 0, 0), [], 0), none, none, some ((.iload_n 3), (1, 0, 0, 0), [], 0), some ((.iload_n 1), (1, 0, 0, 0), [], 0), some ((.if_icmp .ne 8), (3, 51, 0, 0), [], 0), none, none, some ((.iload 4), (2, 0, 0, 0), [], 0), none, some ((.goto 6), (3, 54, 0, 0), [], 0), none, none, some ((.sipush 1000), (3, 0, 0, 0), [], 1000), none, none, some (.ireturn, (1, 0, 0, 0), [], 0)]
/-- MeshNamesModel.goOn(II)I -/
def k_89 : List (Option AE) := [some ((.bipush (-6)), (2, 0, 0, 0), [], (-6)), none, some ((.istore_n 3), (1, 0, 0, 0), [], 0), some ((.sipush 1000), (3, 0, 0, 0), [], 1000), none, none, some ((.istore 4), (2, 0, 0, 0), [], 0), none, some ((.iconst 0), (1, 0, 0, 0), [], 0), some ((.istore 5), (2, 0, 0, 0), [], 0), none, some ((.iload 5), (2, 0, 0, 0), [], 0), none, some ((.bipush 8), (2, 0, 0, 0), [], 8), none, some ((.if_icmp .ge 42), (3, 57, 0, 0), [], 0), none, none, some ((.aload_n 0), (1, 0, 0, 0), [], 0), some ((.iload 5), (2, 0, 0, 0), [], 0), none, some ((.iload_n 1), (1, 0, 0, 0), [], 0), some ((.iload_n 2), (1, 0, 0, 0), [], 0), some ((.invokevirtual 139), (3, 88, 4, 721), [2], 0), none, none, some ((.istore 6), (2, 0, 0, 0), [], 0), none, some ((.iload 6), (2, 0, 0, 0), [], 0), none, some ((.iload 4), (2, 0, 0, 0), [], 0), none, some ((.if_icmp .ge 8), (3, 40, 0, 0), [], 0), none, none, some ((.iload 5), (2, 0, 0, 0), [], 0), none, some ((.goto 4), (3, 41, 0, 0), [], 0), none, none, some ((.iload_n 3), (1, 0, 0, 0), [], 0), some ((.istore_n 3), (1, 0, 0, 0), [], 0), some ((.iload 6), (2, 0, 0, 0), [], 0), none, some ((.iload 4), (2, 0, 0, 0), [], 0), none, some ((.invokestatic 127), (3, 76, 2, 706), [0], 0), none, none, some ((.istore 4), (2, 0, 0, 0), [], 0), none, some ((.iinc 5 1), (3, 0, 0, 0), [], 1), none, none, some ((.goto (-43)), (3, 11, 0, 0), [], 0), none, none, some ((.aload_n 0), (1, 0, 0, 0), [], 0), some ((.iload_n 3), (1, 0, 0, 0), [], 0), some ((.iload_n 1), (1, 0, 0, 0), [], 0), some ((.invokevirtual 103), (3, 59, 3, 672), [2], 0), none, none, some ((.istore 5), (2, 0, 0, 0), [], 0), none, some ((.aload_n 0), (1, 0, 0, 0), [], 0), some ((.getfield 26), (3, 5, 5, 530), [1, 1], 0), none, none, some ((.bipush 8), (2, 0, 0, 0), [], 8), none, some ((.iload_n 3), (1, 0, 0, 0), [], 0), some (.imul, (1, 0, 0, 0), [], 0), some ((.iload_n 2), (1, 0, 0, 0), [], 0), some ((.aload_n 0), (1, 0, 0, 0), [], 0), some ((.getfield 23), (3, 5, 4, 529), [1, 1], 0), none, none, some ((.iload_n 3), (1, 0, 0, 0), [], 0), some (.iaload, (1, 0, 0, 0), [], 0), some ((.if_icmp .ne 10), (3, 90, 0, 0), [], 0), none, none, some ((.iload 5), (2, 0, 0, 0), [], 0), none, some ((.iconst 1), (1, 0, 0, 0), [], 1), some (.iadd, (1, 0, 0, 0), [], 0), some ((.goto 7), (3, 94, 0, 0), [], 0), none, none, some ((.iload 5), (2, 0, 0, 0), [], 0), none, some ((.iconst 1), (1, 0, 0, 0), [], 1), some (.isub, (1, 0, 0, 0), [], 0), some (.iadd, (1, 0, 0, 0), [], 0), some (.iaload, (1, 0, 0, 0), [], 0), some (.ireturn, (1, 0, 0, 0), [], 0)]
/-- MeshNamesModel.layRoute(II)V -/
def k_90 : List (Option AE) := [some ((.iload_n 1), (1, 0, 0, 0), [], 0), some ((.istore_n 3), (1, 0, 0, 0), [], 0), some ((.aload_n 0), (1, 0, 0, 0), [], 0), some ((.getfield 32), (3, 5, 7, 532), [1, 1], 0), none, none, some ((.iconst 0), (1, 0, 0, 0), [], 0), some ((.iload_n 1), (1, 0, 0, 0), [], 0), some (.iastore, (1, 0, 0, 0), [], 0), some ((.aload_n 0), (1, 0, 0, 0), [], 0), some ((.iconst 1), (1, 0, 0, 0), [], 1), some ((.putfield 143), (3, 5, 8, 533), [0, 0], 0), none, none, some ((.aload_n 0), (1, 0, 0, 0), [], 0), some ((.aload_n 0), (1, 0, 0, 0), [], 0), some ((.iload_n 3), (1, 0, 0, 0), [], 0), some ((.invokevirtual 121), (3, 61, 2, 676), [2], 0), none, none, some ((.iconst 1), (1, 0, 0, 0), [], 1), some ((.iload_n 3), (1, 0, 0, 0), [], 0), some (.ishl, (1, 0, 0, 0), [], 0), some (.ior, (1, 0, 0, 0), [], 0), some ((.iload_n 2), (1, 0, 0, 0), [], 0), some ((.invokevirtual 136), (3, 79, 3, 695), [2], 0), none, none, some ((.istore 4), (2, 0, 0, 0), [], 0), none, some ((.iload 4), (2, 0, 0, 0), [], 0), none, some ((.iload_n 3), (1, 0, 0, 0), [], 0), some ((.if_icmp .eq 50), (3, 83, 0, 0), [], 0), none, none, some ((.aload_n 0), (1, 0, 0, 0), [], 0), some ((.iload_n 3), (1, 0, 0, 0), [], 0), some ((.iload 4), (2, 0, 0, 0), [], 0), none, some ((.invokevirtual 147), (3, 89, 3, 717), [2], 0), none, none, some ((.istore_n 3), (1, 0, 0, 0), [], 0), some ((.aload_n 0), (1, 0, 0, 0), [], 0), some ((.getfield 32), (3, 5, 7, 532), [1, 1], 0), none, none, some ((.aload_n 0), (1, 0, 0, 0), [], 0), some ((.getfield 143), (3, 5, 8, 533), [0, 0], 0), none, none, some ((.iload_n 3), (1, 0, 0, 0), [], 0), some (.iastore, (1, 0, 0, 0), [], 0), some ((.aload_n 0), (1, 0, 0, 0), [], 0), some (.dup, (1, 0, 0, 0), [], 0), some ((.getfield 143), (3, 5, 8, 533), [0, 0], 0), none, none, some ((.iconst 1), (1, 0, 0, 0), [], 1), some (.iadd, (1, 0, 0, 0), [], 0), some ((.putfield 143), (3, 5, 8, 533), [0, 0], 0), none, none, some ((.aload_n 0), (1, 0, 0, 0), [], 0), some ((.aload_n 0), (1, 0, 0, 0), [], 0), some ((.iload_n 3), (1, 0, 0, 0), [], 0), some ((.invokevirtual 121), (3, 61, 2, 676), [2], 0), none, none, some ((.iconst 1), (1, 0, 0, 0), [], 1), some ((.iload_n 3), (1, 0, 0, 0), [], 0), some (.ishl, (1, 0, 0, 0), [], 0), some (.ior, (1, 0, 0, 0), [], 0), some ((.iload_n 2), (1, 0, 0, 0), [], 0), some ((.invokevirtual 136), (3, 79, 3, 695), [2], 0), none, none, some ((.istore 4), (2, 0, 0, 0), [], 0), none, some ((.goto (-50)), (3, 30, 0, 0), [], 0), none, none, some (.return_, (1, 0, 0, 0), [], 0)]
/-- MeshNamesModel.route(III)I -/
def k_91 : List (Option AE) := [some ((.iload_n 1), (1, 0, 0, 0), [], 0), some ((.invokestatic 60), (3, 26, 1, 576), [0], 0), none, none, some ((.ifCond .ne 5), (3, 9, 0, 0), [], 0), none, none, some ((.iconst (-1)), (1, 0, 0, 0), [], (-1)), some (.ireturn, (1, 0, 0, 0), [], 0), some ((.iload_n 2), (1, 0, 0, 0), [], 0), some ((.invokestatic 63), (3, 27, 1, 582), [0], 0), none, none, some ((.ifCond .eq 8), (3, 21, 0, 0), [], 0), none, none, some ((.iload_n 3), (1, 0, 0, 0), [], 0), some ((.iconst (-1)), (1, 0, 0, 0), [], (-1)), some ((.if_icmp .ge 6), (3, 24, 0, 0), [], 0), none, none, some ((.bipush (-2)), (2, 0, 0, 0), [], (-2)), none, some (.ireturn, (1, 0, 0, 0), [], 0), some ((.aload_n 0), (1, 0, 0, 0), [], 0), some ((.iload_n 1), (1, 0, 0, 0), [], 0), some ((.invokevirtual 56), (3, 28, 2, 585), [2], 0), none, none, some ((.ifCond .ne 6), (3, 35, 0, 0), [], 0), none, none, some ((.bipush (-3)), (2, 0, 0, 0), [], (-3)), none, some (.ireturn, (1, 0, 0, 0), [], 0), some ((.aload_n 0), (1, 0, 0, 0), [], 0), some ((.invokevirtual 106), (3, 55, 1, 616), [2], 0), none, none, some ((.aload_n 0), (1, 0, 0, 0), [], 0), some ((.iload_n 1), (1, 0, 0, 0), [], 0), some ((.iload_n 2), (1, 0, 0, 0), [], 0), some ((.invokevirtual 150), (3, 90, 3, 713), [2], 0), none, none, some ((.iload_n 3), (1, 0, 0, 0), [], 0), some ((.iconst (-1)), (1, 0, 0, 0), [], (-1)), some ((.if_icmp .ne 12), (3, 59, 0, 0), [], 0), none, none, some ((.aload_n 0), (1, 0, 0, 0), [], 0), some ((.getfield 143), (3, 5, 8, 533), [0, 0], 0), none, none, some ((.iconst 1), (1, 0, 0, 0), [], 1), some (.isub, (1, 0, 0, 0), [], 0), some ((.goto 22), (3, 78, 0, 0), [], 0), none, none, some ((.iload_n 3), (1, 0, 0, 0), [], 0), some ((.aload_n 0), (1, 0, 0, 0), [], 0), some ((.getfield 143), (3, 5, 8, 533), [0, 0], 0), none, none, some ((.if_icmp .ge 12), (3, 76, 0, 0), [], 0), none, none, some ((.aload_n 0), (1, 0, 0, 0), [], 0), some ((.getfield 32), (3, 5, 7, 532), [1, 1], 0), none, none, some ((.iload_n 3), (1, 0, 0, 0), [], 0), some (.iaload, (1, 0, 0, 0), [], 0), some ((.goto 5), (3, 78, 0, 0), [], 0), none, none, some ((.bipush (-6)), (2, 0, 0, 0), [], (-6)), none, some (.ireturn, (1, 0, 0, 0), [], 0)]
/-- MeshNames$Route.lastNode()I -/
def k_92 : List (Option AE) := [some ((.aload_n 0), (1, 0, 0, 0), [], 0), some ((.aload_n 0), (1, 0, 0, 0), [], 0), some ((.getfield 19), (3, 2, 2, 142), [0, 0], 0), none, none, some ((.iconst 1), (1, 0, 0, 0), [], 1), some (.isub, (1, 0, 0, 0), [], 0), some ((.invokevirtual 77), (3, 86, 2, 407), [2], 0), none, none, some (.ireturn, (1, 0, 0, 0), [], 0)]
/-- MeshNames$Route.countSpare()I -/
def k_93 : List (Option AE) := [some ((.aload_n 0), (1, 0, 0, 0), [], 0), some ((.iconst 0), (1, 0, 0, 0), [], 0), some ((.invokevirtual 77), (3, 86, 2, 407), [2], 0), none, none, some ((.istore_n 1), (1, 0, 0, 0), [], 0), some ((.aload_n 0), (1, 0, 0, 0), [], 0), some ((.invokevirtual 80), (3, 92, 1, 408), [2], 0), none, none, some ((.istore_n 2), (1, 0, 0, 0), [], 0), some ((.iload_n 1), (1, 0, 0, 0), [], 0), some ((.invokestatic 32), (3, 14, 1, 374), [1], 0), none, none, some ((.ifCond .eq 10), (3, 25, 0, 0), [], 0), none, none, some ((.iload_n 2), (1, 0, 0, 0), [], 0), some ((.invokestatic 32), (3, 14, 1, 374), [1], 0), none, none, some ((.ifCond .ne 5), (3, 27, 0, 0), [], 0), none, none, some ((.iconst 0), (1, 0, 0, 0), [], 0), some (.ireturn, (1, 0, 0, 0), [], 0), some ((.aload_n 0), (1, 0, 0, 0), [], 0), some ((.invokevirtual 84), (3, 85, 1, 412), [2], 0), none, none, some ((.aload_n 0), (1, 0, 0, 0), [], 0), some ((.getfield 9), (3, 2, 0, 140), [1, 1], 0), none, none, some ((.getfield 87), (3, 1, 4, 111), [1, 1], 0), none, none, some ((.iload_n 1), (1, 0, 0, 0), [], 0), some ((.bipush 8), (2, 0, 0, 0), [], 8), none, some (.imul, (1, 0, 0, 0), [], 0), some ((.iload_n 2), (1, 0, 0, 0), [], 0), some (.iadd, (1, 0, 0, 0), [], 0), some (.iaload, (1, 0, 0, 0), [], 0), some (.isub, (1, 0, 0, 0), [], 0), some (.ireturn, (1, 0, 0, 0), [], 0)]
/-- MeshNames.spare(II)I -/
def k_94 : List (Option AE) := [some ((.aload_n 0), (1, 0, 0, 0), [], 0), some ((.iload_n 1), (1, 0, 0, 0), [], 0), some ((.iload_n 2), (1, 0, 0, 0), [], 0), some ((.invokevirtual 128), (3, 70, 3, 349), [2], 0), none, none, some ((.istore_n 3), (1, 0, 0, 0), [], 0), some ((.iload_n 3), (1, 0, 0, 0), [], 0), some ((.ifCond .eq 5), (3, 13, 0, 0), [], 0), none, none, some ((.iload_n 3), (1, 0, 0, 0), [], 0), some (.ireturn, (1, 0, 0, 0), [], 0), some ((.aload_n 0), (1, 0, 0, 0), [], 0), some ((.getfield 30), (3, 4, 2, 244), [1, 1], 0), none, none, some ((.iload_n 1), (1, 0, 0, 0), [], 0), some ((.iload_n 2), (1, 0, 0, 0), [], 0), some ((.invokevirtual 134), (3, 84, 3, 370), [2], 0), none, none, some ((.aload_n 0), (1, 0, 0, 0), [], 0), some ((.getfield 30), (3, 4, 2, 244), [1, 1], 0), none, none, some ((.invokevirtual 142), (3, 93, 1, 403), [2], 0), none, none, some (.ireturn, (1, 0, 0, 0), [], 0)]
/-- MeshNamesModel.spareNow()I -/
def k_95 : List (Option AE) := [some ((.aload_n 0), (1, 0, 0, 0), [], 0), some ((.getfield 143), (3, 5, 8, 533), [0, 0], 0), none, none, some ((.iconst 1), (1, 0, 0, 0), [], 1), some (.isub, (1, 0, 0, 0), [], 0), some ((.aload_n 0), (1, 0, 0, 0), [], 0), some ((.getfield 20), (3, 5, 3, 528), [1, 1], 0), none, none, some ((.bipush 8), (2, 0, 0, 0), [], 8), none, some ((.aload_n 0), (1, 0, 0, 0), [], 0), some ((.getfield 32), (3, 5, 7, 532), [1, 1], 0), none, none, some ((.iconst 0), (1, 0, 0, 0), [], 0), some (.iaload, (1, 0, 0, 0), [], 0), some (.imul, (1, 0, 0, 0), [], 0), some ((.aload_n 0), (1, 0, 0, 0), [], 0), some ((.getfield 32), (3, 5, 7, 532), [1, 1], 0), none, none, some ((.aload_n 0), (1, 0, 0, 0), [], 0), some ((.getfield 143), (3, 5, 8, 533), [0, 0], 0), none, none, some ((.iconst 1), (1, 0, 0, 0), [], 1), some (.isub, (1, 0, 0, 0), [], 0), some (.iaload, (1, 0, 0, 0), [], 0), some (.iadd, (1, 0, 0, 0), [], 0), some (.iaload, (1, 0, 0, 0), [], 0), some (.isub, (1, 0, 0, 0), [], 0), some (.ireturn, (1, 0, 0, 0), [], 0)]
/-- MeshNamesModel.spare(II)I -/
def k_96 : List (Option AE) := [some ((.iload_n 1), (1, 0, 0, 0), [], 0), some ((.invokestatic 60), (3, 26, 1, 576), [0], 0), none, none, some ((.ifCond .ne 5), (3, 9, 0, 0), [], 0), none, none, some ((.iconst (-1)), (1, 0, 0, 0), [], (-1)), some (.ireturn, (1, 0, 0, 0), [], 0), some ((.iload_n 2), (1, 0, 0, 0), [], 0), some ((.invokestatic 63), (3, 27, 1, 582), [0], 0), none, none, some ((.ifCond .ne 6), (3, 19, 0, 0), [], 0), none, none, some ((.bipush (-2)), (2, 0, 0, 0), [], (-2)), none, some (.ireturn, (1, 0, 0, 0), [], 0), some ((.aload_n 0), (1, 0, 0, 0), [], 0), some ((.iload_n 1), (1, 0, 0, 0), [], 0), some ((.invokevirtual 56), (3, 28, 2, 585), [2], 0), none, none, some ((.ifCond .ne 6), (3, 30, 0, 0), [], 0), none, none, some ((.bipush (-3)), (2, 0, 0, 0), [], (-3)), none, some (.ireturn, (1, 0, 0, 0), [], 0), some ((.aload_n 0), (1, 0, 0, 0), [], 0), some ((.invokevirtual 106), (3, 55, 1, 616), [2], 0), none, none, some ((.aload_n 0), (1, 0, 0, 0), [], 0), some ((.iload_n 1), (1, 0, 0, 0), [], 0), some ((.iload_n 2), (1, 0, 0, 0), [], 0), some ((.invokevirtual 150), (3, 90, 3, 713), [2], 0), none, none, some ((.aload_n 0), (1, 0, 0, 0), [], 0), some ((.invokevirtual 154), (3, 95, 1, 729), [2], 0), none, none, some (.ireturn, (1, 0, 0, 0), [], 0)]
/-- java/lang/Math.max(II)I -/
def k_97 : List (Option AE) := [some ((.iload_n 0), (1, 0, 0, 0), [], 0), some ((.iload_n 1), (1, 0, 0, 0), [], 0), some ((.if_icmp .lt 7), (3, 9, 0, 0), [], 0), none, none, some ((.iload_n 0), (1, 0, 0, 0), [], 0), some ((.goto 4), (3, 10, 0, 0), [], 0), none, none, some ((.iload_n 1), (1, 0, 0, 0), [], 0), some (.ireturn, (1, 0, 0, 0), [], 0)]
/-- MeshNames$Route.between()I -/
def k_98 : List (Option AE) := [some ((.iconst 0), (1, 0, 0, 0), [], 0), some ((.istore_n 1), (1, 0, 0, 0), [], 0), some ((.iconst 1), (1, 0, 0, 0), [], 1), some ((.istore_n 2), (1, 0, 0, 0), [], 0), some ((.iload_n 2), (1, 0, 0, 0), [], 0), some ((.aload_n 0), (1, 0, 0, 0), [], 0), some ((.getfield 19), (3, 2, 2, 142), [0, 0], 0), none, none, some ((.iconst 1), (1, 0, 0, 0), [], 1), some (.isub, (1, 0, 0, 0), [], 0), some ((.if_icmp .ge 21), (3, 32, 0, 0), [], 0), none, none, some ((.iload_n 1), (1, 0, 0, 0), [], 0), some ((.aload_n 0), (1, 0, 0, 0), [], 0), some ((.getfield 15), (3, 2, 1, 141), [1, 1], 0), none, none, some ((.iload_n 2), (1, 0, 0, 0), [], 0), some (.iaload, (1, 0, 0, 0), [], 0), some ((.invokestatic 90), (3, 5, 1, 436), [1], 0), none, none, some (.ior, (1, 0, 0, 0), [], 0), some ((.istore_n 1), (1, 0, 0, 0), [], 0), some ((.iinc 2 1), (3, 0, 0, 0), [], 1), none, none, some ((.goto (-25)), (3, 4, 0, 0), [], 0), none, none, some ((.iload_n 1), (1, 0, 0, 0), [], 0), some ((.aload_n 0), (1, 0, 0, 0), [], 0), some ((.iconst 0), (1, 0, 0, 0), [], 0), some ((.invokevirtual 77), (3, 86, 2, 407), [2], 0), none, none, some ((.invokestatic 90), (3, 5, 1, 436), [1], 0), none, none, some ((.iconst (-1)), (1, 0, 0, 0), [], (-1)), some (.ixor, (1, 0, 0, 0), [], 0), some (.iand, (1, 0, 0, 0), [], 0), some ((.aload_n 0), (1, 0, 0, 0), [], 0), some ((.invokevirtual 80), (3, 92, 1, 408), [2], 0), none, none, some ((.invokestatic 90), (3, 5, 1, 436), [1], 0), none, none, some ((.iconst (-1)), (1, 0, 0, 0), [], (-1)), some (.ixor, (1, 0, 0, 0), [], 0), some (.iand, (1, 0, 0, 0), [], 0), some (.ireturn, (1, 0, 0, 0), [], 0)]
/-- MeshNames$Survey.note()V -/
def k_99 : List (Option AE) := [some ((.aload_n 0), (1, 0, 0, 0), [], 0), some ((.getfield 15), (3, 3, 1, 170), [1, 1], 0), none, none, some ((.invokevirtual 63), (3, 93, 1, 427), [2], 0), none, none, some ((.istore_n 1), (1, 0, 0, 0), [], 0), some ((.aload_n 0), (1, 0, 0, 0), [], 0), some ((.aload_n 0), (1, 0, 0, 0), [], 0), some ((.getfield 26), (3, 3, 3, 172), [0, 0], 0), none, none, some ((.iload_n 1), (1, 0, 0, 0), [], 0), some ((.invokestatic 67), (3, 97, 2, 428), [0], 0), none, none, some ((.putfield 26), (3, 3, 3, 172), [0, 0], 0), none, none, some ((.aload_n 0), (1, 0, 0, 0), [], 0), some (.dup, (1, 0, 0, 0), [], 0), some ((.getfield 30), (3, 3, 4, 174), [0, 0], 0), none, none, some ((.iload_n 1), (1, 0, 0, 0), [], 0), some (.iadd, (1, 0, 0, 0), [], 0), some ((.putfield 30), (3, 3, 4, 174), [0, 0], 0), none, none, some ((.aload_n 0), (1, 0, 0, 0), [], 0), some ((.aload_n 0), (1, 0, 0, 0), [], 0), some ((.getfield 33), (3, 3, 5, 176), [0, 0], 0), none, none, some ((.aload_n 0), (1, 0, 0, 0), [], 0), some ((.getfield 15), (3, 3, 1, 170), [1, 1], 0), none, none, some ((.invokevirtual 73), (3, 85, 1, 431), [2], 0), none, none, some ((.invokestatic 67), (3, 97, 2, 428), [0], 0), none, none, some ((.putfield 33), (3, 3, 5, 176), [0, 0], 0), none, none, some ((.aload_n 0), (1, 0, 0, 0), [], 0), some ((.getfield 15), (3, 3, 1, 170), [1, 1], 0), none, none, some ((.invokevirtual 76), (3, 98, 1, 432), [2], 0), none, none, some ((.istore_n 2), (1, 0, 0, 0), [], 0), some ((.iconst 0), (1, 0, 0, 0), [], 0), some ((.istore_n 3), (1, 0, 0, 0), [], 0), some ((.iload_n 3), (1, 0, 0, 0), [], 0), some ((.bipush 8), (2, 0, 0, 0), [], 8), none, some ((.if_icmp .ge 27), (3, 88, 0, 0), [], 0), none, none, some ((.iload_n 2), (1, 0, 0, 0), [], 0), some ((.iload_n 3), (1, 0, 0, 0), [], 0), some ((.invokestatic 41), (3, 6, 2, 421), [1], 0), none, none, some ((.ifCond .eq 13), (3, 82, 0, 0), [], 0), none, none, some ((.aload_n 0), (1, 0, 0, 0), [], 0), some ((.getfield 19), (3, 3, 2, 171), [1, 1], 0), none, none, some ((.iload_n 3), (1, 0, 0, 0), [], 0), some (.dup2, (1, 0, 0, 0), [], 0), some (.iaload, (1, 0, 0, 0), [], 0), some ((.iconst 1), (1, 0, 0, 0), [], 1), some (.iadd, (1, 0, 0, 0), [], 0), some (.iastore, (1, 0, 0, 0), [], 0), some ((.iinc 3 1), (3, 0, 0, 0), [], 1), none, none, some ((.goto (-27)), (3, 58, 0, 0), [], 0), none, none, some (.return_, (1, 0, 0, 0), [], 0)]
/-- MeshNames$Survey.take()V -/
def k_100 : List (Option AE) := [some ((.aload_n 0), (1, 0, 0, 0), [], 0), some ((.invokevirtual 23), (3, 3, 1, 165), [2], 0), none, none, some ((.iconst 0), (1, 0, 0, 0), [], 0), some ((.istore_n 1), (1, 0, 0, 0), [], 0), some ((.iload_n 1), (1, 0, 0, 0), [], 0), some ((.bipush 8), (2, 0, 0, 0), [], 8), none, some ((.if_icmp .ge 68), (3, 77, 0, 0), [], 0), none, none, some ((.iconst 0), (1, 0, 0, 0), [], 0), some ((.istore_n 2), (1, 0, 0, 0), [], 0), some ((.iload_n 2), (1, 0, 0, 0), [], 0), some ((.bipush 8), (2, 0, 0, 0), [], 8), none, some ((.if_icmp .ge 54), (3, 71, 0, 0), [], 0), none, none, some ((.iload_n 2), (1, 0, 0, 0), [], 0), some ((.iload_n 1), (1, 0, 0, 0), [], 0), some ((.if_icmp .eq 43), (3, 65, 0, 0), [], 0), none, none, some ((.aload_n 0), (1, 0, 0, 0), [], 0), some ((.getfield 9), (3, 3, 0, 169), [1, 1], 0), none, none, some ((.getfield 36), (3, 1, 1, 103), [1, 1], 0), none, none, some ((.iload_n 1), (1, 0, 0, 0), [], 0), some (.iaload, (1, 0, 0, 0), [], 0), some ((.iload_n 2), (1, 0, 0, 0), [], 0), some ((.invokestatic 41), (3, 6, 2, 421), [1], 0), none, none, some ((.ifCond .eq 27), (3, 65, 0, 0), [], 0), none, none, some ((.aload_n 0), (1, 0, 0, 0), [], 0), some ((.getfield 15), (3, 3, 1, 170), [1, 1], 0), none, none, some ((.iload_n 1), (1, 0, 0, 0), [], 0), some ((.aload_n 0), (1, 0, 0, 0), [], 0), some ((.getfield 9), (3, 3, 0, 169), [1, 1], 0), none, none, some ((.getfield 45), (3, 1, 0, 100), [1, 1], 0), none, none, some ((.getfield 49), (3, 0, 0, 78), [1, 1], 0), none, none, some ((.iload_n 2), (1, 0, 0, 0), [], 0), some (.iaload, (1, 0, 0, 0), [], 0), some ((.invokevirtual 54), (3, 84, 3, 422), [2], 0), none, none, some ((.aload_n 0), (1, 0, 0, 0), [], 0), some ((.invokevirtual 60), (3, 99, 1, 423), [2], 0), none, none, some ((.iinc 2 1), (3, 0, 0, 0), [], 1), none, none, some ((.goto (-54)), (3, 14, 0, 0), [], 0), none, none, some ((.iinc 1 1), (3, 0, 0, 0), [], 1), none, none, some ((.goto (-68)), (3, 6, 0, 0), [], 0), none, none, some (.return_, (1, 0, 0, 0), [], 0)]
/-- MeshNames$Survey.busiest()I -/
def k_101 : List (Option AE) := [some ((.bipush (-6)), (2, 0, 0, 0), [], (-6)), none, some ((.istore_n 1), (1, 0, 0, 0), [], 0), some ((.iconst 0), (1, 0, 0, 0), [], 0), some ((.istore_n 2), (1, 0, 0, 0), [], 0), some ((.iconst 0), (1, 0, 0, 0), [], 0), some ((.istore_n 3), (1, 0, 0, 0), [], 0), some ((.iload_n 3), (1, 0, 0, 0), [], 0), some ((.bipush 8), (2, 0, 0, 0), [], 8), none, some ((.if_icmp .ge 28), (3, 38, 0, 0), [], 0), none, none, some ((.aload_n 0), (1, 0, 0, 0), [], 0), some ((.getfield 19), (3, 3, 2, 171), [1, 1], 0), none, none, some ((.iload_n 3), (1, 0, 0, 0), [], 0), some (.iaload, (1, 0, 0, 0), [], 0), some ((.iload_n 2), (1, 0, 0, 0), [], 0), some ((.if_icmp .le 12), (3, 32, 0, 0), [], 0), none, none, some ((.aload_n 0), (1, 0, 0, 0), [], 0), some ((.getfield 19), (3, 3, 2, 171), [1, 1], 0), none, none, some ((.iload_n 3), (1, 0, 0, 0), [], 0), some (.iaload, (1, 0, 0, 0), [], 0), some ((.istore_n 2), (1, 0, 0, 0), [], 0), some ((.iload_n 3), (1, 0, 0, 0), [], 0), some ((.istore_n 1), (1, 0, 0, 0), [], 0), some ((.iinc 3 1), (3, 0, 0, 0), [], 1), none, none, some ((.goto (-28)), (3, 7, 0, 0), [], 0), none, none, some ((.iload_n 1), (1, 0, 0, 0), [], 0), some (.ireturn, (1, 0, 0, 0), [], 0)]
/-- MeshNames.worst(I)I -/
def k_102 : List (Option AE) := [some ((.iload_n 1), (1, 0, 0, 0), [], 0), some ((.ifCond .lt 8), (3, 9, 0, 0), [], 0), none, none, some ((.iload_n 1), (1, 0, 0, 0), [], 0), some ((.iconst 3), (1, 0, 0, 0), [], 3), some ((.if_icmp .le 6), (3, 12, 0, 0), [], 0), none, none, some ((.bipush (-2)), (2, 0, 0, 0), [], (-2)), none, some (.ireturn, (1, 0, 0, 0), [], 0), some ((.aload_n 0), (1, 0, 0, 0), [], 0), some ((.getfield 39), (3, 4, 3, 245), [1, 1], 0), none, none, some ((.invokevirtual 145), (3, 100, 1, 417), [2], 0), none, none, some ((.iload_n 1), (1, 0, 0, 0), [], 0), some ((.tableswitch 52 0 2 #[28, 36, 44]), (28, 72, 0, 0), [48, 56, 64], 0), none, none, none, none, none, none, none, none, none, none, none, none, none, none, none, none, none, none, none, none, none, none, none, none, none, none, none, some ((.aload_n 0), (1, 0, 0, 0), [], 0), some ((.getfield 39), (3, 4, 3, 245), [1, 1], 0), none, none, some ((.getfield 148), (3, 3, 3, 173), [0, 0], 0), none, none, some (.ireturn, (1, 0, 0, 0), [], 0), some ((.aload_n 0), (1, 0, 0, 0), [], 0), some ((.getfield 39), (3, 4, 3, 245), [1, 1], 0), none, none, some ((.getfield 151), (3, 3, 4, 175), [0, 0], 0), none, none, some (.ireturn, (1, 0, 0, 0), [], 0), some ((.aload_n 0), (1, 0, 0, 0), [], 0), some ((.getfield 39), (3, 4, 3, 245), [1, 1], 0), none, none, some ((.getfield 154), (3, 3, 5, 177), [0, 0], 0), none, none, some (.ireturn, (1, 0, 0, 0), [], 0), some ((.aload_n 0), (1, 0, 0, 0), [], 0), some ((.getfield 39), (3, 4, 3, 245), [1, 1], 0), none, none, some ((.invokevirtual 157), (3, 101, 1, 437), [2], 0), none, none, some (.ireturn, (1, 0, 0, 0), [], 0)]
/-- MeshNamesModel.isBetween(I)Z -/
def k_103 : List (Option AE) := [some ((.iconst 0), (1, 0, 0, 0), [], 0), some ((.istore_n 2), (1, 0, 0, 0), [], 0), some ((.iconst 1), (1, 0, 0, 0), [], 1), some ((.istore_n 3), (1, 0, 0, 0), [], 0), some ((.iload_n 3), (1, 0, 0, 0), [], 0), some ((.iconst 1), (1, 0, 0, 0), [], 1), some (.iadd, (1, 0, 0, 0), [], 0), some ((.aload_n 0), (1, 0, 0, 0), [], 0), some ((.getfield 143), (3, 5, 8, 533), [0, 0], 0), none, none, some ((.if_icmp .ge 29), (3, 40, 0, 0), [], 0), none, none, some ((.iload_n 2), (1, 0, 0, 0), [], 0), some ((.ifCond .ne 13), (3, 28, 0, 0), [], 0), none, none, some ((.aload_n 0), (1, 0, 0, 0), [], 0), some ((.getfield 32), (3, 5, 7, 532), [1, 1], 0), none, none, some ((.iload_n 3), (1, 0, 0, 0), [], 0), some (.iaload, (1, 0, 0, 0), [], 0), some ((.iload_n 1), (1, 0, 0, 0), [], 0), some ((.if_icmp .ne 7), (3, 32, 0, 0), [], 0), none, none, some ((.iconst 1), (1, 0, 0, 0), [], 1), some ((.goto 4), (3, 33, 0, 0), [], 0), none, none, some ((.iconst 0), (1, 0, 0, 0), [], 0), some ((.istore_n 2), (1, 0, 0, 0), [], 0), some ((.iinc 3 1), (3, 0, 0, 0), [], 1), none, none, some ((.goto (-33)), (3, 4, 0, 0), [], 0), none, none, some ((.iload_n 2), (1, 0, 0, 0), [], 0), some ((.ifCond .eq 32), (3, 73, 0, 0), [], 0), none, none, some ((.iload_n 1), (1, 0, 0, 0), [], 0), some ((.aload_n 0), (1, 0, 0, 0), [], 0), some ((.getfield 32), (3, 5, 7, 532), [1, 1], 0), none, none, some ((.iconst 0), (1, 0, 0, 0), [], 0), some (.iaload, (1, 0, 0, 0), [], 0), some ((.if_icmp .eq 22), (3, 73, 0, 0), [], 0), none, none, some ((.iload_n 1), (1, 0, 0, 0), [], 0), some ((.aload_n 0), (1, 0, 0, 0), [], 0), some ((.getfield 32), (3, 5, 7, 532), [1, 1], 0), none, none, some ((.aload_n 0), (1, 0, 0, 0), [], 0), some ((.getfield 143), (3, 5, 8, 533), [0, 0], 0), none, none, some ((.iconst 1), (1, 0, 0, 0), [], 1), some (.isub, (1, 0, 0, 0), [], 0), some (.iaload, (1, 0, 0, 0), [], 0), some ((.if_icmp .eq 7), (3, 73, 0, 0), [], 0), none, none, some ((.iconst 1), (1, 0, 0, 0), [], 1), some ((.goto 4), (3, 74, 0, 0), [], 0), none, none, some ((.iconst 0), (1, 0, 0, 0), [], 0), some (.ireturn, (1, 0, 0, 0), [], 0)]
/-- MeshNamesModel.count(II)V -/
def k_104 : List (Option AE) := [some ((.aload_n 0), (1, 0, 0, 0), [], 0), some ((.iload_n 1), (1, 0, 0, 0), [], 0), some ((.aload_n 0), (1, 0, 0, 0), [], 0), some ((.getfield 7), (3, 5, 0, 525), [1, 1], 0), none, none, some ((.bipush 8), (2, 0, 0, 0), [], 8), none, some ((.iload_n 2), (1, 0, 0, 0), [], 0), some (.iadd, (1, 0, 0, 0), [], 0), some (.iaload, (1, 0, 0, 0), [], 0), some ((.invokevirtual 150), (3, 90, 3, 713), [2], 0), none, none, some ((.aload_n 0), (1, 0, 0, 0), [], 0), some ((.invokevirtual 154), (3, 95, 1, 729), [2], 0), none, none, some ((.istore_n 3), (1, 0, 0, 0), [], 0), some ((.aload_n 0), (1, 0, 0, 0), [], 0), some ((.iload_n 3), (1, 0, 0, 0), [], 0), some ((.aload_n 0), (1, 0, 0, 0), [], 0), some ((.getfield 157), (3, 5, 9, 534), [0, 0], 0), none, none, some ((.if_icmp .le 7), (3, 32, 0, 0), [], 0), none, none, some ((.iload_n 3), (1, 0, 0, 0), [], 0), some ((.goto 7), (3, 36, 0, 0), [], 0), none, none, some ((.aload_n 0), (1, 0, 0, 0), [], 0), some ((.getfield 157), (3, 5, 9, 534), [0, 0], 0), none, none, some ((.putfield 157), (3, 5, 9, 534), [0, 0], 0), none, none, some ((.aload_n 0), (1, 0, 0, 0), [], 0), some (.dup, (1, 0, 0, 0), [], 0), some ((.getfield 160), (3, 5, 10, 535), [0, 0], 0), none, none, some ((.iload_n 3), (1, 0, 0, 0), [], 0), some (.iadd, (1, 0, 0, 0), [], 0), some ((.putfield 160), (3, 5, 10, 535), [0, 0], 0), none, none, some ((.aload_n 0), (1, 0, 0, 0), [], 0), some ((.aload_n 0), (1, 0, 0, 0), [], 0), some ((.getfield 143), (3, 5, 8, 533), [0, 0], 0), none, none, some ((.iconst 1), (1, 0, 0, 0), [], 1), some (.isub, (1, 0, 0, 0), [], 0), some ((.aload_n 0), (1, 0, 0, 0), [], 0), some ((.getfield 163), (3, 5, 11, 536), [0, 0], 0), none, none, some ((.if_icmp .le 12), (3, 72, 0, 0), [], 0), none, none, some ((.aload_n 0), (1, 0, 0, 0), [], 0), some ((.getfield 143), (3, 5, 8, 533), [0, 0], 0), none, none, some ((.iconst 1), (1, 0, 0, 0), [], 1), some (.isub, (1, 0, 0, 0), [], 0), some ((.goto 7), (3, 76, 0, 0), [], 0), none, none, some ((.aload_n 0), (1, 0, 0, 0), [], 0), some ((.getfield 163), (3, 5, 11, 536), [0, 0], 0), none, none, some ((.putfield 163), (3, 5, 11, 536), [0, 0], 0), none, none, some ((.iconst 0), (1, 0, 0, 0), [], 0), some ((.istore 4), (2, 0, 0, 0), [], 0), none, some ((.iload 4), (2, 0, 0, 0), [], 0), none, some ((.bipush 8), (2, 0, 0, 0), [], 8), none, some ((.if_icmp .ge 33), (3, 119, 0, 0), [], 0), none, none, some ((.aload_n 0), (1, 0, 0, 0), [], 0), some ((.getfield 35), (3, 5, 12, 537), [1, 1], 0), none, none, some ((.iload 4), (2, 0, 0, 0), [], 0), none, some (.dup2, (1, 0, 0, 0), [], 0), some (.iaload, (1, 0, 0, 0), [], 0), some ((.aload_n 0), (1, 0, 0, 0), [], 0), some ((.iload 4), (2, 0, 0, 0), [], 0), none, some ((.invokevirtual 166), (3, 103, 2, 741), [2], 0), none, none, some ((.ifCond .eq 7), (3, 110, 0, 0), [], 0), none, none, some ((.iconst 1), (1, 0, 0, 0), [], 1), some ((.goto 4), (3, 111, 0, 0), [], 0), none, none, some ((.iconst 0), (1, 0, 0, 0), [], 0), some (.iadd, (1, 0, 0, 0), [], 0), some (.iastore, (1, 0, 0, 0), [], 0), some ((.iinc 4 1), (3, 0, 0, 0), [], 1), none, none, some ((.goto (-34)), (3, 82, 0, 0), [], 0), none, none, some (.return_, (1, 0, 0, 0), [], 0)]
/-- MeshNamesModel.mostMet()I -/
def k_105 : List (Option AE) := [some ((.bipush (-6)), (2, 0, 0, 0), [], (-6)), none, some ((.istore_n 1), (1, 0, 0, 0), [], 0), some ((.iconst 0), (1, 0, 0, 0), [], 0), some ((.istore_n 2), (1, 0, 0, 0), [], 0), some ((.iconst 0), (1, 0, 0, 0), [], 0), some ((.istore_n 3), (1, 0, 0, 0), [], 0), some ((.iload_n 3), (1, 0, 0, 0), [], 0), some ((.bipush 8), (2, 0, 0, 0), [], 8), none, some ((.if_icmp .ge 46), (3, 56, 0, 0), [], 0), none, none, some ((.aload_n 0), (1, 0, 0, 0), [], 0), some ((.getfield 35), (3, 5, 12, 537), [1, 1], 0), none, none, some ((.iload_n 3), (1, 0, 0, 0), [], 0), some (.iaload, (1, 0, 0, 0), [], 0), some ((.iload_n 2), (1, 0, 0, 0), [], 0), some ((.if_icmp .le 7), (3, 27, 0, 0), [], 0), none, none, some ((.iload_n 3), (1, 0, 0, 0), [], 0), some ((.goto 4), (3, 28, 0, 0), [], 0), none, none, some ((.iload_n 1), (1, 0, 0, 0), [], 0), some ((.istore_n 1), (1, 0, 0, 0), [], 0), some ((.aload_n 0), (1, 0, 0, 0), [], 0), some ((.getfield 35), (3, 5, 12, 537), [1, 1], 0), none, none, some ((.iload_n 3), (1, 0, 0, 0), [], 0), some (.iaload, (1, 0, 0, 0), [], 0), some ((.iload_n 2), (1, 0, 0, 0), [], 0), some ((.if_icmp .le 12), (3, 48, 0, 0), [], 0), none, none, some ((.aload_n 0), (1, 0, 0, 0), [], 0), some ((.getfield 35), (3, 5, 12, 537), [1, 1], 0), none, none, some ((.iload_n 3), (1, 0, 0, 0), [], 0), some (.iaload, (1, 0, 0, 0), [], 0), some ((.goto 4), (3, 49, 0, 0), [], 0), none, none, some ((.iload_n 2), (1, 0, 0, 0), [], 0), some ((.istore_n 2), (1, 0, 0, 0), [], 0), some ((.iinc 3 1), (3, 0, 0, 0), [], 1), none, none, some ((.goto (-46)), (3, 7, 0, 0), [], 0), none, none, some ((.iload_n 1), (1, 0, 0, 0), [], 0), some (.ireturn, (1, 0, 0, 0), [], 0)]
/-- MeshNamesModel.worst(I)I -/
def k_106 : List (Option AE) := [some ((.iload_n 1), (1, 0, 0, 0), [], 0), some ((.iconst 0), (1, 0, 0, 0), [], 0), some ((.iconst 3), (1, 0, 0, 0), [], 3), some ((.invokestatic 44), (3, 25, 3, 579), [0], 0), none, none, some ((.ifCond .ne 6), (3, 12, 0, 0), [], 0), none, none, some ((.bipush (-2)), (2, 0, 0, 0), [], (-2)), none, some (.ireturn, (1, 0, 0, 0), [], 0), some ((.aload_n 0), (1, 0, 0, 0), [], 0), some ((.invokevirtual 106), (3, 55, 1, 616), [2], 0), none, none, some ((.aload_n 0), (1, 0, 0, 0), [], 0), some ((.iconst 0), (1, 0, 0, 0), [], 0), some ((.putfield 157), (3, 5, 9, 534), [0, 0], 0), none, none, some ((.aload_n 0), (1, 0, 0, 0), [], 0), some ((.iconst 0), (1, 0, 0, 0), [], 0), some ((.putfield 160), (3, 5, 10, 535), [0, 0], 0), none, none, some ((.aload_n 0), (1, 0, 0, 0), [], 0), some ((.iconst 0), (1, 0, 0, 0), [], 0), some ((.putfield 163), (3, 5, 11, 536), [0, 0], 0), none, none, some ((.iconst 0), (1, 0, 0, 0), [], 0), some ((.istore_n 2), (1, 0, 0, 0), [], 0), some ((.iload_n 2), (1, 0, 0, 0), [], 0), some ((.bipush 8), (2, 0, 0, 0), [], 8), none, some ((.if_icmp .ge 16), (3, 52, 0, 0), [], 0), none, none, some ((.aload_n 0), (1, 0, 0, 0), [], 0), some ((.getfield 35), (3, 5, 12, 537), [1, 1], 0), none, none, some ((.iload_n 2), (1, 0, 0, 0), [], 0), some ((.iconst 0), (1, 0, 0, 0), [], 0), some (.iastore, (1, 0, 0, 0), [], 0), some ((.iinc 2 1), (3, 0, 0, 0), [], 1), none, none, some ((.goto (-16)), (3, 33, 0, 0), [], 0), none, none, some ((.iconst 0), (1, 0, 0, 0), [], 0), some ((.istore_n 2), (1, 0, 0, 0), [], 0), some ((.iload_n 2), (1, 0, 0, 0), [], 0), some ((.bipush 64), (2, 0, 0, 0), [], 64), none, some ((.if_icmp .ge 47), (3, 104, 0, 0), [], 0), none, none, some ((.iload_n 2), (1, 0, 0, 0), [], 0), some ((.bipush 8), (2, 0, 0, 0), [], 8), none, some (.idiv, (1, 0, 0, 0), [], 0), some ((.iload_n 2), (1, 0, 0, 0), [], 0), some ((.bipush 8), (2, 0, 0, 0), [], 8), none, some (.irem, (1, 0, 0, 0), [], 0), some ((.if_icmp .eq 30), (3, 98, 0, 0), [], 0), none, none, some ((.aload_n 0), (1, 0, 0, 0), [], 0), some ((.iload_n 2), (1, 0, 0, 0), [], 0), some ((.bipush 8), (2, 0, 0, 0), [], 8), none, some (.idiv, (1, 0, 0, 0), [], 0), some ((.iload_n 2), (1, 0, 0, 0), [], 0), some ((.bipush 8), (2, 0, 0, 0), [], 8), none, some (.irem, (1, 0, 0, 0), [], 0), some ((.invokevirtual 83), (3, 50, 3, 640), [2], 0), none, none, some ((.ifCond .eq 15), (3, 98, 0, 0), [], 0), none, none, some ((.aload_n 0), (1, 0, 0, 0), [], 0), some ((.iload_n 2), (1, 0, 0, 0), [], 0), some ((.bipush 8), (2, 0, 0, 0), [], 8), none, some (.idiv, (1, 0, 0, 0), [], 0), some ((.iload_n 2), (1, 0, 0, 0), [], 0), some ((.bipush 8), (2, 0, 0, 0), [], 8), none, some (.irem, (1, 0, 0, 0), [], 0), some ((.invokevirtual 169), (3, 104, 3, 737), [2], 0), none, none, some ((.iinc 2 1), (3, 0, 0, 0), [], 1), none, none, some ((.goto (-47)), (3, 54, 0, 0), [], 0), none, none, some ((.iload_n 1), (1, 0, 0, 0), [], 0), some ((.ifCond .ne 10), (3, 115, 0, 0), [], 0), none, none, some ((.aload_n 0), (1, 0, 0, 0), [], 0), some ((.getfield 157), (3, 5, 9, 534), [0, 0], 0), none, none, some ((.goto 31), (3, 143, 0, 0), [], 0), none, none, some ((.iload_n 1), (1, 0, 0, 0), [], 0), some ((.iconst 1), (1, 0, 0, 0), [], 1), some ((.if_icmp .ne 10), (3, 127, 0, 0), [], 0), none, none, some ((.aload_n 0), (1, 0, 0, 0), [], 0), some ((.getfield 160), (3, 5, 10, 535), [0, 0], 0), none, none, some ((.goto 19), (3, 143, 0, 0), [], 0), none, none, some ((.iload_n 1), (1, 0, 0, 0), [], 0), some ((.iconst 2), (1, 0, 0, 0), [], 2), some ((.if_icmp .ne 10), (3, 139, 0, 0), [], 0), none, none, some ((.aload_n 0), (1, 0, 0, 0), [], 0), some ((.getfield 163), (3, 5, 11, 536), [0, 0], 0), none, none, some ((.goto 7), (3, 143, 0, 0), [], 0), none, none, some ((.aload_n 0), (1, 0, 0, 0), [], 0), some ((.invokevirtual 172), (3, 105, 1, 745), [2], 0), none, none, some (.ireturn, (1, 0, 0, 0), [], 0)]
/-- MeshNames$Mesh.countsBetween(II)Z -/
def k_107 : List (Option AE) := [some ((.aload_n 0), (1, 0, 0, 0), [], 0), some ((.iload_n 1), (1, 0, 0, 0), [], 0), some ((.invokevirtual 34), (3, 9, 2, 215), [2], 0), none, none, some ((.iload_n 2), (1, 0, 0, 0), [], 0), some ((.invokestatic 22), (3, 6, 2, 214), [1], 0), none, none, some (.ireturn, (1, 0, 0, 0), [], 0)]
/-- MeshNames$Paths.laidAlong(II)I -/
def k_108 : List (Option AE) := [some ((.iconst 0), (1, 0, 0, 0), [], 0), some ((.istore_n 3), (1, 0, 0, 0), [], 0), some ((.iconst 0), (1, 0, 0, 0), [], 0), some ((.istore 4), (2, 0, 0, 0), [], 0), none, some ((.iload 4), (2, 0, 0, 0), [], 0), none, some ((.bipush 8), (2, 0, 0, 0), [], 8), none, some ((.if_icmp .ge 59), (3, 68, 0, 0), [], 0), none, none, some ((.aload_n 0), (1, 0, 0, 0), [], 0), some ((.iload 4), (2, 0, 0, 0), [], 0), none, some ((.iload_n 1), (1, 0, 0, 0), [], 0), some ((.invokevirtual 91), (3, 42, 3, 315), [2], 0), none, none, some ((.ifCond .eq 43), (3, 62, 0, 0), [], 0), none, none, some ((.aload_n 0), (1, 0, 0, 0), [], 0), some ((.iload 4), (2, 0, 0, 0), [], 0), none, some ((.iload_n 2), (1, 0, 0, 0), [], 0), some ((.invokevirtual 91), (3, 42, 3, 315), [2], 0), none, none, some ((.ifCond .eq 33), (3, 62, 0, 0), [], 0), none, none, some ((.aload_n 0), (1, 0, 0, 0), [], 0), some ((.iload 4), (2, 0, 0, 0), [], 0), none, some ((.iload_n 1), (1, 0, 0, 0), [], 0), some ((.invokevirtual 88), (3, 41, 3, 319), [2], 0), none, none, some ((.aload_n 0), (1, 0, 0, 0), [], 0), some ((.iload 4), (2, 0, 0, 0), [], 0), none, some ((.iload_n 2), (1, 0, 0, 0), [], 0), some ((.invokevirtual 88), (3, 41, 3, 319), [2], 0), none, none, some (.isub, (1, 0, 0, 0), [], 0), some ((.invokestatic 102), (3, 71, 1, 453), [0], 0), none, none, some ((.iconst 1), (1, 0, 0, 0), [], 1), some ((.if_icmp .ne 11), (3, 62, 0, 0), [], 0), none, none, some ((.iload_n 3), (1, 0, 0, 0), [], 0), some ((.iload 4), (2, 0, 0, 0), [], 0), none, some ((.invokestatic 59), (3, 5, 1, 200), [1], 0), none, none, some (.ior, (1, 0, 0, 0), [], 0), some ((.istore_n 3), (1, 0, 0, 0), [], 0), some ((.iinc 4 1), (3, 0, 0, 0), [], 1), none, none, some ((.goto (-60)), (3, 5, 0, 0), [], 0), none, none, some ((.iload_n 3), (1, 0, 0, 0), [], 0), some (.ireturn, (1, 0, 0, 0), [], 0)]
/-- MeshNames.torn(II)I -/
def k_109 : List (Option AE) := [some ((.iload_n 1), (1, 0, 0, 0), [], 0), some ((.invokestatic 54), (3, 14, 1, 265), [0], 0), none, none, some ((.ifCond .eq 10), (3, 14, 0, 0), [], 0), none, none, some ((.iload_n 2), (1, 0, 0, 0), [], 0), some ((.invokestatic 54), (3, 14, 1, 265), [0], 0), none, none, some ((.ifCond .ne 5), (3, 16, 0, 0), [], 0), none, none, some ((.iconst (-1)), (1, 0, 0, 0), [], (-1)), some (.ireturn, (1, 0, 0, 0), [], 0), some ((.iload_n 1), (1, 0, 0, 0), [], 0), some ((.iload_n 2), (1, 0, 0, 0), [], 0), some ((.if_icmp .ne 6), (3, 24, 0, 0), [], 0), none, none, some ((.bipush (-2)), (2, 0, 0, 0), [], (-2)), none, some (.ireturn, (1, 0, 0, 0), [], 0), some ((.aload_n 0), (1, 0, 0, 0), [], 0), some ((.getfield 10), (3, 4, 0, 242), [1, 1], 0), none, none, some ((.iload_n 1), (1, 0, 0, 0), [], 0), some ((.iload_n 2), (1, 0, 0, 0), [], 0), some ((.invokevirtual 160), (3, 107, 3, 445), [2], 0), none, none, some ((.ifCond .ne 6), (3, 39, 0, 0), [], 0), none, none, some ((.bipush (-5)), (2, 0, 0, 0), [], (-5)), none, some (.ireturn, (1, 0, 0, 0), [], 0), some ((.aload_n 0), (1, 0, 0, 0), [], 0), some ((.getfield 21), (3, 4, 1, 243), [1, 1], 0), none, none, some ((.iload_n 1), (1, 0, 0, 0), [], 0), some ((.iload_n 2), (1, 0, 0, 0), [], 0), some ((.invokevirtual 163), (3, 108, 3, 449), [2], 0), none, none, some (.ireturn, (1, 0, 0, 0), [], 0)]
/-- MeshNamesModel.isSideBySide(III)Z -/
def k_110 : List (Option AE) := [some ((.iconst 0), (1, 0, 0, 0), [], 0), some ((.istore 4), (2, 0, 0, 0), [], 0), none, some ((.iconst 1), (1, 0, 0, 0), [], 1), some ((.istore 5), (2, 0, 0, 0), [], 0), none, some ((.iload 5), (2, 0, 0, 0), [], 0), none, some ((.aload_n 0), (1, 0, 0, 0), [], 0), some ((.getfield 29), (3, 5, 6, 531), [1, 1], 0), none, none, some ((.iload_n 1), (1, 0, 0, 0), [], 0), some (.iaload, (1, 0, 0, 0), [], 0), some ((.if_icmp .ge 75), (3, 89, 0, 0), [], 0), none, none, some ((.aload_n 0), (1, 0, 0, 0), [], 0), some ((.getfield 26), (3, 5, 5, 530), [1, 1], 0), none, none, some ((.bipush 8), (2, 0, 0, 0), [], 8), none, some ((.iload_n 1), (1, 0, 0, 0), [], 0), some (.imul, (1, 0, 0, 0), [], 0), some ((.iload 5), (2, 0, 0, 0), [], 0), none, some (.iadd, (1, 0, 0, 0), [], 0), some ((.iconst 1), (1, 0, 0, 0), [], 1), some (.isub, (1, 0, 0, 0), [], 0), some (.iaload, (1, 0, 0, 0), [], 0), some ((.istore 6), (2, 0, 0, 0), [], 0), none, some ((.aload_n 0), (1, 0, 0, 0), [], 0), some ((.getfield 26), (3, 5, 5, 530), [1, 1], 0), none, none, some ((.bipush 8), (2, 0, 0, 0), [], 8), none, some ((.iload_n 1), (1, 0, 0, 0), [], 0), some (.imul, (1, 0, 0, 0), [], 0), some ((.iload 5), (2, 0, 0, 0), [], 0), none, some (.iadd, (1, 0, 0, 0), [], 0), some (.iaload, (1, 0, 0, 0), [], 0), some ((.istore 7), (2, 0, 0, 0), [], 0), none, some ((.iload 4), (2, 0, 0, 0), [], 0), none, some ((.ifCond .ne 27), (3, 76, 0, 0), [], 0), none, none, some ((.iload 6), (2, 0, 0, 0), [], 0), none, some ((.iload_n 2), (1, 0, 0, 0), [], 0), some ((.if_icmp .ne 9), (3, 64, 0, 0), [], 0), none, none, some ((.iload 7), (2, 0, 0, 0), [], 0), none, some ((.iload_n 3), (1, 0, 0, 0), [], 0), some ((.if_icmp .eq 15), (3, 76, 0, 0), [], 0), none, none, some ((.iload 6), (2, 0, 0, 0), [], 0), none, some ((.iload_n 3), (1, 0, 0, 0), [], 0), some ((.if_icmp .ne 13), (3, 80, 0, 0), [], 0), none, none, some ((.iload 7), (2, 0, 0, 0), [], 0), none, some ((.iload_n 2), (1, 0, 0, 0), [], 0), some ((.if_icmp .ne 7), (3, 80, 0, 0), [], 0), none, none, some ((.iconst 1), (1, 0, 0, 0), [], 1), some ((.goto 4), (3, 81, 0, 0), [], 0), none, none, some ((.iconst 0), (1, 0, 0, 0), [], 0), some ((.istore 4), (2, 0, 0, 0), [], 0), none, some ((.iinc 5 1), (3, 0, 0, 0), [], 1), none, none, some ((.goto (-80)), (3, 6, 0, 0), [], 0), none, none, some ((.iload 4), (2, 0, 0, 0), [], 0), none, some (.ireturn, (1, 0, 0, 0), [], 0)]
/-- MeshNamesModel.torn(II)I -/
def k_111 : List (Option AE) := [some ((.iload_n 1), (1, 0, 0, 0), [], 0), some ((.invokestatic 60), (3, 26, 1, 576), [0], 0), none, none, some ((.ifCond .eq 10), (3, 14, 0, 0), [], 0), none, none, some ((.iload_n 2), (1, 0, 0, 0), [], 0), some ((.invokestatic 60), (3, 26, 1, 576), [0], 0), none, none, some ((.ifCond .ne 5), (3, 16, 0, 0), [], 0), none, none, some ((.iconst (-1)), (1, 0, 0, 0), [], (-1)), some (.ireturn, (1, 0, 0, 0), [], 0), some ((.iload_n 1), (1, 0, 0, 0), [], 0), some ((.iload_n 2), (1, 0, 0, 0), [], 0), some ((.if_icmp .ne 6), (3, 24, 0, 0), [], 0), none, none, some ((.bipush (-2)), (2, 0, 0, 0), [], (-2)), none, some (.ireturn, (1, 0, 0, 0), [], 0), some ((.aload_n 0), (1, 0, 0, 0), [], 0), some ((.iload_n 1), (1, 0, 0, 0), [], 0), some ((.iload_n 2), (1, 0, 0, 0), [], 0), some ((.invokevirtual 76), (3, 47, 3, 628), [2], 0), none, none, some ((.ifCond .ne 6), (3, 36, 0, 0), [], 0), none, none, some ((.bipush (-5)), (2, 0, 0, 0), [], (-5)), none, some (.ireturn, (1, 0, 0, 0), [], 0), some ((.aload_n 0), (1, 0, 0, 0), [], 0), some ((.invokevirtual 106), (3, 55, 1, 616), [2], 0), none, none, some ((.iconst 0), (1, 0, 0, 0), [], 0), some ((.istore_n 3), (1, 0, 0, 0), [], 0), some ((.iconst 0), (1, 0, 0, 0), [], 0), some ((.istore 4), (2, 0, 0, 0), [], 0), none, some ((.iload 4), (2, 0, 0, 0), [], 0), none, some ((.bipush 8), (2, 0, 0, 0), [], 8), none, some ((.if_icmp .ge 31), (3, 80, 0, 0), [], 0), none, none, some ((.iload_n 3), (1, 0, 0, 0), [], 0), some ((.aload_n 0), (1, 0, 0, 0), [], 0), some ((.iload 4), (2, 0, 0, 0), [], 0), none, some ((.iload_n 1), (1, 0, 0, 0), [], 0), some ((.iload_n 2), (1, 0, 0, 0), [], 0), some ((.invokevirtual 175), (3, 110, 4, 753), [2], 0), none, none, some ((.ifCond .eq 10), (3, 71, 0, 0), [], 0), none, none, some ((.iconst 1), (1, 0, 0, 0), [], 1), some ((.iload 4), (2, 0, 0, 0), [], 0), none, some (.ishl, (1, 0, 0, 0), [], 0), some ((.goto 4), (3, 72, 0, 0), [], 0), none, none, some ((.iconst 0), (1, 0, 0, 0), [], 0), some (.ior, (1, 0, 0, 0), [], 0), some ((.istore_n 3), (1, 0, 0, 0), [], 0), some ((.iinc 4 1), (3, 0, 0, 0), [], 1), none, none, some ((.goto (-32)), (3, 45, 0, 0), [], 0), none, none, some ((.iload_n 3), (1, 0, 0, 0), [], 0), some (.ireturn, (1, 0, 0, 0), [], 0)]
/-- MeshNames$Mesh.holdsWithout(II)Z -/
def k_112 : List (Option AE) := [some ((.iload_n 1), (1, 0, 0, 0), [], 0), some ((.invokestatic 30), (3, 5, 1, 278), [1], 0), none, none, some ((.istore_n 3), (1, 0, 0, 0), [], 0), some ((.aload_n 0), (1, 0, 0, 0), [], 0), some ((.iload_n 1), (1, 0, 0, 0), [], 0), some ((.invokevirtual 34), (3, 9, 2, 215), [2], 0), none, none, some ((.iload_n 2), (1, 0, 0, 0), [], 0), some ((.invokestatic 30), (3, 5, 1, 278), [1], 0), none, none, some ((.iconst (-1)), (1, 0, 0, 0), [], (-1)), some (.ixor, (1, 0, 0, 0), [], 0), some (.iand, (1, 0, 0, 0), [], 0), some ((.istore 4), (2, 0, 0, 0), [], 0), none, some ((.iconst 0), (1, 0, 0, 0), [], 0), some ((.istore 5), (2, 0, 0, 0), [], 0), none, some ((.iload 5), (2, 0, 0, 0), [], 0), none, some ((.bipush 8), (2, 0, 0, 0), [], 8), none, some ((.if_icmp .ge 31), (3, 57, 0, 0), [], 0), none, none, some ((.iload 4), (2, 0, 0, 0), [], 0), none, some ((.ifCond .eq 26), (3, 57, 0, 0), [], 0), none, none, some ((.iload_n 3), (1, 0, 0, 0), [], 0), some ((.iload 4), (2, 0, 0, 0), [], 0), none, some (.ior, (1, 0, 0, 0), [], 0), some ((.istore_n 3), (1, 0, 0, 0), [], 0), some ((.aload_n 0), (1, 0, 0, 0), [], 0), some ((.iload 4), (2, 0, 0, 0), [], 0), none, some ((.invokevirtual 37), (3, 10, 2, 462), [2], 0), none, none, some ((.iload_n 3), (1, 0, 0, 0), [], 0), some ((.iconst (-1)), (1, 0, 0, 0), [], (-1)), some (.ixor, (1, 0, 0, 0), [], 0), some (.iand, (1, 0, 0, 0), [], 0), some ((.istore 4), (2, 0, 0, 0), [], 0), none, some ((.iinc 5 1), (3, 0, 0, 0), [], 1), none, none, some ((.goto (-32)), (3, 22, 0, 0), [], 0), none, none, some ((.iload_n 3), (1, 0, 0, 0), [], 0), some ((.iload_n 2), (1, 0, 0, 0), [], 0), some ((.invokestatic 22), (3, 6, 2, 214), [1], 0), none, none, some (.ireturn, (1, 0, 0, 0), [], 0)]
/-- MeshNames.bridges()I -/
def k_113 : List (Option AE) := [some ((.iconst 0), (1, 0, 0, 0), [], 0), some ((.istore_n 1), (1, 0, 0, 0), [], 0), some ((.iconst 0), (1, 0, 0, 0), [], 0), some ((.istore_n 2), (1, 0, 0, 0), [], 0), some ((.iload_n 2), (1, 0, 0, 0), [], 0), some ((.bipush 8), (2, 0, 0, 0), [], 8), none, some ((.if_icmp .ge 52), (3, 59, 0, 0), [], 0), none, none, some ((.iload_n 2), (1, 0, 0, 0), [], 0), some ((.iconst 1), (1, 0, 0, 0), [], 1), some (.iadd, (1, 0, 0, 0), [], 0), some ((.istore_n 3), (1, 0, 0, 0), [], 0), some ((.iload_n 3), (1, 0, 0, 0), [], 0), some ((.bipush 8), (2, 0, 0, 0), [], 8), none, some ((.if_icmp .ge 36), (3, 53, 0, 0), [], 0), none, none, some ((.aload_n 0), (1, 0, 0, 0), [], 0), some ((.getfield 10), (3, 4, 0, 242), [1, 1], 0), none, none, some ((.iload_n 2), (1, 0, 0, 0), [], 0), some ((.iload_n 3), (1, 0, 0, 0), [], 0), some ((.invokevirtual 160), (3, 107, 3, 445), [2], 0), none, none, some ((.ifCond .eq 18), (3, 47, 0, 0), [], 0), none, none, some ((.aload_n 0), (1, 0, 0, 0), [], 0), some ((.getfield 10), (3, 4, 0, 242), [1, 1], 0), none, none, some ((.iload_n 2), (1, 0, 0, 0), [], 0), some ((.iload_n 3), (1, 0, 0, 0), [], 0), some ((.invokevirtual 166), (3, 112, 3, 458), [2], 0), none, none, some ((.ifCond .ne 6), (3, 47, 0, 0), [], 0), none, none, some ((.iinc 1 1), (3, 0, 0, 0), [], 1), none, none, some ((.iinc 3 1), (3, 0, 0, 0), [], 1), none, none, some ((.goto (-36)), (3, 14, 0, 0), [], 0), none, none, some ((.iinc 2 1), (3, 0, 0, 0), [], 1), none, none, some ((.goto (-52)), (3, 4, 0, 0), [], 0), none, none, some ((.iload_n 1), (1, 0, 0, 0), [], 0), some (.ireturn, (1, 0, 0, 0), [], 0)]
/-- MeshNamesModel.isBridge(II)Z -/
def k_114 : List (Option AE) := [some ((.aload_n 0), (1, 0, 0, 0), [], 0), some ((.getfield 7), (3, 5, 0, 525), [1, 1], 0), none, none, some ((.iload_n 1), (1, 0, 0, 0), [], 0), some ((.iload_n 2), (1, 0, 0, 0), [], 0), some ((.invokestatic 48), (3, 38, 2, 605), [0], 0), none, none, some ((.iconst 0), (1, 0, 0, 0), [], 0), some (.iastore, (1, 0, 0, 0), [], 0), some ((.aload_n 0), (1, 0, 0, 0), [], 0), some ((.invokevirtual 92), (3, 49, 1, 620), [2], 0), none, none, some ((.aload_n 0), (1, 0, 0, 0), [], 0), some ((.getfield 7), (3, 5, 0, 525), [1, 1], 0), none, none, some ((.iload_n 1), (1, 0, 0, 0), [], 0), some ((.iload_n 2), (1, 0, 0, 0), [], 0), some ((.invokestatic 48), (3, 38, 2, 605), [0], 0), none, none, some ((.iconst 1), (1, 0, 0, 0), [], 1), some (.iastore, (1, 0, 0, 0), [], 0), some ((.aload_n 0), (1, 0, 0, 0), [], 0), some ((.iload_n 1), (1, 0, 0, 0), [], 0), some ((.iload_n 2), (1, 0, 0, 0), [], 0), some ((.invokevirtual 83), (3, 50, 3, 640), [2], 0), none, none, some ((.ifCond .ne 7), (3, 39, 0, 0), [], 0), none, none, some ((.iconst 1), (1, 0, 0, 0), [], 1), some ((.goto 4), (3, 40, 0, 0), [], 0), none, none, some ((.iconst 0), (1, 0, 0, 0), [], 0), some (.ireturn, (1, 0, 0, 0), [], 0)]
/-- MeshNamesModel.bridges()I -/
def k_115 : List (Option AE) := [some ((.iconst 0), (1, 0, 0, 0), [], 0), some ((.istore_n 1), (1, 0, 0, 0), [], 0), some ((.iconst 0), (1, 0, 0, 0), [], 0), some ((.istore_n 2), (1, 0, 0, 0), [], 0), some ((.iload_n 2), (1, 0, 0, 0), [], 0), some ((.bipush 8), (2, 0, 0, 0), [], 8), none, some ((.if_icmp .ge 51), (3, 58, 0, 0), [], 0), none, none, some ((.iload_n 2), (1, 0, 0, 0), [], 0), some ((.iconst 1), (1, 0, 0, 0), [], 1), some (.iadd, (1, 0, 0, 0), [], 0), some ((.istore_n 3), (1, 0, 0, 0), [], 0), some ((.iload_n 3), (1, 0, 0, 0), [], 0), some ((.bipush 8), (2, 0, 0, 0), [], 8), none, some ((.if_icmp .ge 35), (3, 52, 0, 0), [], 0), none, none, some ((.iload_n 1), (1, 0, 0, 0), [], 0), some ((.aload_n 0), (1, 0, 0, 0), [], 0), some ((.iload_n 2), (1, 0, 0, 0), [], 0), some ((.iload_n 3), (1, 0, 0, 0), [], 0), some ((.invokevirtual 76), (3, 47, 3, 628), [2], 0), none, none, some ((.ifCond .eq 16), (3, 43, 0, 0), [], 0), none, none, some ((.aload_n 0), (1, 0, 0, 0), [], 0), some ((.iload_n 2), (1, 0, 0, 0), [], 0), some ((.iload_n 3), (1, 0, 0, 0), [], 0), some ((.invokevirtual 178), (3, 114, 3, 761), [2], 0), none, none, some ((.ifCond .eq 7), (3, 43, 0, 0), [], 0), none, none, some ((.iconst 1), (1, 0, 0, 0), [], 1), some ((.goto 4), (3, 44, 0, 0), [], 0), none, none, some ((.iconst 0), (1, 0, 0, 0), [], 0), some (.iadd, (1, 0, 0, 0), [], 0), some ((.istore_n 1), (1, 0, 0, 0), [], 0), some ((.iinc 3 1), (3, 0, 0, 0), [], 1), none, none, some ((.goto (-35)), (3, 14, 0, 0), [], 0), none, none, some ((.iinc 2 1), (3, 0, 0, 0), [], 1), none, none, some ((.goto (-51)), (3, 4, 0, 0), [], 0), none, none, some ((.iload_n 1), (1, 0, 0, 0), [], 0), some (.ireturn, (1, 0, 0, 0), [], 0)]
/-- MeshNames.isImage(I)Z -/
def k_116 : List (Option AE) := [some ((.iload_n 0), (1, 0, 0, 0), [], 0), some ((.ifCond .lt 12), (3, 13, 0, 0), [], 0), none, none, some ((.iload_n 0), (1, 0, 0, 0), [], 0), some ((.iconst 2), (1, 0, 0, 0), [], 2), some ((.if_icmp .ge 7), (3, 13, 0, 0), [], 0), none, none, some ((.iconst 1), (1, 0, 0, 0), [], 1), some ((.goto 4), (3, 14, 0, 0), [], 0), none, none, some ((.iconst 0), (1, 0, 0, 0), [], 0), some (.ireturn, (1, 0, 0, 0), [], 0)]
/-- MeshNames.refuseImage(I)I -/
def k_117 : List (Option AE) := [some ((.iload_n 1), (1, 0, 0, 0), [], 0), some ((.invokestatic 176), (3, 116, 1, 471), [0], 0), none, none, some ((.ifCond .ne 6), (3, 10, 0, 0), [], 0), none, none, some ((.bipush (-2)), (2, 0, 0, 0), [], (-2)), none, some (.ireturn, (1, 0, 0, 0), [], 0), some ((.aload_n 0), (1, 0, 0, 0), [], 0), some ((.getfield 47), (3, 4, 5, 247), [0, 0], 0), none, none, some ((.iload_n 1), (1, 0, 0, 0), [], 0), some ((.invokestatic 198), (3, 6, 2, 474), [0], 0), none, none, some ((.ifCond .eq 7), (3, 25, 0, 0), [], 0), none, none, some ((.iconst 0), (1, 0, 0, 0), [], 0), some ((.goto 5), (3, 27, 0, 0), [], 0), none, none, some ((.bipush (-3)), (2, 0, 0, 0), [], (-3)), none, some (.ireturn, (1, 0, 0, 0), [], 0)]
/-- MeshNames$Paths.isLaidAlike(ILMeshNames$Paths;)Z -/
def k_118 : List (Option AE) := [some ((.aload_n 0), (1, 0, 0, 0), [], 0), some ((.getfield 28), (3, 1, 5, 112), [1, 1], 0), none, none, some ((.iload_n 1), (1, 0, 0, 0), [], 0), some (.iaload, (1, 0, 0, 0), [], 0), some ((.aload_n 2), (1, 0, 0, 0), [], 0), some ((.getfield 28), (3, 1, 5, 112), [1, 1], 0), none, none, some ((.iload_n 1), (1, 0, 0, 0), [], 0), some (.iaload, (1, 0, 0, 0), [], 0), some ((.if_icmp .eq 5), (3, 17, 0, 0), [], 0), none, none, some ((.iconst 0), (1, 0, 0, 0), [], 0), some (.ireturn, (1, 0, 0, 0), [], 0), some ((.iconst 0), (1, 0, 0, 0), [], 0), some ((.istore_n 3), (1, 0, 0, 0), [], 0), some ((.iload_n 3), (1, 0, 0, 0), [], 0), some ((.aload_n 0), (1, 0, 0, 0), [], 0), some ((.getfield 28), (3, 1, 5, 112), [1, 1], 0), none, none, some ((.iload_n 1), (1, 0, 0, 0), [], 0), some (.iaload, (1, 0, 0, 0), [], 0), some ((.if_icmp .ge 26), (3, 52, 0, 0), [], 0), none, none, some ((.aload_n 0), (1, 0, 0, 0), [], 0), some ((.iload_n 1), (1, 0, 0, 0), [], 0), some ((.iload_n 3), (1, 0, 0, 0), [], 0), some ((.invokevirtual 112), (3, 65, 3, 484), [2], 0), none, none, some ((.aload_n 2), (1, 0, 0, 0), [], 0), some ((.iload_n 1), (1, 0, 0, 0), [], 0), some ((.iload_n 3), (1, 0, 0, 0), [], 0), some ((.invokevirtual 112), (3, 65, 3, 484), [2], 0), none, none, some ((.if_icmp .eq 5), (3, 46, 0, 0), [], 0), none, none, some ((.iconst 0), (1, 0, 0, 0), [], 0), some (.ireturn, (1, 0, 0, 0), [], 0), some ((.iinc 3 1), (3, 0, 0, 0), [], 1), none, none, some ((.goto (-30)), (3, 19, 0, 0), [], 0), none, none, some ((.iconst 1), (1, 0, 0, 0), [], 1), some (.ireturn, (1, 0, 0, 0), [], 0)]
/-- MeshNames$Paths.countUnlike(LMeshNames$Paths;)I -/
def k_119 : List (Option AE) := [some ((.iconst 0), (1, 0, 0, 0), [], 0), some ((.istore_n 2), (1, 0, 0, 0), [], 0), some ((.iconst 0), (1, 0, 0, 0), [], 0), some ((.istore_n 3), (1, 0, 0, 0), [], 0), some ((.iload_n 3), (1, 0, 0, 0), [], 0), some ((.bipush 8), (2, 0, 0, 0), [], 8), none, some ((.if_icmp .ge 32), (3, 39, 0, 0), [], 0), none, none, some ((.aload_n 0), (1, 0, 0, 0), [], 0), some ((.getfield 9), (3, 1, 0, 98), [1, 1], 0), none, none, some ((.iload_n 3), (1, 0, 0, 0), [], 0), some ((.invokevirtual 105), (3, 8, 2, 479), [2], 0), none, none, some ((.ifCond .eq 15), (3, 33, 0, 0), [], 0), none, none, some ((.aload_n 0), (1, 0, 0, 0), [], 0), some ((.iload_n 3), (1, 0, 0, 0), [], 0), some ((.aload_n 1), (1, 0, 0, 0), [], 0), some ((.invokevirtual 108), (3, 118, 3, 480), [2], 0), none, none, some ((.ifCond .ne 6), (3, 33, 0, 0), [], 0), none, none, some ((.iinc 2 1), (3, 0, 0, 0), [], 1), none, none, some ((.iinc 3 1), (3, 0, 0, 0), [], 1), none, none, some ((.goto (-32)), (3, 4, 0, 0), [], 0), none, none, some ((.iload_n 2), (1, 0, 0, 0), [], 0), some (.ireturn, (1, 0, 0, 0), [], 0)]
/-- MeshNames.changed(I)I -/
def k_120 : List (Option AE) := [some ((.aload_n 0), (1, 0, 0, 0), [], 0), some ((.iload_n 1), (1, 0, 0, 0), [], 0), some ((.invokevirtual 169), (3, 117, 2, 467), [2], 0), none, none, some ((.istore_n 2), (1, 0, 0, 0), [], 0), some ((.iload_n 2), (1, 0, 0, 0), [], 0), some ((.ifCond .eq 7), (3, 14, 0, 0), [], 0), none, none, some ((.iload_n 2), (1, 0, 0, 0), [], 0), some ((.goto 16), (3, 27, 0, 0), [], 0), none, none, some ((.aload_n 0), (1, 0, 0, 0), [], 0), some ((.getfield 21), (3, 4, 1, 243), [1, 1], 0), none, none, some ((.aload_n 0), (1, 0, 0, 0), [], 0), some ((.getfield 43), (3, 4, 4, 246), [1, 1], 0), none, none, some ((.iload_n 1), (1, 0, 0, 0), [], 0), some (.aaload, (1, 0, 0, 0), [], 0), some ((.invokevirtual 172), (3, 119, 2, 475), [2], 0), none, none, some (.ireturn, (1, 0, 0, 0), [], 0)]
/-- MeshNamesModel.save(I)V -/
def k_121 : List (Option AE) := [some ((.iconst 0), (1, 0, 0, 0), [], 0), some ((.istore_n 2), (1, 0, 0, 0), [], 0), some ((.iload_n 2), (1, 0, 0, 0), [], 0), some ((.bipush 80), (2, 0, 0, 0), [], 80), none, some ((.if_icmp .ge 26), (3, 31, 0, 0), [], 0), none, none, some ((.aload_n 0), (1, 0, 0, 0), [], 0), some ((.getfield 13), (3, 5, 1, 526), [1, 1], 0), none, none, some ((.bipush 80), (2, 0, 0, 0), [], 80), none, some ((.iload_n 1), (1, 0, 0, 0), [], 0), some (.imul, (1, 0, 0, 0), [], 0), some ((.iload_n 2), (1, 0, 0, 0), [], 0), some (.iadd, (1, 0, 0, 0), [], 0), some ((.aload_n 0), (1, 0, 0, 0), [], 0), some ((.getfield 7), (3, 5, 0, 525), [1, 1], 0), none, none, some ((.iload_n 2), (1, 0, 0, 0), [], 0), some (.iaload, (1, 0, 0, 0), [], 0), some (.iastore, (1, 0, 0, 0), [], 0), some ((.iinc 2 1), (3, 0, 0, 0), [], 1), none, none, some ((.goto (-26)), (3, 2, 0, 0), [], 0), none, none, some (.return_, (1, 0, 0, 0), [], 0)]
/-- MeshNamesModel.load(I)V -/
def k_122 : List (Option AE) := [some ((.iconst 0), (1, 0, 0, 0), [], 0), some ((.istore_n 2), (1, 0, 0, 0), [], 0), some ((.iload_n 2), (1, 0, 0, 0), [], 0), some ((.bipush 80), (2, 0, 0, 0), [], 80), none, some ((.if_icmp .ge 26), (3, 31, 0, 0), [], 0), none, none, some ((.aload_n 0), (1, 0, 0, 0), [], 0), some ((.getfield 7), (3, 5, 0, 525), [1, 1], 0), none, none, some ((.iload_n 2), (1, 0, 0, 0), [], 0), some ((.aload_n 0), (1, 0, 0, 0), [], 0), some ((.getfield 13), (3, 5, 1, 526), [1, 1], 0), none, none, some ((.bipush 80), (2, 0, 0, 0), [], 80), none, some ((.iload_n 1), (1, 0, 0, 0), [], 0), some (.imul, (1, 0, 0, 0), [], 0), some ((.iload_n 2), (1, 0, 0, 0), [], 0), some (.iadd, (1, 0, 0, 0), [], 0), some (.iaload, (1, 0, 0, 0), [], 0), some (.iastore, (1, 0, 0, 0), [], 0), some ((.iinc 2 1), (3, 0, 0, 0), [], 1), none, none, some ((.goto (-26)), (3, 2, 0, 0), [], 0), none, none, some (.return_, (1, 0, 0, 0), [], 0)]
/-- MeshNamesModel.isOther(I)Z -/
def k_123 : List (Option AE) := [some ((.aload_n 0), (1, 0, 0, 0), [], 0), some ((.getfield 29), (3, 5, 6, 531), [1, 1], 0), none, none, some ((.iload_n 1), (1, 0, 0, 0), [], 0), some (.iaload, (1, 0, 0, 0), [], 0), some ((.aload_n 0), (1, 0, 0, 0), [], 0), some ((.getfield 41), (3, 5, 14, 539), [1, 1], 0), none, none, some ((.iload_n 1), (1, 0, 0, 0), [], 0), some (.iaload, (1, 0, 0, 0), [], 0), some ((.if_icmp .eq 7), (3, 19, 0, 0), [], 0), none, none, some ((.iconst 1), (1, 0, 0, 0), [], 1), some ((.goto 4), (3, 20, 0, 0), [], 0), none, none, some ((.iconst 0), (1, 0, 0, 0), [], 0), some ((.istore_n 2), (1, 0, 0, 0), [], 0), some ((.iconst 0), (1, 0, 0, 0), [], 0), some ((.istore_n 3), (1, 0, 0, 0), [], 0), some ((.iload_n 3), (1, 0, 0, 0), [], 0), some ((.aload_n 0), (1, 0, 0, 0), [], 0), some ((.getfield 29), (3, 5, 6, 531), [1, 1], 0), none, none, some ((.iload_n 1), (1, 0, 0, 0), [], 0), some (.iaload, (1, 0, 0, 0), [], 0), some ((.if_icmp .ge 44), (3, 74, 0, 0), [], 0), none, none, some ((.iload_n 2), (1, 0, 0, 0), [], 0), some ((.ifCond .ne 40), (3, 74, 0, 0), [], 0), none, none, some ((.aload_n 0), (1, 0, 0, 0), [], 0), some ((.getfield 26), (3, 5, 5, 530), [1, 1], 0), none, none, some ((.bipush 8), (2, 0, 0, 0), [], 8), none, some ((.iload_n 1), (1, 0, 0, 0), [], 0), some (.imul, (1, 0, 0, 0), [], 0), some ((.iload_n 3), (1, 0, 0, 0), [], 0), some (.iadd, (1, 0, 0, 0), [], 0), some (.iaload, (1, 0, 0, 0), [], 0), some ((.aload_n 0), (1, 0, 0, 0), [], 0), some ((.getfield 38), (3, 5, 13, 538), [1, 1], 0), none, none, some ((.bipush 8), (2, 0, 0, 0), [], 8), none, some ((.iload_n 1), (1, 0, 0, 0), [], 0), some (.imul, (1, 0, 0, 0), [], 0), some ((.iload_n 3), (1, 0, 0, 0), [], 0), some (.iadd, (1, 0, 0, 0), [], 0), some (.iaload, (1, 0, 0, 0), [], 0), some ((.if_icmp .eq 7), (3, 66, 0, 0), [], 0), none, none, some ((.iconst 1), (1, 0, 0, 0), [], 1), some ((.goto 4), (3, 67, 0, 0), [], 0), none, none, some ((.iconst 0), (1, 0, 0, 0), [], 0), some ((.istore_n 2), (1, 0, 0, 0), [], 0), some ((.iinc 3 1), (3, 0, 0, 0), [], 1), none, none, some ((.goto (-48)), (3, 23, 0, 0), [], 0), none, none, some ((.iload_n 2), (1, 0, 0, 0), [], 0), some (.ireturn, (1, 0, 0, 0), [], 0)]
/-- MeshNamesModel.changed(I)I -/
def k_124 : List (Option AE) := [some ((.iload_n 1), (1, 0, 0, 0), [], 0), some ((.iconst 0), (1, 0, 0, 0), [], 0), some ((.iconst 1), (1, 0, 0, 0), [], 1), some ((.invokestatic 44), (3, 25, 3, 579), [0], 0), none, none, some ((.ifCond .ne 6), (3, 12, 0, 0), [], 0), none, none, some ((.bipush (-2)), (2, 0, 0, 0), [], (-2)), none, some (.ireturn, (1, 0, 0, 0), [], 0), some ((.aload_n 0), (1, 0, 0, 0), [], 0), some ((.getfield 16), (3, 5, 2, 527), [1, 1], 0), none, none, some ((.iload_n 1), (1, 0, 0, 0), [], 0), some (.baload, (1, 0, 0, 0), [], 0), some ((.ifCond .ne 6), (3, 24, 0, 0), [], 0), none, none, some ((.bipush (-3)), (2, 0, 0, 0), [], (-3)), none, some (.ireturn, (1, 0, 0, 0), [], 0), some ((.aload_n 0), (1, 0, 0, 0), [], 0), some ((.iconst 2), (1, 0, 0, 0), [], 2), some ((.invokevirtual 181), (3, 121, 2, 769), [2], 0), none, none, some ((.aload_n 0), (1, 0, 0, 0), [], 0), some ((.iload_n 1), (1, 0, 0, 0), [], 0), some ((.invokevirtual 184), (3, 122, 2, 773), [2], 0), none, none, some ((.aload_n 0), (1, 0, 0, 0), [], 0), some ((.invokevirtual 106), (3, 55, 1, 616), [2], 0), none, none, some ((.iconst 0), (1, 0, 0, 0), [], 0), some ((.istore_n 2), (1, 0, 0, 0), [], 0), some ((.iload_n 2), (1, 0, 0, 0), [], 0), some ((.bipush 64), (2, 0, 0, 0), [], 64), none, some ((.if_icmp .ge 21), (3, 64, 0, 0), [], 0), none, none, some ((.aload_n 0), (1, 0, 0, 0), [], 0), some ((.getfield 38), (3, 5, 13, 538), [1, 1], 0), none, none, some ((.iload_n 2), (1, 0, 0, 0), [], 0), some ((.aload_n 0), (1, 0, 0, 0), [], 0), some ((.getfield 26), (3, 5, 5, 530), [1, 1], 0), none, none, some ((.iload_n 2), (1, 0, 0, 0), [], 0), some (.iaload, (1, 0, 0, 0), [], 0), some (.iastore, (1, 0, 0, 0), [], 0), some ((.iinc 2 1), (3, 0, 0, 0), [], 1), none, none, some ((.goto (-21)), (3, 40, 0, 0), [], 0), none, none, some ((.iconst 0), (1, 0, 0, 0), [], 0), some ((.istore_n 2), (1, 0, 0, 0), [], 0), some ((.iload_n 2), (1, 0, 0, 0), [], 0), some ((.bipush 8), (2, 0, 0, 0), [], 8), none, some ((.if_icmp .ge 21), (3, 90, 0, 0), [], 0), none, none, some ((.aload_n 0), (1, 0, 0, 0), [], 0), some ((.getfield 41), (3, 5, 14, 539), [1, 1], 0), none, none, some ((.iload_n 2), (1, 0, 0, 0), [], 0), some ((.aload_n 0), (1, 0, 0, 0), [], 0), some ((.getfield 29), (3, 5, 6, 531), [1, 1], 0), none, none, some ((.iload_n 2), (1, 0, 0, 0), [], 0), some (.iaload, (1, 0, 0, 0), [], 0), some (.iastore, (1, 0, 0, 0), [], 0), some ((.iinc 2 1), (3, 0, 0, 0), [], 1), none, none, some ((.goto (-21)), (3, 66, 0, 0), [], 0), none, none, some ((.aload_n 0), (1, 0, 0, 0), [], 0), some ((.iconst 2), (1, 0, 0, 0), [], 2), some ((.invokevirtual 184), (3, 122, 2, 773), [2], 0), none, none, some ((.aload_n 0), (1, 0, 0, 0), [], 0), some ((.invokevirtual 106), (3, 55, 1, 616), [2], 0), none, none, some ((.iconst 0), (1, 0, 0, 0), [], 0), some ((.istore_n 2), (1, 0, 0, 0), [], 0), some ((.iconst 0), (1, 0, 0, 0), [], 0), some ((.istore_n 3), (1, 0, 0, 0), [], 0), some ((.iload_n 3), (1, 0, 0, 0), [], 0), some ((.bipush 8), (2, 0, 0, 0), [], 8), none, some ((.if_icmp .ge 33), (3, 139, 0, 0), [], 0), none, none, some ((.iload_n 2), (1, 0, 0, 0), [], 0), some ((.aload_n 0), (1, 0, 0, 0), [], 0), some ((.iload_n 3), (1, 0, 0, 0), [], 0), some ((.invokevirtual 56), (3, 28, 2, 585), [2], 0), none, none, some ((.ifCond .eq 15), (3, 130, 0, 0), [], 0), none, none, some ((.aload_n 0), (1, 0, 0, 0), [], 0), some ((.iload_n 3), (1, 0, 0, 0), [], 0), some ((.invokevirtual 187), (3, 123, 2, 777), [2], 0), none, none, some ((.ifCond .eq 7), (3, 130, 0, 0), [], 0), none, none, some ((.iconst 1), (1, 0, 0, 0), [], 1), some ((.goto 4), (3, 131, 0, 0), [], 0), none, none, some ((.iconst 0), (1, 0, 0, 0), [], 0), some (.iadd, (1, 0, 0, 0), [], 0), some ((.istore_n 2), (1, 0, 0, 0), [], 0), some ((.iinc 3 1), (3, 0, 0, 0), [], 1), none, none, some ((.goto (-33)), (3, 103, 0, 0), [], 0), none, none, some ((.iload_n 2), (1, 0, 0, 0), [], 0), some (.ireturn, (1, 0, 0, 0), [], 0)]
/-- MeshNames$Mesh.become(LMeshNames$Mesh;)V -/
def k_125 : List (Option AE) := [some ((.aload_n 0), (1, 0, 0, 0), [], 0), some ((.aload_n 1), (1, 0, 0, 0), [], 0), some ((.getfield 18), (3, 0, 2, 81), [0, 0], 0), none, none, some ((.putfield 18), (3, 0, 2, 81), [0, 0], 0), none, none, some ((.iconst 0), (1, 0, 0, 0), [], 0), some ((.istore_n 2), (1, 0, 0, 0), [], 0), some ((.iload_n 2), (1, 0, 0, 0), [], 0), some ((.bipush 8), (2, 0, 0, 0), [], 8), none, some ((.if_icmp .ge 33), (3, 46, 0, 0), [], 0), none, none, some ((.aload_n 0), (1, 0, 0, 0), [], 0), some ((.getfield 9), (3, 0, 0, 75), [1, 1], 0), none, none, some ((.iload_n 2), (1, 0, 0, 0), [], 0), some ((.aload_n 1), (1, 0, 0, 0), [], 0), some ((.getfield 9), (3, 0, 0, 75), [1, 1], 0), none, none, some ((.iload_n 2), (1, 0, 0, 0), [], 0), some (.iaload, (1, 0, 0, 0), [], 0), some (.iastore, (1, 0, 0, 0), [], 0), some ((.aload_n 0), (1, 0, 0, 0), [], 0), some ((.getfield 15), (3, 0, 1, 80), [1, 1], 0), none, none, some ((.iload_n 2), (1, 0, 0, 0), [], 0), some ((.aload_n 1), (1, 0, 0, 0), [], 0), some ((.getfield 15), (3, 0, 1, 80), [1, 1], 0), none, none, some ((.iload_n 2), (1, 0, 0, 0), [], 0), some (.iaload, (1, 0, 0, 0), [], 0), some (.iastore, (1, 0, 0, 0), [], 0), some ((.iinc 2 1), (3, 0, 0, 0), [], 1), none, none, some ((.goto (-33)), (3, 10, 0, 0), [], 0), none, none, some (.return_, (1, 0, 0, 0), [], 0)]
/-- MeshNames.image(I)I -/
def k_126 : List (Option AE) := [some ((.iload_n 1), (1, 0, 0, 0), [], 0), some ((.invokestatic 176), (3, 116, 1, 471), [0], 0), none, none, some ((.ifCond .ne 6), (3, 10, 0, 0), [], 0), none, none, some ((.bipush (-2)), (2, 0, 0, 0), [], (-2)), none, some (.ireturn, (1, 0, 0, 0), [], 0), some ((.aload_n 0), (1, 0, 0, 0), [], 0), some ((.getfield 43), (3, 4, 4, 246), [1, 1], 0), none, none, some ((.iload_n 1), (1, 0, 0, 0), [], 0), some (.aaload, (1, 0, 0, 0), [], 0), some ((.getfield 179), (3, 1, 0, 101), [1, 1], 0), none, none, some ((.aload_n 0), (1, 0, 0, 0), [], 0), some ((.getfield 10), (3, 4, 0, 242), [1, 1], 0), none, none, some ((.invokevirtual 180), (3, 125, 2, 489), [2], 0), none, none, some ((.aload_n 0), (1, 0, 0, 0), [], 0), some ((.getfield 43), (3, 4, 4, 246), [1, 1], 0), none, none, some ((.iload_n 1), (1, 0, 0, 0), [], 0), some (.aaload, (1, 0, 0, 0), [], 0), some ((.invokevirtual 51), (3, 17, 1, 192), [2], 0), none, none, some ((.aload_n 0), (1, 0, 0, 0), [], 0), some (.dup, (1, 0, 0, 0), [], 0), some ((.getfield 47), (3, 4, 5, 247), [0, 0], 0), none, none, some ((.iload_n 1), (1, 0, 0, 0), [], 0), some ((.invokestatic 183), (3, 5, 1, 493), [0], 0), none, none, some (.ior, (1, 0, 0, 0), [], 0), some ((.putfield 47), (3, 4, 5, 247), [0, 0], 0), none, none, some ((.iconst 1), (1, 0, 0, 0), [], 1), some (.ireturn, (1, 0, 0, 0), [], 0)]
/-- MeshNamesModel.image(I)I -/
def k_127 : List (Option AE) := [some ((.iload_n 1), (1, 0, 0, 0), [], 0), some ((.iconst 0), (1, 0, 0, 0), [], 0), some ((.iconst 1), (1, 0, 0, 0), [], 1), some ((.invokestatic 44), (3, 25, 3, 579), [0], 0), none, none, some ((.ifCond .ne 6), (3, 12, 0, 0), [], 0), none, none, some ((.bipush (-2)), (2, 0, 0, 0), [], (-2)), none, some (.ireturn, (1, 0, 0, 0), [], 0), some ((.aload_n 0), (1, 0, 0, 0), [], 0), some ((.iload_n 1), (1, 0, 0, 0), [], 0), some ((.invokevirtual 181), (3, 121, 2, 769), [2], 0), none, none, some ((.aload_n 0), (1, 0, 0, 0), [], 0), some ((.getfield 16), (3, 5, 2, 527), [1, 1], 0), none, none, some ((.iload_n 1), (1, 0, 0, 0), [], 0), some ((.iconst 1), (1, 0, 0, 0), [], 1), some (.bastore, (1, 0, 0, 0), [], 0), some ((.iconst 1), (1, 0, 0, 0), [], 1), some (.ireturn, (1, 0, 0, 0), [], 0)]
/-- MeshNames.restore(I)I -/
def k_128 : List (Option AE) := [some ((.aload_n 0), (1, 0, 0, 0), [], 0), some ((.iload_n 1), (1, 0, 0, 0), [], 0), some ((.invokevirtual 169), (3, 117, 2, 467), [2], 0), none, none, some ((.istore_n 2), (1, 0, 0, 0), [], 0), some ((.iload_n 2), (1, 0, 0, 0), [], 0), some ((.ifCond .eq 5), (3, 12, 0, 0), [], 0), none, none, some ((.iload_n 2), (1, 0, 0, 0), [], 0), some (.ireturn, (1, 0, 0, 0), [], 0), some ((.aload_n 0), (1, 0, 0, 0), [], 0), some ((.getfield 10), (3, 4, 0, 242), [1, 1], 0), none, none, some ((.aload_n 0), (1, 0, 0, 0), [], 0), some ((.getfield 43), (3, 4, 4, 246), [1, 1], 0), none, none, some ((.iload_n 1), (1, 0, 0, 0), [], 0), some (.aaload, (1, 0, 0, 0), [], 0), some ((.getfield 179), (3, 1, 0, 101), [1, 1], 0), none, none, some ((.invokevirtual 180), (3, 125, 2, 489), [2], 0), none, none, some ((.aload_n 0), (1, 0, 0, 0), [], 0), some ((.getfield 21), (3, 4, 1, 243), [1, 1], 0), none, none, some ((.invokevirtual 51), (3, 17, 1, 192), [2], 0), none, none, some ((.iconst 1), (1, 0, 0, 0), [], 1), some (.ireturn, (1, 0, 0, 0), [], 0)]
/-- MeshNamesModel.restore(I)I -/
def k_129 : List (Option AE) := [some ((.iload_n 1), (1, 0, 0, 0), [], 0), some ((.iconst 0), (1, 0, 0, 0), [], 0), some ((.iconst 1), (1, 0, 0, 0), [], 1), some ((.invokestatic 44), (3, 25, 3, 579), [0], 0), none, none, some ((.ifCond .ne 6), (3, 12, 0, 0), [], 0), none, none, some ((.bipush (-2)), (2, 0, 0, 0), [], (-2)), none, some (.ireturn, (1, 0, 0, 0), [], 0), some ((.aload_n 0), (1, 0, 0, 0), [], 0), some ((.getfield 16), (3, 5, 2, 527), [1, 1], 0), none, none, some ((.iload_n 1), (1, 0, 0, 0), [], 0), some (.baload, (1, 0, 0, 0), [], 0), some ((.ifCond .ne 6), (3, 24, 0, 0), [], 0), none, none, some ((.bipush (-3)), (2, 0, 0, 0), [], (-3)), none, some (.ireturn, (1, 0, 0, 0), [], 0), some ((.aload_n 0), (1, 0, 0, 0), [], 0), some ((.iload_n 1), (1, 0, 0, 0), [], 0), some ((.invokevirtual 184), (3, 122, 2, 773), [2], 0), none, none, some ((.iconst 1), (1, 0, 0, 0), [], 1), some (.ireturn, (1, 0, 0, 0), [], 0)]
/-- MeshNames$Mesh.countLinksThatCount()I -/
def k_130 : List (Option AE) := [some ((.iconst 0), (1, 0, 0, 0), [], 0), some ((.istore_n 1), (1, 0, 0, 0), [], 0), some ((.iconst 0), (1, 0, 0, 0), [], 0), some ((.istore_n 2), (1, 0, 0, 0), [], 0), some ((.iload_n 2), (1, 0, 0, 0), [], 0), some ((.bipush 8), (2, 0, 0, 0), [], 8), none, some ((.if_icmp .ge 20), (3, 27, 0, 0), [], 0), none, none, some ((.iload_n 1), (1, 0, 0, 0), [], 0), some ((.aload_n 0), (1, 0, 0, 0), [], 0), some ((.iload_n 2), (1, 0, 0, 0), [], 0), some ((.invokevirtual 34), (3, 9, 2, 215), [2], 0), none, none, some ((.invokestatic 40), (3, 23, 1, 305), [0], 0), none, none, some (.iadd, (1, 0, 0, 0), [], 0), some ((.istore_n 1), (1, 0, 0, 0), [], 0), some ((.iinc 2 1), (3, 0, 0, 0), [], 1), none, none, some ((.goto (-20)), (3, 4, 0, 0), [], 0), none, none, some ((.iload_n 1), (1, 0, 0, 0), [], 0), some ((.iconst 2), (1, 0, 0, 0), [], 2), some (.idiv, (1, 0, 0, 0), [], 0), some (.ireturn, (1, 0, 0, 0), [], 0)]
/-- MeshNames$Paths.countParts()I -/
def k_131 : List (Option AE) := [some ((.iconst 0), (1, 0, 0, 0), [], 0), some ((.istore_n 1), (1, 0, 0, 0), [], 0), some ((.iconst 0), (1, 0, 0, 0), [], 0), some ((.istore_n 2), (1, 0, 0, 0), [], 0), some ((.iload_n 2), (1, 0, 0, 0), [], 0), some ((.bipush 8), (2, 0, 0, 0), [], 8), none, some ((.if_icmp .ge 39), (3, 46, 0, 0), [], 0), none, none, some ((.aload_n 0), (1, 0, 0, 0), [], 0), some ((.getfield 9), (3, 1, 0, 98), [1, 1], 0), none, none, some ((.iload_n 2), (1, 0, 0, 0), [], 0), some ((.invokevirtual 105), (3, 8, 2, 479), [2], 0), none, none, some ((.ifCond .eq 22), (3, 40, 0, 0), [], 0), none, none, some ((.aload_n 0), (1, 0, 0, 0), [], 0), some ((.getfield 15), (3, 1, 1, 102), [1, 1], 0), none, none, some ((.iload_n 2), (1, 0, 0, 0), [], 0), some (.iaload, (1, 0, 0, 0), [], 0), some ((.iload_n 2), (1, 0, 0, 0), [], 0), some ((.invokestatic 59), (3, 5, 1, 200), [1], 0), none, none, some ((.iconst 1), (1, 0, 0, 0), [], 1), some (.isub, (1, 0, 0, 0), [], 0), some (.iand, (1, 0, 0, 0), [], 0), some ((.ifCond .ne 6), (3, 40, 0, 0), [], 0), none, none, some ((.iinc 1 1), (3, 0, 0, 0), [], 1), none, none, some ((.iinc 2 1), (3, 0, 0, 0), [], 1), none, none, some ((.goto (-39)), (3, 4, 0, 0), [], 0), none, none, some ((.iload_n 1), (1, 0, 0, 0), [], 0), some (.ireturn, (1, 0, 0, 0), [], 0)]
/-- MeshNames$Paths.countPaths()I -/
def k_132 : List (Option AE) := [some ((.iconst 0), (1, 0, 0, 0), [], 0), some ((.istore_n 1), (1, 0, 0, 0), [], 0), some ((.iconst 0), (1, 0, 0, 0), [], 0), some ((.istore_n 2), (1, 0, 0, 0), [], 0), some ((.iload_n 2), (1, 0, 0, 0), [], 0), some ((.bipush 8), (2, 0, 0, 0), [], 8), none, some ((.if_icmp .ge 20), (3, 27, 0, 0), [], 0), none, none, some ((.aload_n 0), (1, 0, 0, 0), [], 0), some ((.iload_n 2), (1, 0, 0, 0), [], 0), some ((.invokevirtual 115), (3, 64, 2, 514), [2], 0), none, none, some ((.ifCond .eq 6), (3, 21, 0, 0), [], 0), none, none, some ((.iinc 1 1), (3, 0, 0, 0), [], 1), none, none, some ((.iinc 2 1), (3, 0, 0, 0), [], 1), none, none, some ((.goto (-20)), (3, 4, 0, 0), [], 0), none, none, some ((.iload_n 1), (1, 0, 0, 0), [], 0), some (.ireturn, (1, 0, 0, 0), [], 0)]
/-- MeshNames$Paths.countNodesOfPaths()I -/
def k_133 : List (Option AE) := [some ((.iconst 0), (1, 0, 0, 0), [], 0), some ((.istore_n 1), (1, 0, 0, 0), [], 0), some ((.iconst 0), (1, 0, 0, 0), [], 0), some ((.istore_n 2), (1, 0, 0, 0), [], 0), some ((.iload_n 2), (1, 0, 0, 0), [], 0), some ((.bipush 8), (2, 0, 0, 0), [], 8), none, some ((.if_icmp .ge 18), (3, 25, 0, 0), [], 0), none, none, some ((.iload_n 1), (1, 0, 0, 0), [], 0), some ((.aload_n 0), (1, 0, 0, 0), [], 0), some ((.getfield 28), (3, 1, 5, 112), [1, 1], 0), none, none, some ((.iload_n 2), (1, 0, 0, 0), [], 0), some (.iaload, (1, 0, 0, 0), [], 0), some (.iadd, (1, 0, 0, 0), [], 0), some ((.istore_n 1), (1, 0, 0, 0), [], 0), some ((.iinc 2 1), (3, 0, 0, 0), [], 1), none, none, some ((.goto (-18)), (3, 4, 0, 0), [], 0), none, none, some ((.iload_n 1), (1, 0, 0, 0), [], 0), some (.ireturn, (1, 0, 0, 0), [], 0)]
/-- MeshNames.count(I)I -/
def k_134 : List (Option AE) := [some ((.iload_n 1), (1, 0, 0, 0), [], 0), some ((.tableswitch 111 0 7 #[47, 58, 66, 74, 82, 90, 98, 106]), (47, 112, 0, 0), [48, 59, 67, 75, 83, 91, 99, 107], 0), none, none, none, none, none, none, none, none, none, none, none, none, none, none, none, none, none, none, none, none, none, none, none, none, none, none, none, none, none, none, none, none, none, none, none, none, none, none, none, none, none, none, none, none, none, none, some ((.aload_n 0), (1, 0, 0, 0), [], 0), some ((.getfield 10), (3, 4, 0, 242), [1, 1], 0), none, none, some ((.getfield 71), (3, 0, 2, 82), [0, 0], 0), none, none, some ((.invokestatic 74), (3, 23, 1, 279), [0], 0), none, none, some (.ireturn, (1, 0, 0, 0), [], 0), some ((.aload_n 0), (1, 0, 0, 0), [], 0), some ((.getfield 10), (3, 4, 0, 242), [1, 1], 0), none, none, some ((.invokevirtual 92), (3, 36, 1, 301), [2], 0), none, none, some (.ireturn, (1, 0, 0, 0), [], 0), some ((.aload_n 0), (1, 0, 0, 0), [], 0), some ((.getfield 10), (3, 4, 0, 242), [1, 1], 0), none, none, some ((.invokevirtual 186), (3, 130, 1, 502), [2], 0), none, none, some (.ireturn, (1, 0, 0, 0), [], 0), some ((.aload_n 0), (1, 0, 0, 0), [], 0), some ((.getfield 21), (3, 4, 1, 243), [1, 1], 0), none, none, some ((.invokevirtual 189), (3, 131, 1, 506), [2], 0), none, none, some (.ireturn, (1, 0, 0, 0), [], 0), some ((.aload_n 0), (1, 0, 0, 0), [], 0), some ((.getfield 21), (3, 4, 1, 243), [1, 1], 0), none, none, some ((.invokevirtual 192), (3, 132, 1, 510), [2], 0), none, none, some (.ireturn, (1, 0, 0, 0), [], 0), some ((.aload_n 0), (1, 0, 0, 0), [], 0), some ((.getfield 21), (3, 4, 1, 243), [1, 1], 0), none, none, some ((.invokevirtual 195), (3, 133, 1, 515), [2], 0), none, none, some (.ireturn, (1, 0, 0, 0), [], 0), some ((.aload_n 0), (1, 0, 0, 0), [], 0), some ((.getfield 10), (3, 4, 0, 242), [1, 1], 0), none, none, some ((.getfield 71), (3, 0, 2, 82), [0, 0], 0), none, none, some (.ireturn, (1, 0, 0, 0), [], 0), some ((.aload_n 0), (1, 0, 0, 0), [], 0), some ((.getfield 47), (3, 4, 5, 247), [0, 0], 0), none, none, some (.ireturn, (1, 0, 0, 0), [], 0), some ((.bipush (-2)), (2, 0, 0, 0), [], (-2)), none, some (.ireturn, (1, 0, 0, 0), [], 0)]
/-- MeshNamesModel.counting()I -/
def k_135 : List (Option AE) := [some ((.iconst 0), (1, 0, 0, 0), [], 0), some ((.istore_n 1), (1, 0, 0, 0), [], 0), some ((.iconst 0), (1, 0, 0, 0), [], 0), some ((.istore_n 2), (1, 0, 0, 0), [], 0), some ((.iload_n 2), (1, 0, 0, 0), [], 0), some ((.bipush 8), (2, 0, 0, 0), [], 8), none, some ((.if_icmp .ge 42), (3, 49, 0, 0), [], 0), none, none, some ((.iload_n 2), (1, 0, 0, 0), [], 0), some ((.iconst 1), (1, 0, 0, 0), [], 1), some (.iadd, (1, 0, 0, 0), [], 0), some ((.istore_n 3), (1, 0, 0, 0), [], 0), some ((.iload_n 3), (1, 0, 0, 0), [], 0), some ((.bipush 8), (2, 0, 0, 0), [], 8), none, some ((.if_icmp .ge 26), (3, 43, 0, 0), [], 0), none, none, some ((.iload_n 1), (1, 0, 0, 0), [], 0), some ((.aload_n 0), (1, 0, 0, 0), [], 0), some ((.iload_n 2), (1, 0, 0, 0), [], 0), some ((.iload_n 3), (1, 0, 0, 0), [], 0), some ((.invokevirtual 76), (3, 47, 3, 628), [2], 0), none, none, some ((.ifCond .eq 7), (3, 34, 0, 0), [], 0), none, none, some ((.iconst 1), (1, 0, 0, 0), [], 1), some ((.goto 4), (3, 35, 0, 0), [], 0), none, none, some ((.iconst 0), (1, 0, 0, 0), [], 0), some (.iadd, (1, 0, 0, 0), [], 0), some ((.istore_n 1), (1, 0, 0, 0), [], 0), some ((.iinc 3 1), (3, 0, 0, 0), [], 1), none, none, some ((.goto (-26)), (3, 14, 0, 0), [], 0), none, none, some ((.iinc 2 1), (3, 0, 0, 0), [], 1), none, none, some ((.goto (-42)), (3, 4, 0, 0), [], 0), none, none, some ((.iload_n 1), (1, 0, 0, 0), [], 0), some (.ireturn, (1, 0, 0, 0), [], 0)]
/-- MeshNamesModel.parts()I -/
def k_136 : List (Option AE) := [some ((.iconst 0), (1, 0, 0, 0), [], 0), some ((.istore_n 1), (1, 0, 0, 0), [], 0), some ((.iconst 0), (1, 0, 0, 0), [], 0), some ((.istore_n 2), (1, 0, 0, 0), [], 0), some ((.iload_n 2), (1, 0, 0, 0), [], 0), some ((.bipush 8), (2, 0, 0, 0), [], 8), none, some ((.if_icmp .ge 39), (3, 46, 0, 0), [], 0), none, none, some ((.iload_n 1), (1, 0, 0, 0), [], 0), some ((.aload_n 0), (1, 0, 0, 0), [], 0), some ((.iload_n 2), (1, 0, 0, 0), [], 0), some ((.invokevirtual 56), (3, 28, 2, 585), [2], 0), none, none, some ((.ifCond .eq 21), (3, 37, 0, 0), [], 0), none, none, some ((.aload_n 0), (1, 0, 0, 0), [], 0), some ((.iload_n 2), (1, 0, 0, 0), [], 0), some ((.invokevirtual 109), (3, 56, 2, 656), [2], 0), none, none, some ((.iconst 1), (1, 0, 0, 0), [], 1), some ((.iload_n 2), (1, 0, 0, 0), [], 0), some (.ishl, (1, 0, 0, 0), [], 0), some ((.iconst 1), (1, 0, 0, 0), [], 1), some (.isub, (1, 0, 0, 0), [], 0), some (.iand, (1, 0, 0, 0), [], 0), some ((.ifCond .ne 7), (3, 37, 0, 0), [], 0), none, none, some ((.iconst 1), (1, 0, 0, 0), [], 1), some ((.goto 4), (3, 38, 0, 0), [], 0), none, none, some ((.iconst 0), (1, 0, 0, 0), [], 0), some (.iadd, (1, 0, 0, 0), [], 0), some ((.istore_n 1), (1, 0, 0, 0), [], 0), some ((.iinc 2 1), (3, 0, 0, 0), [], 1), none, none, some ((.goto (-39)), (3, 4, 0, 0), [], 0), none, none, some ((.iload_n 1), (1, 0, 0, 0), [], 0), some (.ireturn, (1, 0, 0, 0), [], 0)]
/-- MeshNamesModel.paths()I -/
def k_137 : List (Option AE) := [some ((.iconst 0), (1, 0, 0, 0), [], 0), some ((.istore_n 1), (1, 0, 0, 0), [], 0), some ((.iconst 0), (1, 0, 0, 0), [], 0), some ((.istore_n 2), (1, 0, 0, 0), [], 0), some ((.iload_n 2), (1, 0, 0, 0), [], 0), some ((.bipush 8), (2, 0, 0, 0), [], 8), none, some ((.if_icmp .ge 26), (3, 33, 0, 0), [], 0), none, none, some ((.iload_n 1), (1, 0, 0, 0), [], 0), some ((.aload_n 0), (1, 0, 0, 0), [], 0), some ((.getfield 29), (3, 5, 6, 531), [1, 1], 0), none, none, some ((.iload_n 2), (1, 0, 0, 0), [], 0), some (.iaload, (1, 0, 0, 0), [], 0), some ((.ifCond .le 7), (3, 24, 0, 0), [], 0), none, none, some ((.iconst 1), (1, 0, 0, 0), [], 1), some ((.goto 4), (3, 25, 0, 0), [], 0), none, none, some ((.iconst 0), (1, 0, 0, 0), [], 0), some (.iadd, (1, 0, 0, 0), [], 0), some ((.istore_n 1), (1, 0, 0, 0), [], 0), some ((.iinc 2 1), (3, 0, 0, 0), [], 1), none, none, some ((.goto (-26)), (3, 4, 0, 0), [], 0), none, none, some ((.iload_n 1), (1, 0, 0, 0), [], 0), some (.ireturn, (1, 0, 0, 0), [], 0)]
/-- MeshNamesModel.allRows()I -/
def k_138 : List (Option AE) := [some ((.iconst 0), (1, 0, 0, 0), [], 0), some ((.istore_n 1), (1, 0, 0, 0), [], 0), some ((.iconst 0), (1, 0, 0, 0), [], 0), some ((.istore_n 2), (1, 0, 0, 0), [], 0), some ((.iload_n 2), (1, 0, 0, 0), [], 0), some ((.bipush 8), (2, 0, 0, 0), [], 8), none, some ((.if_icmp .ge 18), (3, 25, 0, 0), [], 0), none, none, some ((.iload_n 1), (1, 0, 0, 0), [], 0), some ((.aload_n 0), (1, 0, 0, 0), [], 0), some ((.getfield 29), (3, 5, 6, 531), [1, 1], 0), none, none, some ((.iload_n 2), (1, 0, 0, 0), [], 0), some (.iaload, (1, 0, 0, 0), [], 0), some (.iadd, (1, 0, 0, 0), [], 0), some ((.istore_n 1), (1, 0, 0, 0), [], 0), some ((.iinc 2 1), (3, 0, 0, 0), [], 1), none, none, some ((.goto (-18)), (3, 4, 0, 0), [], 0), none, none, some ((.iload_n 1), (1, 0, 0, 0), [], 0), some (.ireturn, (1, 0, 0, 0), [], 0)]
/-- MeshNamesModel.upSet()I -/
def k_139 : List (Option AE) := [some ((.iconst 0), (1, 0, 0, 0), [], 0), some ((.istore_n 1), (1, 0, 0, 0), [], 0), some ((.iconst 0), (1, 0, 0, 0), [], 0), some ((.istore_n 2), (1, 0, 0, 0), [], 0), some ((.iload_n 2), (1, 0, 0, 0), [], 0), some ((.bipush 8), (2, 0, 0, 0), [], 8), none, some ((.if_icmp .ge 27), (3, 34, 0, 0), [], 0), none, none, some ((.iload_n 1), (1, 0, 0, 0), [], 0), some ((.aload_n 0), (1, 0, 0, 0), [], 0), some ((.iload_n 2), (1, 0, 0, 0), [], 0), some ((.invokevirtual 56), (3, 28, 2, 585), [2], 0), none, none, some ((.ifCond .eq 9), (3, 25, 0, 0), [], 0), none, none, some ((.iconst 1), (1, 0, 0, 0), [], 1), some ((.iload_n 2), (1, 0, 0, 0), [], 0), some (.ishl, (1, 0, 0, 0), [], 0), some ((.goto 4), (3, 26, 0, 0), [], 0), none, none, some ((.iconst 0), (1, 0, 0, 0), [], 0), some (.ior, (1, 0, 0, 0), [], 0), some ((.istore_n 1), (1, 0, 0, 0), [], 0), some ((.iinc 2 1), (3, 0, 0, 0), [], 1), none, none, some ((.goto (-27)), (3, 4, 0, 0), [], 0), none, none, some ((.iload_n 1), (1, 0, 0, 0), [], 0), some (.ireturn, (1, 0, 0, 0), [], 0)]
/-- MeshNamesModel.count(I)I -/
def k_140 : List (Option AE) := [some ((.aload_n 0), (1, 0, 0, 0), [], 0), some ((.invokevirtual 106), (3, 55, 1, 616), [2], 0), none, none, some ((.iload_n 1), (1, 0, 0, 0), [], 0), some ((.tableswitch 112 0 7 #[47, 52, 57, 62, 67, 72, 77, 82]), (47, 117, 0, 0), [52, 57, 62, 67, 72, 77, 82, 87], 0), none, none, none, none, none, none, none, none, none, none, none, none, none, none, none, none, none, none, none, none, none, none, none, none, none, none, none, none, none, none, none, none, none, none, none, none, none, none, none, none, none, none, none, none, none, none, some ((.aload_n 0), (1, 0, 0, 0), [], 0), some ((.invokevirtual 69), (3, 30, 1, 593), [2], 0), none, none, some (.ireturn, (1, 0, 0, 0), [], 0), some ((.aload_n 0), (1, 0, 0, 0), [], 0), some ((.invokevirtual 73), (3, 39, 1, 608), [2], 0), none, none, some (.ireturn, (1, 0, 0, 0), [], 0), some ((.aload_n 0), (1, 0, 0, 0), [], 0), some ((.invokevirtual 190), (3, 135, 1, 793), [2], 0), none, none, some (.ireturn, (1, 0, 0, 0), [], 0), some ((.aload_n 0), (1, 0, 0, 0), [], 0), some ((.invokevirtual 193), (3, 136, 1, 797), [2], 0), none, none, some (.ireturn, (1, 0, 0, 0), [], 0), some ((.aload_n 0), (1, 0, 0, 0), [], 0), some ((.invokevirtual 196), (3, 137, 1, 801), [2], 0), none, none, some (.ireturn, (1, 0, 0, 0), [], 0), some ((.aload_n 0), (1, 0, 0, 0), [], 0), some ((.invokevirtual 199), (3, 138, 1, 805), [2], 0), none, none, some (.ireturn, (1, 0, 0, 0), [], 0), some ((.aload_n 0), (1, 0, 0, 0), [], 0), some ((.invokevirtual 202), (3, 139, 1, 809), [2], 0), none, none, some (.ireturn, (1, 0, 0, 0), [], 0), some ((.aload_n 0), (1, 0, 0, 0), [], 0), some ((.getfield 16), (3, 5, 2, 527), [1, 1], 0), none, none, some ((.iconst 0), (1, 0, 0, 0), [], 0), some (.baload, (1, 0, 0, 0), [], 0), some ((.ifCond .eq 7), (3, 100, 0, 0), [], 0), none, none, some ((.iconst 1), (1, 0, 0, 0), [], 1), some ((.goto 4), (3, 101, 0, 0), [], 0), none, none, some ((.iconst 0), (1, 0, 0, 0), [], 0), some ((.aload_n 0), (1, 0, 0, 0), [], 0), some ((.getfield 16), (3, 5, 2, 527), [1, 1], 0), none, none, some ((.iconst 1), (1, 0, 0, 0), [], 1), some (.baload, (1, 0, 0, 0), [], 0), some ((.ifCond .eq 7), (3, 114, 0, 0), [], 0), none, none, some ((.iconst 2), (1, 0, 0, 0), [], 2), some ((.goto 4), (3, 115, 0, 0), [], 0), none, none, some ((.iconst 0), (1, 0, 0, 0), [], 0), some (.iadd, (1, 0, 0, 0), [], 0), some (.ireturn, (1, 0, 0, 0), [], 0), some ((.bipush (-2)), (2, 0, 0, 0), [], (-2)), none, some (.ireturn, (1, 0, 0, 0), [], 0)]
/-- MeshNamesLaw.law([I)Z -/
def k_141 : List (Option AE) := [some ((.new 7), (3, 4, 0, 61), [], 0), none, none, some (.dup, (1, 0, 0, 0), [], 0), some ((.invokespecial 9), (3, 18, 1, 63), [3], 0), none, none, some ((.astore_n 1), (1, 0, 0, 0), [], 0), some ((.new 10), (3, 5, 0, 519), [], 0), none, none, some (.dup, (1, 0, 0, 0), [], 0), some ((.invokespecial 12), (3, 19, 1, 521), [3], 0), none, none, some ((.astore_n 2), (1, 0, 0, 0), [], 0), some ((.iconst 0), (1, 0, 0, 0), [], 0), some ((.istore_n 3), (1, 0, 0, 0), [], 0), some ((.iload_n 3), (1, 0, 0, 0), [], 0), some ((.aload_n 0), (1, 0, 0, 0), [], 0), some (.arraylength, (1, 0, 0, 0), [], 0), some ((.iconst 4), (1, 0, 0, 0), [], 4), some (.isub, (1, 0, 0, 0), [], 0), some ((.if_icmp .gt 563), (3, 586, 0, 0), [], 0), none, none, some ((.aload_n 0), (1, 0, 0, 0), [], 0), some ((.iload_n 3), (1, 0, 0, 0), [], 0), some (.iaload, (1, 0, 0, 0), [], 0), some ((.bipush 15), (2, 0, 0, 0), [], 15), none, some (.iand, (1, 0, 0, 0), [], 0), some ((.tableswitch 548 0 15 #[80, 113, 136, 179, 212, 245, 278, 311, 354, 387, 410, 443, 456, 479, 502, 525]), (80, 580, 0, 0), [112, 145, 168, 211, 244, 277, 310, 343, 386, 419, 442, 475, 488, 511, 534, 557], 0), none, none, none, none, none, none, none, none, none, none, none, none, none, none, none, none, none, none, none, none, none, none, none, none, none, none, none, none, none, none, none, none, none, none, none, none, none, none, none, none, none, none, none, none, none, none, none, none, none, none, none, none, none, none, none, none, none, none, none, none, none, none, none, none, none, none, none, none, none, none, none, none, none, none, none, none, none, none, none, some ((.aload_n 1), (1, 0, 0, 0), [], 0), some ((.aload_n 0), (1, 0, 0, 0), [], 0), some ((.iload_n 3), (1, 0, 0, 0), [], 0), some ((.iconst 1), (1, 0, 0, 0), [], 1), some (.iadd, (1, 0, 0, 0), [], 0), some (.iaload, (1, 0, 0, 0), [], 0), some ((.aload_n 0), (1, 0, 0, 0), [], 0), some ((.iload_n 3), (1, 0, 0, 0), [], 0), some ((.iconst 2), (1, 0, 0, 0), [], 2), some (.iadd, (1, 0, 0, 0), [], 0), some (.iaload, (1, 0, 0, 0), [], 0), some ((.invokevirtual 13), (3, 24, 3, 261), [2], 0), none, none, some ((.aload_n 2), (1, 0, 0, 0), [], 0), some ((.aload_n 0), (1, 0, 0, 0), [], 0), some ((.iload_n 3), (1, 0, 0, 0), [], 0), some ((.iconst 1), (1, 0, 0, 0), [], 1), some (.iadd, (1, 0, 0, 0), [], 0), some (.iaload, (1, 0, 0, 0), [], 0), some ((.aload_n 0), (1, 0, 0, 0), [], 0), some ((.iload_n 3), (1, 0, 0, 0), [], 0), some ((.iconst 2), (1, 0, 0, 0), [], 2), some (.iadd, (1, 0, 0, 0), [], 0), some (.iaload, (1, 0, 0, 0), [], 0), some ((.invokevirtual 17), (3, 31, 3, 572), [2], 0), none, none, some ((.if_icmp .eq 440), (3, 580, 0, 0), [], 0), none, none, some ((.iconst 0), (1, 0, 0, 0), [], 0), some (.ireturn, (1, 0, 0, 0), [], 0), some ((.aload_n 1), (1, 0, 0, 0), [], 0), some ((.aload_n 0), (1, 0, 0, 0), [], 0), some ((.iload_n 3), (1, 0, 0, 0), [], 0), some ((.iconst 1), (1, 0, 0, 0), [], 1), some (.iadd, (1, 0, 0, 0), [], 0), some (.iaload, (1, 0, 0, 0), [], 0), some ((.invokevirtual 18), (3, 33, 2, 285), [2], 0), none, none, some ((.aload_n 2), (1, 0, 0, 0), [], 0), some ((.aload_n 0), (1, 0, 0, 0), [], 0), some ((.iload_n 3), (1, 0, 0, 0), [], 0), some ((.iconst 1), (1, 0, 0, 0), [], 1), some (.iadd, (1, 0, 0, 0), [], 0), some (.iaload, (1, 0, 0, 0), [], 0), some ((.invokevirtual 22), (3, 34, 2, 597), [2], 0), none, none, some ((.if_icmp .eq 417), (3, 580, 0, 0), [], 0), none, none, some ((.iconst 0), (1, 0, 0, 0), [], 0), some (.ireturn, (1, 0, 0, 0), [], 0), some ((.aload_n 1), (1, 0, 0, 0), [], 0), some ((.aload_n 0), (1, 0, 0, 0), [], 0), some ((.iload_n 3), (1, 0, 0, 0), [], 0), some ((.iconst 1), (1, 0, 0, 0), [], 1), some (.iadd, (1, 0, 0, 0), [], 0), some (.iaload, (1, 0, 0, 0), [], 0), some ((.aload_n 0), (1, 0, 0, 0), [], 0), some ((.iload_n 3), (1, 0, 0, 0), [], 0), some ((.iconst 2), (1, 0, 0, 0), [], 2), some (.iadd, (1, 0, 0, 0), [], 0), some (.iaload, (1, 0, 0, 0), [], 0), some ((.aload_n 0), (1, 0, 0, 0), [], 0), some ((.iload_n 3), (1, 0, 0, 0), [], 0), some ((.iconst 3), (1, 0, 0, 0), [], 3), some (.iadd, (1, 0, 0, 0), [], 0), some (.iaload, (1, 0, 0, 0), [], 0), some ((.invokevirtual 23), (3, 37, 4, 293), [2], 0), none, none, some ((.aload_n 2), (1, 0, 0, 0), [], 0), some ((.aload_n 0), (1, 0, 0, 0), [], 0), some ((.iload_n 3), (1, 0, 0, 0), [], 0), some ((.iconst 1), (1, 0, 0, 0), [], 1), some (.iadd, (1, 0, 0, 0), [], 0), some (.iaload, (1, 0, 0, 0), [], 0), some ((.aload_n 0), (1, 0, 0, 0), [], 0), some ((.iload_n 3), (1, 0, 0, 0), [], 0), some ((.iconst 2), (1, 0, 0, 0), [], 2), some (.iadd, (1, 0, 0, 0), [], 0), some (.iaload, (1, 0, 0, 0), [], 0), some ((.aload_n 0), (1, 0, 0, 0), [], 0), some ((.iload_n 3), (1, 0, 0, 0), [], 0), some ((.iconst 3), (1, 0, 0, 0), [], 3), some (.iadd, (1, 0, 0, 0), [], 0), some (.iaload, (1, 0, 0, 0), [], 0), some ((.invokevirtual 27), (3, 40, 4, 601), [2], 0), none, none, some ((.if_icmp .eq 374), (3, 580, 0, 0), [], 0), none, none, some ((.iconst 0), (1, 0, 0, 0), [], 0), some (.ireturn, (1, 0, 0, 0), [], 0), some ((.aload_n 1), (1, 0, 0, 0), [], 0), some ((.aload_n 0), (1, 0, 0, 0), [], 0), some ((.iload_n 3), (1, 0, 0, 0), [], 0), some ((.iconst 1), (1, 0, 0, 0), [], 1), some (.iadd, (1, 0, 0, 0), [], 0), some (.iaload, (1, 0, 0, 0), [], 0), some ((.aload_n 0), (1, 0, 0, 0), [], 0), some ((.iload_n 3), (1, 0, 0, 0), [], 0), some ((.iconst 2), (1, 0, 0, 0), [], 2), some (.iadd, (1, 0, 0, 0), [], 0), some (.iaload, (1, 0, 0, 0), [], 0), some ((.invokevirtual 28), (3, 45, 3, 306), [2], 0), none, none, some ((.aload_n 2), (1, 0, 0, 0), [], 0), some ((.aload_n 0), (1, 0, 0, 0), [], 0), some ((.iload_n 3), (1, 0, 0, 0), [], 0), some ((.iconst 1), (1, 0, 0, 0), [], 1), some (.iadd, (1, 0, 0, 0), [], 0), some (.iaload, (1, 0, 0, 0), [], 0), some ((.aload_n 0), (1, 0, 0, 0), [], 0), some ((.iload_n 3), (1, 0, 0, 0), [], 0), some ((.iconst 2), (1, 0, 0, 0), [], 2), some (.iadd, (1, 0, 0, 0), [], 0), some (.iaload, (1, 0, 0, 0), [], 0), some ((.invokevirtual 31), (3, 63, 3, 612), [2], 0), none, none, some ((.if_icmp .eq 341), (3, 580, 0, 0), [], 0), none, none, some ((.iconst 0), (1, 0, 0, 0), [], 0), some (.ireturn, (1, 0, 0, 0), [], 0), some ((.aload_n 1), (1, 0, 0, 0), [], 0), some ((.aload_n 0), (1, 0, 0, 0), [], 0), some ((.iload_n 3), (1, 0, 0, 0), [], 0), some ((.iconst 1), (1, 0, 0, 0), [], 1), some (.iadd, (1, 0, 0, 0), [], 0), some (.iaload, (1, 0, 0, 0), [], 0), some ((.aload_n 0), (1, 0, 0, 0), [], 0), some ((.iload_n 3), (1, 0, 0, 0), [], 0), some ((.iconst 2), (1, 0, 0, 0), [], 2), some (.iadd, (1, 0, 0, 0), [], 0), some (.iaload, (1, 0, 0, 0), [], 0), some ((.invokevirtual 32), (3, 66, 3, 328), [2], 0), none, none, some ((.aload_n 2), (1, 0, 0, 0), [], 0), some ((.aload_n 0), (1, 0, 0, 0), [], 0), some ((.iload_n 3), (1, 0, 0, 0), [], 0), some ((.iconst 1), (1, 0, 0, 0), [], 1), some (.iadd, (1, 0, 0, 0), [], 0), some (.iaload, (1, 0, 0, 0), [], 0), some ((.aload_n 0), (1, 0, 0, 0), [], 0), some ((.iload_n 3), (1, 0, 0, 0), [], 0), some ((.iconst 2), (1, 0, 0, 0), [], 2), some (.iadd, (1, 0, 0, 0), [], 0), some (.iaload, (1, 0, 0, 0), [], 0), some ((.invokevirtual 35), (3, 67, 3, 683), [2], 0), none, none, some ((.if_icmp .eq 308), (3, 580, 0, 0), [], 0), none, none, some ((.iconst 0), (1, 0, 0, 0), [], 0), some (.ireturn, (1, 0, 0, 0), [], 0), some ((.aload_n 1), (1, 0, 0, 0), [], 0), some ((.aload_n 0), (1, 0, 0, 0), [], 0), some ((.iload_n 3), (1, 0, 0, 0), [], 0), some ((.iconst 1), (1, 0, 0, 0), [], 1), some (.iadd, (1, 0, 0, 0), [], 0), some (.iaload, (1, 0, 0, 0), [], 0), some ((.aload_n 0), (1, 0, 0, 0), [], 0), some ((.iload_n 3), (1, 0, 0, 0), [], 0), some ((.iconst 2), (1, 0, 0, 0), [], 2), some (.iadd, (1, 0, 0, 0), [], 0), some (.iaload, (1, 0, 0, 0), [], 0), some ((.invokevirtual 36), (3, 68, 3, 340), [2], 0), none, none, some ((.aload_n 2), (1, 0, 0, 0), [], 0), some ((.aload_n 0), (1, 0, 0, 0), [], 0), some ((.iload_n 3), (1, 0, 0, 0), [], 0), some ((.iconst 1), (1, 0, 0, 0), [], 1), some (.iadd, (1, 0, 0, 0), [], 0), some (.iaload, (1, 0, 0, 0), [], 0), some ((.aload_n 0), (1, 0, 0, 0), [], 0), some ((.iload_n 3), (1, 0, 0, 0), [], 0), some ((.iconst 2), (1, 0, 0, 0), [], 2), some (.iadd, (1, 0, 0, 0), [], 0), some (.iaload, (1, 0, 0, 0), [], 0), some ((.invokevirtual 39), (3, 69, 3, 687), [2], 0), none, none, some ((.if_icmp .eq 275), (3, 580, 0, 0), [], 0), none, none, some ((.iconst 0), (1, 0, 0, 0), [], 0), some (.ireturn, (1, 0, 0, 0), [], 0), some ((.aload_n 1), (1, 0, 0, 0), [], 0), some ((.aload_n 0), (1, 0, 0, 0), [], 0), some ((.iload_n 3), (1, 0, 0, 0), [], 0), some ((.iconst 1), (1, 0, 0, 0), [], 1), some (.iadd, (1, 0, 0, 0), [], 0), some (.iaload, (1, 0, 0, 0), [], 0), some ((.aload_n 0), (1, 0, 0, 0), [], 0), some ((.iload_n 3), (1, 0, 0, 0), [], 0), some ((.iconst 2), (1, 0, 0, 0), [], 2), some (.iadd, (1, 0, 0, 0), [], 0), some (.iaload, (1, 0, 0, 0), [], 0), some ((.invokevirtual 40), (3, 75, 3, 345), [2], 0), none, none, some ((.aload_n 2), (1, 0, 0, 0), [], 0), some ((.aload_n 0), (1, 0, 0, 0), [], 0), some ((.iload_n 3), (1, 0, 0, 0), [], 0), some ((.iconst 1), (1, 0, 0, 0), [], 1), some (.iadd, (1, 0, 0, 0), [], 0), some (.iaload, (1, 0, 0, 0), [], 0), some ((.aload_n 0), (1, 0, 0, 0), [], 0), some ((.iload_n 3), (1, 0, 0, 0), [], 0), some ((.iconst 2), (1, 0, 0, 0), [], 2), some (.iadd, (1, 0, 0, 0), [], 0), some (.iaload, (1, 0, 0, 0), [], 0), some ((.invokevirtual 43), (3, 80, 3, 691), [2], 0), none, none, some ((.if_icmp .eq 242), (3, 580, 0, 0), [], 0), none, none, some ((.iconst 0), (1, 0, 0, 0), [], 0), some (.ireturn, (1, 0, 0, 0), [], 0), some ((.aload_n 1), (1, 0, 0, 0), [], 0), some ((.aload_n 0), (1, 0, 0, 0), [], 0), some ((.iload_n 3), (1, 0, 0, 0), [], 0), some ((.iconst 1), (1, 0, 0, 0), [], 1), some (.iadd, (1, 0, 0, 0), [], 0), some (.iaload, (1, 0, 0, 0), [], 0), some ((.aload_n 0), (1, 0, 0, 0), [], 0), some ((.iload_n 3), (1, 0, 0, 0), [], 0), some ((.iconst 2), (1, 0, 0, 0), [], 2), some (.iadd, (1, 0, 0, 0), [], 0), some (.iaload, (1, 0, 0, 0), [], 0), some ((.aload_n 0), (1, 0, 0, 0), [], 0), some ((.iload_n 3), (1, 0, 0, 0), [], 0), some ((.iconst 3), (1, 0, 0, 0), [], 3), some (.iadd, (1, 0, 0, 0), [], 0), some (.iaload, (1, 0, 0, 0), [], 0), some ((.invokevirtual 44), (3, 87, 4, 366), [2], 0), none, none, some ((.aload_n 2), (1, 0, 0, 0), [], 0), some ((.aload_n 0), (1, 0, 0, 0), [], 0), some ((.iload_n 3), (1, 0, 0, 0), [], 0), some ((.iconst 1), (1, 0, 0, 0), [], 1), some (.iadd, (1, 0, 0, 0), [], 0), some (.iaload, (1, 0, 0, 0), [], 0), some ((.aload_n 0), (1, 0, 0, 0), [], 0), some ((.iload_n 3), (1, 0, 0, 0), [], 0), some ((.iconst 2), (1, 0, 0, 0), [], 2), some (.iadd, (1, 0, 0, 0), [], 0), some (.iaload, (1, 0, 0, 0), [], 0), some ((.aload_n 0), (1, 0, 0, 0), [], 0), some ((.iload_n 3), (1, 0, 0, 0), [], 0), some ((.iconst 3), (1, 0, 0, 0), [], 3), some (.iadd, (1, 0, 0, 0), [], 0), some (.iaload, (1, 0, 0, 0), [], 0), some ((.invokevirtual 47), (3, 91, 4, 709), [2], 0), none, none, some ((.if_icmp .eq 199), (3, 580, 0, 0), [], 0), none, none, some ((.iconst 0), (1, 0, 0, 0), [], 0), some (.ireturn, (1, 0, 0, 0), [], 0), some ((.aload_n 1), (1, 0, 0, 0), [], 0), some ((.aload_n 0), (1, 0, 0, 0), [], 0), some ((.iload_n 3), (1, 0, 0, 0), [], 0), some ((.iconst 1), (1, 0, 0, 0), [], 1), some (.iadd, (1, 0, 0, 0), [], 0), some (.iaload, (1, 0, 0, 0), [], 0), some ((.aload_n 0), (1, 0, 0, 0), [], 0), some ((.iload_n 3), (1, 0, 0, 0), [], 0), some ((.iconst 2), (1, 0, 0, 0), [], 2), some (.iadd, (1, 0, 0, 0), [], 0), some (.iaload, (1, 0, 0, 0), [], 0), some ((.invokevirtual 48), (3, 94, 3, 399), [2], 0), none, none, some ((.aload_n 2), (1, 0, 0, 0), [], 0), some ((.aload_n 0), (1, 0, 0, 0), [], 0), some ((.iload_n 3), (1, 0, 0, 0), [], 0), some ((.iconst 1), (1, 0, 0, 0), [], 1), some (.iadd, (1, 0, 0, 0), [], 0), some (.iaload, (1, 0, 0, 0), [], 0), some ((.aload_n 0), (1, 0, 0, 0), [], 0), some ((.iload_n 3), (1, 0, 0, 0), [], 0), some ((.iconst 2), (1, 0, 0, 0), [], 2), some (.iadd, (1, 0, 0, 0), [], 0), some (.iaload, (1, 0, 0, 0), [], 0), some ((.invokevirtual 51), (3, 96, 3, 725), [2], 0), none, none, some ((.if_icmp .eq 166), (3, 580, 0, 0), [], 0), none, none, some ((.iconst 0), (1, 0, 0, 0), [], 0), some (.ireturn, (1, 0, 0, 0), [], 0), some ((.aload_n 1), (1, 0, 0, 0), [], 0), some ((.aload_n 0), (1, 0, 0, 0), [], 0), some ((.iload_n 3), (1, 0, 0, 0), [], 0), some ((.iconst 1), (1, 0, 0, 0), [], 1), some (.iadd, (1, 0, 0, 0), [], 0), some (.iaload, (1, 0, 0, 0), [], 0), some ((.invokevirtual 52), (3, 102, 2, 413), [2], 0), none, none, some ((.aload_n 2), (1, 0, 0, 0), [], 0), some ((.aload_n 0), (1, 0, 0, 0), [], 0), some ((.iload_n 3), (1, 0, 0, 0), [], 0), some ((.iconst 1), (1, 0, 0, 0), [], 1), some (.iadd, (1, 0, 0, 0), [], 0), some (.iaload, (1, 0, 0, 0), [], 0), some ((.invokevirtual 55), (3, 106, 2, 733), [2], 0), none, none, some ((.if_icmp .eq 143), (3, 580, 0, 0), [], 0), none, none, some ((.iconst 0), (1, 0, 0, 0), [], 0), some (.ireturn, (1, 0, 0, 0), [], 0), some ((.aload_n 1), (1, 0, 0, 0), [], 0), some ((.aload_n 0), (1, 0, 0, 0), [], 0), some ((.iload_n 3), (1, 0, 0, 0), [], 0), some ((.iconst 1), (1, 0, 0, 0), [], 1), some (.iadd, (1, 0, 0, 0), [], 0), some (.iaload, (1, 0, 0, 0), [], 0), some ((.aload_n 0), (1, 0, 0, 0), [], 0), some ((.iload_n 3), (1, 0, 0, 0), [], 0), some ((.iconst 2), (1, 0, 0, 0), [], 2), some (.iadd, (1, 0, 0, 0), [], 0), some (.iaload, (1, 0, 0, 0), [], 0), some ((.invokevirtual 56), (3, 109, 3, 441), [2], 0), none, none, some ((.aload_n 2), (1, 0, 0, 0), [], 0), some ((.aload_n 0), (1, 0, 0, 0), [], 0), some ((.iload_n 3), (1, 0, 0, 0), [], 0), some ((.iconst 1), (1, 0, 0, 0), [], 1), some (.iadd, (1, 0, 0, 0), [], 0), some (.iaload, (1, 0, 0, 0), [], 0), some ((.aload_n 0), (1, 0, 0, 0), [], 0), some ((.iload_n 3), (1, 0, 0, 0), [], 0), some ((.iconst 2), (1, 0, 0, 0), [], 2), some (.iadd, (1, 0, 0, 0), [], 0), some (.iaload, (1, 0, 0, 0), [], 0), some ((.invokevirtual 59), (3, 111, 3, 749), [2], 0), none, none, some ((.if_icmp .eq 110), (3, 580, 0, 0), [], 0), none, none, some ((.iconst 0), (1, 0, 0, 0), [], 0), some (.ireturn, (1, 0, 0, 0), [], 0), some ((.aload_n 1), (1, 0, 0, 0), [], 0), some ((.invokevirtual 60), (3, 113, 1, 454), [2], 0), none, none, some ((.aload_n 2), (1, 0, 0, 0), [], 0), some ((.invokevirtual 64), (3, 115, 1, 757), [2], 0), none, none, some ((.if_icmp .eq 97), (3, 580, 0, 0), [], 0), none, none, some ((.iconst 0), (1, 0, 0, 0), [], 0), some (.ireturn, (1, 0, 0, 0), [], 0), some ((.aload_n 1), (1, 0, 0, 0), [], 0), some ((.aload_n 0), (1, 0, 0, 0), [], 0), some ((.iload_n 3), (1, 0, 0, 0), [], 0), some ((.iconst 1), (1, 0, 0, 0), [], 1), some (.iadd, (1, 0, 0, 0), [], 0), some (.iaload, (1, 0, 0, 0), [], 0), some ((.invokevirtual 65), (3, 120, 2, 463), [2], 0), none, none, some ((.aload_n 2), (1, 0, 0, 0), [], 0), some ((.aload_n 0), (1, 0, 0, 0), [], 0), some ((.iload_n 3), (1, 0, 0, 0), [], 0), some ((.iconst 1), (1, 0, 0, 0), [], 1), some (.iadd, (1, 0, 0, 0), [], 0), some (.iaload, (1, 0, 0, 0), [], 0), some ((.invokevirtual 68), (3, 124, 2, 765), [2], 0), none, none, some ((.if_icmp .eq 74), (3, 580, 0, 0), [], 0), none, none, some ((.iconst 0), (1, 0, 0, 0), [], 0), some (.ireturn, (1, 0, 0, 0), [], 0), some ((.aload_n 1), (1, 0, 0, 0), [], 0), some ((.aload_n 0), (1, 0, 0, 0), [], 0), some ((.iload_n 3), (1, 0, 0, 0), [], 0), some ((.iconst 1), (1, 0, 0, 0), [], 1), some (.iadd, (1, 0, 0, 0), [], 0), some (.iaload, (1, 0, 0, 0), [], 0), some ((.invokevirtual 69), (3, 126, 2, 485), [2], 0), none, none, some ((.aload_n 2), (1, 0, 0, 0), [], 0), some ((.aload_n 0), (1, 0, 0, 0), [], 0), some ((.iload_n 3), (1, 0, 0, 0), [], 0), some ((.iconst 1), (1, 0, 0, 0), [], 1), some (.iadd, (1, 0, 0, 0), [], 0), some (.iaload, (1, 0, 0, 0), [], 0), some ((.invokevirtual 72), (3, 127, 2, 781), [2], 0), none, none, some ((.if_icmp .eq 51), (3, 580, 0, 0), [], 0), none, none, some ((.iconst 0), (1, 0, 0, 0), [], 0), some (.ireturn, (1, 0, 0, 0), [], 0), some ((.aload_n 1), (1, 0, 0, 0), [], 0), some ((.aload_n 0), (1, 0, 0, 0), [], 0), some ((.iload_n 3), (1, 0, 0, 0), [], 0), some ((.iconst 1), (1, 0, 0, 0), [], 1), some (.iadd, (1, 0, 0, 0), [], 0), some (.iaload, (1, 0, 0, 0), [], 0), some ((.invokevirtual 73), (3, 128, 2, 494), [2], 0), none, none, some ((.aload_n 2), (1, 0, 0, 0), [], 0), some ((.aload_n 0), (1, 0, 0, 0), [], 0), some ((.iload_n 3), (1, 0, 0, 0), [], 0), some ((.iconst 1), (1, 0, 0, 0), [], 1), some (.iadd, (1, 0, 0, 0), [], 0), some (.iaload, (1, 0, 0, 0), [], 0), some ((.invokevirtual 76), (3, 129, 2, 785), [2], 0), none, none, some ((.if_icmp .eq 28), (3, 580, 0, 0), [], 0), none, none, some ((.iconst 0), (1, 0, 0, 0), [], 0), some (.ireturn, (1, 0, 0, 0), [], 0), some ((.aload_n 1), (1, 0, 0, 0), [], 0), some ((.aload_n 0), (1, 0, 0, 0), [], 0), some ((.iload_n 3), (1, 0, 0, 0), [], 0), some ((.iconst 1), (1, 0, 0, 0), [], 1), some (.iadd, (1, 0, 0, 0), [], 0), some (.iaload, (1, 0, 0, 0), [], 0), some ((.invokevirtual 77), (3, 134, 2, 498), [2], 0), none, none, some ((.aload_n 2), (1, 0, 0, 0), [], 0), some ((.aload_n 0), (1, 0, 0, 0), [], 0), some ((.iload_n 3), (1, 0, 0, 0), [], 0), some ((.iconst 1), (1, 0, 0, 0), [], 1), some (.iadd, (1, 0, 0, 0), [], 0), some (.iaload, (1, 0, 0, 0), [], 0), some ((.invokevirtual 80), (3, 140, 2, 789), [2], 0), none, none, some ((.if_icmp .eq 5), (3, 580, 0, 0), [], 0), none, none, some ((.iconst 0), (1, 0, 0, 0), [], 0), some (.ireturn, (1, 0, 0, 0), [], 0), some ((.iinc 3 4), (3, 0, 0, 0), [], 4), none, none, some ((.goto (-565)), (3, 18, 0, 0), [], 0), none, none, some ((.iconst 1), (1, 0, 0, 0), [], 1), some (.ireturn, (1, 0, 0, 0), [], 0)]
def pgs : List (List (Option AE)) := [k_0, k_1, k_2, k_3, k_4, k_5, k_6, k_7, k_8, k_9, k_10, k_11, k_12, k_13, k_14, k_15, k_16, k_17, k_18, k_19, k_20, k_21, k_22, k_23, k_24, k_25, k_26, k_27, k_28, k_29, k_30, k_31, k_32, k_33, k_34, k_35, k_36, k_37, k_38, k_39, k_40, k_41, k_42, k_43, k_44, k_45, k_46, k_47, k_48, k_49, k_50, k_51, k_52, k_53, k_54, k_55, k_56, k_57, k_58, k_59, k_60, k_61, k_62, k_63, k_64, k_65, k_66, k_67, k_68, k_69, k_70, k_71, k_72, k_73, k_74, k_75, k_76, k_77, k_78, k_79, k_80, k_81, k_82, k_83, k_84, k_85, k_86, k_87, k_88, k_89, k_90, k_91, k_92, k_93, k_94, k_95, k_96, k_97, k_98, k_99, k_100, k_101, k_102, k_103, k_104, k_105, k_106, k_107, k_108, k_109, k_110, k_111, k_112, k_113, k_114, k_115, k_116, k_117, k_118, k_119, k_120, k_121, k_122, k_123, k_124, k_125, k_126, k_127, k_128, k_129, k_130, k_131, k_132, k_133, k_134, k_135, k_136, k_137, k_138, k_139, k_140, k_141]
def mI (y : Nat) : MI := mT.getD y m_0
def pg (y : Nat) : List (Option AE) := pgs.getD y []
def mNm (y : Nat) : MethodName := (mI y).1
def mBy (y : Nat) : ByteArray := (mI y).2.1
def mML (y : Nat) : Nat := (mI y).2.2.1
def mRt (y : Nat) : Option FieldType := (mI y).2.2.2.1
def mFr (y : Nat) : Nat := (mI y).2.2.2.2.1.1
def mLo (y : Nat) : Nat := (mI y).2.2.2.2.1.2.1
def mMc (y : Nat) : Nat := (mI y).2.2.2.2.1.2.2.1
def mMs (y : Nat) : Nat := (mI y).2.2.2.2.1.2.2.2
def mNa (y : Nat) : Nat := (mI y).2.2.2.2.2.1
def mRc (y : Nat) : Nat := (mI y).2.2.2.2.2.2
end
section
def tG : List Cond := lw_tbl.filter goodWord
theorem tG_at {w : Cond} (i : Nat) (h : lw_tbl[i]? = some w) (hg : goodWord w = true) : w ∈ tG := List.mem_filter.mpr ⟨List.mem_of_getElem? h, hg⟩
def cOK (ci : Nat) (r : vw_C) : Prop := (∀ w ∈ u_ws r.1 r.2.1 r.2.2, w ∈ tG) ∧ Cond.instantiable r.1 r.2.2 ∈ tG ∧ Cond.initialized r.1 ∈ tG ∧ (∀ a, a < r.2.2 → ∀ b, b < r.2.2 → a ≠ b → (r.2.1 a).2.1 ≠ (r.2.1 b).2.1) ∧ (cDs.getD ci []).length = r.2.2 ∧
  ∃ ty : Nat → FieldType, (∀ k, k < r.2.2 → parseFieldDescriptor (r.2.1 k).2.2.1 = some (ty k)) ∧ (∀ j, j < r.2.2 → defaultValue (ty j) = if (cDs.getD ci [])[j]? = some (vI 0) then .int 0 else .null) ∧ (∀ j, j < r.2.2 → (ty j = .int ∧ (cDs.getD ci [])[j]? = some (vI 0)) ∨ ((cDs.getD ci [])[j]? = some vN ∧ ((∃ t, ty j = .array t) ∨ ∃ n, ty j = .object n)))
theorem cI0 : ∀ k, k < 3 → lw_tbl[([84, 86, 88] : List Nat).getD k 0]? = some (u_lay cN0 cF0 k) ∧ goodWord (u_lay cN0 cF0 k) = true := by decide +kernel
theorem cO0 : cOK 0 (cN0, cF0, 3) := ⟨fun w hw => by
    obtain ⟨k, hk, rfl⟩ := List.mem_map.mp hw
    exact tG_at _ (cI0 k (List.mem_range.mp hk)).1 (cI0 k (List.mem_range.mp hk)).2, tG_at 70 (by decide +kernel) rfl, tG_at 54 (by decide +kernel) rfl, by decide +kernel, by decide, cY0, by decide +kernel, by decide +kernel, fun j hj => by
    match j, hj with
    | 0, _ => exact Or.inr ⟨rfl, Or.inl ⟨_, rfl⟩⟩
    | 1, _ => exact Or.inr ⟨rfl, Or.inl ⟨_, rfl⟩⟩
    | 2, _ => exact Or.inl ⟨rfl, rfl⟩
    | j + 3, h => exact absurd (show j + 3 < 3 from h) (by omega)⟩
theorem cI1 : ∀ k, k < 8 → lw_tbl[([117, 119, 121, 123, 125, 127, 129, 131] : List Nat).getD k 0]? = some (u_lay cN1 cF1 k) ∧ goodWord (u_lay cN1 cF1 k) = true := by decide +kernel
theorem cO1 : cOK 1 (cN1, cF1, 8) := ⟨fun w hw => by
    obtain ⟨k, hk, rfl⟩ := List.mem_map.mp hw
    exact tG_at _ (cI1 k (List.mem_range.mp hk)).1 (cI1 k (List.mem_range.mp hk)).2, tG_at 93 (by decide +kernel) rfl, tG_at 55 (by decide +kernel) rfl, by decide +kernel, by decide, cY1, by decide +kernel, by decide +kernel, fun j hj => by
    match j, hj with
    | 0, _ => exact Or.inr ⟨rfl, Or.inr ⟨_, rfl⟩⟩
    | 1, _ => exact Or.inr ⟨rfl, Or.inl ⟨_, rfl⟩⟩
    | 2, _ => exact Or.inr ⟨rfl, Or.inl ⟨_, rfl⟩⟩
    | 3, _ => exact Or.inr ⟨rfl, Or.inl ⟨_, rfl⟩⟩
    | 4, _ => exact Or.inr ⟨rfl, Or.inl ⟨_, rfl⟩⟩
    | 5, _ => exact Or.inr ⟨rfl, Or.inl ⟨_, rfl⟩⟩
    | 6, _ => exact Or.inr ⟨rfl, Or.inl ⟨_, rfl⟩⟩
    | 7, _ => exact Or.inr ⟨rfl, Or.inl ⟨_, rfl⟩⟩
    | j + 8, h => exact absurd (show j + 8 < 8 from h) (by omega)⟩
theorem cI2 : ∀ k, k < 6 → lw_tbl[([146, 148, 150, 152, 154, 156] : List Nat).getD k 0]? = some (u_lay cN2 cF2 k) ∧ goodWord (u_lay cN2 cF2 k) = true := by decide +kernel
theorem cO2 : cOK 2 (cN2, cF2, 6) := ⟨fun w hw => by
    obtain ⟨k, hk, rfl⟩ := List.mem_map.mp hw
    exact tG_at _ (cI2 k (List.mem_range.mp hk)).1 (cI2 k (List.mem_range.mp hk)).2, tG_at 135 (by decide +kernel) rfl, tG_at 56 (by decide +kernel) rfl, by decide +kernel, by decide, cY2, by decide +kernel, by decide +kernel, fun j hj => by
    match j, hj with
    | 0, _ => exact Or.inr ⟨rfl, Or.inr ⟨_, rfl⟩⟩
    | 1, _ => exact Or.inr ⟨rfl, Or.inl ⟨_, rfl⟩⟩
    | 2, _ => exact Or.inl ⟨rfl, rfl⟩
    | 3, _ => exact Or.inl ⟨rfl, rfl⟩
    | 4, _ => exact Or.inl ⟨rfl, rfl⟩
    | 5, _ => exact Or.inl ⟨rfl, rfl⟩
    | j + 6, h => exact absurd (show j + 6 < 6 from h) (by omega)⟩
theorem cI3 : ∀ k, k < 6 → lw_tbl[([178, 180, 182, 184, 186, 188] : List Nat).getD k 0]? = some (u_lay cN3 cF3 k) ∧ goodWord (u_lay cN3 cF3 k) = true := by decide +kernel
theorem cO3 : cOK 3 (cN3, cF3, 6) := ⟨fun w hw => by
    obtain ⟨k, hk, rfl⟩ := List.mem_map.mp hw
    exact tG_at _ (cI3 k (List.mem_range.mp hk)).1 (cI3 k (List.mem_range.mp hk)).2, tG_at 160 (by decide +kernel) rfl, tG_at 57 (by decide +kernel) rfl, by decide +kernel, by decide, cY3, by decide +kernel, by decide +kernel, fun j hj => by
    match j, hj with
    | 0, _ => exact Or.inr ⟨rfl, Or.inr ⟨_, rfl⟩⟩
    | 1, _ => exact Or.inr ⟨rfl, Or.inr ⟨_, rfl⟩⟩
    | 2, _ => exact Or.inr ⟨rfl, Or.inl ⟨_, rfl⟩⟩
    | 3, _ => exact Or.inl ⟨rfl, rfl⟩
    | 4, _ => exact Or.inl ⟨rfl, rfl⟩
    | 5, _ => exact Or.inl ⟨rfl, rfl⟩
    | j + 6, h => exact absurd (show j + 6 < 6 from h) (by omega)⟩
theorem cI4 : ∀ k, k < 6 → lw_tbl[([248, 250, 252, 254, 256, 258] : List Nat).getD k 0]? = some (u_lay cN4 cF4 k) ∧ goodWord (u_lay cN4 cF4 k) = true := by decide +kernel
theorem cO4 : cOK 4 (cN4, cF4, 6) := ⟨fun w hw => by
    obtain ⟨k, hk, rfl⟩ := List.mem_map.mp hw
    exact tG_at _ (cI4 k (List.mem_range.mp hk)).1 (cI4 k (List.mem_range.mp hk)).2, tG_at 62 (by decide +kernel) rfl, tG_at 53 (by decide +kernel) rfl, by decide +kernel, by decide, cY4, by decide +kernel, by decide +kernel, fun j hj => by
    match j, hj with
    | 0, _ => exact Or.inr ⟨rfl, Or.inr ⟨_, rfl⟩⟩
    | 1, _ => exact Or.inr ⟨rfl, Or.inr ⟨_, rfl⟩⟩
    | 2, _ => exact Or.inr ⟨rfl, Or.inr ⟨_, rfl⟩⟩
    | 3, _ => exact Or.inr ⟨rfl, Or.inr ⟨_, rfl⟩⟩
    | 4, _ => exact Or.inr ⟨rfl, Or.inl ⟨_, rfl⟩⟩
    | 5, _ => exact Or.inl ⟨rfl, rfl⟩
    | j + 6, h => exact absurd (show j + 6 < 6 from h) (by omega)⟩
theorem cI5 : ∀ k, k < 15 → lw_tbl[([540, 542, 544, 546, 548, 550, 552, 554, 556, 558, 560, 562, 564, 566, 568] : List Nat).getD k 0]? = some (u_lay cN5 cF5 k) ∧ goodWord (u_lay cN5 cF5 k) = true := by decide +kernel
theorem cO5 : cOK 5 (cN5, cF5, 15) := ⟨fun w hw => by
    obtain ⟨k, hk, rfl⟩ := List.mem_map.mp hw
    exact tG_at _ (cI5 k (List.mem_range.mp hk)).1 (cI5 k (List.mem_range.mp hk)).2, tG_at 520 (by decide +kernel) rfl, tG_at 59 (by decide +kernel) rfl, by decide +kernel, by decide, cY5, by decide +kernel, by decide +kernel, fun j hj => by
    match j, hj with
    | 0, _ => exact Or.inr ⟨rfl, Or.inl ⟨_, rfl⟩⟩
    | 1, _ => exact Or.inr ⟨rfl, Or.inl ⟨_, rfl⟩⟩
    | 2, _ => exact Or.inr ⟨rfl, Or.inl ⟨_, rfl⟩⟩
    | 3, _ => exact Or.inr ⟨rfl, Or.inl ⟨_, rfl⟩⟩
    | 4, _ => exact Or.inr ⟨rfl, Or.inl ⟨_, rfl⟩⟩
    | 5, _ => exact Or.inr ⟨rfl, Or.inl ⟨_, rfl⟩⟩
    | 6, _ => exact Or.inr ⟨rfl, Or.inl ⟨_, rfl⟩⟩
    | 7, _ => exact Or.inr ⟨rfl, Or.inl ⟨_, rfl⟩⟩
    | 8, _ => exact Or.inl ⟨rfl, rfl⟩
    | 9, _ => exact Or.inl ⟨rfl, rfl⟩
    | 10, _ => exact Or.inl ⟨rfl, rfl⟩
    | 11, _ => exact Or.inl ⟨rfl, rfl⟩
    | 12, _ => exact Or.inr ⟨rfl, Or.inl ⟨_, rfl⟩⟩
    | 13, _ => exact Or.inr ⟨rfl, Or.inl ⟨_, rfl⟩⟩
    | 14, _ => exact Or.inr ⟨rfl, Or.inl ⟨_, rfl⟩⟩
    | j + 15, h => exact absurd (show j + 15 < 15 from h) (by omega)⟩
theorem c_ok : ∀ (ci : Nat) (r : vw_C), cls[ci]? = some r → cOK ci r := by
  intro ci r h
  match ci, h with
  | 0, h => cases h; exact cO0
  | 1, h => cases h; exact cO1
  | 2, h => cases h; exact cO2
  | 3, h => cases h; exact cO3
  | 4, h => cases h; exact cO4
  | 5, h => cases h; exact cO5
  | k + 6, h => simp [cls] at h
/-- what holds of a method that is called -/
def mOK (r : MI) : Prop := plainFor r.1 = true ∧ (r.1.cls ≠ "java/lang/invoke/MethodHandle" ∧ r.1.cls ≠ "java/lang/invoke/VarHandle") ∧ (parseMethodDescriptor r.1.desc).map (fun d => d.parameters.length) = some (if r.2.2.2.2.2.2 = 99 then r.2.2.2.2.2.1 else r.2.2.2.2.2.1 - 1) ∧
  Cond.code r.1 r.2.1 r.2.2.1 r.2.2.2.1 ∈ tG ∧ Cond.initialized r.1.cls ∈ tG ∧ (r.2.2.2.1 = none ∨ r.2.2.2.1 = some .int ∨ r.2.2.2.1 = some .boolean) ∧ r.2.2.2.2.2.1 ≤ r.2.2.1 ∧
  ((r.2.2.2.2.2.2 = 99 ∧ Cond.static r.1 ∈ tG) ∨ (1 ≤ r.2.2.2.2.2.1 ∧ (cls[r.2.2.2.2.2.2]?).map (·.1) = some r.1.cls ∧ Cond.instanceMethod r.1 ∈ tG ∧ (r.1.name = "<init>" ∨ Cond.selects r.1.cls r.1 r.1 ∈ tG)))
set_option maxRecDepth 20000 in
theorem mo_0 : mOK m_0 := ⟨by decide +kernel, ⟨by decide +kernel, by decide +kernel⟩, by decide +kernel, tG_at 73 rfl rfl, tG_at 54 (by decide +kernel) rfl, Or.inl rfl, by decide, Or.inr ⟨by decide, rfl, tG_at 72 (by decide +kernel) rfl, Or.inl rfl⟩⟩
set_option maxRecDepth 20000 in
theorem mo_1 : mOK m_1 := ⟨by decide +kernel, ⟨by decide +kernel, by decide +kernel⟩, by decide +kernel, tG_at 96 rfl rfl, tG_at 55 (by decide +kernel) rfl, Or.inl rfl, by decide, Or.inr ⟨by decide, rfl, tG_at 95 (by decide +kernel) rfl, Or.inl rfl⟩⟩
set_option maxRecDepth 20000 in
theorem mo_2 : mOK m_2 := ⟨by decide +kernel, ⟨by decide +kernel, by decide +kernel⟩, by decide +kernel, tG_at 138 rfl rfl, tG_at 56 (by decide +kernel) rfl, Or.inl rfl, by decide, Or.inr ⟨by decide, rfl, tG_at 137 (by decide +kernel) rfl, Or.inl rfl⟩⟩
set_option maxRecDepth 20000 in
theorem mo_3 : mOK m_3 := ⟨by decide +kernel, ⟨by decide +kernel, by decide +kernel⟩, by decide +kernel, tG_at 168 rfl rfl, tG_at 57 (by decide +kernel) rfl, Or.inl rfl, by decide, Or.inr ⟨by decide, rfl, tG_at 167 (by decide +kernel) rfl, Or.inr (tG_at 0 (by decide +kernel) rfl)⟩⟩
set_option maxRecDepth 20000 in
theorem mo_4 : mOK m_4 := ⟨by decide +kernel, ⟨by decide +kernel, by decide +kernel⟩, by decide +kernel, tG_at 163 rfl rfl, tG_at 57 (by decide +kernel) rfl, Or.inl rfl, by decide, Or.inr ⟨by decide, rfl, tG_at 162 (by decide +kernel) rfl, Or.inl rfl⟩⟩
set_option maxRecDepth 20000 in
theorem mo_5 : mOK m_5 := ⟨by decide +kernel, ⟨by decide +kernel, by decide +kernel⟩, by decide +kernel, tG_at 202 rfl rfl, tG_at 53 (by decide +kernel) rfl, Or.inr (Or.inl rfl), by decide, Or.inl ⟨rfl, tG_at 201 (by decide +kernel) rfl⟩⟩
set_option maxRecDepth 20000 in
theorem mo_6 : mOK m_6 := ⟨by decide +kernel, ⟨by decide +kernel, by decide +kernel⟩, by decide +kernel, tG_at 209 rfl rfl, tG_at 53 (by decide +kernel) rfl, Or.inr (Or.inr rfl), by decide, Or.inl ⟨rfl, tG_at 208 (by decide +kernel) rfl⟩⟩
set_option maxRecDepth 20000 in
theorem mo_7 : mOK m_7 := ⟨by decide +kernel, ⟨by decide +kernel, by decide +kernel⟩, by decide +kernel, tG_at 206 rfl rfl, tG_at 55 (by decide +kernel) rfl, Or.inl rfl, by decide, Or.inr ⟨by decide, rfl, tG_at 205 (by decide +kernel) rfl, Or.inr (tG_at 2 (by decide +kernel) rfl)⟩⟩
set_option maxRecDepth 20000 in
theorem mo_8 : mOK m_8 := ⟨by decide +kernel, ⟨by decide +kernel, by decide +kernel⟩, by decide +kernel, tG_at 222 rfl rfl, tG_at 54 (by decide +kernel) rfl, Or.inr (Or.inr rfl), by decide, Or.inr ⟨by decide, rfl, tG_at 220 (by decide +kernel) rfl, Or.inr (tG_at 221 (by decide +kernel) rfl)⟩⟩
set_option maxRecDepth 20000 in
theorem mo_9 : mOK m_9 := ⟨by decide +kernel, ⟨by decide +kernel, by decide +kernel⟩, by decide +kernel, tG_at 218 rfl rfl, tG_at 54 (by decide +kernel) rfl, Or.inr (Or.inl rfl), by decide, Or.inr ⟨by decide, rfl, tG_at 216 (by decide +kernel) rfl, Or.inr (tG_at 217 (by decide +kernel) rfl)⟩⟩
set_option maxRecDepth 20000 in
theorem mo_10 : mOK m_10 := ⟨by decide +kernel, ⟨by decide +kernel, by decide +kernel⟩, by decide +kernel, tG_at 213 rfl rfl, tG_at 54 (by decide +kernel) rfl, Or.inr (Or.inl rfl), by decide, Or.inr ⟨by decide, rfl, tG_at 211 (by decide +kernel) rfl, Or.inr (tG_at 212 (by decide +kernel) rfl)⟩⟩
set_option maxRecDepth 20000 in
theorem mo_11 : mOK m_11 := ⟨by decide +kernel, ⟨by decide +kernel, by decide +kernel⟩, by decide +kernel, tG_at 199 rfl rfl, tG_at 55 (by decide +kernel) rfl, Or.inl rfl, by decide, Or.inr ⟨by decide, rfl, tG_at 198 (by decide +kernel) rfl, Or.inr (tG_at 1 (by decide +kernel) rfl)⟩⟩
set_option maxRecDepth 20000 in
theorem mo_12 : mOK m_12 := ⟨by decide +kernel, ⟨by decide +kernel, by decide +kernel⟩, by decide +kernel, tG_at 229 rfl rfl, tG_at 58 (by decide +kernel) rfl, Or.inr (Or.inl rfl), by decide, Or.inl ⟨rfl, tG_at 228 (by decide +kernel) rfl⟩⟩
set_option maxRecDepth 20000 in
theorem mo_13 : mOK m_13 := ⟨by decide +kernel, ⟨by decide +kernel, by decide +kernel⟩, by decide +kernel, tG_at 226 rfl rfl, tG_at 55 (by decide +kernel) rfl, Or.inr (Or.inl rfl), by decide, Or.inr ⟨by decide, rfl, tG_at 225 (by decide +kernel) rfl, Or.inr (tG_at 3 (by decide +kernel) rfl)⟩⟩
set_option maxRecDepth 20000 in
theorem mo_14 : mOK m_14 := ⟨by decide +kernel, ⟨by decide +kernel, by decide +kernel⟩, by decide +kernel, tG_at 232 rfl rfl, tG_at 53 (by decide +kernel) rfl, Or.inr (Or.inr rfl), by decide, Or.inl ⟨rfl, tG_at 231 (by decide +kernel) rfl⟩⟩
set_option maxRecDepth 20000 in
theorem mo_15 : mOK m_15 := ⟨by decide +kernel, ⟨by decide +kernel, by decide +kernel⟩, by decide +kernel, tG_at 240 rfl rfl, tG_at 55 (by decide +kernel) rfl, Or.inr (Or.inl rfl), by decide, Or.inr ⟨by decide, rfl, tG_at 239 (by decide +kernel) rfl, Or.inr (tG_at 5 (by decide +kernel) rfl)⟩⟩
set_option maxRecDepth 20000 in
theorem mo_16 : mOK m_16 := ⟨by decide +kernel, ⟨by decide +kernel, by decide +kernel⟩, by decide +kernel, tG_at 236 rfl rfl, tG_at 55 (by decide +kernel) rfl, Or.inl rfl, by decide, Or.inr ⟨by decide, rfl, tG_at 235 (by decide +kernel) rfl, Or.inr (tG_at 4 (by decide +kernel) rfl)⟩⟩
set_option maxRecDepth 20000 in
theorem mo_17 : mOK m_17 := ⟨by decide +kernel, ⟨by decide +kernel, by decide +kernel⟩, by decide +kernel, tG_at 195 rfl rfl, tG_at 55 (by decide +kernel) rfl, Or.inl rfl, by decide, Or.inr ⟨by decide, rfl, tG_at 193 (by decide +kernel) rfl, Or.inr (tG_at 194 (by decide +kernel) rfl)⟩⟩
set_option maxRecDepth 20000 in
theorem mo_18 : mOK m_18 := ⟨by decide +kernel, ⟨by decide +kernel, by decide +kernel⟩, by decide +kernel, tG_at 65 rfl rfl, tG_at 53 (by decide +kernel) rfl, Or.inl rfl, by decide, Or.inr ⟨by decide, rfl, tG_at 64 (by decide +kernel) rfl, Or.inl rfl⟩⟩
set_option maxRecDepth 20000 in
theorem mo_19 : mOK m_19 := ⟨by decide +kernel, ⟨by decide +kernel, by decide +kernel⟩, by decide +kernel, tG_at 523 rfl rfl, tG_at 59 (by decide +kernel) rfl, Or.inl rfl, by decide, Or.inr ⟨by decide, rfl, tG_at 522 (by decide +kernel) rfl, Or.inl rfl⟩⟩
set_option maxRecDepth 20000 in
theorem mo_20 : mOK m_20 := ⟨by decide +kernel, ⟨by decide +kernel, by decide +kernel⟩, by decide +kernel, tG_at 268 rfl rfl, tG_at 53 (by decide +kernel) rfl, Or.inr (Or.inr rfl), by decide, Or.inl ⟨rfl, tG_at 267 (by decide +kernel) rfl⟩⟩
set_option maxRecDepth 20000 in
theorem mo_21 : mOK m_21 := ⟨by decide +kernel, ⟨by decide +kernel, by decide +kernel⟩, by decide +kernel, tG_at 273 rfl rfl, tG_at 54 (by decide +kernel) rfl, Or.inr (Or.inr rfl), by decide, Or.inr ⟨by decide, rfl, tG_at 271 (by decide +kernel) rfl, Or.inr (tG_at 272 (by decide +kernel) rfl)⟩⟩
set_option maxRecDepth 20000 in
theorem mo_22 : mOK m_22 := ⟨by decide +kernel, ⟨by decide +kernel, by decide +kernel⟩, by decide +kernel, tG_at 277 rfl rfl, tG_at 54 (by decide +kernel) rfl, Or.inl rfl, by decide, Or.inr ⟨by decide, rfl, tG_at 275 (by decide +kernel) rfl, Or.inr (tG_at 276 (by decide +kernel) rfl)⟩⟩
set_option maxRecDepth 20000 in
theorem mo_23 : mOK m_23 := ⟨by decide +kernel, ⟨by decide +kernel, by decide +kernel⟩, by decide +kernel, tG_at 281 rfl rfl, tG_at 60 (by decide +kernel) rfl, Or.inr (Or.inl rfl), by decide, Or.inl ⟨rfl, tG_at 280 (by decide +kernel) rfl⟩⟩
set_option maxRecDepth 20000 in
theorem mo_24 : mOK m_24 := ⟨by decide +kernel, ⟨by decide +kernel, by decide +kernel⟩, by decide +kernel, tG_at 264 rfl rfl, tG_at 53 (by decide +kernel) rfl, Or.inr (Or.inl rfl), by decide, Or.inr ⟨by decide, rfl, tG_at 262 (by decide +kernel) rfl, Or.inr (tG_at 263 (by decide +kernel) rfl)⟩⟩
set_option maxRecDepth 20000 in
theorem mo_25 : mOK m_25 := ⟨by decide +kernel, ⟨by decide +kernel, by decide +kernel⟩, by decide +kernel, tG_at 581 rfl rfl, tG_at 59 (by decide +kernel) rfl, Or.inr (Or.inr rfl), by decide, Or.inl ⟨rfl, tG_at 580 (by decide +kernel) rfl⟩⟩
set_option maxRecDepth 20000 in
theorem mo_26 : mOK m_26 := ⟨by decide +kernel, ⟨by decide +kernel, by decide +kernel⟩, by decide +kernel, tG_at 578 rfl rfl, tG_at 59 (by decide +kernel) rfl, Or.inr (Or.inr rfl), by decide, Or.inl ⟨rfl, tG_at 577 (by decide +kernel) rfl⟩⟩
set_option maxRecDepth 20000 in
theorem mo_27 : mOK m_27 := ⟨by decide +kernel, ⟨by decide +kernel, by decide +kernel⟩, by decide +kernel, tG_at 584 rfl rfl, tG_at 59 (by decide +kernel) rfl, Or.inr (Or.inr rfl), by decide, Or.inl ⟨rfl, tG_at 583 (by decide +kernel) rfl⟩⟩
set_option maxRecDepth 20000 in
theorem mo_28 : mOK m_28 := ⟨by decide +kernel, ⟨by decide +kernel, by decide +kernel⟩, by decide +kernel, tG_at 588 rfl rfl, tG_at 59 (by decide +kernel) rfl, Or.inr (Or.inr rfl), by decide, Or.inr ⟨by decide, rfl, tG_at 587 (by decide +kernel) rfl, Or.inr (tG_at 13 (by decide +kernel) rfl)⟩⟩
set_option maxRecDepth 20000 in
theorem mo_29 : mOK m_29 := ⟨by decide +kernel, ⟨by decide +kernel, by decide +kernel⟩, by decide +kernel, tG_at 592 rfl rfl, tG_at 59 (by decide +kernel) rfl, Or.inr (Or.inr rfl), by decide, Or.inr ⟨by decide, rfl, tG_at 591 (by decide +kernel) rfl, Or.inr (tG_at 14 (by decide +kernel) rfl)⟩⟩
set_option maxRecDepth 20000 in
theorem mo_30 : mOK m_30 := ⟨by decide +kernel, ⟨by decide +kernel, by decide +kernel⟩, by decide +kernel, tG_at 596 rfl rfl, tG_at 59 (by decide +kernel) rfl, Or.inr (Or.inl rfl), by decide, Or.inr ⟨by decide, rfl, tG_at 595 (by decide +kernel) rfl, Or.inr (tG_at 15 (by decide +kernel) rfl)⟩⟩
set_option maxRecDepth 20000 in
theorem mo_31 : mOK m_31 := ⟨by decide +kernel, ⟨by decide +kernel, by decide +kernel⟩, by decide +kernel, tG_at 575 rfl rfl, tG_at 59 (by decide +kernel) rfl, Or.inr (Or.inl rfl), by decide, Or.inr ⟨by decide, rfl, tG_at 573 (by decide +kernel) rfl, Or.inr (tG_at 574 (by decide +kernel) rfl)⟩⟩
set_option maxRecDepth 20000 in
theorem mo_32 : mOK m_32 := ⟨by decide +kernel, ⟨by decide +kernel, by decide +kernel⟩, by decide +kernel, tG_at 292 rfl rfl, tG_at 54 (by decide +kernel) rfl, Or.inl rfl, by decide, Or.inr ⟨by decide, rfl, tG_at 290 (by decide +kernel) rfl, Or.inr (tG_at 291 (by decide +kernel) rfl)⟩⟩
set_option maxRecDepth 20000 in
theorem mo_33 : mOK m_33 := ⟨by decide +kernel, ⟨by decide +kernel, by decide +kernel⟩, by decide +kernel, tG_at 288 rfl rfl, tG_at 53 (by decide +kernel) rfl, Or.inr (Or.inl rfl), by decide, Or.inr ⟨by decide, rfl, tG_at 286 (by decide +kernel) rfl, Or.inr (tG_at 287 (by decide +kernel) rfl)⟩⟩
set_option maxRecDepth 20000 in
theorem mo_34 : mOK m_34 := ⟨by decide +kernel, ⟨by decide +kernel, by decide +kernel⟩, by decide +kernel, tG_at 600 rfl rfl, tG_at 59 (by decide +kernel) rfl, Or.inr (Or.inl rfl), by decide, Or.inr ⟨by decide, rfl, tG_at 598 (by decide +kernel) rfl, Or.inr (tG_at 599 (by decide +kernel) rfl)⟩⟩
set_option maxRecDepth 20000 in
theorem mo_35 : mOK m_35 := ⟨by decide +kernel, ⟨by decide +kernel, by decide +kernel⟩, by decide +kernel, tG_at 300 rfl rfl, tG_at 54 (by decide +kernel) rfl, Or.inl rfl, by decide, Or.inr ⟨by decide, rfl, tG_at 298 (by decide +kernel) rfl, Or.inr (tG_at 299 (by decide +kernel) rfl)⟩⟩
set_option maxRecDepth 20000 in
theorem mo_36 : mOK m_36 := ⟨by decide +kernel, ⟨by decide +kernel, by decide +kernel⟩, by decide +kernel, tG_at 304 rfl rfl, tG_at 54 (by decide +kernel) rfl, Or.inr (Or.inl rfl), by decide, Or.inr ⟨by decide, rfl, tG_at 302 (by decide +kernel) rfl, Or.inr (tG_at 303 (by decide +kernel) rfl)⟩⟩
set_option maxRecDepth 20000 in
theorem mo_37 : mOK m_37 := ⟨by decide +kernel, ⟨by decide +kernel, by decide +kernel⟩, by decide +kernel, tG_at 296 rfl rfl, tG_at 53 (by decide +kernel) rfl, Or.inr (Or.inl rfl), by decide, Or.inr ⟨by decide, rfl, tG_at 294 (by decide +kernel) rfl, Or.inr (tG_at 295 (by decide +kernel) rfl)⟩⟩
set_option maxRecDepth 20000 in
theorem mo_38 : mOK m_38 := ⟨by decide +kernel, ⟨by decide +kernel, by decide +kernel⟩, by decide +kernel, tG_at 607 rfl rfl, tG_at 59 (by decide +kernel) rfl, Or.inr (Or.inl rfl), by decide, Or.inl ⟨rfl, tG_at 606 (by decide +kernel) rfl⟩⟩
set_option maxRecDepth 20000 in
theorem mo_39 : mOK m_39 := ⟨by decide +kernel, ⟨by decide +kernel, by decide +kernel⟩, by decide +kernel, tG_at 611 rfl rfl, tG_at 59 (by decide +kernel) rfl, Or.inr (Or.inl rfl), by decide, Or.inr ⟨by decide, rfl, tG_at 610 (by decide +kernel) rfl, Or.inr (tG_at 16 (by decide +kernel) rfl)⟩⟩
set_option maxRecDepth 20000 in
theorem mo_40 : mOK m_40 := ⟨by decide +kernel, ⟨by decide +kernel, by decide +kernel⟩, by decide +kernel, tG_at 604 rfl rfl, tG_at 59 (by decide +kernel) rfl, Or.inr (Or.inl rfl), by decide, Or.inr ⟨by decide, rfl, tG_at 602 (by decide +kernel) rfl, Or.inr (tG_at 603 (by decide +kernel) rfl)⟩⟩
set_option maxRecDepth 20000 in
theorem mo_41 : mOK m_41 := ⟨by decide +kernel, ⟨by decide +kernel, by decide +kernel⟩, by decide +kernel, tG_at 322 rfl rfl, tG_at 55 (by decide +kernel) rfl, Or.inr (Or.inl rfl), by decide, Or.inr ⟨by decide, rfl, tG_at 320 (by decide +kernel) rfl, Or.inr (tG_at 321 (by decide +kernel) rfl)⟩⟩
set_option maxRecDepth 20000 in
theorem mo_42 : mOK m_42 := ⟨by decide +kernel, ⟨by decide +kernel, by decide +kernel⟩, by decide +kernel, tG_at 318 rfl rfl, tG_at 55 (by decide +kernel) rfl, Or.inr (Or.inr rfl), by decide, Or.inr ⟨by decide, rfl, tG_at 316 (by decide +kernel) rfl, Or.inr (tG_at 317 (by decide +kernel) rfl)⟩⟩
set_option maxRecDepth 20000 in
theorem mo_43 : mOK m_43 := ⟨by decide +kernel, ⟨by decide +kernel, by decide +kernel⟩, by decide +kernel, tG_at 314 rfl rfl, tG_at 55 (by decide +kernel) rfl, Or.inr (Or.inl rfl), by decide, Or.inr ⟨by decide, rfl, tG_at 312 (by decide +kernel) rfl, Or.inr (tG_at 313 (by decide +kernel) rfl)⟩⟩
set_option maxRecDepth 20000 in
theorem mo_44 : mOK m_44 := ⟨by decide +kernel, ⟨by decide +kernel, by decide +kernel⟩, by decide +kernel, tG_at 326 rfl rfl, tG_at 55 (by decide +kernel) rfl, Or.inr (Or.inl rfl), by decide, Or.inr ⟨by decide, rfl, tG_at 324 (by decide +kernel) rfl, Or.inr (tG_at 325 (by decide +kernel) rfl)⟩⟩
set_option maxRecDepth 20000 in
theorem mo_45 : mOK m_45 := ⟨by decide +kernel, ⟨by decide +kernel, by decide +kernel⟩, by decide +kernel, tG_at 309 rfl rfl, tG_at 53 (by decide +kernel) rfl, Or.inr (Or.inl rfl), by decide, Or.inr ⟨by decide, rfl, tG_at 307 (by decide +kernel) rfl, Or.inr (tG_at 308 (by decide +kernel) rfl)⟩⟩
set_option maxRecDepth 20000 in
theorem mo_46 : mOK m_46 := ⟨by decide +kernel, ⟨by decide +kernel, by decide +kernel⟩, by decide +kernel, tG_at 635 rfl rfl, tG_at 59 (by decide +kernel) rfl, Or.inr (Or.inr rfl), by decide, Or.inr ⟨by decide, rfl, tG_at 634 (by decide +kernel) rfl, Or.inr (tG_at 21 (by decide +kernel) rfl)⟩⟩
set_option maxRecDepth 20000 in
theorem mo_47 : mOK m_47 := ⟨by decide +kernel, ⟨by decide +kernel, by decide +kernel⟩, by decide +kernel, tG_at 631 rfl rfl, tG_at 59 (by decide +kernel) rfl, Or.inr (Or.inr rfl), by decide, Or.inr ⟨by decide, rfl, tG_at 630 (by decide +kernel) rfl, Or.inr (tG_at 20 (by decide +kernel) rfl)⟩⟩
set_option maxRecDepth 20000 in
theorem mo_48 : mOK m_48 := ⟨by decide +kernel, ⟨by decide +kernel, by decide +kernel⟩, by decide +kernel, tG_at 627 rfl rfl, tG_at 59 (by decide +kernel) rfl, Or.inr (Or.inr rfl), by decide, Or.inr ⟨by decide, rfl, tG_at 626 (by decide +kernel) rfl, Or.inr (tG_at 19 (by decide +kernel) rfl)⟩⟩
set_option maxRecDepth 20000 in
theorem mo_49 : mOK m_49 := ⟨by decide +kernel, ⟨by decide +kernel, by decide +kernel⟩, by decide +kernel, tG_at 623 rfl rfl, tG_at 59 (by decide +kernel) rfl, Or.inl rfl, by decide, Or.inr ⟨by decide, rfl, tG_at 622 (by decide +kernel) rfl, Or.inr (tG_at 18 (by decide +kernel) rfl)⟩⟩
set_option maxRecDepth 20000 in
theorem mo_50 : mOK m_50 := ⟨by decide +kernel, ⟨by decide +kernel, by decide +kernel⟩, by decide +kernel, tG_at 643 rfl rfl, tG_at 59 (by decide +kernel) rfl, Or.inr (Or.inr rfl), by decide, Or.inr ⟨by decide, rfl, tG_at 642 (by decide +kernel) rfl, Or.inr (tG_at 23 (by decide +kernel) rfl)⟩⟩
set_option maxRecDepth 20000 in
theorem mo_51 : mOK m_51 := ⟨by decide +kernel, ⟨by decide +kernel, by decide +kernel⟩, by decide +kernel, tG_at 647 rfl rfl, tG_at 59 (by decide +kernel) rfl, Or.inr (Or.inl rfl), by decide, Or.inr ⟨by decide, rfl, tG_at 646 (by decide +kernel) rfl, Or.inr (tG_at 24 (by decide +kernel) rfl)⟩⟩
set_option maxRecDepth 20000 in
theorem mo_52 : mOK m_52 := ⟨by decide +kernel, ⟨by decide +kernel, by decide +kernel⟩, by decide +kernel, tG_at 639 rfl rfl, tG_at 59 (by decide +kernel) rfl, Or.inr (Or.inl rfl), by decide, Or.inr ⟨by decide, rfl, tG_at 638 (by decide +kernel) rfl, Or.inr (tG_at 22 (by decide +kernel) rfl)⟩⟩
set_option maxRecDepth 20000 in
theorem mo_53 : mOK m_53 := ⟨by decide +kernel, ⟨by decide +kernel, by decide +kernel⟩, by decide +kernel, tG_at 655 rfl rfl, tG_at 59 (by decide +kernel) rfl, Or.inr (Or.inl rfl), by decide, Or.inr ⟨by decide, rfl, tG_at 654 (by decide +kernel) rfl, Or.inr (tG_at 26 (by decide +kernel) rfl)⟩⟩
set_option maxRecDepth 20000 in
theorem mo_54 : mOK m_54 := ⟨by decide +kernel, ⟨by decide +kernel, by decide +kernel⟩, by decide +kernel, tG_at 651 rfl rfl, tG_at 59 (by decide +kernel) rfl, Or.inl rfl, by decide, Or.inr ⟨by decide, rfl, tG_at 650 (by decide +kernel) rfl, Or.inr (tG_at 25 (by decide +kernel) rfl)⟩⟩
set_option maxRecDepth 20000 in
theorem mo_55 : mOK m_55 := ⟨by decide +kernel, ⟨by decide +kernel, by decide +kernel⟩, by decide +kernel, tG_at 619 rfl rfl, tG_at 59 (by decide +kernel) rfl, Or.inl rfl, by decide, Or.inr ⟨by decide, rfl, tG_at 618 (by decide +kernel) rfl, Or.inr (tG_at 17 (by decide +kernel) rfl)⟩⟩
set_option maxRecDepth 20000 in
theorem mo_56 : mOK m_56 := ⟨by decide +kernel, ⟨by decide +kernel, by decide +kernel⟩, by decide +kernel, tG_at 659 rfl rfl, tG_at 59 (by decide +kernel) rfl, Or.inr (Or.inl rfl), by decide, Or.inr ⟨by decide, rfl, tG_at 658 (by decide +kernel) rfl, Or.inr (tG_at 27 (by decide +kernel) rfl)⟩⟩
set_option maxRecDepth 20000 in
theorem mo_57 : mOK m_57 := ⟨by decide +kernel, ⟨by decide +kernel, by decide +kernel⟩, by decide +kernel, tG_at 663 rfl rfl, tG_at 59 (by decide +kernel) rfl, Or.inr (Or.inl rfl), by decide, Or.inr ⟨by decide, rfl, tG_at 662 (by decide +kernel) rfl, Or.inr (tG_at 28 (by decide +kernel) rfl)⟩⟩
set_option maxRecDepth 20000 in
theorem mo_58 : mOK m_58 := ⟨by decide +kernel, ⟨by decide +kernel, by decide +kernel⟩, by decide +kernel, tG_at 667 rfl rfl, tG_at 59 (by decide +kernel) rfl, Or.inr (Or.inl rfl), by decide, Or.inr ⟨by decide, rfl, tG_at 666 (by decide +kernel) rfl, Or.inr (tG_at 29 (by decide +kernel) rfl)⟩⟩
set_option maxRecDepth 20000 in
theorem mo_59 : mOK m_59 := ⟨by decide +kernel, ⟨by decide +kernel, by decide +kernel⟩, by decide +kernel, tG_at 675 rfl rfl, tG_at 59 (by decide +kernel) rfl, Or.inr (Or.inl rfl), by decide, Or.inr ⟨by decide, rfl, tG_at 674 (by decide +kernel) rfl, Or.inr (tG_at 31 (by decide +kernel) rfl)⟩⟩
set_option maxRecDepth 20000 in
theorem mo_60 : mOK m_60 := ⟨by decide +kernel, ⟨by decide +kernel, by decide +kernel⟩, by decide +kernel, tG_at 671 rfl rfl, tG_at 59 (by decide +kernel) rfl, Or.inr (Or.inl rfl), by decide, Or.inr ⟨by decide, rfl, tG_at 670 (by decide +kernel) rfl, Or.inr (tG_at 30 (by decide +kernel) rfl)⟩⟩
set_option maxRecDepth 20000 in
theorem mo_61 : mOK m_61 := ⟨by decide +kernel, ⟨by decide +kernel, by decide +kernel⟩, by decide +kernel, tG_at 679 rfl rfl, tG_at 59 (by decide +kernel) rfl, Or.inr (Or.inl rfl), by decide, Or.inr ⟨by decide, rfl, tG_at 678 (by decide +kernel) rfl, Or.inr (tG_at 32 (by decide +kernel) rfl)⟩⟩
set_option maxRecDepth 20000 in
theorem mo_62 : mOK m_62 := ⟨by decide +kernel, ⟨by decide +kernel, by decide +kernel⟩, by decide +kernel, tG_at 682 rfl rfl, tG_at 59 (by decide +kernel) rfl, Or.inr (Or.inl rfl), by decide, Or.inl ⟨rfl, tG_at 681 (by decide +kernel) rfl⟩⟩
set_option maxRecDepth 20000 in
theorem mo_63 : mOK m_63 := ⟨by decide +kernel, ⟨by decide +kernel, by decide +kernel⟩, by decide +kernel, tG_at 615 rfl rfl, tG_at 59 (by decide +kernel) rfl, Or.inr (Or.inl rfl), by decide, Or.inr ⟨by decide, rfl, tG_at 613 (by decide +kernel) rfl, Or.inr (tG_at 614 (by decide +kernel) rfl)⟩⟩
set_option maxRecDepth 20000 in
theorem mo_64 : mOK m_64 := ⟨by decide +kernel, ⟨by decide +kernel, by decide +kernel⟩, by decide +kernel, tG_at 335 rfl rfl, tG_at 55 (by decide +kernel) rfl, Or.inr (Or.inr rfl), by decide, Or.inr ⟨by decide, rfl, tG_at 333 (by decide +kernel) rfl, Or.inr (tG_at 334 (by decide +kernel) rfl)⟩⟩
set_option maxRecDepth 20000 in
theorem mo_65 : mOK m_65 := ⟨by decide +kernel, ⟨by decide +kernel, by decide +kernel⟩, by decide +kernel, tG_at 339 rfl rfl, tG_at 55 (by decide +kernel) rfl, Or.inr (Or.inl rfl), by decide, Or.inr ⟨by decide, rfl, tG_at 337 (by decide +kernel) rfl, Or.inr (tG_at 338 (by decide +kernel) rfl)⟩⟩
set_option maxRecDepth 20000 in
theorem mo_66 : mOK m_66 := ⟨by decide +kernel, ⟨by decide +kernel, by decide +kernel⟩, by decide +kernel, tG_at 331 rfl rfl, tG_at 53 (by decide +kernel) rfl, Or.inr (Or.inl rfl), by decide, Or.inr ⟨by decide, rfl, tG_at 329 (by decide +kernel) rfl, Or.inr (tG_at 330 (by decide +kernel) rfl)⟩⟩
set_option maxRecDepth 20000 in
theorem mo_67 : mOK m_67 := ⟨by decide +kernel, ⟨by decide +kernel, by decide +kernel⟩, by decide +kernel, tG_at 686 rfl rfl, tG_at 59 (by decide +kernel) rfl, Or.inr (Or.inl rfl), by decide, Or.inr ⟨by decide, rfl, tG_at 684 (by decide +kernel) rfl, Or.inr (tG_at 685 (by decide +kernel) rfl)⟩⟩
set_option maxRecDepth 20000 in
theorem mo_68 : mOK m_68 := ⟨by decide +kernel, ⟨by decide +kernel, by decide +kernel⟩, by decide +kernel, tG_at 343 rfl rfl, tG_at 53 (by decide +kernel) rfl, Or.inr (Or.inl rfl), by decide, Or.inr ⟨by decide, rfl, tG_at 341 (by decide +kernel) rfl, Or.inr (tG_at 342 (by decide +kernel) rfl)⟩⟩
set_option maxRecDepth 20000 in
theorem mo_69 : mOK m_69 := ⟨by decide +kernel, ⟨by decide +kernel, by decide +kernel⟩, by decide +kernel, tG_at 690 rfl rfl, tG_at 59 (by decide +kernel) rfl, Or.inr (Or.inl rfl), by decide, Or.inr ⟨by decide, rfl, tG_at 688 (by decide +kernel) rfl, Or.inr (tG_at 689 (by decide +kernel) rfl)⟩⟩
set_option maxRecDepth 20000 in
theorem mo_70 : mOK m_70 := ⟨by decide +kernel, ⟨by decide +kernel, by decide +kernel⟩, by decide +kernel, tG_at 352 rfl rfl, tG_at 53 (by decide +kernel) rfl, Or.inr (Or.inl rfl), by decide, Or.inr ⟨by decide, rfl, tG_at 351 (by decide +kernel) rfl, Or.inr (tG_at 6 (by decide +kernel) rfl)⟩⟩
set_option maxRecDepth 20000 in
theorem mo_71 : mOK m_71 := ⟨by decide +kernel, ⟨by decide +kernel, by decide +kernel⟩, by decide +kernel, tG_at 362 rfl rfl, tG_at 58 (by decide +kernel) rfl, Or.inr (Or.inl rfl), by decide, Or.inl ⟨rfl, tG_at 361 (by decide +kernel) rfl⟩⟩
set_option maxRecDepth 20000 in
theorem mo_72 : mOK m_72 := ⟨by decide +kernel, ⟨by decide +kernel, by decide +kernel⟩, by decide +kernel, tG_at 365 rfl rfl, tG_at 58 (by decide +kernel) rfl, Or.inr (Or.inl rfl), by decide, Or.inl ⟨rfl, tG_at 364 (by decide +kernel) rfl⟩⟩
set_option maxRecDepth 20000 in
theorem mo_73 : mOK m_73 := ⟨by decide +kernel, ⟨by decide +kernel, by decide +kernel⟩, by decide +kernel, tG_at 359 rfl rfl, tG_at 53 (by decide +kernel) rfl, Or.inr (Or.inl rfl), by decide, Or.inl ⟨rfl, tG_at 358 (by decide +kernel) rfl⟩⟩
set_option maxRecDepth 20000 in
theorem mo_74 : mOK m_74 := ⟨by decide +kernel, ⟨by decide +kernel, by decide +kernel⟩, by decide +kernel, tG_at 356 rfl rfl, tG_at 55 (by decide +kernel) rfl, Or.inr (Or.inl rfl), by decide, Or.inr ⟨by decide, rfl, tG_at 354 (by decide +kernel) rfl, Or.inr (tG_at 355 (by decide +kernel) rfl)⟩⟩
set_option maxRecDepth 20000 in
theorem mo_75 : mOK m_75 := ⟨by decide +kernel, ⟨by decide +kernel, by decide +kernel⟩, by decide +kernel, tG_at 348 rfl rfl, tG_at 53 (by decide +kernel) rfl, Or.inr (Or.inl rfl), by decide, Or.inr ⟨by decide, rfl, tG_at 346 (by decide +kernel) rfl, Or.inr (tG_at 347 (by decide +kernel) rfl)⟩⟩
set_option maxRecDepth 20000 in
theorem mo_76 : mOK m_76 := ⟨by decide +kernel, ⟨by decide +kernel, by decide +kernel⟩, by decide +kernel, tG_at 708 rfl rfl, tG_at 59 (by decide +kernel) rfl, Or.inr (Or.inl rfl), by decide, Or.inl ⟨rfl, tG_at 707 (by decide +kernel) rfl⟩⟩
set_option maxRecDepth 20000 in
theorem mo_77 : mOK m_77 := ⟨by decide +kernel, ⟨by decide +kernel, by decide +kernel⟩, by decide +kernel, tG_at 705 rfl rfl, tG_at 59 (by decide +kernel) rfl, Or.inr (Or.inl rfl), by decide, Or.inl ⟨rfl, tG_at 704 (by decide +kernel) rfl⟩⟩
set_option maxRecDepth 20000 in
theorem mo_78 : mOK m_78 := ⟨by decide +kernel, ⟨by decide +kernel, by decide +kernel⟩, by decide +kernel, tG_at 702 rfl rfl, tG_at 59 (by decide +kernel) rfl, Or.inr (Or.inr rfl), by decide, Or.inr ⟨by decide, rfl, tG_at 701 (by decide +kernel) rfl, Or.inr (tG_at 34 (by decide +kernel) rfl)⟩⟩
set_option maxRecDepth 20000 in
theorem mo_79 : mOK m_79 := ⟨by decide +kernel, ⟨by decide +kernel, by decide +kernel⟩, by decide +kernel, tG_at 698 rfl rfl, tG_at 59 (by decide +kernel) rfl, Or.inr (Or.inl rfl), by decide, Or.inr ⟨by decide, rfl, tG_at 697 (by decide +kernel) rfl, Or.inr (tG_at 33 (by decide +kernel) rfl)⟩⟩
set_option maxRecDepth 20000 in
theorem mo_80 : mOK m_80 := ⟨by decide +kernel, ⟨by decide +kernel, by decide +kernel⟩, by decide +kernel, tG_at 694 rfl rfl, tG_at 59 (by decide +kernel) rfl, Or.inr (Or.inl rfl), by decide, Or.inr ⟨by decide, rfl, tG_at 692 (by decide +kernel) rfl, Or.inr (tG_at 693 (by decide +kernel) rfl)⟩⟩
set_option maxRecDepth 20000 in
theorem mo_81 : mOK m_81 := ⟨by decide +kernel, ⟨by decide +kernel, by decide +kernel⟩, by decide +kernel, tG_at 390 rfl rfl, tG_at 56 (by decide +kernel) rfl, Or.inl rfl, by decide, Or.inr ⟨by decide, rfl, tG_at 389 (by decide +kernel) rfl, Or.inr (tG_at 9 (by decide +kernel) rfl)⟩⟩
set_option maxRecDepth 20000 in
theorem mo_82 : mOK m_82 := ⟨by decide +kernel, ⟨by decide +kernel, by decide +kernel⟩, by decide +kernel, tG_at 385 rfl rfl, tG_at 56 (by decide +kernel) rfl, Or.inl rfl, by decide, Or.inr ⟨by decide, rfl, tG_at 384 (by decide +kernel) rfl, Or.inr (tG_at 8 (by decide +kernel) rfl)⟩⟩
set_option maxRecDepth 20000 in
theorem mo_83 : mOK m_83 := ⟨by decide +kernel, ⟨by decide +kernel, by decide +kernel⟩, by decide +kernel, tG_at 378 rfl rfl, tG_at 56 (by decide +kernel) rfl, Or.inr (Or.inl rfl), by decide, Or.inr ⟨by decide, rfl, tG_at 377 (by decide +kernel) rfl, Or.inr (tG_at 7 (by decide +kernel) rfl)⟩⟩
set_option maxRecDepth 20000 in
theorem mo_84 : mOK m_84 := ⟨by decide +kernel, ⟨by decide +kernel, by decide +kernel⟩, by decide +kernel, tG_at 373 rfl rfl, tG_at 56 (by decide +kernel) rfl, Or.inl rfl, by decide, Or.inr ⟨by decide, rfl, tG_at 371 (by decide +kernel) rfl, Or.inr (tG_at 372 (by decide +kernel) rfl)⟩⟩
set_option maxRecDepth 20000 in
theorem mo_85 : mOK m_85 := ⟨by decide +kernel, ⟨by decide +kernel, by decide +kernel⟩, by decide +kernel, tG_at 394 rfl rfl, tG_at 56 (by decide +kernel) rfl, Or.inr (Or.inl rfl), by decide, Or.inr ⟨by decide, rfl, tG_at 392 (by decide +kernel) rfl, Or.inr (tG_at 393 (by decide +kernel) rfl)⟩⟩
set_option maxRecDepth 20000 in
theorem mo_86 : mOK m_86 := ⟨by decide +kernel, ⟨by decide +kernel, by decide +kernel⟩, by decide +kernel, tG_at 398 rfl rfl, tG_at 56 (by decide +kernel) rfl, Or.inr (Or.inl rfl), by decide, Or.inr ⟨by decide, rfl, tG_at 396 (by decide +kernel) rfl, Or.inr (tG_at 397 (by decide +kernel) rfl)⟩⟩
set_option maxRecDepth 20000 in
theorem mo_87 : mOK m_87 := ⟨by decide +kernel, ⟨by decide +kernel, by decide +kernel⟩, by decide +kernel, tG_at 369 rfl rfl, tG_at 53 (by decide +kernel) rfl, Or.inr (Or.inl rfl), by decide, Or.inr ⟨by decide, rfl, tG_at 367 (by decide +kernel) rfl, Or.inr (tG_at 368 (by decide +kernel) rfl)⟩⟩
set_option maxRecDepth 20000 in
theorem mo_88 : mOK m_88 := ⟨by decide +kernel, ⟨by decide +kernel, by decide +kernel⟩, by decide +kernel, tG_at 724 rfl rfl, tG_at 59 (by decide +kernel) rfl, Or.inr (Or.inl rfl), by decide, Or.inr ⟨by decide, rfl, tG_at 723 (by decide +kernel) rfl, Or.inr (tG_at 37 (by decide +kernel) rfl)⟩⟩
set_option maxRecDepth 20000 in
theorem mo_89 : mOK m_89 := ⟨by decide +kernel, ⟨by decide +kernel, by decide +kernel⟩, by decide +kernel, tG_at 720 rfl rfl, tG_at 59 (by decide +kernel) rfl, Or.inr (Or.inl rfl), by decide, Or.inr ⟨by decide, rfl, tG_at 719 (by decide +kernel) rfl, Or.inr (tG_at 36 (by decide +kernel) rfl)⟩⟩
set_option maxRecDepth 20000 in
theorem mo_90 : mOK m_90 := ⟨by decide +kernel, ⟨by decide +kernel, by decide +kernel⟩, by decide +kernel, tG_at 716 rfl rfl, tG_at 59 (by decide +kernel) rfl, Or.inl rfl, by decide, Or.inr ⟨by decide, rfl, tG_at 715 (by decide +kernel) rfl, Or.inr (tG_at 35 (by decide +kernel) rfl)⟩⟩
set_option maxRecDepth 20000 in
theorem mo_91 : mOK m_91 := ⟨by decide +kernel, ⟨by decide +kernel, by decide +kernel⟩, by decide +kernel, tG_at 712 rfl rfl, tG_at 59 (by decide +kernel) rfl, Or.inr (Or.inl rfl), by decide, Or.inr ⟨by decide, rfl, tG_at 710 (by decide +kernel) rfl, Or.inr (tG_at 711 (by decide +kernel) rfl)⟩⟩
set_option maxRecDepth 20000 in
theorem mo_92 : mOK m_92 := ⟨by decide +kernel, ⟨by decide +kernel, by decide +kernel⟩, by decide +kernel, tG_at 411 rfl rfl, tG_at 56 (by decide +kernel) rfl, Or.inr (Or.inl rfl), by decide, Or.inr ⟨by decide, rfl, tG_at 409 (by decide +kernel) rfl, Or.inr (tG_at 410 (by decide +kernel) rfl)⟩⟩
set_option maxRecDepth 20000 in
theorem mo_93 : mOK m_93 := ⟨by decide +kernel, ⟨by decide +kernel, by decide +kernel⟩, by decide +kernel, tG_at 406 rfl rfl, tG_at 56 (by decide +kernel) rfl, Or.inr (Or.inl rfl), by decide, Or.inr ⟨by decide, rfl, tG_at 404 (by decide +kernel) rfl, Or.inr (tG_at 405 (by decide +kernel) rfl)⟩⟩
set_option maxRecDepth 20000 in
theorem mo_94 : mOK m_94 := ⟨by decide +kernel, ⟨by decide +kernel, by decide +kernel⟩, by decide +kernel, tG_at 402 rfl rfl, tG_at 53 (by decide +kernel) rfl, Or.inr (Or.inl rfl), by decide, Or.inr ⟨by decide, rfl, tG_at 400 (by decide +kernel) rfl, Or.inr (tG_at 401 (by decide +kernel) rfl)⟩⟩
set_option maxRecDepth 20000 in
theorem mo_95 : mOK m_95 := ⟨by decide +kernel, ⟨by decide +kernel, by decide +kernel⟩, by decide +kernel, tG_at 732 rfl rfl, tG_at 59 (by decide +kernel) rfl, Or.inr (Or.inl rfl), by decide, Or.inr ⟨by decide, rfl, tG_at 731 (by decide +kernel) rfl, Or.inr (tG_at 38 (by decide +kernel) rfl)⟩⟩
set_option maxRecDepth 20000 in
theorem mo_96 : mOK m_96 := ⟨by decide +kernel, ⟨by decide +kernel, by decide +kernel⟩, by decide +kernel, tG_at 728 rfl rfl, tG_at 59 (by decide +kernel) rfl, Or.inr (Or.inl rfl), by decide, Or.inr ⟨by decide, rfl, tG_at 726 (by decide +kernel) rfl, Or.inr (tG_at 727 (by decide +kernel) rfl)⟩⟩
set_option maxRecDepth 20000 in
theorem mo_97 : mOK m_97 := ⟨by decide +kernel, ⟨by decide +kernel, by decide +kernel⟩, by decide +kernel, tG_at 430 rfl rfl, tG_at 58 (by decide +kernel) rfl, Or.inr (Or.inl rfl), by decide, Or.inl ⟨rfl, tG_at 429 (by decide +kernel) rfl⟩⟩
set_option maxRecDepth 20000 in
theorem mo_98 : mOK m_98 := ⟨by decide +kernel, ⟨by decide +kernel, by decide +kernel⟩, by decide +kernel, tG_at 435 rfl rfl, tG_at 56 (by decide +kernel) rfl, Or.inr (Or.inl rfl), by decide, Or.inr ⟨by decide, rfl, tG_at 433 (by decide +kernel) rfl, Or.inr (tG_at 434 (by decide +kernel) rfl)⟩⟩
set_option maxRecDepth 20000 in
theorem mo_99 : mOK m_99 := ⟨by decide +kernel, ⟨by decide +kernel, by decide +kernel⟩, by decide +kernel, tG_at 426 rfl rfl, tG_at 57 (by decide +kernel) rfl, Or.inl rfl, by decide, Or.inr ⟨by decide, rfl, tG_at 425 (by decide +kernel) rfl, Or.inr (tG_at 10 (by decide +kernel) rfl)⟩⟩
set_option maxRecDepth 20000 in
theorem mo_100 : mOK m_100 := ⟨by decide +kernel, ⟨by decide +kernel, by decide +kernel⟩, by decide +kernel, tG_at 420 rfl rfl, tG_at 57 (by decide +kernel) rfl, Or.inl rfl, by decide, Or.inr ⟨by decide, rfl, tG_at 418 (by decide +kernel) rfl, Or.inr (tG_at 419 (by decide +kernel) rfl)⟩⟩
set_option maxRecDepth 20000 in
theorem mo_101 : mOK m_101 := ⟨by decide +kernel, ⟨by decide +kernel, by decide +kernel⟩, by decide +kernel, tG_at 440 rfl rfl, tG_at 57 (by decide +kernel) rfl, Or.inr (Or.inl rfl), by decide, Or.inr ⟨by decide, rfl, tG_at 438 (by decide +kernel) rfl, Or.inr (tG_at 439 (by decide +kernel) rfl)⟩⟩
set_option maxRecDepth 20000 in
theorem mo_102 : mOK m_102 := ⟨by decide +kernel, ⟨by decide +kernel, by decide +kernel⟩, by decide +kernel, tG_at 416 rfl rfl, tG_at 53 (by decide +kernel) rfl, Or.inr (Or.inl rfl), by decide, Or.inr ⟨by decide, rfl, tG_at 414 (by decide +kernel) rfl, Or.inr (tG_at 415 (by decide +kernel) rfl)⟩⟩
set_option maxRecDepth 20000 in
theorem mo_103 : mOK m_103 := ⟨by decide +kernel, ⟨by decide +kernel, by decide +kernel⟩, by decide +kernel, tG_at 744 rfl rfl, tG_at 59 (by decide +kernel) rfl, Or.inr (Or.inr rfl), by decide, Or.inr ⟨by decide, rfl, tG_at 743 (by decide +kernel) rfl, Or.inr (tG_at 40 (by decide +kernel) rfl)⟩⟩
set_option maxRecDepth 20000 in
theorem mo_104 : mOK m_104 := ⟨by decide +kernel, ⟨by decide +kernel, by decide +kernel⟩, by decide +kernel, tG_at 740 rfl rfl, tG_at 59 (by decide +kernel) rfl, Or.inl rfl, by decide, Or.inr ⟨by decide, rfl, tG_at 739 (by decide +kernel) rfl, Or.inr (tG_at 39 (by decide +kernel) rfl)⟩⟩
set_option maxRecDepth 20000 in
theorem mo_105 : mOK m_105 := ⟨by decide +kernel, ⟨by decide +kernel, by decide +kernel⟩, by decide +kernel, tG_at 748 rfl rfl, tG_at 59 (by decide +kernel) rfl, Or.inr (Or.inl rfl), by decide, Or.inr ⟨by decide, rfl, tG_at 747 (by decide +kernel) rfl, Or.inr (tG_at 41 (by decide +kernel) rfl)⟩⟩
set_option maxRecDepth 20000 in
theorem mo_106 : mOK m_106 := ⟨by decide +kernel, ⟨by decide +kernel, by decide +kernel⟩, by decide +kernel, tG_at 736 rfl rfl, tG_at 59 (by decide +kernel) rfl, Or.inr (Or.inl rfl), by decide, Or.inr ⟨by decide, rfl, tG_at 734 (by decide +kernel) rfl, Or.inr (tG_at 735 (by decide +kernel) rfl)⟩⟩
set_option maxRecDepth 20000 in
theorem mo_107 : mOK m_107 := ⟨by decide +kernel, ⟨by decide +kernel, by decide +kernel⟩, by decide +kernel, tG_at 448 rfl rfl, tG_at 54 (by decide +kernel) rfl, Or.inr (Or.inr rfl), by decide, Or.inr ⟨by decide, rfl, tG_at 446 (by decide +kernel) rfl, Or.inr (tG_at 447 (by decide +kernel) rfl)⟩⟩
set_option maxRecDepth 20000 in
theorem mo_108 : mOK m_108 := ⟨by decide +kernel, ⟨by decide +kernel, by decide +kernel⟩, by decide +kernel, tG_at 452 rfl rfl, tG_at 55 (by decide +kernel) rfl, Or.inr (Or.inl rfl), by decide, Or.inr ⟨by decide, rfl, tG_at 450 (by decide +kernel) rfl, Or.inr (tG_at 451 (by decide +kernel) rfl)⟩⟩
set_option maxRecDepth 20000 in
theorem mo_109 : mOK m_109 := ⟨by decide +kernel, ⟨by decide +kernel, by decide +kernel⟩, by decide +kernel, tG_at 444 rfl rfl, tG_at 53 (by decide +kernel) rfl, Or.inr (Or.inl rfl), by decide, Or.inr ⟨by decide, rfl, tG_at 442 (by decide +kernel) rfl, Or.inr (tG_at 443 (by decide +kernel) rfl)⟩⟩
set_option maxRecDepth 20000 in
theorem mo_110 : mOK m_110 := ⟨by decide +kernel, ⟨by decide +kernel, by decide +kernel⟩, by decide +kernel, tG_at 756 rfl rfl, tG_at 59 (by decide +kernel) rfl, Or.inr (Or.inr rfl), by decide, Or.inr ⟨by decide, rfl, tG_at 755 (by decide +kernel) rfl, Or.inr (tG_at 42 (by decide +kernel) rfl)⟩⟩
set_option maxRecDepth 20000 in
theorem mo_111 : mOK m_111 := ⟨by decide +kernel, ⟨by decide +kernel, by decide +kernel⟩, by decide +kernel, tG_at 752 rfl rfl, tG_at 59 (by decide +kernel) rfl, Or.inr (Or.inl rfl), by decide, Or.inr ⟨by decide, rfl, tG_at 750 (by decide +kernel) rfl, Or.inr (tG_at 751 (by decide +kernel) rfl)⟩⟩
set_option maxRecDepth 20000 in
theorem mo_112 : mOK m_112 := ⟨by decide +kernel, ⟨by decide +kernel, by decide +kernel⟩, by decide +kernel, tG_at 461 rfl rfl, tG_at 54 (by decide +kernel) rfl, Or.inr (Or.inr rfl), by decide, Or.inr ⟨by decide, rfl, tG_at 459 (by decide +kernel) rfl, Or.inr (tG_at 460 (by decide +kernel) rfl)⟩⟩
set_option maxRecDepth 20000 in
theorem mo_113 : mOK m_113 := ⟨by decide +kernel, ⟨by decide +kernel, by decide +kernel⟩, by decide +kernel, tG_at 457 rfl rfl, tG_at 53 (by decide +kernel) rfl, Or.inr (Or.inl rfl), by decide, Or.inr ⟨by decide, rfl, tG_at 455 (by decide +kernel) rfl, Or.inr (tG_at 456 (by decide +kernel) rfl)⟩⟩
set_option maxRecDepth 20000 in
theorem mo_114 : mOK m_114 := ⟨by decide +kernel, ⟨by decide +kernel, by decide +kernel⟩, by decide +kernel, tG_at 764 rfl rfl, tG_at 59 (by decide +kernel) rfl, Or.inr (Or.inr rfl), by decide, Or.inr ⟨by decide, rfl, tG_at 763 (by decide +kernel) rfl, Or.inr (tG_at 43 (by decide +kernel) rfl)⟩⟩
set_option maxRecDepth 20000 in
theorem mo_115 : mOK m_115 := ⟨by decide +kernel, ⟨by decide +kernel, by decide +kernel⟩, by decide +kernel, tG_at 760 rfl rfl, tG_at 59 (by decide +kernel) rfl, Or.inr (Or.inl rfl), by decide, Or.inr ⟨by decide, rfl, tG_at 758 (by decide +kernel) rfl, Or.inr (tG_at 759 (by decide +kernel) rfl)⟩⟩
set_option maxRecDepth 20000 in
theorem mo_116 : mOK m_116 := ⟨by decide +kernel, ⟨by decide +kernel, by decide +kernel⟩, by decide +kernel, tG_at 473 rfl rfl, tG_at 53 (by decide +kernel) rfl, Or.inr (Or.inr rfl), by decide, Or.inl ⟨rfl, tG_at 472 (by decide +kernel) rfl⟩⟩
set_option maxRecDepth 20000 in
theorem mo_117 : mOK m_117 := ⟨by decide +kernel, ⟨by decide +kernel, by decide +kernel⟩, by decide +kernel, tG_at 470 rfl rfl, tG_at 53 (by decide +kernel) rfl, Or.inr (Or.inl rfl), by decide, Or.inr ⟨by decide, rfl, tG_at 469 (by decide +kernel) rfl, Or.inr (tG_at 11 (by decide +kernel) rfl)⟩⟩
set_option maxRecDepth 20000 in
theorem mo_118 : mOK m_118 := ⟨by decide +kernel, ⟨by decide +kernel, by decide +kernel⟩, by decide +kernel, tG_at 483 rfl rfl, tG_at 55 (by decide +kernel) rfl, Or.inr (Or.inr rfl), by decide, Or.inr ⟨by decide, rfl, tG_at 482 (by decide +kernel) rfl, Or.inr (tG_at 12 (by decide +kernel) rfl)⟩⟩
set_option maxRecDepth 20000 in
theorem mo_119 : mOK m_119 := ⟨by decide +kernel, ⟨by decide +kernel, by decide +kernel⟩, by decide +kernel, tG_at 478 rfl rfl, tG_at 55 (by decide +kernel) rfl, Or.inr (Or.inl rfl), by decide, Or.inr ⟨by decide, rfl, tG_at 476 (by decide +kernel) rfl, Or.inr (tG_at 477 (by decide +kernel) rfl)⟩⟩
set_option maxRecDepth 20000 in
theorem mo_120 : mOK m_120 := ⟨by decide +kernel, ⟨by decide +kernel, by decide +kernel⟩, by decide +kernel, tG_at 466 rfl rfl, tG_at 53 (by decide +kernel) rfl, Or.inr (Or.inl rfl), by decide, Or.inr ⟨by decide, rfl, tG_at 464 (by decide +kernel) rfl, Or.inr (tG_at 465 (by decide +kernel) rfl)⟩⟩
set_option maxRecDepth 20000 in
theorem mo_121 : mOK m_121 := ⟨by decide +kernel, ⟨by decide +kernel, by decide +kernel⟩, by decide +kernel, tG_at 772 rfl rfl, tG_at 59 (by decide +kernel) rfl, Or.inl rfl, by decide, Or.inr ⟨by decide, rfl, tG_at 771 (by decide +kernel) rfl, Or.inr (tG_at 44 (by decide +kernel) rfl)⟩⟩
set_option maxRecDepth 20000 in
theorem mo_122 : mOK m_122 := ⟨by decide +kernel, ⟨by decide +kernel, by decide +kernel⟩, by decide +kernel, tG_at 776 rfl rfl, tG_at 59 (by decide +kernel) rfl, Or.inl rfl, by decide, Or.inr ⟨by decide, rfl, tG_at 775 (by decide +kernel) rfl, Or.inr (tG_at 45 (by decide +kernel) rfl)⟩⟩
set_option maxRecDepth 20000 in
theorem mo_123 : mOK m_123 := ⟨by decide +kernel, ⟨by decide +kernel, by decide +kernel⟩, by decide +kernel, tG_at 780 rfl rfl, tG_at 59 (by decide +kernel) rfl, Or.inr (Or.inr rfl), by decide, Or.inr ⟨by decide, rfl, tG_at 779 (by decide +kernel) rfl, Or.inr (tG_at 46 (by decide +kernel) rfl)⟩⟩
set_option maxRecDepth 20000 in
theorem mo_124 : mOK m_124 := ⟨by decide +kernel, ⟨by decide +kernel, by decide +kernel⟩, by decide +kernel, tG_at 768 rfl rfl, tG_at 59 (by decide +kernel) rfl, Or.inr (Or.inl rfl), by decide, Or.inr ⟨by decide, rfl, tG_at 766 (by decide +kernel) rfl, Or.inr (tG_at 767 (by decide +kernel) rfl)⟩⟩
set_option maxRecDepth 20000 in
theorem mo_125 : mOK m_125 := ⟨by decide +kernel, ⟨by decide +kernel, by decide +kernel⟩, by decide +kernel, tG_at 492 rfl rfl, tG_at 54 (by decide +kernel) rfl, Or.inl rfl, by decide, Or.inr ⟨by decide, rfl, tG_at 490 (by decide +kernel) rfl, Or.inr (tG_at 491 (by decide +kernel) rfl)⟩⟩
set_option maxRecDepth 20000 in
theorem mo_126 : mOK m_126 := ⟨by decide +kernel, ⟨by decide +kernel, by decide +kernel⟩, by decide +kernel, tG_at 488 rfl rfl, tG_at 53 (by decide +kernel) rfl, Or.inr (Or.inl rfl), by decide, Or.inr ⟨by decide, rfl, tG_at 486 (by decide +kernel) rfl, Or.inr (tG_at 487 (by decide +kernel) rfl)⟩⟩
set_option maxRecDepth 20000 in
theorem mo_127 : mOK m_127 := ⟨by decide +kernel, ⟨by decide +kernel, by decide +kernel⟩, by decide +kernel, tG_at 784 rfl rfl, tG_at 59 (by decide +kernel) rfl, Or.inr (Or.inl rfl), by decide, Or.inr ⟨by decide, rfl, tG_at 782 (by decide +kernel) rfl, Or.inr (tG_at 783 (by decide +kernel) rfl)⟩⟩
set_option maxRecDepth 20000 in
theorem mo_128 : mOK m_128 := ⟨by decide +kernel, ⟨by decide +kernel, by decide +kernel⟩, by decide +kernel, tG_at 497 rfl rfl, tG_at 53 (by decide +kernel) rfl, Or.inr (Or.inl rfl), by decide, Or.inr ⟨by decide, rfl, tG_at 495 (by decide +kernel) rfl, Or.inr (tG_at 496 (by decide +kernel) rfl)⟩⟩
set_option maxRecDepth 20000 in
theorem mo_129 : mOK m_129 := ⟨by decide +kernel, ⟨by decide +kernel, by decide +kernel⟩, by decide +kernel, tG_at 788 rfl rfl, tG_at 59 (by decide +kernel) rfl, Or.inr (Or.inl rfl), by decide, Or.inr ⟨by decide, rfl, tG_at 786 (by decide +kernel) rfl, Or.inr (tG_at 787 (by decide +kernel) rfl)⟩⟩
set_option maxRecDepth 20000 in
theorem mo_130 : mOK m_130 := ⟨by decide +kernel, ⟨by decide +kernel, by decide +kernel⟩, by decide +kernel, tG_at 505 rfl rfl, tG_at 54 (by decide +kernel) rfl, Or.inr (Or.inl rfl), by decide, Or.inr ⟨by decide, rfl, tG_at 503 (by decide +kernel) rfl, Or.inr (tG_at 504 (by decide +kernel) rfl)⟩⟩
set_option maxRecDepth 20000 in
theorem mo_131 : mOK m_131 := ⟨by decide +kernel, ⟨by decide +kernel, by decide +kernel⟩, by decide +kernel, tG_at 509 rfl rfl, tG_at 55 (by decide +kernel) rfl, Or.inr (Or.inl rfl), by decide, Or.inr ⟨by decide, rfl, tG_at 507 (by decide +kernel) rfl, Or.inr (tG_at 508 (by decide +kernel) rfl)⟩⟩
set_option maxRecDepth 20000 in
theorem mo_132 : mOK m_132 := ⟨by decide +kernel, ⟨by decide +kernel, by decide +kernel⟩, by decide +kernel, tG_at 513 rfl rfl, tG_at 55 (by decide +kernel) rfl, Or.inr (Or.inl rfl), by decide, Or.inr ⟨by decide, rfl, tG_at 511 (by decide +kernel) rfl, Or.inr (tG_at 512 (by decide +kernel) rfl)⟩⟩
set_option maxRecDepth 20000 in
theorem mo_133 : mOK m_133 := ⟨by decide +kernel, ⟨by decide +kernel, by decide +kernel⟩, by decide +kernel, tG_at 518 rfl rfl, tG_at 55 (by decide +kernel) rfl, Or.inr (Or.inl rfl), by decide, Or.inr ⟨by decide, rfl, tG_at 516 (by decide +kernel) rfl, Or.inr (tG_at 517 (by decide +kernel) rfl)⟩⟩
set_option maxRecDepth 20000 in
theorem mo_134 : mOK m_134 := ⟨by decide +kernel, ⟨by decide +kernel, by decide +kernel⟩, by decide +kernel, tG_at 501 rfl rfl, tG_at 53 (by decide +kernel) rfl, Or.inr (Or.inl rfl), by decide, Or.inr ⟨by decide, rfl, tG_at 499 (by decide +kernel) rfl, Or.inr (tG_at 500 (by decide +kernel) rfl)⟩⟩
set_option maxRecDepth 20000 in
theorem mo_135 : mOK m_135 := ⟨by decide +kernel, ⟨by decide +kernel, by decide +kernel⟩, by decide +kernel, tG_at 796 rfl rfl, tG_at 59 (by decide +kernel) rfl, Or.inr (Or.inl rfl), by decide, Or.inr ⟨by decide, rfl, tG_at 795 (by decide +kernel) rfl, Or.inr (tG_at 47 (by decide +kernel) rfl)⟩⟩
set_option maxRecDepth 20000 in
theorem mo_136 : mOK m_136 := ⟨by decide +kernel, ⟨by decide +kernel, by decide +kernel⟩, by decide +kernel, tG_at 800 rfl rfl, tG_at 59 (by decide +kernel) rfl, Or.inr (Or.inl rfl), by decide, Or.inr ⟨by decide, rfl, tG_at 799 (by decide +kernel) rfl, Or.inr (tG_at 48 (by decide +kernel) rfl)⟩⟩
set_option maxRecDepth 20000 in
theorem mo_137 : mOK m_137 := ⟨by decide +kernel, ⟨by decide +kernel, by decide +kernel⟩, by decide +kernel, tG_at 804 rfl rfl, tG_at 59 (by decide +kernel) rfl, Or.inr (Or.inl rfl), by decide, Or.inr ⟨by decide, rfl, tG_at 803 (by decide +kernel) rfl, Or.inr (tG_at 49 (by decide +kernel) rfl)⟩⟩
set_option maxRecDepth 20000 in
theorem mo_138 : mOK m_138 := ⟨by decide +kernel, ⟨by decide +kernel, by decide +kernel⟩, by decide +kernel, tG_at 808 rfl rfl, tG_at 59 (by decide +kernel) rfl, Or.inr (Or.inl rfl), by decide, Or.inr ⟨by decide, rfl, tG_at 807 (by decide +kernel) rfl, Or.inr (tG_at 50 (by decide +kernel) rfl)⟩⟩
set_option maxRecDepth 20000 in
theorem mo_139 : mOK m_139 := ⟨by decide +kernel, ⟨by decide +kernel, by decide +kernel⟩, by decide +kernel, tG_at 812 rfl rfl, tG_at 59 (by decide +kernel) rfl, Or.inr (Or.inl rfl), by decide, Or.inr ⟨by decide, rfl, tG_at 811 (by decide +kernel) rfl, Or.inr (tG_at 51 (by decide +kernel) rfl)⟩⟩
set_option maxRecDepth 20000 in
theorem mo_140 : mOK m_140 := ⟨by decide +kernel, ⟨by decide +kernel, by decide +kernel⟩, by decide +kernel, tG_at 792 rfl rfl, tG_at 59 (by decide +kernel) rfl, Or.inr (Or.inl rfl), by decide, Or.inr ⟨by decide, rfl, tG_at 790 (by decide +kernel) rfl, Or.inr (tG_at 791 (by decide +kernel) rfl)⟩⟩
theorem m_ok : ∀ y, y < 141 → mOK (mI y) := by
  have h : ∀ r ∈ mT.take 141, mOK r := by
    show ∀ r ∈ [m_0, m_1, m_2, m_3, m_4, m_5, m_6, m_7, m_8, m_9, m_10, m_11, m_12, m_13, m_14, m_15, m_16, m_17, m_18, m_19, m_20, m_21, m_22, m_23, m_24, m_25, m_26, m_27, m_28, m_29, m_30, m_31, m_32, m_33, m_34, m_35, m_36, m_37, m_38, m_39, m_40, m_41, m_42, m_43, m_44, m_45, m_46, m_47, m_48, m_49, m_50, m_51, m_52, m_53, m_54, m_55, m_56, m_57, m_58, m_59, m_60, m_61, m_62, m_63, m_64, m_65, m_66, m_67, m_68, m_69, m_70, m_71, m_72, m_73, m_74, m_75, m_76, m_77, m_78, m_79, m_80, m_81, m_82, m_83, m_84, m_85, m_86, m_87, m_88, m_89, m_90, m_91, m_92, m_93, m_94, m_95, m_96, m_97, m_98, m_99, m_100, m_101, m_102, m_103, m_104, m_105, m_106, m_107, m_108, m_109, m_110, m_111, m_112, m_113, m_114, m_115, m_116, m_117, m_118, m_119, m_120, m_121, m_122, m_123, m_124, m_125, m_126, m_127, m_128, m_129, m_130, m_131, m_132, m_133, m_134, m_135, m_136, m_137, m_138, m_139, m_140], mOK r
    exact List.forall_mem_cons.mpr ⟨mo_0, List.forall_mem_cons.mpr ⟨mo_1, List.forall_mem_cons.mpr ⟨mo_2, List.forall_mem_cons.mpr ⟨mo_3, List.forall_mem_cons.mpr ⟨mo_4, List.forall_mem_cons.mpr ⟨mo_5, List.forall_mem_cons.mpr ⟨mo_6, List.forall_mem_cons.mpr ⟨mo_7, List.forall_mem_cons.mpr ⟨mo_8, List.forall_mem_cons.mpr ⟨mo_9, List.forall_mem_cons.mpr ⟨mo_10, List.forall_mem_cons.mpr ⟨mo_11, List.forall_mem_cons.mpr ⟨mo_12, List.forall_mem_cons.mpr ⟨mo_13, List.forall_mem_cons.mpr ⟨mo_14, List.forall_mem_cons.mpr ⟨mo_15, List.forall_mem_cons.mpr ⟨mo_16, List.forall_mem_cons.mpr ⟨mo_17, List.forall_mem_cons.mpr ⟨mo_18, List.forall_mem_cons.mpr ⟨mo_19, List.forall_mem_cons.mpr ⟨mo_20, List.forall_mem_cons.mpr ⟨mo_21, List.forall_mem_cons.mpr ⟨mo_22, List.forall_mem_cons.mpr ⟨mo_23, List.forall_mem_cons.mpr ⟨mo_24, List.forall_mem_cons.mpr ⟨mo_25, List.forall_mem_cons.mpr ⟨mo_26, List.forall_mem_cons.mpr ⟨mo_27, List.forall_mem_cons.mpr ⟨mo_28, List.forall_mem_cons.mpr ⟨mo_29, List.forall_mem_cons.mpr ⟨mo_30, List.forall_mem_cons.mpr ⟨mo_31, List.forall_mem_cons.mpr ⟨mo_32, List.forall_mem_cons.mpr ⟨mo_33, List.forall_mem_cons.mpr ⟨mo_34, List.forall_mem_cons.mpr ⟨mo_35, List.forall_mem_cons.mpr ⟨mo_36, List.forall_mem_cons.mpr ⟨mo_37, List.forall_mem_cons.mpr ⟨mo_38, List.forall_mem_cons.mpr ⟨mo_39, List.forall_mem_cons.mpr ⟨mo_40, List.forall_mem_cons.mpr ⟨mo_41, List.forall_mem_cons.mpr ⟨mo_42, List.forall_mem_cons.mpr ⟨mo_43, List.forall_mem_cons.mpr ⟨mo_44, List.forall_mem_cons.mpr ⟨mo_45, List.forall_mem_cons.mpr ⟨mo_46, List.forall_mem_cons.mpr ⟨mo_47, List.forall_mem_cons.mpr ⟨mo_48, List.forall_mem_cons.mpr ⟨mo_49, List.forall_mem_cons.mpr ⟨mo_50, List.forall_mem_cons.mpr ⟨mo_51, List.forall_mem_cons.mpr ⟨mo_52, List.forall_mem_cons.mpr ⟨mo_53, List.forall_mem_cons.mpr ⟨mo_54, List.forall_mem_cons.mpr ⟨mo_55, List.forall_mem_cons.mpr ⟨mo_56, List.forall_mem_cons.mpr ⟨mo_57, List.forall_mem_cons.mpr ⟨mo_58, List.forall_mem_cons.mpr ⟨mo_59, List.forall_mem_cons.mpr ⟨mo_60, List.forall_mem_cons.mpr ⟨mo_61, List.forall_mem_cons.mpr ⟨mo_62, List.forall_mem_cons.mpr ⟨mo_63, List.forall_mem_cons.mpr ⟨mo_64, List.forall_mem_cons.mpr ⟨mo_65, List.forall_mem_cons.mpr ⟨mo_66, List.forall_mem_cons.mpr ⟨mo_67, List.forall_mem_cons.mpr ⟨mo_68, List.forall_mem_cons.mpr ⟨mo_69, List.forall_mem_cons.mpr ⟨mo_70, List.forall_mem_cons.mpr ⟨mo_71, List.forall_mem_cons.mpr ⟨mo_72, List.forall_mem_cons.mpr ⟨mo_73, List.forall_mem_cons.mpr ⟨mo_74, List.forall_mem_cons.mpr ⟨mo_75, List.forall_mem_cons.mpr ⟨mo_76, List.forall_mem_cons.mpr ⟨mo_77, List.forall_mem_cons.mpr ⟨mo_78, List.forall_mem_cons.mpr ⟨mo_79, List.forall_mem_cons.mpr ⟨mo_80, List.forall_mem_cons.mpr ⟨mo_81, List.forall_mem_cons.mpr ⟨mo_82, List.forall_mem_cons.mpr ⟨mo_83, List.forall_mem_cons.mpr ⟨mo_84, List.forall_mem_cons.mpr ⟨mo_85, List.forall_mem_cons.mpr ⟨mo_86, List.forall_mem_cons.mpr ⟨mo_87, List.forall_mem_cons.mpr ⟨mo_88, List.forall_mem_cons.mpr ⟨mo_89, List.forall_mem_cons.mpr ⟨mo_90, List.forall_mem_cons.mpr ⟨mo_91, List.forall_mem_cons.mpr ⟨mo_92, List.forall_mem_cons.mpr ⟨mo_93, List.forall_mem_cons.mpr ⟨mo_94, List.forall_mem_cons.mpr ⟨mo_95, List.forall_mem_cons.mpr ⟨mo_96, List.forall_mem_cons.mpr ⟨mo_97, List.forall_mem_cons.mpr ⟨mo_98, List.forall_mem_cons.mpr ⟨mo_99, List.forall_mem_cons.mpr ⟨mo_100, List.forall_mem_cons.mpr ⟨mo_101, List.forall_mem_cons.mpr ⟨mo_102, List.forall_mem_cons.mpr ⟨mo_103, List.forall_mem_cons.mpr ⟨mo_104, List.forall_mem_cons.mpr ⟨mo_105, List.forall_mem_cons.mpr ⟨mo_106, List.forall_mem_cons.mpr ⟨mo_107, List.forall_mem_cons.mpr ⟨mo_108, List.forall_mem_cons.mpr ⟨mo_109, List.forall_mem_cons.mpr ⟨mo_110, List.forall_mem_cons.mpr ⟨mo_111, List.forall_mem_cons.mpr ⟨mo_112, List.forall_mem_cons.mpr ⟨mo_113, List.forall_mem_cons.mpr ⟨mo_114, List.forall_mem_cons.mpr ⟨mo_115, List.forall_mem_cons.mpr ⟨mo_116, List.forall_mem_cons.mpr ⟨mo_117, List.forall_mem_cons.mpr ⟨mo_118, List.forall_mem_cons.mpr ⟨mo_119, List.forall_mem_cons.mpr ⟨mo_120, List.forall_mem_cons.mpr ⟨mo_121, List.forall_mem_cons.mpr ⟨mo_122, List.forall_mem_cons.mpr ⟨mo_123, List.forall_mem_cons.mpr ⟨mo_124, List.forall_mem_cons.mpr ⟨mo_125, List.forall_mem_cons.mpr ⟨mo_126, List.forall_mem_cons.mpr ⟨mo_127, List.forall_mem_cons.mpr ⟨mo_128, List.forall_mem_cons.mpr ⟨mo_129, List.forall_mem_cons.mpr ⟨mo_130, List.forall_mem_cons.mpr ⟨mo_131, List.forall_mem_cons.mpr ⟨mo_132, List.forall_mem_cons.mpr ⟨mo_133, List.forall_mem_cons.mpr ⟨mo_134, List.forall_mem_cons.mpr ⟨mo_135, List.forall_mem_cons.mpr ⟨mo_136, List.forall_mem_cons.mpr ⟨mo_137, List.forall_mem_cons.mpr ⟨mo_138, List.forall_mem_cons.mpr ⟨mo_139, List.forall_mem_cons.mpr ⟨mo_140, fun _ h => absurd h List.not_mem_nil⟩⟩⟩⟩⟩⟩⟩⟩⟩⟩⟩⟩⟩⟩⟩⟩⟩⟩⟩⟩⟩⟩⟩⟩⟩⟩⟩⟩⟩⟩⟩⟩⟩⟩⟩⟩⟩⟩⟩⟩⟩⟩⟩⟩⟩⟩⟩⟩⟩⟩⟩⟩⟩⟩⟩⟩⟩⟩⟩⟩⟩⟩⟩⟩⟩⟩⟩⟩⟩⟩⟩⟩⟩⟩⟩⟩⟩⟩⟩⟩⟩⟩⟩⟩⟩⟩⟩⟩⟩⟩⟩⟩⟩⟩⟩⟩⟩⟩⟩⟩⟩⟩⟩⟩⟩⟩⟩⟩⟩⟩⟩⟩⟩⟩⟩⟩⟩⟩⟩⟩⟩⟩⟩⟩⟩⟩⟩⟩⟩⟩⟩⟩⟩⟩⟩⟩⟩⟩⟩⟩⟩
  intro y hy
  have h1 : y < (mT.take 141).length := hy
  have h2 : mI y = (mT.take 141)[y] := by
    have h3 : mT[y]? = some (mT.take 141)[y] := by
      rw [← List.getElem?_eq_getElem h1, List.getElem?_take_of_lt hy]
    simp [mI, List.getD, h3]
  rw [h2]
  exact h _ (List.getElem_mem h1)
/-- how long an instruction is -/
def lenI (e : AE) : Nat := match e.1 with
  | .iload _ | .aload _ | .istore _ | .astore _ | .bipush _ | .newarray _ => 2
  | .sipush _ | .ldc_w _ | .iinc _ _ | .ifCond _ _ | .if_icmp _ _ | .goto _ | .getfield _ | .putfield _ | .invokevirtual _ | .invokespecial _ | .invokestatic _ | .new _ | .anewarray _ => 3
  | .tableswitch _ _ _ _ => e.2.1.1
  | _ => 1
def okRoom (y a : Nat) : Bool := decide (a < 141) && decide (mFr a + 1 ≤ mFr y) && decide (8 + (mML a + 11) + mLo a ≤ mLo y)
def okI (y pc : Nat) (e : AE) : Bool := match e.1 with
  | .iconst n => decide (Int32.ofInt n = e.2.2.2)
  | .bipush n => decide ((Int8.ofInt n).toInt32 = e.2.2.2)
  | .sipush n => decide ((Int16.ofInt n).toInt32 = e.2.2.2)
  | .ldc_w i => decide (lw_tbl[e.2.1.2.2.2]? = some (.constant (mNm y).cls i e.2.2.2))
  | .iinc _ n => decide (Int32.ofInt n = e.2.2.2)
  | .ifCond _ off => decide ((pc : Int) + off = (e.2.1.2.1 : Int))
  | .if_icmp _ off => decide ((pc : Int) + off = (e.2.1.2.1 : Int))
  | .goto off => decide ((pc : Int) + off = (e.2.1.2.1 : Int))
  | .tableswitch d lo hi offs => decide (e.2.2.1.length < 1000) && decide (lo = 0) && decide (hi + 1 = (e.2.2.1.length : Int)) && decide ((pc : Int) + d = (e.2.1.2.1 : Int)) && decide (offs.toList.map (fun o => (pc : Int) + o) = e.2.2.1.map (fun (t : Nat) => (t : Int)))
  | .getfield i => match cls[e.2.1.2.1]? with
    | some r => decide (e.2.1.2.2.1 < r.2.2) && decide (lw_tbl[e.2.1.2.2.2]? = some (.fieldLink (mNm y).cls i (r.2.1 e.2.1.2.2.1).1 (r.2.1 e.2.1.2.2.1).2.1 (r.2.1 e.2.1.2.2.1).2.2.1))
    | none => false
  | .putfield i => match cls[e.2.1.2.1]? with
    | some r => decide (e.2.1.2.2.1 < r.2.2) && decide (lw_tbl[e.2.1.2.2.2]? = some (.fieldLink (mNm y).cls i (r.2.1 e.2.1.2.2.1).1 (r.2.1 e.2.1.2.2.1).2.1 (r.2.1 e.2.1.2.2.1).2.2.1)) && ((r.2.1 e.2.1.2.2.1).2.2.2 == false || (decide ((mNm y).name = "<init>") && decide ((r.2.1 e.2.1.2.2.1).1 = (mNm y).cls)))
    | none => false
  | .new i => match cls[e.2.1.2.1]? with
    | some r => decide (lw_tbl[e.2.1.2.2.2]? = some (.classLink (mNm y).cls i r.1))
    | none => false
  | .anewarray i => decide (lw_tbl[e.2.1.2.2.2]? = some (.classLink (mNm y).cls i cN1))
  | .invokestatic i => okRoom y e.2.1.2.1 && decide (e.2.1.2.2.1 = mNa e.2.1.2.1) && decide (mRc e.2.1.2.1 = 99) && (match e.2.2.1 with
    | [0] => decide (lw_tbl[e.2.1.2.2.2]? = some (.methodLink (mNm y).cls i (mNm e.2.1.2.1)))
    | [1] => decide (lw_tbl[e.2.1.2.2.2]? = some (.methodLinkNest (mNm y).cls i (mNm e.2.1.2.1) cN4))
    | _ => false)
  | .invokevirtual i => okRoom y e.2.1.2.1 && decide (e.2.1.2.2.1 = mNa e.2.1.2.1) && decide (mRc e.2.1.2.1 < 99) && decide ((mNm e.2.1.2.1).name ≠ "<init>") && decide (e.2.2.1 = [2]) && decide (lw_tbl[e.2.1.2.2.2]? = some (.methodLink (mNm y).cls i (mNm e.2.1.2.1)))
  | .invokespecial i => match e.2.2.1 with
    | [3] => okRoom y e.2.1.2.1 && decide (e.2.1.2.2.1 = mNa e.2.1.2.1) && decide (mRc e.2.1.2.1 < 99) && decide (mRt e.2.1.2.1 = none) && decide ((mNm e.2.1.2.1).name = "<init>") && decide (lw_tbl[e.2.1.2.2.2]? = some (.methodLink (mNm y).cls i (mNm e.2.1.2.1)))
    | [4] => decide (1 ≤ mFr y) && decide (20 ≤ mLo y) && decide (lw_tbl[e.2.1.2.2.2]? = some (.methodLink (mNm y).cls i objectInit))
    | _ => false
  | _ => true
def okB (y pc : Nat) (e : AE) : Bool := decide (decode (mBy y) pc = .ok (e.1, lenI e)) && okI y pc e
def okM (y a n : Nat) : Bool := (List.range n).all fun j => match (pg y)[a + j]? with
  | some (some e) => okB y (a + j) e
  | _ => true
theorem ok_0_0 : okM 0 0 26 = true := by decide +kernel
theorem ok_1_0 : okM 1 0 66 = true := by decide +kernel
theorem ok_2_0 : okM 2 0 39 = true := by decide +kernel
theorem ok_3_0 : okM 3 0 37 = true := by decide +kernel
theorem ok_4_0 : okM 4 0 27 = true := by decide +kernel
theorem ok_5_0 : okM 5 0 4 = true := by decide +kernel
theorem ok_6_0 : okM 6 0 14 = true := by decide +kernel
theorem ok_7_0 : okM 7 0 39 = true := by decide +kernel
theorem ok_8_0 : okM 8 0 9 = true := by decide +kernel
theorem ok_9_0 : okM 9 0 24 = true := by decide +kernel
theorem ok_10_0 : okM 10 0 34 = true := by decide +kernel
theorem ok_11_0 : okM 11 0 98 = true := by decide +kernel
theorem ok_12_0 : okM 12 0 20 = true := by decide +kernel
theorem ok_13_0 : okM 13 0 85 = true := by decide +kernel
theorem ok_14_0 : okM 14 0 16 = true := by decide +kernel
theorem ok_15_0 : okM 15 0 76 = true := by decide +kernel
theorem ok_16_0 : okM 16 0 100 = true := by decide +kernel
theorem ok_16_100 : okM 16 100 15 = true := by decide +kernel
theorem ok_17_0 : okM 17 0 75 = true := by decide +kernel
theorem ok_18_0 : okM 18 0 100 = true := by decide +kernel
theorem ok_18_100 : okM 18 100 18 = true := by decide +kernel
theorem ok_19_0 : okM 19 0 94 = true := by decide +kernel
theorem ok_20_0 : okM 20 0 17 = true := by decide +kernel
theorem ok_21_0 : okM 21 0 36 = true := by decide +kernel
theorem ok_22_0 : okM 22 0 21 = true := by decide +kernel
theorem ok_23_0 : okM 23 0 53 = true := by decide +kernel
theorem ok_24_0 : okM 24 0 74 = true := by decide +kernel
theorem ok_25_0 : okM 25 0 16 = true := by decide +kernel
theorem ok_26_0 : okM 26 0 8 = true := by decide +kernel
theorem ok_27_0 : okM 27 0 9 = true := by decide +kernel
theorem ok_28_0 : okM 28 0 18 = true := by decide +kernel
theorem ok_29_0 : okM 29 0 49 = true := by decide +kernel
theorem ok_30_0 : okM 30 0 29 = true := by decide +kernel
theorem ok_31_0 : okM 31 0 65 = true := by decide +kernel
theorem ok_32_0 : okM 32 0 16 = true := by decide +kernel
theorem ok_33_0 : okM 33 0 50 = true := by decide +kernel
theorem ok_34_0 : okM 34 0 51 = true := by decide +kernel
theorem ok_35_0 : okM 35 0 64 = true := by decide +kernel
theorem ok_36_0 : okM 36 0 32 = true := by decide +kernel
theorem ok_37_0 : okM 37 0 67 = true := by decide +kernel
theorem ok_38_0 : okM 38 0 24 = true := by decide +kernel
theorem ok_39_0 : okM 39 0 30 = true := by decide +kernel
theorem ok_40_0 : okM 40 0 49 = true := by decide +kernel
theorem ok_41_0 : okM 41 0 12 = true := by decide +kernel
theorem ok_42_0 : okM 42 0 17 = true := by decide +kernel
theorem ok_43_0 : okM 43 0 30 = true := by decide +kernel
theorem ok_44_0 : okM 44 0 54 = true := by decide +kernel
theorem ok_45_0 : okM 45 0 100 = true := by decide +kernel
theorem ok_45_100 : okM 45 100 46 = true := by decide +kernel
theorem ok_46_0 : okM 46 0 25 = true := by decide +kernel
theorem ok_47_0 : okM 47 0 31 = true := by decide +kernel
theorem ok_48_0 : okM 48 0 100 = true := by decide +kernel
theorem ok_48_100 : okM 48 100 13 = true := by decide +kernel
theorem ok_49_0 : okM 49 0 64 = true := by decide +kernel
theorem ok_50_0 : okM 50 0 23 = true := by decide +kernel
theorem ok_51_0 : okM 51 0 28 = true := by decide +kernel
theorem ok_52_0 : okM 52 0 58 = true := by decide +kernel
theorem ok_53_0 : okM 53 0 65 = true := by decide +kernel
theorem ok_54_0 : okM 54 0 89 = true := by decide +kernel
theorem ok_55_0 : okM 55 0 62 = true := by decide +kernel
theorem ok_56_0 : okM 56 0 37 = true := by decide +kernel
theorem ok_57_0 : okM 57 0 35 = true := by decide +kernel
theorem ok_58_0 : okM 58 0 35 = true := by decide +kernel
theorem ok_59_0 : okM 59 0 48 = true := by decide +kernel
theorem ok_60_0 : okM 60 0 35 = true := by decide +kernel
theorem ok_61_0 : okM 61 0 46 = true := by decide +kernel
theorem ok_62_0 : okM 62 0 26 = true := by decide +kernel
theorem ok_63_0 : okM 63 0 100 = true := by decide +kernel
theorem ok_63_100 : okM 63 100 32 = true := by decide +kernel
theorem ok_64_0 : okM 64 0 15 = true := by decide +kernel
theorem ok_65_0 : okM 65 0 31 = true := by decide +kernel
theorem ok_66_0 : okM 66 0 72 = true := by decide +kernel
theorem ok_67_0 : okM 67 0 85 = true := by decide +kernel
theorem ok_68_0 : okM 68 0 62 = true := by decide +kernel
theorem ok_69_0 : okM 69 0 58 = true := by decide +kernel
theorem ok_70_0 : okM 70 0 37 = true := by decide +kernel
theorem ok_71_0 : okM 71 0 11 = true := by decide +kernel
theorem ok_72_0 : okM 72 0 11 = true := by decide +kernel
theorem ok_73_0 : okM 73 0 23 = true := by decide +kernel
theorem ok_74_0 : okM 74 0 67 = true := by decide +kernel
theorem ok_75_0 : okM 75 0 25 = true := by decide +kernel
theorem ok_76_0 : okM 76 0 11 = true := by decide +kernel
theorem ok_77_0 : okM 77 0 25 = true := by decide +kernel
theorem ok_78_0 : okM 78 0 77 = true := by decide +kernel
theorem ok_79_0 : okM 79 0 49 = true := by decide +kernel
theorem ok_80_0 : okM 80 0 45 = true := by decide +kernel
theorem ok_81_0 : okM 81 0 40 = true := by decide +kernel
theorem ok_82_0 : okM 82 0 100 = true := by decide +kernel
theorem ok_82_100 : okM 82 100 11 = true := by decide +kernel
theorem ok_83_0 : okM 83 0 77 = true := by decide +kernel
theorem ok_84_0 : okM 84 0 54 = true := by decide +kernel
theorem ok_85_0 : okM 85 0 7 = true := by decide +kernel
theorem ok_86_0 : okM 86 0 24 = true := by decide +kernel
theorem ok_87_0 : okM 87 0 66 = true := by decide +kernel
theorem ok_88_0 : okM 88 0 55 = true := by decide +kernel
theorem ok_89_0 : okM 89 0 97 = true := by decide +kernel
theorem ok_90_0 : okM 90 0 84 = true := by decide +kernel
theorem ok_91_0 : okM 91 0 79 = true := by decide +kernel
theorem ok_92_0 : okM 92 0 11 = true := by decide +kernel
theorem ok_93_0 : okM 93 0 47 = true := by decide +kernel
theorem ok_94_0 : okM 94 0 30 = true := by decide +kernel
theorem ok_95_0 : okM 95 0 34 = true := by decide +kernel
theorem ok_96_0 : okM 96 0 45 = true := by decide +kernel
theorem ok_97_0 : okM 97 0 11 = true := by decide +kernel
theorem ok_98_0 : okM 98 0 55 = true := by decide +kernel
theorem ok_99_0 : okM 99 0 89 = true := by decide +kernel
theorem ok_100_0 : okM 100 0 78 = true := by decide +kernel
theorem ok_101_0 : okM 101 0 40 = true := by decide +kernel
theorem ok_102_0 : okM 102 0 80 = true := by decide +kernel
theorem ok_103_0 : okM 103 0 75 = true := by decide +kernel
theorem ok_104_0 : okM 104 0 100 = true := by decide +kernel
theorem ok_104_100 : okM 104 100 20 = true := by decide +kernel
theorem ok_105_0 : okM 105 0 58 = true := by decide +kernel
theorem ok_106_0 : okM 106 0 100 = true := by decide +kernel
theorem ok_106_100 : okM 106 100 44 = true := by decide +kernel
theorem ok_107_0 : okM 107 0 10 = true := by decide +kernel
theorem ok_108_0 : okM 108 0 70 = true := by decide +kernel
theorem ok_109_0 : okM 109 0 49 = true := by decide +kernel
theorem ok_110_0 : okM 110 0 92 = true := by decide +kernel
theorem ok_111_0 : okM 111 0 82 = true := by decide +kernel
theorem ok_112_0 : okM 112 0 63 = true := by decide +kernel
theorem ok_113_0 : okM 113 0 61 = true := by decide +kernel
theorem ok_114_0 : okM 114 0 41 = true := by decide +kernel
theorem ok_115_0 : okM 115 0 60 = true := by decide +kernel
theorem ok_116_0 : okM 116 0 15 = true := by decide +kernel
theorem ok_117_0 : okM 117 0 28 = true := by decide +kernel
theorem ok_118_0 : okM 118 0 54 = true := by decide +kernel
theorem ok_119_0 : okM 119 0 41 = true := by decide +kernel
theorem ok_120_0 : okM 120 0 28 = true := by decide +kernel
theorem ok_121_0 : okM 121 0 32 = true := by decide +kernel
theorem ok_122_0 : okM 122 0 32 = true := by decide +kernel
theorem ok_123_0 : okM 123 0 76 = true := by decide +kernel
theorem ok_124_0 : okM 124 0 100 = true := by decide +kernel
theorem ok_124_100 : okM 124 100 41 = true := by decide +kernel
theorem ok_125_0 : okM 125 0 47 = true := by decide +kernel
theorem ok_126_0 : okM 126 0 50 = true := by decide +kernel
theorem ok_127_0 : okM 127 0 26 = true := by decide +kernel
theorem ok_128_0 : okM 128 0 37 = true := by decide +kernel
theorem ok_129_0 : okM 129 0 31 = true := by decide +kernel
theorem ok_130_0 : okM 130 0 31 = true := by decide +kernel
theorem ok_131_0 : okM 131 0 48 = true := by decide +kernel
theorem ok_132_0 : okM 132 0 29 = true := by decide +kernel
theorem ok_133_0 : okM 133 0 27 = true := by decide +kernel
theorem ok_134_0 : okM 134 0 100 = true := by decide +kernel
theorem ok_134_100 : okM 134 100 15 = true := by decide +kernel
theorem ok_135_0 : okM 135 0 51 = true := by decide +kernel
theorem ok_136_0 : okM 136 0 48 = true := by decide +kernel
theorem ok_137_0 : okM 137 0 35 = true := by decide +kernel
theorem ok_138_0 : okM 138 0 27 = true := by decide +kernel
theorem ok_139_0 : okM 139 0 36 = true := by decide +kernel
theorem ok_140_0 : okM 140 0 100 = true := by decide +kernel
theorem ok_140_100 : okM 140 100 20 = true := by decide +kernel
theorem ok_141_0 : okM 141 0 100 = true := by decide +kernel
theorem ok_141_100 : okM 141 100 100 = true := by decide +kernel
theorem ok_141_200 : okM 141 200 100 = true := by decide +kernel
theorem ok_141_300 : okM 141 300 100 = true := by decide +kernel
theorem ok_141_400 : okM 141 400 100 = true := by decide +kernel
theorem ok_141_500 : okM 141 500 88 = true := by decide +kernel
theorem ar_int : Cond.arrayClass .int ∈ tG := tG_at 91 (by decide +kernel) rfl
theorem ar_boolean : Cond.arrayClass .boolean ∈ tG := tG_at 571 (by decide +kernel) rfl
theorem oi_inst : Cond.instanceMethod objectInit ∈ tG := tG_at 67 (by decide +kernel) rfl
set_option maxRecDepth 20000 in
theorem oi_code : Cond.code objectInit ⟨#[0xb1]⟩ 1 none ∈ tG := tG_at 68 rfl rfl
theorem okM_use {y a n pc : Nat} {e : AE} (h : okM y a n = true) (h1 : a ≤ pc) (h2 : pc < a + n) (he : (pg y)[pc]? = some (some e)) : okB y pc e = true := by
  have h3 := List.all_eq_true.mp h (pc - a) (List.mem_range.mpr (by omega))
  rw [show a + (pc - a) = pc by omega] at h3
  rw [he] at h3
  exact h3
theorem pg_lt {y pc n : Nat} {e : AE} (he : (pg y)[pc]? = some (some e)) (hn : (pg y).length = n) : pc < n := by
  rw [← hn]
  exact (List.getElem?_eq_some_iff.mp he).1
theorem okq_0 {pc : Nat} {e : AE} (h : (pg 0)[pc]? = some (some e)) : okB 0 pc e = true := by
  have hl : pc < 26 := pg_lt h (by decide +kernel)
  exact okM_use ok_0_0 (by omega) (by omega) h
theorem okq_1 {pc : Nat} {e : AE} (h : (pg 1)[pc]? = some (some e)) : okB 1 pc e = true := by
  have hl : pc < 66 := pg_lt h (by decide +kernel)
  exact okM_use ok_1_0 (by omega) (by omega) h
theorem okq_2 {pc : Nat} {e : AE} (h : (pg 2)[pc]? = some (some e)) : okB 2 pc e = true := by
  have hl : pc < 39 := pg_lt h (by decide +kernel)
  exact okM_use ok_2_0 (by omega) (by omega) h
theorem okq_3 {pc : Nat} {e : AE} (h : (pg 3)[pc]? = some (some e)) : okB 3 pc e = true := by
  have hl : pc < 37 := pg_lt h (by decide +kernel)
  exact okM_use ok_3_0 (by omega) (by omega) h
theorem okq_4 {pc : Nat} {e : AE} (h : (pg 4)[pc]? = some (some e)) : okB 4 pc e = true := by
  have hl : pc < 27 := pg_lt h (by decide +kernel)
  exact okM_use ok_4_0 (by omega) (by omega) h
theorem okq_5 {pc : Nat} {e : AE} (h : (pg 5)[pc]? = some (some e)) : okB 5 pc e = true := by
  have hl : pc < 4 := pg_lt h (by decide +kernel)
  exact okM_use ok_5_0 (by omega) (by omega) h
theorem okq_6 {pc : Nat} {e : AE} (h : (pg 6)[pc]? = some (some e)) : okB 6 pc e = true := by
  have hl : pc < 14 := pg_lt h (by decide +kernel)
  exact okM_use ok_6_0 (by omega) (by omega) h
theorem okq_7 {pc : Nat} {e : AE} (h : (pg 7)[pc]? = some (some e)) : okB 7 pc e = true := by
  have hl : pc < 39 := pg_lt h (by decide +kernel)
  exact okM_use ok_7_0 (by omega) (by omega) h
theorem okq_8 {pc : Nat} {e : AE} (h : (pg 8)[pc]? = some (some e)) : okB 8 pc e = true := by
  have hl : pc < 9 := pg_lt h (by decide +kernel)
  exact okM_use ok_8_0 (by omega) (by omega) h
theorem okq_9 {pc : Nat} {e : AE} (h : (pg 9)[pc]? = some (some e)) : okB 9 pc e = true := by
  have hl : pc < 24 := pg_lt h (by decide +kernel)
  exact okM_use ok_9_0 (by omega) (by omega) h
theorem okq_10 {pc : Nat} {e : AE} (h : (pg 10)[pc]? = some (some e)) : okB 10 pc e = true := by
  have hl : pc < 34 := pg_lt h (by decide +kernel)
  exact okM_use ok_10_0 (by omega) (by omega) h
theorem okq_11 {pc : Nat} {e : AE} (h : (pg 11)[pc]? = some (some e)) : okB 11 pc e = true := by
  have hl : pc < 98 := pg_lt h (by decide +kernel)
  exact okM_use ok_11_0 (by omega) (by omega) h
theorem okq_12 {pc : Nat} {e : AE} (h : (pg 12)[pc]? = some (some e)) : okB 12 pc e = true := by
  have hl : pc < 20 := pg_lt h (by decide +kernel)
  exact okM_use ok_12_0 (by omega) (by omega) h
theorem okq_13 {pc : Nat} {e : AE} (h : (pg 13)[pc]? = some (some e)) : okB 13 pc e = true := by
  have hl : pc < 85 := pg_lt h (by decide +kernel)
  exact okM_use ok_13_0 (by omega) (by omega) h
theorem okq_14 {pc : Nat} {e : AE} (h : (pg 14)[pc]? = some (some e)) : okB 14 pc e = true := by
  have hl : pc < 16 := pg_lt h (by decide +kernel)
  exact okM_use ok_14_0 (by omega) (by omega) h
theorem okq_15 {pc : Nat} {e : AE} (h : (pg 15)[pc]? = some (some e)) : okB 15 pc e = true := by
  have hl : pc < 76 := pg_lt h (by decide +kernel)
  exact okM_use ok_15_0 (by omega) (by omega) h
theorem okq_16 {pc : Nat} {e : AE} (h : (pg 16)[pc]? = some (some e)) : okB 16 pc e = true := by
  have hl : pc < 115 := pg_lt h (by decide +kernel)
  by_cases c0 : pc < 100
  · exact okM_use ok_16_0 (by omega) (by omega) h
  exact okM_use ok_16_100 (by omega) (by omega) h
theorem okq_17 {pc : Nat} {e : AE} (h : (pg 17)[pc]? = some (some e)) : okB 17 pc e = true := by
  have hl : pc < 75 := pg_lt h (by decide +kernel)
  exact okM_use ok_17_0 (by omega) (by omega) h
theorem okq_18 {pc : Nat} {e : AE} (h : (pg 18)[pc]? = some (some e)) : okB 18 pc e = true := by
  have hl : pc < 118 := pg_lt h (by decide +kernel)
  by_cases c0 : pc < 100
  · exact okM_use ok_18_0 (by omega) (by omega) h
  exact okM_use ok_18_100 (by omega) (by omega) h
theorem okq_19 {pc : Nat} {e : AE} (h : (pg 19)[pc]? = some (some e)) : okB 19 pc e = true := by
  have hl : pc < 94 := pg_lt h (by decide +kernel)
  exact okM_use ok_19_0 (by omega) (by omega) h
theorem okq_20 {pc : Nat} {e : AE} (h : (pg 20)[pc]? = some (some e)) : okB 20 pc e = true := by
  have hl : pc < 17 := pg_lt h (by decide +kernel)
  exact okM_use ok_20_0 (by omega) (by omega) h
theorem okq_21 {pc : Nat} {e : AE} (h : (pg 21)[pc]? = some (some e)) : okB 21 pc e = true := by
  have hl : pc < 36 := pg_lt h (by decide +kernel)
  exact okM_use ok_21_0 (by omega) (by omega) h
theorem okq_22 {pc : Nat} {e : AE} (h : (pg 22)[pc]? = some (some e)) : okB 22 pc e = true := by
  have hl : pc < 21 := pg_lt h (by decide +kernel)
  exact okM_use ok_22_0 (by omega) (by omega) h
theorem okq_23 {pc : Nat} {e : AE} (h : (pg 23)[pc]? = some (some e)) : okB 23 pc e = true := by
  have hl : pc < 53 := pg_lt h (by decide +kernel)
  exact okM_use ok_23_0 (by omega) (by omega) h
theorem okq_24 {pc : Nat} {e : AE} (h : (pg 24)[pc]? = some (some e)) : okB 24 pc e = true := by
  have hl : pc < 74 := pg_lt h (by decide +kernel)
  exact okM_use ok_24_0 (by omega) (by omega) h
theorem okq_25 {pc : Nat} {e : AE} (h : (pg 25)[pc]? = some (some e)) : okB 25 pc e = true := by
  have hl : pc < 16 := pg_lt h (by decide +kernel)
  exact okM_use ok_25_0 (by omega) (by omega) h
theorem okq_26 {pc : Nat} {e : AE} (h : (pg 26)[pc]? = some (some e)) : okB 26 pc e = true := by
  have hl : pc < 8 := pg_lt h (by decide +kernel)
  exact okM_use ok_26_0 (by omega) (by omega) h
theorem okq_27 {pc : Nat} {e : AE} (h : (pg 27)[pc]? = some (some e)) : okB 27 pc e = true := by
  have hl : pc < 9 := pg_lt h (by decide +kernel)
  exact okM_use ok_27_0 (by omega) (by omega) h
theorem okq_28 {pc : Nat} {e : AE} (h : (pg 28)[pc]? = some (some e)) : okB 28 pc e = true := by
  have hl : pc < 18 := pg_lt h (by decide +kernel)
  exact okM_use ok_28_0 (by omega) (by omega) h
theorem okq_29 {pc : Nat} {e : AE} (h : (pg 29)[pc]? = some (some e)) : okB 29 pc e = true := by
  have hl : pc < 49 := pg_lt h (by decide +kernel)
  exact okM_use ok_29_0 (by omega) (by omega) h
theorem okq_30 {pc : Nat} {e : AE} (h : (pg 30)[pc]? = some (some e)) : okB 30 pc e = true := by
  have hl : pc < 29 := pg_lt h (by decide +kernel)
  exact okM_use ok_30_0 (by omega) (by omega) h
theorem okq_31 {pc : Nat} {e : AE} (h : (pg 31)[pc]? = some (some e)) : okB 31 pc e = true := by
  have hl : pc < 65 := pg_lt h (by decide +kernel)
  exact okM_use ok_31_0 (by omega) (by omega) h
theorem okq_32 {pc : Nat} {e : AE} (h : (pg 32)[pc]? = some (some e)) : okB 32 pc e = true := by
  have hl : pc < 16 := pg_lt h (by decide +kernel)
  exact okM_use ok_32_0 (by omega) (by omega) h
theorem okq_33 {pc : Nat} {e : AE} (h : (pg 33)[pc]? = some (some e)) : okB 33 pc e = true := by
  have hl : pc < 50 := pg_lt h (by decide +kernel)
  exact okM_use ok_33_0 (by omega) (by omega) h
theorem okq_34 {pc : Nat} {e : AE} (h : (pg 34)[pc]? = some (some e)) : okB 34 pc e = true := by
  have hl : pc < 51 := pg_lt h (by decide +kernel)
  exact okM_use ok_34_0 (by omega) (by omega) h
theorem okq_35 {pc : Nat} {e : AE} (h : (pg 35)[pc]? = some (some e)) : okB 35 pc e = true := by
  have hl : pc < 64 := pg_lt h (by decide +kernel)
  exact okM_use ok_35_0 (by omega) (by omega) h
theorem okq_36 {pc : Nat} {e : AE} (h : (pg 36)[pc]? = some (some e)) : okB 36 pc e = true := by
  have hl : pc < 32 := pg_lt h (by decide +kernel)
  exact okM_use ok_36_0 (by omega) (by omega) h
theorem okq_37 {pc : Nat} {e : AE} (h : (pg 37)[pc]? = some (some e)) : okB 37 pc e = true := by
  have hl : pc < 67 := pg_lt h (by decide +kernel)
  exact okM_use ok_37_0 (by omega) (by omega) h
theorem okq_38 {pc : Nat} {e : AE} (h : (pg 38)[pc]? = some (some e)) : okB 38 pc e = true := by
  have hl : pc < 24 := pg_lt h (by decide +kernel)
  exact okM_use ok_38_0 (by omega) (by omega) h
theorem okq_39 {pc : Nat} {e : AE} (h : (pg 39)[pc]? = some (some e)) : okB 39 pc e = true := by
  have hl : pc < 30 := pg_lt h (by decide +kernel)
  exact okM_use ok_39_0 (by omega) (by omega) h
theorem okq_40 {pc : Nat} {e : AE} (h : (pg 40)[pc]? = some (some e)) : okB 40 pc e = true := by
  have hl : pc < 49 := pg_lt h (by decide +kernel)
  exact okM_use ok_40_0 (by omega) (by omega) h
theorem okq_41 {pc : Nat} {e : AE} (h : (pg 41)[pc]? = some (some e)) : okB 41 pc e = true := by
  have hl : pc < 12 := pg_lt h (by decide +kernel)
  exact okM_use ok_41_0 (by omega) (by omega) h
theorem okq_42 {pc : Nat} {e : AE} (h : (pg 42)[pc]? = some (some e)) : okB 42 pc e = true := by
  have hl : pc < 17 := pg_lt h (by decide +kernel)
  exact okM_use ok_42_0 (by omega) (by omega) h
theorem okq_43 {pc : Nat} {e : AE} (h : (pg 43)[pc]? = some (some e)) : okB 43 pc e = true := by
  have hl : pc < 30 := pg_lt h (by decide +kernel)
  exact okM_use ok_43_0 (by omega) (by omega) h
theorem okq_44 {pc : Nat} {e : AE} (h : (pg 44)[pc]? = some (some e)) : okB 44 pc e = true := by
  have hl : pc < 54 := pg_lt h (by decide +kernel)
  exact okM_use ok_44_0 (by omega) (by omega) h
theorem okq_45 {pc : Nat} {e : AE} (h : (pg 45)[pc]? = some (some e)) : okB 45 pc e = true := by
  have hl : pc < 146 := pg_lt h (by decide +kernel)
  by_cases c0 : pc < 100
  · exact okM_use ok_45_0 (by omega) (by omega) h
  exact okM_use ok_45_100 (by omega) (by omega) h
theorem okq_46 {pc : Nat} {e : AE} (h : (pg 46)[pc]? = some (some e)) : okB 46 pc e = true := by
  have hl : pc < 25 := pg_lt h (by decide +kernel)
  exact okM_use ok_46_0 (by omega) (by omega) h
theorem okq_47 {pc : Nat} {e : AE} (h : (pg 47)[pc]? = some (some e)) : okB 47 pc e = true := by
  have hl : pc < 31 := pg_lt h (by decide +kernel)
  exact okM_use ok_47_0 (by omega) (by omega) h
theorem okq_48 {pc : Nat} {e : AE} (h : (pg 48)[pc]? = some (some e)) : okB 48 pc e = true := by
  have hl : pc < 113 := pg_lt h (by decide +kernel)
  by_cases c0 : pc < 100
  · exact okM_use ok_48_0 (by omega) (by omega) h
  exact okM_use ok_48_100 (by omega) (by omega) h
theorem okq_49 {pc : Nat} {e : AE} (h : (pg 49)[pc]? = some (some e)) : okB 49 pc e = true := by
  have hl : pc < 64 := pg_lt h (by decide +kernel)
  exact okM_use ok_49_0 (by omega) (by omega) h
theorem okq_50 {pc : Nat} {e : AE} (h : (pg 50)[pc]? = some (some e)) : okB 50 pc e = true := by
  have hl : pc < 23 := pg_lt h (by decide +kernel)
  exact okM_use ok_50_0 (by omega) (by omega) h
theorem okq_51 {pc : Nat} {e : AE} (h : (pg 51)[pc]? = some (some e)) : okB 51 pc e = true := by
  have hl : pc < 28 := pg_lt h (by decide +kernel)
  exact okM_use ok_51_0 (by omega) (by omega) h
theorem okq_52 {pc : Nat} {e : AE} (h : (pg 52)[pc]? = some (some e)) : okB 52 pc e = true := by
  have hl : pc < 58 := pg_lt h (by decide +kernel)
  exact okM_use ok_52_0 (by omega) (by omega) h
theorem okq_53 {pc : Nat} {e : AE} (h : (pg 53)[pc]? = some (some e)) : okB 53 pc e = true := by
  have hl : pc < 65 := pg_lt h (by decide +kernel)
  exact okM_use ok_53_0 (by omega) (by omega) h
theorem okq_54 {pc : Nat} {e : AE} (h : (pg 54)[pc]? = some (some e)) : okB 54 pc e = true := by
  have hl : pc < 89 := pg_lt h (by decide +kernel)
  exact okM_use ok_54_0 (by omega) (by omega) h
theorem okq_55 {pc : Nat} {e : AE} (h : (pg 55)[pc]? = some (some e)) : okB 55 pc e = true := by
  have hl : pc < 62 := pg_lt h (by decide +kernel)
  exact okM_use ok_55_0 (by omega) (by omega) h
theorem okq_56 {pc : Nat} {e : AE} (h : (pg 56)[pc]? = some (some e)) : okB 56 pc e = true := by
  have hl : pc < 37 := pg_lt h (by decide +kernel)
  exact okM_use ok_56_0 (by omega) (by omega) h
theorem okq_57 {pc : Nat} {e : AE} (h : (pg 57)[pc]? = some (some e)) : okB 57 pc e = true := by
  have hl : pc < 35 := pg_lt h (by decide +kernel)
  exact okM_use ok_57_0 (by omega) (by omega) h
theorem okq_58 {pc : Nat} {e : AE} (h : (pg 58)[pc]? = some (some e)) : okB 58 pc e = true := by
  have hl : pc < 35 := pg_lt h (by decide +kernel)
  exact okM_use ok_58_0 (by omega) (by omega) h
theorem okq_59 {pc : Nat} {e : AE} (h : (pg 59)[pc]? = some (some e)) : okB 59 pc e = true := by
  have hl : pc < 48 := pg_lt h (by decide +kernel)
  exact okM_use ok_59_0 (by omega) (by omega) h
theorem okq_60 {pc : Nat} {e : AE} (h : (pg 60)[pc]? = some (some e)) : okB 60 pc e = true := by
  have hl : pc < 35 := pg_lt h (by decide +kernel)
  exact okM_use ok_60_0 (by omega) (by omega) h
theorem okq_61 {pc : Nat} {e : AE} (h : (pg 61)[pc]? = some (some e)) : okB 61 pc e = true := by
  have hl : pc < 46 := pg_lt h (by decide +kernel)
  exact okM_use ok_61_0 (by omega) (by omega) h
theorem okq_62 {pc : Nat} {e : AE} (h : (pg 62)[pc]? = some (some e)) : okB 62 pc e = true := by
  have hl : pc < 26 := pg_lt h (by decide +kernel)
  exact okM_use ok_62_0 (by omega) (by omega) h
theorem okq_63 {pc : Nat} {e : AE} (h : (pg 63)[pc]? = some (some e)) : okB 63 pc e = true := by
  have hl : pc < 132 := pg_lt h (by decide +kernel)
  by_cases c0 : pc < 100
  · exact okM_use ok_63_0 (by omega) (by omega) h
  exact okM_use ok_63_100 (by omega) (by omega) h
theorem okq_64 {pc : Nat} {e : AE} (h : (pg 64)[pc]? = some (some e)) : okB 64 pc e = true := by
  have hl : pc < 15 := pg_lt h (by decide +kernel)
  exact okM_use ok_64_0 (by omega) (by omega) h
theorem okq_65 {pc : Nat} {e : AE} (h : (pg 65)[pc]? = some (some e)) : okB 65 pc e = true := by
  have hl : pc < 31 := pg_lt h (by decide +kernel)
  exact okM_use ok_65_0 (by omega) (by omega) h
theorem okq_66 {pc : Nat} {e : AE} (h : (pg 66)[pc]? = some (some e)) : okB 66 pc e = true := by
  have hl : pc < 72 := pg_lt h (by decide +kernel)
  exact okM_use ok_66_0 (by omega) (by omega) h
theorem okq_67 {pc : Nat} {e : AE} (h : (pg 67)[pc]? = some (some e)) : okB 67 pc e = true := by
  have hl : pc < 85 := pg_lt h (by decide +kernel)
  exact okM_use ok_67_0 (by omega) (by omega) h
theorem okq_68 {pc : Nat} {e : AE} (h : (pg 68)[pc]? = some (some e)) : okB 68 pc e = true := by
  have hl : pc < 62 := pg_lt h (by decide +kernel)
  exact okM_use ok_68_0 (by omega) (by omega) h
theorem okq_69 {pc : Nat} {e : AE} (h : (pg 69)[pc]? = some (some e)) : okB 69 pc e = true := by
  have hl : pc < 58 := pg_lt h (by decide +kernel)
  exact okM_use ok_69_0 (by omega) (by omega) h
theorem okq_70 {pc : Nat} {e : AE} (h : (pg 70)[pc]? = some (some e)) : okB 70 pc e = true := by
  have hl : pc < 37 := pg_lt h (by decide +kernel)
  exact okM_use ok_70_0 (by omega) (by omega) h
theorem okq_71 {pc : Nat} {e : AE} (h : (pg 71)[pc]? = some (some e)) : okB 71 pc e = true := by
  have hl : pc < 11 := pg_lt h (by decide +kernel)
  exact okM_use ok_71_0 (by omega) (by omega) h
theorem okq_72 {pc : Nat} {e : AE} (h : (pg 72)[pc]? = some (some e)) : okB 72 pc e = true := by
  have hl : pc < 11 := pg_lt h (by decide +kernel)
  exact okM_use ok_72_0 (by omega) (by omega) h
theorem okq_73 {pc : Nat} {e : AE} (h : (pg 73)[pc]? = some (some e)) : okB 73 pc e = true := by
  have hl : pc < 23 := pg_lt h (by decide +kernel)
  exact okM_use ok_73_0 (by omega) (by omega) h
theorem okq_74 {pc : Nat} {e : AE} (h : (pg 74)[pc]? = some (some e)) : okB 74 pc e = true := by
  have hl : pc < 67 := pg_lt h (by decide +kernel)
  exact okM_use ok_74_0 (by omega) (by omega) h
theorem okq_75 {pc : Nat} {e : AE} (h : (pg 75)[pc]? = some (some e)) : okB 75 pc e = true := by
  have hl : pc < 25 := pg_lt h (by decide +kernel)
  exact okM_use ok_75_0 (by omega) (by omega) h
theorem okq_76 {pc : Nat} {e : AE} (h : (pg 76)[pc]? = some (some e)) : okB 76 pc e = true := by
  have hl : pc < 11 := pg_lt h (by decide +kernel)
  exact okM_use ok_76_0 (by omega) (by omega) h
theorem okq_77 {pc : Nat} {e : AE} (h : (pg 77)[pc]? = some (some e)) : okB 77 pc e = true := by
  have hl : pc < 25 := pg_lt h (by decide +kernel)
  exact okM_use ok_77_0 (by omega) (by omega) h
theorem okq_78 {pc : Nat} {e : AE} (h : (pg 78)[pc]? = some (some e)) : okB 78 pc e = true := by
  have hl : pc < 77 := pg_lt h (by decide +kernel)
  exact okM_use ok_78_0 (by omega) (by omega) h
theorem okq_79 {pc : Nat} {e : AE} (h : (pg 79)[pc]? = some (some e)) : okB 79 pc e = true := by
  have hl : pc < 49 := pg_lt h (by decide +kernel)
  exact okM_use ok_79_0 (by omega) (by omega) h
theorem okq_80 {pc : Nat} {e : AE} (h : (pg 80)[pc]? = some (some e)) : okB 80 pc e = true := by
  have hl : pc < 45 := pg_lt h (by decide +kernel)
  exact okM_use ok_80_0 (by omega) (by omega) h
theorem okq_81 {pc : Nat} {e : AE} (h : (pg 81)[pc]? = some (some e)) : okB 81 pc e = true := by
  have hl : pc < 40 := pg_lt h (by decide +kernel)
  exact okM_use ok_81_0 (by omega) (by omega) h
theorem okq_82 {pc : Nat} {e : AE} (h : (pg 82)[pc]? = some (some e)) : okB 82 pc e = true := by
  have hl : pc < 111 := pg_lt h (by decide +kernel)
  by_cases c0 : pc < 100
  · exact okM_use ok_82_0 (by omega) (by omega) h
  exact okM_use ok_82_100 (by omega) (by omega) h
theorem okq_83 {pc : Nat} {e : AE} (h : (pg 83)[pc]? = some (some e)) : okB 83 pc e = true := by
  have hl : pc < 77 := pg_lt h (by decide +kernel)
  exact okM_use ok_83_0 (by omega) (by omega) h
theorem okq_84 {pc : Nat} {e : AE} (h : (pg 84)[pc]? = some (some e)) : okB 84 pc e = true := by
  have hl : pc < 54 := pg_lt h (by decide +kernel)
  exact okM_use ok_84_0 (by omega) (by omega) h
theorem okq_85 {pc : Nat} {e : AE} (h : (pg 85)[pc]? = some (some e)) : okB 85 pc e = true := by
  have hl : pc < 7 := pg_lt h (by decide +kernel)
  exact okM_use ok_85_0 (by omega) (by omega) h
theorem okq_86 {pc : Nat} {e : AE} (h : (pg 86)[pc]? = some (some e)) : okB 86 pc e = true := by
  have hl : pc < 24 := pg_lt h (by decide +kernel)
  exact okM_use ok_86_0 (by omega) (by omega) h
theorem okq_87 {pc : Nat} {e : AE} (h : (pg 87)[pc]? = some (some e)) : okB 87 pc e = true := by
  have hl : pc < 66 := pg_lt h (by decide +kernel)
  exact okM_use ok_87_0 (by omega) (by omega) h
theorem okq_88 {pc : Nat} {e : AE} (h : (pg 88)[pc]? = some (some e)) : okB 88 pc e = true := by
  have hl : pc < 55 := pg_lt h (by decide +kernel)
  exact okM_use ok_88_0 (by omega) (by omega) h
theorem okq_89 {pc : Nat} {e : AE} (h : (pg 89)[pc]? = some (some e)) : okB 89 pc e = true := by
  have hl : pc < 97 := pg_lt h (by decide +kernel)
  exact okM_use ok_89_0 (by omega) (by omega) h
theorem okq_90 {pc : Nat} {e : AE} (h : (pg 90)[pc]? = some (some e)) : okB 90 pc e = true := by
  have hl : pc < 84 := pg_lt h (by decide +kernel)
  exact okM_use ok_90_0 (by omega) (by omega) h
theorem okq_91 {pc : Nat} {e : AE} (h : (pg 91)[pc]? = some (some e)) : okB 91 pc e = true := by
  have hl : pc < 79 := pg_lt h (by decide +kernel)
  exact okM_use ok_91_0 (by omega) (by omega) h
theorem okq_92 {pc : Nat} {e : AE} (h : (pg 92)[pc]? = some (some e)) : okB 92 pc e = true := by
  have hl : pc < 11 := pg_lt h (by decide +kernel)
  exact okM_use ok_92_0 (by omega) (by omega) h
theorem okq_93 {pc : Nat} {e : AE} (h : (pg 93)[pc]? = some (some e)) : okB 93 pc e = true := by
  have hl : pc < 47 := pg_lt h (by decide +kernel)
  exact okM_use ok_93_0 (by omega) (by omega) h
theorem okq_94 {pc : Nat} {e : AE} (h : (pg 94)[pc]? = some (some e)) : okB 94 pc e = true := by
  have hl : pc < 30 := pg_lt h (by decide +kernel)
  exact okM_use ok_94_0 (by omega) (by omega) h
theorem okq_95 {pc : Nat} {e : AE} (h : (pg 95)[pc]? = some (some e)) : okB 95 pc e = true := by
  have hl : pc < 34 := pg_lt h (by decide +kernel)
  exact okM_use ok_95_0 (by omega) (by omega) h
theorem okq_96 {pc : Nat} {e : AE} (h : (pg 96)[pc]? = some (some e)) : okB 96 pc e = true := by
  have hl : pc < 45 := pg_lt h (by decide +kernel)
  exact okM_use ok_96_0 (by omega) (by omega) h
theorem okq_97 {pc : Nat} {e : AE} (h : (pg 97)[pc]? = some (some e)) : okB 97 pc e = true := by
  have hl : pc < 11 := pg_lt h (by decide +kernel)
  exact okM_use ok_97_0 (by omega) (by omega) h
theorem okq_98 {pc : Nat} {e : AE} (h : (pg 98)[pc]? = some (some e)) : okB 98 pc e = true := by
  have hl : pc < 55 := pg_lt h (by decide +kernel)
  exact okM_use ok_98_0 (by omega) (by omega) h
theorem okq_99 {pc : Nat} {e : AE} (h : (pg 99)[pc]? = some (some e)) : okB 99 pc e = true := by
  have hl : pc < 89 := pg_lt h (by decide +kernel)
  exact okM_use ok_99_0 (by omega) (by omega) h
theorem okq_100 {pc : Nat} {e : AE} (h : (pg 100)[pc]? = some (some e)) : okB 100 pc e = true := by
  have hl : pc < 78 := pg_lt h (by decide +kernel)
  exact okM_use ok_100_0 (by omega) (by omega) h
theorem okq_101 {pc : Nat} {e : AE} (h : (pg 101)[pc]? = some (some e)) : okB 101 pc e = true := by
  have hl : pc < 40 := pg_lt h (by decide +kernel)
  exact okM_use ok_101_0 (by omega) (by omega) h
theorem okq_102 {pc : Nat} {e : AE} (h : (pg 102)[pc]? = some (some e)) : okB 102 pc e = true := by
  have hl : pc < 80 := pg_lt h (by decide +kernel)
  exact okM_use ok_102_0 (by omega) (by omega) h
theorem okq_103 {pc : Nat} {e : AE} (h : (pg 103)[pc]? = some (some e)) : okB 103 pc e = true := by
  have hl : pc < 75 := pg_lt h (by decide +kernel)
  exact okM_use ok_103_0 (by omega) (by omega) h
theorem okq_104 {pc : Nat} {e : AE} (h : (pg 104)[pc]? = some (some e)) : okB 104 pc e = true := by
  have hl : pc < 120 := pg_lt h (by decide +kernel)
  by_cases c0 : pc < 100
  · exact okM_use ok_104_0 (by omega) (by omega) h
  exact okM_use ok_104_100 (by omega) (by omega) h
theorem okq_105 {pc : Nat} {e : AE} (h : (pg 105)[pc]? = some (some e)) : okB 105 pc e = true := by
  have hl : pc < 58 := pg_lt h (by decide +kernel)
  exact okM_use ok_105_0 (by omega) (by omega) h
theorem okq_106 {pc : Nat} {e : AE} (h : (pg 106)[pc]? = some (some e)) : okB 106 pc e = true := by
  have hl : pc < 144 := pg_lt h (by decide +kernel)
  by_cases c0 : pc < 100
  · exact okM_use ok_106_0 (by omega) (by omega) h
  exact okM_use ok_106_100 (by omega) (by omega) h
theorem okq_107 {pc : Nat} {e : AE} (h : (pg 107)[pc]? = some (some e)) : okB 107 pc e = true := by
  have hl : pc < 10 := pg_lt h (by decide +kernel)
  exact okM_use ok_107_0 (by omega) (by omega) h
theorem okq_108 {pc : Nat} {e : AE} (h : (pg 108)[pc]? = some (some e)) : okB 108 pc e = true := by
  have hl : pc < 70 := pg_lt h (by decide +kernel)
  exact okM_use ok_108_0 (by omega) (by omega) h
theorem okq_109 {pc : Nat} {e : AE} (h : (pg 109)[pc]? = some (some e)) : okB 109 pc e = true := by
  have hl : pc < 49 := pg_lt h (by decide +kernel)
  exact okM_use ok_109_0 (by omega) (by omega) h
theorem okq_110 {pc : Nat} {e : AE} (h : (pg 110)[pc]? = some (some e)) : okB 110 pc e = true := by
  have hl : pc < 92 := pg_lt h (by decide +kernel)
  exact okM_use ok_110_0 (by omega) (by omega) h
theorem okq_111 {pc : Nat} {e : AE} (h : (pg 111)[pc]? = some (some e)) : okB 111 pc e = true := by
  have hl : pc < 82 := pg_lt h (by decide +kernel)
  exact okM_use ok_111_0 (by omega) (by omega) h
theorem okq_112 {pc : Nat} {e : AE} (h : (pg 112)[pc]? = some (some e)) : okB 112 pc e = true := by
  have hl : pc < 63 := pg_lt h (by decide +kernel)
  exact okM_use ok_112_0 (by omega) (by omega) h
theorem okq_113 {pc : Nat} {e : AE} (h : (pg 113)[pc]? = some (some e)) : okB 113 pc e = true := by
  have hl : pc < 61 := pg_lt h (by decide +kernel)
  exact okM_use ok_113_0 (by omega) (by omega) h
theorem okq_114 {pc : Nat} {e : AE} (h : (pg 114)[pc]? = some (some e)) : okB 114 pc e = true := by
  have hl : pc < 41 := pg_lt h (by decide +kernel)
  exact okM_use ok_114_0 (by omega) (by omega) h
theorem okq_115 {pc : Nat} {e : AE} (h : (pg 115)[pc]? = some (some e)) : okB 115 pc e = true := by
  have hl : pc < 60 := pg_lt h (by decide +kernel)
  exact okM_use ok_115_0 (by omega) (by omega) h
theorem okq_116 {pc : Nat} {e : AE} (h : (pg 116)[pc]? = some (some e)) : okB 116 pc e = true := by
  have hl : pc < 15 := pg_lt h (by decide +kernel)
  exact okM_use ok_116_0 (by omega) (by omega) h
theorem okq_117 {pc : Nat} {e : AE} (h : (pg 117)[pc]? = some (some e)) : okB 117 pc e = true := by
  have hl : pc < 28 := pg_lt h (by decide +kernel)
  exact okM_use ok_117_0 (by omega) (by omega) h
theorem okq_118 {pc : Nat} {e : AE} (h : (pg 118)[pc]? = some (some e)) : okB 118 pc e = true := by
  have hl : pc < 54 := pg_lt h (by decide +kernel)
  exact okM_use ok_118_0 (by omega) (by omega) h
theorem okq_119 {pc : Nat} {e : AE} (h : (pg 119)[pc]? = some (some e)) : okB 119 pc e = true := by
  have hl : pc < 41 := pg_lt h (by decide +kernel)
  exact okM_use ok_119_0 (by omega) (by omega) h
theorem okq_120 {pc : Nat} {e : AE} (h : (pg 120)[pc]? = some (some e)) : okB 120 pc e = true := by
  have hl : pc < 28 := pg_lt h (by decide +kernel)
  exact okM_use ok_120_0 (by omega) (by omega) h
theorem okq_121 {pc : Nat} {e : AE} (h : (pg 121)[pc]? = some (some e)) : okB 121 pc e = true := by
  have hl : pc < 32 := pg_lt h (by decide +kernel)
  exact okM_use ok_121_0 (by omega) (by omega) h
theorem okq_122 {pc : Nat} {e : AE} (h : (pg 122)[pc]? = some (some e)) : okB 122 pc e = true := by
  have hl : pc < 32 := pg_lt h (by decide +kernel)
  exact okM_use ok_122_0 (by omega) (by omega) h
theorem okq_123 {pc : Nat} {e : AE} (h : (pg 123)[pc]? = some (some e)) : okB 123 pc e = true := by
  have hl : pc < 76 := pg_lt h (by decide +kernel)
  exact okM_use ok_123_0 (by omega) (by omega) h
theorem okq_124 {pc : Nat} {e : AE} (h : (pg 124)[pc]? = some (some e)) : okB 124 pc e = true := by
  have hl : pc < 141 := pg_lt h (by decide +kernel)
  by_cases c0 : pc < 100
  · exact okM_use ok_124_0 (by omega) (by omega) h
  exact okM_use ok_124_100 (by omega) (by omega) h
theorem okq_125 {pc : Nat} {e : AE} (h : (pg 125)[pc]? = some (some e)) : okB 125 pc e = true := by
  have hl : pc < 47 := pg_lt h (by decide +kernel)
  exact okM_use ok_125_0 (by omega) (by omega) h
theorem okq_126 {pc : Nat} {e : AE} (h : (pg 126)[pc]? = some (some e)) : okB 126 pc e = true := by
  have hl : pc < 50 := pg_lt h (by decide +kernel)
  exact okM_use ok_126_0 (by omega) (by omega) h
theorem okq_127 {pc : Nat} {e : AE} (h : (pg 127)[pc]? = some (some e)) : okB 127 pc e = true := by
  have hl : pc < 26 := pg_lt h (by decide +kernel)
  exact okM_use ok_127_0 (by omega) (by omega) h
theorem okq_128 {pc : Nat} {e : AE} (h : (pg 128)[pc]? = some (some e)) : okB 128 pc e = true := by
  have hl : pc < 37 := pg_lt h (by decide +kernel)
  exact okM_use ok_128_0 (by omega) (by omega) h
theorem okq_129 {pc : Nat} {e : AE} (h : (pg 129)[pc]? = some (some e)) : okB 129 pc e = true := by
  have hl : pc < 31 := pg_lt h (by decide +kernel)
  exact okM_use ok_129_0 (by omega) (by omega) h
theorem okq_130 {pc : Nat} {e : AE} (h : (pg 130)[pc]? = some (some e)) : okB 130 pc e = true := by
  have hl : pc < 31 := pg_lt h (by decide +kernel)
  exact okM_use ok_130_0 (by omega) (by omega) h
theorem okq_131 {pc : Nat} {e : AE} (h : (pg 131)[pc]? = some (some e)) : okB 131 pc e = true := by
  have hl : pc < 48 := pg_lt h (by decide +kernel)
  exact okM_use ok_131_0 (by omega) (by omega) h
theorem okq_132 {pc : Nat} {e : AE} (h : (pg 132)[pc]? = some (some e)) : okB 132 pc e = true := by
  have hl : pc < 29 := pg_lt h (by decide +kernel)
  exact okM_use ok_132_0 (by omega) (by omega) h
theorem okq_133 {pc : Nat} {e : AE} (h : (pg 133)[pc]? = some (some e)) : okB 133 pc e = true := by
  have hl : pc < 27 := pg_lt h (by decide +kernel)
  exact okM_use ok_133_0 (by omega) (by omega) h
theorem okq_134 {pc : Nat} {e : AE} (h : (pg 134)[pc]? = some (some e)) : okB 134 pc e = true := by
  have hl : pc < 115 := pg_lt h (by decide +kernel)
  by_cases c0 : pc < 100
  · exact okM_use ok_134_0 (by omega) (by omega) h
  exact okM_use ok_134_100 (by omega) (by omega) h
theorem okq_135 {pc : Nat} {e : AE} (h : (pg 135)[pc]? = some (some e)) : okB 135 pc e = true := by
  have hl : pc < 51 := pg_lt h (by decide +kernel)
  exact okM_use ok_135_0 (by omega) (by omega) h
theorem okq_136 {pc : Nat} {e : AE} (h : (pg 136)[pc]? = some (some e)) : okB 136 pc e = true := by
  have hl : pc < 48 := pg_lt h (by decide +kernel)
  exact okM_use ok_136_0 (by omega) (by omega) h
theorem okq_137 {pc : Nat} {e : AE} (h : (pg 137)[pc]? = some (some e)) : okB 137 pc e = true := by
  have hl : pc < 35 := pg_lt h (by decide +kernel)
  exact okM_use ok_137_0 (by omega) (by omega) h
theorem okq_138 {pc : Nat} {e : AE} (h : (pg 138)[pc]? = some (some e)) : okB 138 pc e = true := by
  have hl : pc < 27 := pg_lt h (by decide +kernel)
  exact okM_use ok_138_0 (by omega) (by omega) h
theorem okq_139 {pc : Nat} {e : AE} (h : (pg 139)[pc]? = some (some e)) : okB 139 pc e = true := by
  have hl : pc < 36 := pg_lt h (by decide +kernel)
  exact okM_use ok_139_0 (by omega) (by omega) h
theorem okq_140 {pc : Nat} {e : AE} (h : (pg 140)[pc]? = some (some e)) : okB 140 pc e = true := by
  have hl : pc < 120 := pg_lt h (by decide +kernel)
  by_cases c0 : pc < 100
  · exact okM_use ok_140_0 (by omega) (by omega) h
  exact okM_use ok_140_100 (by omega) (by omega) h
theorem okq_141 {pc : Nat} {e : AE} (h : (pg 141)[pc]? = some (some e)) : okB 141 pc e = true := by
  have hl : pc < 588 := pg_lt h (by decide +kernel)
  by_cases c0 : pc < 100
  · exact okM_use ok_141_0 (by omega) (by omega) h
  by_cases c100 : pc < 200
  · exact okM_use ok_141_100 (by omega) (by omega) h
  by_cases c200 : pc < 300
  · exact okM_use ok_141_200 (by omega) (by omega) h
  by_cases c300 : pc < 400
  · exact okM_use ok_141_300 (by omega) (by omega) h
  by_cases c400 : pc < 500
  · exact okM_use ok_141_400 (by omega) (by omega) h
  exact okM_use ok_141_500 (by omega) (by omega) h
theorem ok_all : ∀ {y pc : Nat} {e : AE}, (pg y)[pc]? = some (some e) → okB y pc e = true := by
  intro y pc e h
  match y, h with
  | 0, h => exact okq_0 h
  | 1, h => exact okq_1 h
  | 2, h => exact okq_2 h
  | 3, h => exact okq_3 h
  | 4, h => exact okq_4 h
  | 5, h => exact okq_5 h
  | 6, h => exact okq_6 h
  | 7, h => exact okq_7 h
  | 8, h => exact okq_8 h
  | 9, h => exact okq_9 h
  | 10, h => exact okq_10 h
  | 11, h => exact okq_11 h
  | 12, h => exact okq_12 h
  | 13, h => exact okq_13 h
  | 14, h => exact okq_14 h
  | 15, h => exact okq_15 h
  | 16, h => exact okq_16 h
  | 17, h => exact okq_17 h
  | 18, h => exact okq_18 h
  | 19, h => exact okq_19 h
  | 20, h => exact okq_20 h
  | 21, h => exact okq_21 h
  | 22, h => exact okq_22 h
  | 23, h => exact okq_23 h
  | 24, h => exact okq_24 h
  | 25, h => exact okq_25 h
  | 26, h => exact okq_26 h
  | 27, h => exact okq_27 h
  | 28, h => exact okq_28 h
  | 29, h => exact okq_29 h
  | 30, h => exact okq_30 h
  | 31, h => exact okq_31 h
  | 32, h => exact okq_32 h
  | 33, h => exact okq_33 h
  | 34, h => exact okq_34 h
  | 35, h => exact okq_35 h
  | 36, h => exact okq_36 h
  | 37, h => exact okq_37 h
  | 38, h => exact okq_38 h
  | 39, h => exact okq_39 h
  | 40, h => exact okq_40 h
  | 41, h => exact okq_41 h
  | 42, h => exact okq_42 h
  | 43, h => exact okq_43 h
  | 44, h => exact okq_44 h
  | 45, h => exact okq_45 h
  | 46, h => exact okq_46 h
  | 47, h => exact okq_47 h
  | 48, h => exact okq_48 h
  | 49, h => exact okq_49 h
  | 50, h => exact okq_50 h
  | 51, h => exact okq_51 h
  | 52, h => exact okq_52 h
  | 53, h => exact okq_53 h
  | 54, h => exact okq_54 h
  | 55, h => exact okq_55 h
  | 56, h => exact okq_56 h
  | 57, h => exact okq_57 h
  | 58, h => exact okq_58 h
  | 59, h => exact okq_59 h
  | 60, h => exact okq_60 h
  | 61, h => exact okq_61 h
  | 62, h => exact okq_62 h
  | 63, h => exact okq_63 h
  | 64, h => exact okq_64 h
  | 65, h => exact okq_65 h
  | 66, h => exact okq_66 h
  | 67, h => exact okq_67 h
  | 68, h => exact okq_68 h
  | 69, h => exact okq_69 h
  | 70, h => exact okq_70 h
  | 71, h => exact okq_71 h
  | 72, h => exact okq_72 h
  | 73, h => exact okq_73 h
  | 74, h => exact okq_74 h
  | 75, h => exact okq_75 h
  | 76, h => exact okq_76 h
  | 77, h => exact okq_77 h
  | 78, h => exact okq_78 h
  | 79, h => exact okq_79 h
  | 80, h => exact okq_80 h
  | 81, h => exact okq_81 h
  | 82, h => exact okq_82 h
  | 83, h => exact okq_83 h
  | 84, h => exact okq_84 h
  | 85, h => exact okq_85 h
  | 86, h => exact okq_86 h
  | 87, h => exact okq_87 h
  | 88, h => exact okq_88 h
  | 89, h => exact okq_89 h
  | 90, h => exact okq_90 h
  | 91, h => exact okq_91 h
  | 92, h => exact okq_92 h
  | 93, h => exact okq_93 h
  | 94, h => exact okq_94 h
  | 95, h => exact okq_95 h
  | 96, h => exact okq_96 h
  | 97, h => exact okq_97 h
  | 98, h => exact okq_98 h
  | 99, h => exact okq_99 h
  | 100, h => exact okq_100 h
  | 101, h => exact okq_101 h
  | 102, h => exact okq_102 h
  | 103, h => exact okq_103 h
  | 104, h => exact okq_104 h
  | 105, h => exact okq_105 h
  | 106, h => exact okq_106 h
  | 107, h => exact okq_107 h
  | 108, h => exact okq_108 h
  | 109, h => exact okq_109 h
  | 110, h => exact okq_110 h
  | 111, h => exact okq_111 h
  | 112, h => exact okq_112 h
  | 113, h => exact okq_113 h
  | 114, h => exact okq_114 h
  | 115, h => exact okq_115 h
  | 116, h => exact okq_116 h
  | 117, h => exact okq_117 h
  | 118, h => exact okq_118 h
  | 119, h => exact okq_119 h
  | 120, h => exact okq_120 h
  | 121, h => exact okq_121 h
  | 122, h => exact okq_122 h
  | 123, h => exact okq_123 h
  | 124, h => exact okq_124 h
  | 125, h => exact okq_125 h
  | 126, h => exact okq_126 h
  | 127, h => exact okq_127 h
  | 128, h => exact okq_128 h
  | 129, h => exact okq_129 h
  | 130, h => exact okq_130 h
  | 131, h => exact okq_131 h
  | 132, h => exact okq_132 h
  | 133, h => exact okq_133 h
  | 134, h => exact okq_134 h
  | 135, h => exact okq_135 h
  | 136, h => exact okq_136 h
  | 137, h => exact okq_137 h
  | 138, h => exact okq_138 h
  | 139, h => exact okq_139 h
  | 140, h => exact okq_140 h
  | 141, h => exact okq_141 h
  | j + 142, h =>
    have h0 : pgs[j + 142]? = none := List.getElem?_eq_none (by show 142 ≤ j + 142; omega)
    have h1 : pg (j + 142) = [] := by simp [pg, List.getD, h0]
    rw [h1] at h
    simp at h
end
section
/-! THE SMALL MACHINE: a state is (pc, locals, stack, cells, what may still be made); a step gives what must hold for it, and the next state -/
abbrev SC : Type := Option (Nat × (Nat → Int32))
abbrev St : Type := Nat × List (Option AV) × List AV × AW × (Nat × Nat)
def allP : List Prop → Prop
  | [] => True
  | q :: qs => q ∧ allP qs
def rfA : Option Nat → AV
  | none => vN
  | some j => vR j
def s_sw (x : Int32) : Nat → List Nat → Nat → Nat
  | _, [], d => d
  | j, t :: ts, d => if x = nI j then t else s_sw x (j + 1) ts d
def s_ild (pc i : Nat) (L : List (Option AV)) (S : List AV) (w : AW) (b : Nat × Nat) : Option (List Prop × St) := match L[i]? with
  | some (some (.inl x)) => some ([], (pc, L, vI x :: S, w, b))
  | _ => none
def s_ald (pc i : Nat) (L : List (Option AV)) (S : List AV) (w : AW) (b : Nat × Nat) : Option (List Prop × St) := match L[i]? with
  | some (some (.inr (some r))) => some ([], (pc, L, .inr (some r) :: S, w, b))
  | _ => none
def s_ist (pc i : Nat) (L : List (Option AV)) (S : List AV) (w : AW) (b : Nat × Nat) : Option (List Prop × St) := match S with
  | .inl x :: S' => if i < L.length then some ([], (pc, L.set i (some (vI x)), S', w, b)) else none
  | _ => none
def s_ast (pc i : Nat) (L : List (Option AV)) (S : List AV) (w : AW) (b : Nat × Nat) : Option (List Prop × St) := match S with
  | .inr (some r) :: S' => if i < L.length then some ([], (pc, L.set i (some (.inr (some r))), S', w, b)) else none
  | _ => none
def s_inc (pc i : Nat) (v : Int32) (L : List (Option AV)) (S : List AV) (w : AW) (b : Nat × Nat) : Option (List Prop × St) := match L[i]? with
  | some (some (.inl x)) => some ([], (pc, L.set i (some (vI (x + v))), S, w, b))
  | _ => none
def s_bin (pc : Nat) (L : List (Option AV)) (S : List AV) (w : AW) (b : Nat × Nat) (f : Int32 → Int32 → Int32) : Option (List Prop × St) := match S with
  | .inl y :: .inl x :: S' => some ([], (pc, L, vI (f x y) :: S', w, b))
  | _ => none
def s_div (pc : Nat) (L : List (Option AV)) (S : List AV) (w : AW) (b : Nat × Nat) (f : Int32 → Int32 → Int32) : Option (List Prop × St) := match S with
  | .inl y :: .inl x :: S' => some ([¬ y = 0], (pc, L, vI (f x y) :: S', w, b))
  | _ => none
def s_neg (pc : Nat) (L : List (Option AV)) (S : List AV) (w : AW) (b : Nat × Nat) : Option (List Prop × St) := match S with
  | .inl x :: S' => some ([], (pc, L, vI (-x) :: S', w, b))
  | _ => none
def s_if1 (k : Int32 → Nat) (L : List (Option AV)) (S : List AV) (w : AW) (b : Nat × Nat) : Option (List Prop × St) := match S with
  | .inl x :: S' => some ([], (k x, L, S', w, b))
  | _ => none
def s_if2 (k : Int32 → Int32 → Nat) (L : List (Option AV)) (S : List AV) (w : AW) (b : Nat × Nat) : Option (List Prop × St) := match S with
  | .inl y :: .inl x :: S' => some ([], (k x y, L, S', w, b))
  | _ => none
def s_dup (pc : Nat) (L : List (Option AV)) (S : List AV) (w : AW) (b : Nat × Nat) : Option (List Prop × St) := match S with
  | v :: S' => some ([], (pc, L, v :: v :: S', w, b))
  | _ => none
def s_dup2 (pc : Nat) (L : List (Option AV)) (S : List AV) (w : AW) (b : Nat × Nat) : Option (List Prop × St) := match S with
  | v :: u :: S' => some ([], (pc, L, v :: u :: v :: u :: S', w, b))
  | _ => none
def s_get (pc ci k : Nat) (L : List (Option AV)) (S : List AV) (w : AW) (b : Nat × Nat) : Option (List Prop × St) := match S with
  | .inr (some (some o)) :: S' => match w[o]? with
    | some (.inr (.inr (cj, fs))) => if cj = ci then (match fs[k]? with
      | some v => some ([], (pc, L, v :: S', w, b))
      | none => none) else none
    | _ => none
  | _ => none
/-- does a value fit a field: an int's, a reference's -/
def s_fit (ci k : Nat) (v : AV) : Bool := match (cDs.getD ci [])[k]?, v with
  | some (.inl _), .inl _ => true
  | some (.inr _), .inr _ => true
  | _, _ => false
def s_put (pc ci k : Nat) (L : List (Option AV)) (S : List AV) (w : AW) (b : Nat × Nat) : Option (List Prop × St) := match S with
  | v :: .inr (some (some o)) :: S' => match w[o]? with
    | some (.inr (.inr (cj, fs))) => if cj = ci ∧ k < fs.length ∧ s_fit ci k v = true then some ([], (pc, L, S', w.set o (.inr (.inr (cj, fs.set k v))), b)) else none
    | _ => none
  | _ => none
def s_iald (z : Bool) (sc : SC) (pc : Nat) (L : List (Option AV)) (S : List AV) (w : AW) (b : Nat × Nat) : Option (List Prop × St) := match S with
  | .inl i :: .inr (some (some o)) :: S' => match w[o]? with
    | some (.inl (z', n, f)) => if z' = z then some ([vp_in i n], (pc, L, vI (f i.toNatClampNeg) :: S', w, b)) else none
    | _ => none
  | .inl i :: .inr (some none) :: S' => match z, sc with
    | false, some (n, f) => some ([vp_in i n], (pc, L, vI (f i.toNatClampNeg) :: S', w, b))
    | _, _ => none
  | _ => none
def s_iast (z : Bool) (pc : Nat) (L : List (Option AV)) (S : List AV) (w : AW) (b : Nat × Nat) : Option (List Prop × St) := match S with
  | .inl x :: .inl i :: .inr (some (some o)) :: S' => match w[o]? with
    | some (.inl (z', n, f)) => if z' = z then some ([vp_in i n], (pc, L, S', w.set o (.inl (z', n, upd f i.toNatClampNeg (if z then x &&& 1 else x))), b)) else none
    | _ => none
  | _ => none
def s_aald (pc : Nat) (L : List (Option AV)) (S : List AV) (w : AW) (b : Nat × Nat) : Option (List Prop × St) := match S with
  | .inl i :: .inr (some (some o)) :: S' => match w[o]? with
    | some (.inr (.inl (n, f))) => some ([vp_in i n], (pc, L, rfA (f i.toNatClampNeg) :: S', w, b))
    | _ => none
  | _ => none
def s_aast (pc : Nat) (L : List (Option AV)) (S : List AV) (w : AW) (b : Nat × Nat) : Option (List Prop × St) := match S with
  | .inr (some (some j)) :: .inl i :: .inr (some (some o)) :: S' => match w[o]?, w[j]? with
    | some (.inr (.inl (n, f))), some (.inr (.inr (1, _))) => some ([vp_in i n], (pc, L, S', w.set o (.inr (.inl (n, va_up f i.toNatClampNeg (some j)))), b))
    | _, _ => none
  | _ => none
def s_alen (sc : SC) (pc : Nat) (L : List (Option AV)) (S : List AV) (w : AW) (b : Nat × Nat) : Option (List Prop × St) := match S, sc with
  | .inr (some none) :: S', some (n, _) => some ([], (pc, L, vI (Int32.ofNat n) :: S', w, b))
  | _, _ => none
def s_newa (z : Bool) (pc : Nat) (L : List (Option AV)) (S : List AV) (w : AW) (b : Nat × Nat) : Option (List Prop × St) := match S with
  | .inl n :: S' => if 1 ≤ b.1 ∧ n.toNatClampNeg ≤ b.2 ∧ n.toNatClampNeg ≤ 65536 then some ([¬ n < 0], (pc, L, vR w.length :: S', w ++ [.inl (z, n.toNatClampNeg, fun _ => 0)], (b.1 - 1, b.2 - n.toNatClampNeg))) else none
  | _ => none
def s_newq (pc : Nat) (L : List (Option AV)) (S : List AV) (w : AW) (b : Nat × Nat) : Option (List Prop × St) := match S with
  | .inl n :: S' => if 1 ≤ b.1 ∧ n.toNatClampNeg ≤ b.2 ∧ n.toNatClampNeg ≤ 65536 then some ([¬ n < 0], (pc, L, vR w.length :: S', w ++ [.inr (.inl (n.toNatClampNeg, fun _ => none))], (b.1 - 1, b.2 - n.toNatClampNeg))) else none
  | _ => none
def s_new (pc ci : Nat) (L : List (Option AV)) (S : List AV) (w : AW) (b : Nat × Nat) : Option (List Prop × St) :=
  if 1 ≤ b.1 ∧ (cDs.getD ci []).length ≤ b.2 then some ([], (pc, L, vR w.length :: S, w ++ [.inr (.inr (ci, cDs.getD ci []))], (b.1 - 1, b.2 - (cDs.getD ci []).length))) else none
def s_obj (t : List Nat) (pc : Nat) (L : List (Option AV)) (S : List AV) (w : AW) (b : Nat × Nat) : Option (List Prop × St) := match t, S with
  | [4], .inr (some (some _)) :: S' => if S'.length ≤ 8 then some ([], (pc, L, S', w, b)) else none
  | _, _ => none
def sp (sc : SC) (e : AE) (st : St) : Option (List Prop × St) := match st with
  | (pc, L, S, w, b) => match e.1 with
    | .iconst _ => some ([], (pc + 1, L, vI e.2.2.2 :: S, w, b))
    | .bipush _ => some ([], (pc + 2, L, vI e.2.2.2 :: S, w, b))
    | .sipush _ => some ([], (pc + 3, L, vI e.2.2.2 :: S, w, b))
    | .ldc_w _ => some ([], (pc + 3, L, vI e.2.2.2 :: S, w, b))
    | .iload_n k => s_ild (pc + 1) k.val L S w b
    | .iload i => s_ild (pc + 2) i L S w b
    | .aload_n k => s_ald (pc + 1) k.val L S w b
    | .aload i => s_ald (pc + 2) i L S w b
    | .istore_n k => s_ist (pc + 1) k.val L S w b
    | .istore i => s_ist (pc + 2) i L S w b
    | .astore_n k => s_ast (pc + 1) k.val L S w b
    | .astore i => s_ast (pc + 2) i L S w b
    | .iinc i _ => s_inc (pc + 3) i e.2.2.2 L S w b
    | .iadd => s_bin (pc + 1) L S w b (fun x y => x + y)
    | .isub => s_bin (pc + 1) L S w b (fun x y => x - y)
    | .imul => s_bin (pc + 1) L S w b (fun x y => x * y)
    | .iand => s_bin (pc + 1) L S w b (fun x y => x &&& y)
    | .ior => s_bin (pc + 1) L S w b (fun x y => x ||| y)
    | .ixor => s_bin (pc + 1) L S w b (fun x y => x ^^^ y)
    | .ishl => s_bin (pc + 1) L S w b (fun x y => x <<< (y &&& 31))
    | .ishr => s_bin (pc + 1) L S w b (fun x y => x >>> (y &&& 31))
    | .iushr => s_bin (pc + 1) L S w b (fun x y => (x.toUInt32 >>> (y.toUInt32 &&& Int32.toUInt32 31)).toInt32)
    | .idiv => s_div (pc + 1) L S w b (fun x y => x / y)
    | .irem => s_div (pc + 1) L S w b (fun x y => x - x / y * y)
    | .ineg => s_neg (pc + 1) L S w b
    | .dup => s_dup (pc + 1) L S w b
    | .dup2 => s_dup2 (pc + 1) L S w b
    | .goto _ => some ([], (e.2.1.2.1, L, S, w, b))
    | .ifCond .eq _ => s_if1 (fun x => if x = 0 then e.2.1.2.1 else pc + 3) L S w b
    | .ifCond .ne _ => s_if1 (fun x => if x = 0 then pc + 3 else e.2.1.2.1) L S w b
    | .ifCond .lt _ => s_if1 (fun x => if x < 0 then e.2.1.2.1 else pc + 3) L S w b
    | .ifCond .ge _ => s_if1 (fun x => if 0 ≤ x then e.2.1.2.1 else pc + 3) L S w b
    | .ifCond .gt _ => s_if1 (fun x => if 0 < x then e.2.1.2.1 else pc + 3) L S w b
    | .ifCond .le _ => s_if1 (fun x => if x ≤ 0 then e.2.1.2.1 else pc + 3) L S w b
    | .if_icmp .eq _ => s_if2 (fun x y => if x = y then e.2.1.2.1 else pc + 3) L S w b
    | .if_icmp .ne _ => s_if2 (fun x y => if x = y then pc + 3 else e.2.1.2.1) L S w b
    | .if_icmp .lt _ => s_if2 (fun x y => if x < y then e.2.1.2.1 else pc + 3) L S w b
    | .if_icmp .ge _ => s_if2 (fun x y => if y ≤ x then e.2.1.2.1 else pc + 3) L S w b
    | .if_icmp .gt _ => s_if2 (fun x y => if y < x then e.2.1.2.1 else pc + 3) L S w b
    | .if_icmp .le _ => s_if2 (fun x y => if x ≤ y then e.2.1.2.1 else pc + 3) L S w b
    | .tableswitch _ _ _ _ => s_if1 (fun x => s_sw x 0 e.2.2.1 e.2.1.2.1) L S w b
    | .getfield _ => s_get (pc + 3) e.2.1.2.1 e.2.1.2.2.1 L S w b
    | .putfield _ => s_put (pc + 3) e.2.1.2.1 e.2.1.2.2.1 L S w b
    | .iaload => s_iald false sc (pc + 1) L S w b
    | .baload => s_iald true sc (pc + 1) L S w b
    | .iastore => s_iast false (pc + 1) L S w b
    | .bastore => s_iast true (pc + 1) L S w b
    | .aaload => s_aald (pc + 1) L S w b
    | .aastore => s_aast (pc + 1) L S w b
    | .arraylength => s_alen sc (pc + 1) L S w b
    | .newarray .int => s_newa false (pc + 2) L S w b
    | .newarray .boolean => s_newa true (pc + 2) L S w b
    | .anewarray _ => s_newq (pc + 3) L S w b
    | .new _ => s_new (pc + 3) e.2.1.2.1 L S w b
    | .invokespecial _ => s_obj e.2.2.1 (pc + 3) L S w b
    | _ => none
def isCall (e : AE) : Bool := match e.1 with
  | .invokevirtual _ => true
  | .invokestatic _ => true
  | .invokespecial _ => decide (e.2.2.1 = [3])
  | _ => false
/-- the locals with which a method begins -/
def inL (a : Nat) (As : List AV) : List (Option AV) := As.map some ++ List.replicate (mML a - As.length) none
/-- method y, from a state on, comes to its end in at most n steps, with this answer and these cells -/
def Ex : Nat → SC → Nat → St → (Option Int32 × AW) → Prop
  | 0, _, _, _, _ => False
  | n + 1, sc, y, (pc, L, S, w, b), r => ∃ e, (pg y)[pc]? = some (some e) ∧
    ((∃ ps st', sp sc e (pc, L, S, w, b) = some (ps, st') ∧ allP ps ∧ Ex n sc y st' r) ∨
    (∃ v, e.1 = .ireturn ∧ S = [vI v] ∧ r = (some v, w) ∧ (mRt y = some .int ∨ (mRt y = some .boolean ∧ v &&& 1 = v))) ∨
    (e.1 = .return_ ∧ S = [] ∧ r = (none, w) ∧ mRt y = none) ∨
    (isCall e = true ∧ ∃ (As S' : List AV) (r' : Option Int32 × AW), S = As.reverse ++ S' ∧ As.length = mNa e.2.1.2.1 ∧ S'.length ≤ 8 ∧
      (mRc e.2.1.2.1 < 99 → ∃ (k : Nat) (fs As' : List AV), As = vR k :: As' ∧ w[k]? = some (.inr (.inr (mRc e.2.1.2.1, fs)))) ∧
      mMc e.2.1.2.1 ≤ b.1 ∧ mMs e.2.1.2.1 ≤ b.2 ∧
      Ex n none e.2.1.2.1 (0, inL e.2.1.2.1 As, [], w, (mMc e.2.1.2.1, mMs e.2.1.2.1)) r' ∧
      Ex n sc y (pc + 3, L, (r'.1.map vI).toList ++ S', r'.2, (b.1 - mMc e.2.1.2.1, b.2 - mMs e.2.1.2.1)) r))
end
section
/-! the small machine's values and cells in the heap: cell k lies at B.1 + k, the script at B.2 -/
def mV (B : Nat × Nat) : AV → Value
  | .inl x => .int x
  | .inr none => .null
  | .inr (some none) => .ref B.2
  | .inr (some (some k)) => .ref (B.1 + k)
def mE (B : Nat × Nat) (cA : ClassId × ClassId × ClassId) : AC → va_E
  | .inl (false, n, f) => .inl (cA.1, n, .inl f)
  | .inl (true, n, f) => .inl (cA.2.1, n, .inl f)
  | .inr (.inl (n, f)) => .inl (cA.2.2, n, .inr (.inr (.inr (.inr (fun j => (f j).map (fun k => B.1 + k))))))
  | .inr (.inr (ci, fs)) => .inr (ci, fs.map (mV B))
def mW (B : Nat × Nat) (cA : ClassId × ClassId × ClassId) (w : AW) : va_W := w.zipIdx.map fun q => (B.1 + q.2, mE B cA q.1)
theorem mW_get (B : Nat × Nat) (cA : ClassId × ClassId × ClassId) (w : AW) (k : Nat) : (mW B cA w)[k]? = (w[k]?).map fun c => (B.1 + k, mE B cA c) := by
  simp [mW, List.getElem?_map, List.getElem?_zipIdx, Option.map_map, Function.comp_def]
theorem mW_at {B : Nat × Nat} {cA : ClassId × ClassId × ClassId} {w : AW} {k : Nat} {c : AC} (h : w[k]? = some c) : (mW B cA w)[k]? = some (B.1 + k, mE B cA c) := by rw [mW_get, h]; rfl
theorem mW_len (B : Nat × Nat) (cA : ClassId × ClassId × ClassId) (w : AW) : (mW B cA w).length = w.length := by simp [mW]
theorem mW_set (B : Nat × Nat) (cA : ClassId × ClassId × ClassId) (w : AW) (k : Nat) (c : AC) : (mW B cA w).set k (B.1 + k, mE B cA c) = mW B cA (w.set k c) := by
  apply List.ext_getElem?
  intro j
  rw [mW_get, List.getElem?_set, List.getElem?_set, mW_len, mW_get]
  by_cases h : k = j
  · subst h
    by_cases hl : k < w.length
    · simp [hl]
    · simp [hl]
  · simp [h]
theorem mW_push (B : Nat × Nat) (cA : ClassId × ClassId × ClassId) (w : AW) (c : AC) : mW B cA (w ++ [c]) = mW B cA w ++ [(B.1 + w.length, mE B cA c)] := by
  simp [mW, List.zipIdx_append]
theorem mW_D (B : Nat × Nat) (cA : ClassId × ClassId × ClassId) (w : AW) : va_D (fun q => B.1 ≤ q) (mW B cA w) := by
  have key : ∀ (k : Nat) (q : Nat × va_E), (mW B cA w)[k]? = some q → q.1 = B.1 + k := by
    intro k q h
    rw [mW_get] at h
    cases hk : w[k]? with
    | none => rw [hk] at h; cases h
    | some c => rw [hk] at h; cases h; rfl
  refine ⟨fun i j x y hi hj hxy => ?_, fun k q hk => ?_⟩
  · have h1 := key i x hi
    have h2 := key j y hj
    omega
  · show B.1 ≤ q.1
    have h1 := key k q hk
    omega
def mTy (cA : ClassId × ClassId × ClassId) : List (ClassId × FieldType) := [(cA.1, .int), (cA.2.1, .boolean), (cA.2.2, .object cN1)]
/-- what the tables say, at a method's start -/
def cxU (cA : ClassId × ClassId × ClassId) (D : va_G) (U : State) : Prop := va_K D cls (mTy cA) U ∧ (∀ a i x h, Cond.methodLinkNest a i x h ∈ lw_tbl → va_Nw (.methodLinkNest a i x h) U) ∧ va_AO cN1 U
theorem cxU.moved {cA : ClassId × ClassId × ClassId} {D : va_G} {U V : State} (hW : U.WarmedH V.vm) (h : cxU cA D U) : cxU cA D V := ⟨va_K.moved hW.alike h.1, fun a i x t hm => va_Nw.warmM hW (h.2.1 a i x t hm), va_AO.moved hW.alike h.2.2⟩
theorem cxU.same {cA : ClassId × ClassId × ClassId} {D : va_G} {U V : State} (hv : U.vm = V.vm) (h : cxU cA D U) : cxU cA D V := h.moved (by rw [← hv]; exact State.WarmedH.refl U)
/-- the heap holds the cells, and no more -/
def Hw (B : Nat × Nat) (cA : ClassId × ClassId × ClassId) (D : va_G) (w : AW) (H : Heap) : Prop := H.size = B.1 + w.length ∧ va_P D cls (mW B cA w) H
theorem Hw.set {B : Nat × Nat} {cA : ClassId × ClassId × ClassId} {D : va_G} {w : AW} {H H1 : Heap} (h : Hw B cA D w H) {k : Nat} {c0 c1 : AC} (hk : w[k]? = some c0) (hz : H1.size = H.size) (oq : ∀ q : Nat, q ≠ B.1 + k → H1[q]? = H[q]?) (he : va_at D cls (B.1 + k, mE B cA c1) H1) : Hw B cA D (w.set k c1) H1 := by
  refine ⟨by rw [hz, List.length_set]; exact h.1, ?_⟩
  rw [← mW_set]
  exact va_P.set h.2 (mW_D B cA w) (mW_at hk) he oq
theorem Hw.push {B : Nat × Nat} {cA : ClassId × ClassId × ClassId} {D : va_G} {w : AW} {H H1 : Heap} (h : Hw B cA D w H) {c1 : AC} (hz : H1.size = H.size + 1) (oq : ∀ q : Nat, q < H.size → H1[q]? = H[q]?) (he : va_at D cls (B.1 + w.length, mE B cA c1) H1) : Hw B cA D (w ++ [c1]) H1 := by
  refine ⟨by rw [hz, List.length_append, h.1]; rfl, ?_⟩
  rw [mW_push]
  refine va_P.app (va_P.kept h.2 (fun k x hx => oq x.1 ((h.2 k x hx).lt))) (fun k x hx => ?_)
  have hz : k < 1 := (List.getElem?_eq_some_iff.mp hx).1
  rw [show k = 0 by omega] at hx
  cases hx
  exact he
/-- the locals -/
def lcs (B : Nat × Nat) (ls : Array Slot) (L : List (Option AV)) : Prop := ls.size = L.length ∧ lv_wf ls ∧ ∀ (i : Nat) (v : AV), L[i]? = some (some v) → ls[i]? = some (.val (mV B v))
def lvL (B : Nat × Nat) (L : List (Option AV)) : List (Nat × Value) := L.zipIdx.filterMap fun q => q.1.map fun v => (q.2, mV B v)
theorem lvL_mem {B : Nat × Nat} {L : List (Option AV)} {q : Nat × Value} : q ∈ lvL B L ↔ ∃ v, L[q.1]? = some (some v) ∧ q.2 = mV B v := by
  constructor
  · intro h
    obtain ⟨⟨o, i⟩, h1, h2⟩ := List.mem_filterMap.mp h
    have h3 := List.mem_zipIdx_iff_getElem?.mp h1
    cases o with
    | none => cases h2
    | some v => cases h2; exact ⟨v, h3, rfl⟩
  · rintro ⟨v, h1, h2⟩
    refine List.mem_filterMap.mpr ⟨(some v, q.1), List.mem_zipIdx_iff_getElem?.mpr h1, ?_⟩
    show some (q.1, mV B v) = some q
    rw [← h2]
theorem lcs.has {B : Nat × Nat} {ls : Array Slot} {L : List (Option AV)} (h : lcs B ls L) : lv_has ls L.length (lvL B L) :=
  ⟨h.1, h.2.1, fun q hq => by obtain ⟨v, h1, h2⟩ := lvL_mem.mp hq; rw [h2]; exact h.2.2 _ _ h1⟩
theorem mV_cat (B : Nat × Nat) (v : AV) : (mV B v).category = 1 := by
  rcases v with x | x
  · rfl
  · rcases x with _ | x
    · rfl
    · cases x <;> rfl
theorem lcs.put {B : Nat × Nat} {ls : Array Slot} {L : List (Option AV)} {i : Nat} {v : AV} (hi : i < L.length) (h : lv_has ls L.length ((i, mV B v) :: (lvL B L).filter (fun q => !(q.1 == i) && !(q.1 + 1 == i && q.2.category == 2)))) : lcs B ls (L.set i (some v)) := by
  refine ⟨by rw [List.length_set]; exact h.1, h.2.1, fun j u hj => ?_⟩
  by_cases hji : i = j
  · subst hji
    rw [List.getElem?_set_self hi] at hj
    cases hj
    exact h.2.2 _ List.mem_cons_self
  · rw [List.getElem?_set_ne hji] at hj
    refine h.2.2 (j, mV B u) (List.mem_cons_of_mem _ (List.mem_filter.mpr ⟨lvL_mem.mpr ⟨u, hj, rfl⟩, ?_⟩))
    have h1 : (mV B u).category = 1 := mV_cat B u
    simp [h1, Ne.symm hji]
theorem mV_sum (B : Nat × Nat) (S : List AV) : ((S.map (mV B)).map fun v => v.category).sum = S.length := by
  induction S with
  | nil => rfl
  | cons v S ih =>
    rw [List.map_cons, List.map_cons, List.sum_cons, ih, mV_cat, List.length_cons]
    omega
theorem lg_sl_mV (B : Nat × Nat) (As : List AV) : lg_sl (As.map (mV B)) = As.map (fun v => Slot.val (mV B v)) := by
  induction As with
  | nil => rfl
  | cons v S ih =>
    have h1 : (mV B v).category = 1 := mV_cat B v
    simp only [lg_sl, List.map_cons, List.flatMap_cons] at ih ⊢
    rw [ih, h1]
    simp
theorem lcs_entry (B : Nat × Nat) (As : List AV) (n : Nat) (h : As.length ≤ n) : lcs B ((lg_sl (As.map (mV B)) ++ List.replicate (n - (lg_sl (As.map (mV B))).length) Slot.unset).toArray) (As.map some ++ List.replicate (n - As.length) none) := by
  have h0 := lv_entry (As.map (mV B)) (n := n) (by rw [lg_sl_mV]; simpa using h)
  refine ⟨by rw [h0.1]; simp; omega, h0.2.1, fun i v hi => ?_⟩
  rw [lg_sl_mV]
  by_cases hl : i < As.length
  · rw [List.getElem?_append_left (by simpa using hl)] at hi
    rw [List.getElem?_map, List.getElem?_eq_getElem hl] at hi
    have hv : As[i] = v := by simpa using hi
    rw [List.getElem?_toArray, List.getElem?_append_left (by simpa using hl), List.getElem?_map, List.getElem?_eq_getElem hl, hv]
    rfl
  · rw [List.getElem?_append_right (by simpa using hl)] at hi
    have := List.mem_of_getElem? hi
    have := List.eq_of_mem_replicate this
    cases this
end
section
def wm (y : Nat) : List Cond := .code (mNm y) (mBy y) (mML y) (mRt y) :: tG
theorem wm_in {y : Nat} {w : Cond} (h : w ∈ tG) : w ∈ wm y := List.mem_cons_of_mem _ h
theorem tG_good {w : Cond} (h : w ∈ tG) : (w.onTables && w.keeps) = true ∨ ∃ ty, w = .arrayClass ty := good_of_word (List.mem_filter.mp h).2
theorem wm_good {y a : Nat} (h : Cond.code (mNm a) (mBy a) (mML a) (mRt a) ∈ tG) : GoodIn (wm y) (wm a) := fun w hw => by
  rcases List.mem_cons.mp hw with rfl | h1
  · exact ⟨wm_in h, tG_good h⟩
  · exact ⟨wm_in h1, tG_good h1⟩
/-- the frame in which method y runs -/
def cxF (p : Program) (R : Room) (s : State) (m : MethodId) (args : Array Value) (meth : Method) (c : Code) (B : Nat × Nat) (cA : ClassId × ClassId × ClassId) (D : va_G) (sc : SC) (y : Nat) : Prop :=
  p.tables.exec = Jvm.exec ∧ c.code = mBy y ∧ c.maxLocals = mML y ∧ s.vm.findClass (mNm y).cls = some m.cls ∧ (∀ w ∈ wm y, w.before args s = true) ∧ meth.name = (mNm y).name ∧ cxU cA D s ∧ B.1 ≤ s.heap.size ∧ (mFr y ≤ R.frames ∧ mLo y ≤ R.locals) ∧ ∀ n f, sc = some (n, f) → va_X B.2 n f s s.heap ∧ B.2 < B.1
/-- from this state on, whatever the heap that holds its cells -/
def AtS (p : Program) (l : Launch) (e : Env) (R : Room) (s : State) (m : MethodId) (args : Array Value) (below : List Frame) (meth : Method) (c : Code) (Q : State → Prop) (B : Nat × Nat) (cA : ClassId × ClassId × ClassId) (D : va_G) (st : St) : Prop :=
  ∀ (H : Heap) (locs : List Loc) (cells slots : Nat) (ls : Array Slot), Hw B cA D st.2.2.2.1 H → va_S (fun q => B.1 ≤ q) s.heap H locs → lcs B ls st.2.1 → ls.size = c.maxLocals → cells + st.2.2.2.2.1 ≤ R.cells → slots + st.2.2.2.2.2 ≤ R.slots → W p l e R s m args below meth c H locs cells slots Q (F0 m st.1 ls (st.2.2.1.map (mV B)))
theorem sw_big (x : Int32) (d : Nat) : ∀ (ts : List Nat) (j : Nat), j + ts.length < 1000 → (x.toInt < j ∨ (j : Int) + ts.length ≤ x.toInt) → s_sw x j ts d = d := by
  intro ts
  induction ts with
  | nil => intro j _ _; rfl
  | cons t ts ih =>
    intro j hj h
    have hl : (t :: ts).length = ts.length + 1 := rfl
    rw [hl] at hj h
    have hne : ¬ x = nI j := fun q => by
      rw [q, nI_toInt (by omega)] at h
      omega
    show (if x = nI j then t else s_sw x (j + 1) ts d) = d
    rw [if_neg hne]
    refine ih (j + 1) (by omega) ?_
    omega
theorem sw_in (x : Int32) (d : Nat) : ∀ (ts : List Nat) (j i t : Nat), j + ts.length < 1000 → x.toInt = ((j + i : Nat) : Int) → ts[i]? = some t → s_sw x j ts d = t := by
  intro ts
  induction ts with
  | nil => intro j i t _ _ h; cases h
  | cons u ts ih =>
    intro j i t hj hx h
    have hl : (u :: ts).length = ts.length + 1 := rfl
    rw [hl] at hj
    show (if x = nI j then u else s_sw x (j + 1) ts d) = t
    cases i with
    | zero =>
      have hq : x = nI j := by
        apply Int32.toInt_inj.mp
        rw [hx, nI_toInt (by omega)]
        rfl
      rw [if_pos hq]
      exact Option.some.inj h
    | succ i =>
      have hi : i + 1 < ts.length + 1 := (List.getElem?_eq_some_iff.mp h).1
      have hne : ¬ x = nI j := fun q => by
        rw [q, nI_toInt (by omega)] at hx
        omega
      rw [if_neg hne]
      exact ih (j + 1) i t (by omega) (by rw [hx]; congr 1; omega) h
section Snd
variable {p : Program} {l : Launch} {e : Env} {R : Room} {s : State} {m : MethodId} {args : Array Value} {below : List Frame} {meth : Method} {c : Code} {Q : State → Prop} {B : Nat × Nat} {cA : ClassId × ClassId × ClassId} {D : va_G} {H : Heap} {locs : List Loc} {cells slots : Nat} {ls : Array Slot} {w : AW} {pc : Nat} {rest : List Value} {cc : ByteArray}
theorem m_iast (hx : p.tables.exec = Jvm.exec) (hb : c.code = cc) (hK : cxU cA D s) (hH : Hw B cA D w H) (hS : va_S (fun q => B.1 ≤ q) s.heap H locs) {o n : Nat} {f : Nat → Int32} (ho : w[o]? = some (.inl (false, n, f))) {i x : Int32} (hin : vp_in i n) (hd : decode cc pc = .ok (.iastore, 1))
    (kk : ∀ (H1 : Heap) (locs1 : List Loc), Hw B cA D (w.set o (.inl (false, n, upd f i.toNatClampNeg x))) H1 → va_S (fun q => B.1 ≤ q) s.heap H1 locs1 → W p l e R s m args below meth c H1 locs1 cells slots Q (F0 m (pc + 1) ls rest)) : W p l e R s m args below meth c H locs cells slots Q (F0 m pc ls (.int x :: .int i :: .ref (B.1 + o) :: rest)) := by
  refine W.iast hx hb (hH.2 o _ (mW_at ho)) ((hK.1.2 0 (cA.1, .int) rfl).1 n (fun j => .int (f j))) (fun q => by cases q) (by show ¬ (i < 0 ∨ (arrV _ _ _).slots.size ≤ _); rw [arrV_size]; exact hin) rfl rfl hd fun H1 e z oq => ?_
  refine kk H1 _ (hH.set ho z oq ?_) (hS.put z oq (Nat.le_add_right _ _))
  show H1[B.1 + o]? = some (vp_cell _ _)
  rw [e]
  show some ((vp_cell cA.1 (n, .inl f)).setSlot _ _) = _
  rw [vp_cell_i, vp_cell_i, arrV_store]
  congr 2
  funext q
  by_cases hq : q = i.toNatClampNeg
  · subst hq
    simp [updV, upd]
  · simp [updV, upd, hq]
theorem m_zast (hx : p.tables.exec = Jvm.exec) (hb : c.code = cc) (hK : cxU cA D s) (hH : Hw B cA D w H) (hS : va_S (fun q => B.1 ≤ q) s.heap H locs) {o n : Nat} {f : Nat → Int32} (ho : w[o]? = some (.inl (true, n, f))) {i x : Int32} (hin : vp_in i n) (hd : decode cc pc = .ok (.bastore, 1))
    (kk : ∀ (H1 : Heap) (locs1 : List Loc), Hw B cA D (w.set o (.inl (true, n, upd f i.toNatClampNeg (x &&& 1)))) H1 → va_S (fun q => B.1 ≤ q) s.heap H1 locs1 → W p l e R s m args below meth c H1 locs1 cells slots Q (F0 m (pc + 1) ls rest)) : W p l e R s m args below meth c H locs cells slots Q (F0 m pc ls (.int x :: .int i :: .ref (B.1 + o) :: rest)) := by
  refine W.zast hx hb (hH.2 o _ (mW_at ho)) ((hK.1.2 1 (cA.2.1, .boolean) rfl).1 n (fun j => .int (f j))) (fun q => by cases q) (by show ¬ (i < 0 ∨ (arrV _ _ _).slots.size ≤ _); rw [arrV_size]; exact hin) rfl rfl hd fun H1 e z oq => ?_
  refine kk H1 _ (hH.set ho z oq ?_) (hS.put z oq (Nat.le_add_right _ _))
  show H1[B.1 + o]? = some (vp_cell _ _)
  rw [e]
  show some ((vp_cell cA.2.1 (n, .inl f)).setSlot _ _) = _
  rw [vp_cell_i, vp_cell_i, arrV_store]
  congr 2
  funext q
  by_cases hq : q = i.toNatClampNeg
  · subst hq
    simp [updV, upd]
    try rfl
  · simp [updV, upd, hq]
theorem m_aast (hx : p.tables.exec = Jvm.exec) (hb : c.code = cc) (hK : cxU cA D s) (hH : Hw B cA D w H) (hS : va_S (fun q => B.1 ≤ q) s.heap H locs) {o n j : Nat} {f : Nat → Option Nat} {fs : List AV} (ho : w[o]? = some (.inr (.inl (n, f)))) (hj : w[j]? = some (.inr (.inr (1, fs)))) {i : Int32} (hin : vp_in i n) (hd : decode cc pc = .ok (.aastore, 1))
    (kk : ∀ (H1 : Heap) (locs1 : List Loc), Hw B cA D (w.set o (.inr (.inl (n, va_up f i.toNatClampNeg (some j))))) H1 → va_S (fun q => B.1 ≤ q) s.heap H1 locs1 → W p l e R s m args below meth c H1 locs1 cells slots Q (F0 m (pc + 1) ls rest)) : W p l e R s m args below meth c H locs cells slots Q (F0 m pc ls (.ref (B.1 + j) :: .int i :: .ref (B.1 + o) :: rest)) := by
  have hlt : i.toNatClampNeg < n := Nat.not_le.mp fun q => hin (Or.inr q)
  have h0 : ¬ i < 0 := fun q => hin (Or.inl q)
  obtain ⟨r', hr', cellV, g1, g2, g3, -⟩ := hH.2 j _ (mW_at hj)
  have hcls := (hK.1.1 1 (cN1, cF1, 8) rfl).2
  obtain ⟨kA, comp, k1, k2, k3, -⟩ := (hK.1.2 2 (cA.2.2, .object cN1) rfl).2
  have hcomp : comp = D.1 1 := Option.some.inj (k3.symm.trans hcls.1)
  subst hcomp
  obtain ⟨kC, hkC, -⟩ := hcls.2
  refine W.aast hx hb (hH.2 o _ (mW_at ho)) (fun q h => by cases h) (fun h => by cases h) k1 k2 rfl hkC ⟨h0, by show _ < (arrV _ _ _).slots.size; rw [arrV_size]; exact hlt⟩ g1 (fun q h => by rw [g3] at h; cases h) (by rw [g2]; exact hkC) (by rw [g2]; exact va_assign hcls) rfl rfl hd fun H1 e z oq => ?_
  refine kk H1 _ (hH.set ho z oq ?_) (hS.put z oq (Nat.le_add_right _ _))
  show H1[B.1 + o]? = some (vp_cell _ _)
  rw [e]
  show some ((vp_cell cA.2.2 (n, .inr (.inr (.inr (.inr (fun j => (f j).map (fun k => B.1 + k))))))).setSlot _ _) = _
  rw [vp_cell_q, vp_cell_q, arrV_store]
  congr 2
  funext q
  by_cases hq : q = i.toNatClampNeg
  · subst hq
    simp [updV, va_up, va_rf]
  · simp [updV, va_up, hq]
theorem m_newa (hx : p.tables.exec = Jvm.exec) (hb : c.code = cc) (hH : Hw B cA D w H) (hS : va_S (fun q => B.1 ≤ q) s.heap H locs) {at_ : ArrayType} {z : Bool} {cK : ClassId} (harr : (Cond.arrayClass (newarray.typeOf at_)).before args s = true) (hcK : s.vm.findClass ("[" ++ (newarray.typeOf at_).toString) = some cK) (hcell : ∀ n, vp_cell cK (n, .inl (fun _ => 0)) = arrV cK n (fun _ => defaultValue (newarray.typeOf at_))) (hE : ∀ n, mE B cA (.inl (z, n, fun _ => 0)) = .inl (cK, n, .inl (fun _ => 0))) {n : Int32} (hn : ¬ n < 0) (h6 : n.toNatClampNeg ≤ 65536) (hby : componentBytes (newarray.typeOf at_) ≤ 4) (h1 : cells + 1 ≤ R.cells) (h2 : slots + n.toNatClampNeg ≤ R.slots) (hd : decode cc pc = .ok (.newarray at_, 2))
    (kk : ∀ H1 : Heap, Hw B cA D (w ++ [.inl (z, n.toNatClampNeg, fun _ => 0)]) H1 → va_S (fun q => B.1 ≤ q) s.heap H1 locs → W p l e R s m args below meth c H1 locs (cells + 1) (slots + n.toNatClampNeg) Q (F0 m (pc + 2) ls (.ref (B.1 + w.length) :: rest))) : W p l e R s m args below meth c H locs cells slots Q (F0 m pc ls (.int n :: rest)) := by
  have hbytes : n.toNatClampNeg * componentBytes (newarray.typeOf at_) ≤ 536870912 := Nat.le_trans (Nat.mul_le_mul h6 hby) (by decide)
  refine va_newaK hx hb harr rfl hd rfl hn rfl hbytes h1 h2 hH.1 fun H1 cA1 e1 z1 o1 _ hNm => ?_
  have hc1 : cA1 = cK := Option.some.inj (hNm.symm.trans hcK)
  subst hc1
  refine kk H1 (hH.push (by rw [z1, hH.1]) (fun q hq => o1 q (by rw [← hH.1]; exact hq)) ?_) ⟨Nat.le_trans hS.1 (by rw [z1, hH.1]; omega), fun x g1 g2 => (o1 x (by rw [← hH.1]; exact Nat.lt_of_lt_of_le g1 hS.1)).trans (hS.2.1 x g1 g2), hS.2.2⟩
  rw [hE]
  show H1[B.1 + w.length]? = some (vp_cell _ _)
  rw [hcell]
  exact e1
theorem m_newq (hx : p.tables.exec = Jvm.exec) (hb : c.code = cc) (hK : cxU cA D s) (hH : Hw B cA D w H) (hS : va_S (fun q => B.1 ≤ q) s.heap H locs) {own : String} {index : Nat} (hown : s.vm.findClass own = some m.cls) (hlink : (Cond.classLink own index cN1).before args s = true) {n : Int32} (hn : ¬ n < 0) (h6 : n.toNatClampNeg ≤ 65536) (h1 : cells + 1 ≤ R.cells) (h2 : slots + n.toNatClampNeg ≤ R.slots) (hd : decode cc pc = .ok (.anewarray index, 3))
    (kk : ∀ H1 : Heap, Hw B cA D (w ++ [.inr (.inl (n.toNatClampNeg, fun _ => none))]) H1 → va_S (fun q => B.1 ≤ q) s.heap H1 locs → W p l e R s m args below meth c H1 locs (cells + 1) (slots + n.toNatClampNeg) Q (F0 m (pc + 3) ls (.ref (B.1 + w.length) :: rest))) : W p l e R s m args below meth c H locs cells slots Q (F0 m pc ls (.int n :: rest)) := by
  refine W.anew hx hb hown hlink (va_AO.use hK.2.2) rfl hd rfl hn (by omega) h1 h2 fun cA1 kA comp f1 f2 f3 f4 => ?_
  obtain ⟨kA', comp', k1, k2, k3, k4⟩ := (hK.1.2 2 (cA.2.2, .object cN1) rfl).2
  have hc1 : cA1 = cA.2.2 := Option.some.inj (f1.symm.trans k4)
  subst hc1
  generalize hH1 : H.push ({ cls := cA.2.2, slots := Array.replicate n.toNatClampNeg .null, vm := .none } : Cell) = H1
  have z1 : H1.size = H.size + 1 := by rw [← hH1, Array.size_push]
  have e1 : H1[H.size]? = some (arrV cA.2.2 n.toNatClampNeg (fun _ => .null)) := by rw [← hH1, Array.getElem?_push_size, ← arrV_new]
  have o1 : ∀ q : Nat, q < H.size → H1[q]? = H[q]? := fun q hq => by rw [← hH1, Array.getElem?_push, if_neg (Nat.ne_of_lt hq)]
  have hkk := kk H1 (hH.push z1 o1 (by
    show H1[B.1 + w.length]? = some (vp_cell _ _)
    rw [vp_cell_q, ← hH.1]
    exact e1)) ⟨Nat.le_trans hS.1 (by omega), fun x g1 g2 => (o1 x (Nat.lt_of_lt_of_le g1 hS.1)).trans (hS.2.1 x g1 g2), hS.2.2⟩
  rw [← hH.1] at hkk
  exact hkk
theorem m_new (hx : p.tables.exec = Jvm.exec) (hb : c.code = cc) (hK : cxU cA D s) (hH : Hw B cA D w H) (hS : va_S (fun q => B.1 ≤ q) s.heap H locs) {own : String} {index ci : Nat} {r : vw_C} (hown : s.vm.findClass own = some m.cls) (hr : cls[ci]? = some r) {Ts : List Cond} (hts : ∀ w ∈ Ts, w.before args s = true) (hG : ∀ w ∈ tG, w ∈ Ts) (hlink : (Cond.classLink own index r.1).before args s = true) (h1 : cells + 1 ≤ R.cells) (h2 : slots + (cDs.getD ci []).length ≤ R.slots) (hd : decode cc pc = .ok (.new index, 3))
    (kk : ∀ H1 : Heap, Hw B cA D (w ++ [.inr (.inr (ci, cDs.getD ci []))]) H1 → va_S (fun q => B.1 ≤ q) s.heap H1 locs → W p l e R s m args below meth c H1 locs (cells + 1) (slots + (cDs.getD ci []).length) Q (F0 m (pc + 3) ls (.ref (B.1 + w.length) :: rest))) : W p l e R s m args below meth c H locs cells slots Q (F0 m pc ls rest) := by
  obtain ⟨cin, cinst, cini, -, clen, ty, cty, cdf, ckd⟩ := c_ok ci r hr
  have hKn := hK.1.1 ci _ hr
  rw [clen] at h2 kk
  refine W.newcK hx hb hown hlink (hts _ (hG _ cinst)) (hts _ (hG _ cini)) rfl hd h1 h2 hKn.2.1 hH.1 fun H1 kC hkC e1 z1 o1 => ?_
  refine kk H1 (hH.push (by rw [z1, hH.1]) (fun q hq => o1 q (by rw [← hH.1]; exact hq)) ?_) ⟨Nat.le_trans hS.1 (by rw [z1, hH.1]; omega), fun x g1 g2 => (o1 x (by rw [← hH.1]; exact Nat.lt_of_lt_of_le g1 hS.1)).trans (hS.2.1 x g1 g2), hS.2.2⟩
  refine ⟨r, hr, (u_born ty hts (fun w h => hG w (cin w h)) hKn hkC e1 cty).to fun j hj => ?_⟩
  show defaultValue (ty j) = vp_V ((cDs.getD ci []).map (mV B)) j
  rcases ckd j hj with ⟨g1, g2⟩ | ⟨g1, g2⟩
  · simp only [vp_V, List.getD_eq_getElem?_getD, List.getElem?_map]
    rw [← List.getD_eq_getElem?_getD, g2, g1]
    rfl
  · simp only [vp_V, List.getD_eq_getElem?_getD, List.getElem?_map]
    rw [← List.getD_eq_getElem?_getD, g1]
    rcases g2 with ⟨t, g2⟩ | ⟨t, g2⟩ <;> rw [g2] <;> rfl
theorem m_put (hx : p.tables.exec = Jvm.exec) (hb : c.code = cc) (hK : cxU cA D s) (hH : Hw B cA D w H) (hS0 : va_S (fun q => B.1 ≤ q) s.heap H locs) {own : String} {index ci k o : Nat} {r : vw_C} {fs : List AV} (hown : s.vm.findClass own = some m.cls) (hr : cls[ci]? = some r) {Ts : List Cond} (hts : ∀ w ∈ Ts, w.before args s = true) (hG : ∀ w ∈ tG, w ∈ Ts) (hk : k < r.2.2) (hl : k < fs.length) (hlink : (Cond.fieldLink own index (r.2.1 k).1 (r.2.1 k).2.1 (r.2.1 k).2.2.1).before args s = true) (hfin : (r.2.1 k).2.2.2 = false ∨ (meth.name = "<init>" ∧ (r.2.1 k).1 = own)) (ho : w[o]? = some (.inr (.inr (ci, fs)))) {v : AV} (hv : s_fit ci k v = true) (hd : decode cc pc = .ok (.putfield index, 3))
    (kk : ∀ (H1 : Heap) (locs1 : List Loc), Hw B cA D (w.set o (.inr (.inr (ci, fs.set k v)))) H1 → va_S (fun q => B.1 ≤ q) s.heap H1 locs1 → W p l e R s m args below meth c H1 locs1 cells slots Q (F0 m (pc + 3) ls rest)) : W p l e R s m args below meth c H locs cells slots Q (F0 m pc ls (mV B v :: .ref (B.1 + o) :: rest)) := by
  obtain ⟨cin, cinst, cini, cnm, clen, ty, cty, cdf, ckd⟩ := c_ok ci r hr
  have hin : ∀ w ∈ u_ws r.1 r.2.1 r.2.2, w ∈ Ts := fun w h => hG w (cin w h)
  have hap := va_apart (own := own) (D := D) (cl := cls) (tys := mTy cA) hts hin ty cty cnm hK.1 hr
  obtain ⟨r', h1, cell, q1, q2, q3, q4⟩ := hH.2 o _ (mW_at ho)
  have hr' : r' = r := Option.some.inj (h1.symm.trans hr)
  subst hr'
  obtain ⟨hS, hfc, kC, hkC, hkind⟩ := hK.1.1 ci _ hr
  obtain ⟨cf, kf, fi, f, hi, hsl⟩ := hS k hk
  have hst := (u_facts hfc hkC (u_lays hts hin hk) hi).1
  have hnf : narrow (ty k) (mV B v) = mV B v ∧ fits (ty k) (mV B v) = true := by
    unfold s_fit at hv
    rcases ckd k hk with ⟨g1, g2⟩ | ⟨g1, g2⟩
    · rw [g2] at hv
      rcases v with x | x
      · rw [g1]; exact ⟨rfl, rfl⟩
      · simp at hv
    · rw [g1] at hv
      rcases v with x | x
      · simp at hv
      · rcases g2 with ⟨t, g2⟩ | ⟨t, g2⟩ <;> rw [g2]
        · rcases x with _ | x
          · exact ⟨rfl, rfl⟩
          · cases x <;> exact ⟨rfl, rfl⟩
        · rcases x with _ | x
          · exact ⟨rfl, rfl⟩
          · cases x <;> exact ⟨rfl, rfl⟩
  have hlay := hts _ (hin _ (u_in_lay hk))
  unfold u_lay at hlay
  have fin : ∀ H' : Heap, H'[B.1 + o]? = some (cell.setSlot f.slot (mV B v)) → H'.size = H.size → (∀ q, q ≠ B.1 + o → H'[q]? = H[q]?) → W p l e R s m args below meth c H' (locs ++ [⟨B.1 + o, f.slot⟩]) cells slots Q (F0 m (pc + 3) ls rest) := by
    intro H' e1 e2 e3
    rw [hsl] at e1
    refine kk H' _ (hH.set ho e2 e3 ?_) (hS0.put e2 e3 (Nat.le_add_right _ _))
    refine ⟨r', hr, t_OB.to (V := updV (vp_V (fs.map (mV B))) k (mV B v)) ⟨_, e1, q2, q3, t_set q4 hap hk (mV B v)⟩ (fun j _ => ?_)⟩
    rw [vp_updV_set (by simpa using hl) (mV B v) j, List.map_set]
  by_cases hf : (r'.2.1 k).2.2.2 = true
  · rw [if_pos hf] at hlay
    obtain ⟨hin2, hdecl⟩ : meth.name = "<init>" ∧ (r'.2.1 k).1 = own := by
      rcases hfin with h | h
      · rw [h] at hf; cases hf
      · exact h
    have hcf : m.cls = cf := by
      obtain ⟨_, _, c', _, _, _, -, -, hf', -, -, -, hown2, -⟩ := Cond.laysFinal_spec hlay
      have e1 : c' = cf := by have := hi.symm.trans hf'; simp at this; exact this.1.symm
      rw [hdecl] at hown2
      rw [← e1]; exact Option.some.inj (hown.symm.trans hown2)
    have h6 := u_fits hfc hkC hkind (Or.inr hlay) hi (cty k hk) hnf.1 hnf.2
    exact W.putFinK hx hb hown hlink hi hst hcf hin2 (by rw [q2]; exact h6) q1 q3 (by rw [hsl]; exact k2_hasslot (q4 k hk)) rfl rfl hd fin
  · rw [if_neg hf] at hlay
    have h6 := u_store hfc hkC hkind hlay hi (cty k hk) hnf.1 hnf.2
    exact W.putK hx hb (f := f) ⟨hown, hlink, ⟨_, _, _, hi⟩, hst⟩ (by rw [q2]; exact h6) q1 q3 (by rw [hsl]; exact k2_hasslot (q4 k hk)) rfl rfl hd fin
end Snd
end
section
theorem s_ild_i {pc i : Nat} {L : List (Option AV)} {S : List AV} {w : AW} {b : Nat × Nat} {ps : List Prop} {st' : St} (h : s_ild pc i L S w b = some (ps, st')) : ∃ x, L[i]? = some (some (.inl x)) ∧ ps = [] ∧ st' = (pc, L, vI x :: S, w, b) := by
  unfold s_ild at h
  split at h
  · next x hx => cases h; exact ⟨x, hx, rfl, rfl⟩
  · cases h
theorem s_ald_i {pc i : Nat} {L : List (Option AV)} {S : List AV} {w : AW} {b : Nat × Nat} {ps : List Prop} {st' : St} (h : s_ald pc i L S w b = some (ps, st')) : ∃ r, L[i]? = some (some (.inr (some r))) ∧ ps = [] ∧ st' = (pc, L, .inr (some r) :: S, w, b) := by
  unfold s_ald at h
  split at h
  · next x hx => cases h; exact ⟨x, hx, rfl, rfl⟩
  · cases h
theorem s_ist_i {pc i : Nat} {L : List (Option AV)} {S : List AV} {w : AW} {b : Nat × Nat} {ps : List Prop} {st' : St} (h : s_ist pc i L S w b = some (ps, st')) : ∃ x S', S = .inl x :: S' ∧ i < L.length ∧ ps = [] ∧ st' = (pc, L.set i (some (vI x)), S', w, b) := by
  unfold s_ist at h
  split at h
  · split at h
    · next hi => cases h; exact ⟨_, _, rfl, hi, rfl, rfl⟩
    · cases h
  · cases h
theorem s_ast_i {pc i : Nat} {L : List (Option AV)} {S : List AV} {w : AW} {b : Nat × Nat} {ps : List Prop} {st' : St} (h : s_ast pc i L S w b = some (ps, st')) : ∃ r S', S = .inr (some r) :: S' ∧ i < L.length ∧ ps = [] ∧ st' = (pc, L.set i (some (.inr (some r))), S', w, b) := by
  unfold s_ast at h
  split at h
  · split at h
    · next hi => cases h; exact ⟨_, _, rfl, hi, rfl, rfl⟩
    · cases h
  · cases h
theorem s_inc_i {pc i : Nat} {v : Int32} {L : List (Option AV)} {S : List AV} {w : AW} {b : Nat × Nat} {ps : List Prop} {st' : St} (h : s_inc pc i v L S w b = some (ps, st')) : ∃ x, L[i]? = some (some (.inl x)) ∧ ps = [] ∧ st' = (pc, L.set i (some (vI (x + v))), S, w, b) := by
  unfold s_inc at h
  split at h
  · next x hx => cases h; exact ⟨x, hx, rfl, rfl⟩
  · cases h
theorem s_bin_i {pc : Nat} {f : Int32 → Int32 → Int32} {L : List (Option AV)} {S : List AV} {w : AW} {b : Nat × Nat} {ps : List Prop} {st' : St} (h : s_bin pc L S w b f = some (ps, st')) : ∃ x y S', S = .inl y :: .inl x :: S' ∧ ps = [] ∧ st' = (pc, L, vI (f x y) :: S', w, b) := by
  unfold s_bin at h
  split at h
  · cases h; exact ⟨_, _, _, rfl, rfl, rfl⟩
  · cases h
theorem s_div_i {pc : Nat} {f : Int32 → Int32 → Int32} {L : List (Option AV)} {S : List AV} {w : AW} {b : Nat × Nat} {ps : List Prop} {st' : St} (h : s_div pc L S w b f = some (ps, st')) : ∃ x y S', S = .inl y :: .inl x :: S' ∧ ps = [¬ y = 0] ∧ st' = (pc, L, vI (f x y) :: S', w, b) := by
  unfold s_div at h
  split at h
  · cases h; exact ⟨_, _, _, rfl, rfl, rfl⟩
  · cases h
theorem s_neg_i {pc : Nat} {L : List (Option AV)} {S : List AV} {w : AW} {b : Nat × Nat} {ps : List Prop} {st' : St} (h : s_neg pc L S w b = some (ps, st')) : ∃ x S', S = .inl x :: S' ∧ ps = [] ∧ st' = (pc, L, vI (-x) :: S', w, b) := by
  unfold s_neg at h
  split at h
  · cases h; exact ⟨_, _, rfl, rfl, rfl⟩
  · cases h
theorem s_if1_i {k : Int32 → Nat} {L : List (Option AV)} {S : List AV} {w : AW} {b : Nat × Nat} {ps : List Prop} {st' : St} (h : s_if1 k L S w b = some (ps, st')) : ∃ x S', S = .inl x :: S' ∧ ps = [] ∧ st' = (k x, L, S', w, b) := by
  unfold s_if1 at h
  split at h
  · cases h; exact ⟨_, _, rfl, rfl, rfl⟩
  · cases h
theorem s_if2_i {k : Int32 → Int32 → Nat} {L : List (Option AV)} {S : List AV} {w : AW} {b : Nat × Nat} {ps : List Prop} {st' : St} (h : s_if2 k L S w b = some (ps, st')) : ∃ x y S', S = .inl y :: .inl x :: S' ∧ ps = [] ∧ st' = (k x y, L, S', w, b) := by
  unfold s_if2 at h
  split at h
  · cases h; exact ⟨_, _, _, rfl, rfl, rfl⟩
  · cases h
theorem s_dup_i {pc : Nat} {L : List (Option AV)} {S : List AV} {w : AW} {b : Nat × Nat} {ps : List Prop} {st' : St} (h : s_dup pc L S w b = some (ps, st')) : ∃ v S', S = v :: S' ∧ ps = [] ∧ st' = (pc, L, v :: v :: S', w, b) := by
  unfold s_dup at h
  split at h
  · cases h; exact ⟨_, _, rfl, rfl, rfl⟩
  · cases h
theorem s_dup2_i {pc : Nat} {L : List (Option AV)} {S : List AV} {w : AW} {b : Nat × Nat} {ps : List Prop} {st' : St} (h : s_dup2 pc L S w b = some (ps, st')) : ∃ v u S', S = v :: u :: S' ∧ ps = [] ∧ st' = (pc, L, v :: u :: v :: u :: S', w, b) := by
  unfold s_dup2 at h
  split at h
  · cases h; exact ⟨_, _, _, rfl, rfl, rfl⟩
  · cases h
theorem s_get_i {pc ci k : Nat} {L : List (Option AV)} {S : List AV} {w : AW} {b : Nat × Nat} {ps : List Prop} {st' : St} (h : s_get pc ci k L S w b = some (ps, st')) : ∃ o fs v S', S = .inr (some (some o)) :: S' ∧ w[o]? = some (.inr (.inr (ci, fs))) ∧ fs[k]? = some v ∧ ps = [] ∧ st' = (pc, L, v :: S', w, b) := by
  unfold s_get at h
  split at h
  · split at h
    · next hw =>
      split at h
      · next hc =>
        subst hc
        split at h
        · next hv => cases h; exact ⟨_, _, _, _, rfl, hw, hv, rfl, rfl⟩
        · cases h
      · cases h
    · cases h
  · cases h
theorem s_put_i {pc ci k : Nat} {L : List (Option AV)} {S : List AV} {w : AW} {b : Nat × Nat} {ps : List Prop} {st' : St} (h : s_put pc ci k L S w b = some (ps, st')) : ∃ o fs v S', S = v :: .inr (some (some o)) :: S' ∧ w[o]? = some (.inr (.inr (ci, fs))) ∧ k < fs.length ∧ s_fit ci k v = true ∧ ps = [] ∧ st' = (pc, L, S', w.set o (.inr (.inr (ci, fs.set k v))), b) := by
  unfold s_put at h
  split at h
  · split at h
    · next hw =>
      split at h
      · next hc =>
        obtain ⟨rfl, h1, h2⟩ := hc
        cases h
        exact ⟨_, _, _, _, rfl, hw, h1, h2, rfl, rfl⟩
      · cases h
    · cases h
  · cases h
theorem s_iald_i {z : Bool} {sc : SC} {pc : Nat} {L : List (Option AV)} {S : List AV} {w : AW} {b : Nat × Nat} {ps : List Prop} {st' : St} (h : s_iald z sc pc L S w b = some (ps, st')) : ∃ i n f S', ps = [vp_in i n] ∧ st' = (pc, L, vI (f i.toNatClampNeg) :: S', w, b) ∧ ((∃ o, S = .inl i :: .inr (some (some o)) :: S' ∧ w[o]? = some (.inl (z, n, f))) ∨ (S = .inl i :: .inr (some none) :: S' ∧ z = false ∧ sc = some (n, f))) := by
  unfold s_iald at h
  split at h
  · split at h
    · next hw =>
      split at h
      · next hc =>
        subst hc
        cases h
        exact ⟨_, _, _, _, rfl, rfl, Or.inl ⟨_, rfl, hw⟩⟩
      · cases h
    · cases h
  · split at h
    · cases h
      exact ⟨_, _, _, _, rfl, rfl, Or.inr ⟨rfl, rfl, rfl⟩⟩
    · cases h
  · cases h
theorem s_iast_i {z : Bool} {pc : Nat} {L : List (Option AV)} {S : List AV} {w : AW} {b : Nat × Nat} {ps : List Prop} {st' : St} (h : s_iast z pc L S w b = some (ps, st')) : ∃ x i o n f S', S = .inl x :: .inl i :: .inr (some (some o)) :: S' ∧ w[o]? = some (.inl (z, n, f)) ∧ ps = [vp_in i n] ∧ st' = (pc, L, S', w.set o (.inl (z, n, upd f i.toNatClampNeg (if z then x &&& 1 else x))), b) := by
  unfold s_iast at h
  split at h
  · split at h
    · next hw =>
      split at h
      · next hc =>
        subst hc
        cases h
        exact ⟨_, _, _, _, _, _, rfl, hw, rfl, rfl⟩
      · cases h
    · cases h
  · cases h
theorem s_aald_i {pc : Nat} {L : List (Option AV)} {S : List AV} {w : AW} {b : Nat × Nat} {ps : List Prop} {st' : St} (h : s_aald pc L S w b = some (ps, st')) : ∃ i o n f S', S = .inl i :: .inr (some (some o)) :: S' ∧ w[o]? = some (.inr (.inl (n, f))) ∧ ps = [vp_in i n] ∧ st' = (pc, L, rfA (f i.toNatClampNeg) :: S', w, b) := by
  unfold s_aald at h
  split at h
  · split at h
    · next hw =>
      cases h
      exact ⟨_, _, _, _, _, rfl, hw, rfl, rfl⟩
    · cases h
  · cases h
theorem s_aast_i {pc : Nat} {L : List (Option AV)} {S : List AV} {w : AW} {b : Nat × Nat} {ps : List Prop} {st' : St} (h : s_aast pc L S w b = some (ps, st')) : ∃ j i o n f fs S', S = .inr (some (some j)) :: .inl i :: .inr (some (some o)) :: S' ∧ w[o]? = some (.inr (.inl (n, f))) ∧ w[j]? = some (.inr (.inr (1, fs))) ∧ ps = [vp_in i n] ∧ st' = (pc, L, S', w.set o (.inr (.inl (n, va_up f i.toNatClampNeg (some j)))), b) := by
  unfold s_aast at h
  split at h
  · split at h
    · next hw hj =>
      cases h
      exact ⟨_, _, _, _, _, _, _, rfl, hw, hj, rfl, rfl⟩
    · cases h
  · cases h
theorem s_alen_i {sc : SC} {pc : Nat} {L : List (Option AV)} {S : List AV} {w : AW} {b : Nat × Nat} {ps : List Prop} {st' : St} (h : s_alen sc pc L S w b = some (ps, st')) : ∃ n f S', S = .inr (some none) :: S' ∧ sc = some (n, f) ∧ ps = [] ∧ st' = (pc, L, vI (Int32.ofNat n) :: S', w, b) := by
  unfold s_alen at h
  split at h
  · cases h
    exact ⟨_, _, _, rfl, rfl, rfl, rfl⟩
  · cases h
theorem s_newa_i {z : Bool} {pc : Nat} {L : List (Option AV)} {S : List AV} {w : AW} {b : Nat × Nat} {ps : List Prop} {st' : St} (h : s_newa z pc L S w b = some (ps, st')) : ∃ n S', S = .inl n :: S' ∧ (1 ≤ b.1 ∧ n.toNatClampNeg ≤ b.2 ∧ n.toNatClampNeg ≤ 65536) ∧ ps = [¬ n < 0] ∧ st' = (pc, L, vR w.length :: S', w ++ [.inl (z, n.toNatClampNeg, fun _ => 0)], (b.1 - 1, b.2 - n.toNatClampNeg)) := by
  unfold s_newa at h
  split at h
  · split at h
    · next hc =>
      cases h
      exact ⟨_, _, rfl, hc, rfl, rfl⟩
    · cases h
  · cases h
theorem s_newq_i {pc : Nat} {L : List (Option AV)} {S : List AV} {w : AW} {b : Nat × Nat} {ps : List Prop} {st' : St} (h : s_newq pc L S w b = some (ps, st')) : ∃ n S', S = .inl n :: S' ∧ (1 ≤ b.1 ∧ n.toNatClampNeg ≤ b.2 ∧ n.toNatClampNeg ≤ 65536) ∧ ps = [¬ n < 0] ∧ st' = (pc, L, vR w.length :: S', w ++ [.inr (.inl (n.toNatClampNeg, fun _ => none))], (b.1 - 1, b.2 - n.toNatClampNeg)) := by
  unfold s_newq at h
  split at h
  · split at h
    · next hc =>
      cases h
      exact ⟨_, _, rfl, hc, rfl, rfl⟩
    · cases h
  · cases h
theorem s_new_i {pc ci : Nat} {L : List (Option AV)} {S : List AV} {w : AW} {b : Nat × Nat} {ps : List Prop} {st' : St} (h : s_new pc ci L S w b = some (ps, st')) : (1 ≤ b.1 ∧ (cDs.getD ci []).length ≤ b.2) ∧ ps = [] ∧ st' = (pc, L, vR w.length :: S, w ++ [.inr (.inr (ci, cDs.getD ci []))], (b.1 - 1, b.2 - (cDs.getD ci []).length)) := by
  unfold s_new at h
  split at h
  · next hc =>
    cases h
    exact ⟨hc, rfl, rfl⟩
  · cases h
theorem s_obj_i {t : List Nat} {pc : Nat} {L : List (Option AV)} {S : List AV} {w : AW} {b : Nat × Nat} {ps : List Prop} {st' : St} (h : s_obj t pc L S w b = some (ps, st')) : ∃ o S', t = [4] ∧ S = .inr (some (some o)) :: S' ∧ S'.length ≤ 8 ∧ ps = [] ∧ st' = (pc, L, S', w, b) := by
  unfold s_obj at h
  split at h
  · split at h
    · next hc =>
      cases h
      exact ⟨_, _, rfl, rfl, hc, rfl, rfl⟩
    · cases h
  · cases h
section Snd
variable {p : Program} {l : Launch} {e : Env} {R : Room} {s : State} {m : MethodId} {args : Array Value} {below : List Frame} {meth : Method} {c : Code} {Q : State → Prop} {B : Nat × Nat} {cA : ClassId × ClassId × ClassId} {D : va_G}
theorem rfA_V (B : Nat × Nat) (r : Option Nat) : mV B (rfA r) = va_rf (r.map (fun k => B.1 + k)) := by cases r <;> rfl
set_option maxHeartbeats 4000000 in
theorem sp_snd {sc : SC} {y : Nat} (hC : cxF p R s m args meth c B cA D sc y) {pc : Nat} {L : List (Option AV)} {S : List AV} {w : AW} {b : Nat × Nat} {E : AE} {ps : List Prop} {st' : St} (hok : okB y pc E = true) (h : sp sc E (pc, L, S, w, b) = some (ps, st')) (hp : allP ps) (k : AtS p l e R s m args below meth c Q B cA D st') : AtS p l e R s m args below meth c Q B cA D (pc, L, S, w, b) := by
  obtain ⟨hx, hb, hml, hown, hts, hnm, hU, hB, hR, hsc⟩ := hC
  obtain ⟨hd, hI⟩ := Bool.and_eq_true_iff.mp hok
  replace hd := of_decide_eq_true hd
  obtain ⟨i, ⟨ln, a, bb, pl⟩, ts, v⟩ := E
  have wA : ∀ {q : Nat} {wd : Cond}, decide (lw_tbl[q]? = some wd) = true → goodWord wd = true → wd.before args s = true := fun h1 h2 => hts _ (wm_in (tG_at _ (of_decide_eq_true h1) h2))
  intro H locs cells slots ls hH hS hl hz hc hs
  cases i
  case iconst n =>
    cases h
    exact lv_iconst hx hb hd (of_decide_eq_true hI) (k H locs cells slots ls hH hS hl hz hc hs)
  case bipush n =>
    cases h
    exact lv_bipush hx hb hd (of_decide_eq_true hI) (k H locs cells slots ls hH hS hl hz hc hs)
  case sipush n =>
    cases h
    exact lv_sipush hx hb hd (of_decide_eq_true hI) (k H locs cells slots ls hH hS hl hz hc hs)
  case ldc_w n =>
    cases h
    exact lv_ldcw hx hb hown (wA hI rfl) hd (k H locs cells slots ls hH hS hl hz hc hs)
  case iload_n n =>
    obtain ⟨x, hv, rfl, rfl⟩ := s_ild_i h
    exact lv_iload_n hx hb hd rfl (hl.2.2 _ _ hv) (k H locs cells slots ls hH hS hl hz hc hs)
  case iload n =>
    obtain ⟨x, hv, rfl, rfl⟩ := s_ild_i h
    exact lv_iload hx hb hd (hl.2.2 _ _ hv) (k H locs cells slots ls hH hS hl hz hc hs)
  case aload_n n =>
    obtain ⟨r, hv, rfl, rfl⟩ := s_ald_i h
    cases r with
    | none => exact lv_aload_n hx hb hd rfl (hl.2.2 _ _ hv) (k H locs cells slots ls hH hS hl hz hc hs)
    | some r => exact lv_aload_n hx hb hd rfl (hl.2.2 _ _ hv) (k H locs cells slots ls hH hS hl hz hc hs)
  case aload n =>
    obtain ⟨r, hv, rfl, rfl⟩ := s_ald_i h
    cases r with
    | none => exact lv_aload hx hb hd (hl.2.2 _ _ hv) (k H locs cells slots ls hH hS hl hz hc hs)
    | some r => exact lv_aload hx hb hd (hl.2.2 _ _ hv) (k H locs cells slots ls hH hS hl hz hc hs)
  case istore_n n =>
    obtain ⟨x, S', rfl, hi, rfl, rfl⟩ := s_ist_i h
    exact lv_istore_n hx hb hd rfl hl.has hi rfl (fun ls' hl' => k H locs cells slots ls' hH hS (lcs.put hi hl') (hl'.1.trans (hl.1.symm.trans hz)) hc hs)
  case istore n =>
    obtain ⟨x, S', rfl, hi, rfl, rfl⟩ := s_ist_i h
    exact lv_istore hx hb hd hl.has hi rfl (fun ls' hl' => k H locs cells slots ls' hH hS (lcs.put hi hl') (hl'.1.trans (hl.1.symm.trans hz)) hc hs)
  case astore_n n =>
    obtain ⟨r, S', rfl, hi, rfl, rfl⟩ := s_ast_i h
    cases r with
    | none => exact lv_astore_n hx hb hd rfl hl.has hi rfl (fun ls' hl' => k H locs cells slots ls' hH hS (lcs.put hi hl') (hl'.1.trans (hl.1.symm.trans hz)) hc hs)
    | some r => exact lv_astore_n hx hb hd rfl hl.has hi rfl (fun ls' hl' => k H locs cells slots ls' hH hS (lcs.put hi hl') (hl'.1.trans (hl.1.symm.trans hz)) hc hs)
  case astore n =>
    obtain ⟨r, S', rfl, hi, rfl, rfl⟩ := s_ast_i h
    cases r with
    | none => exact lv_astore hx hb hd hl.has hi rfl (fun ls' hl' => k H locs cells slots ls' hH hS (lcs.put hi hl') (hl'.1.trans (hl.1.symm.trans hz)) hc hs)
    | some r => exact lv_astore hx hb hd hl.has hi rfl (fun ls' hl' => k H locs cells slots ls' hH hS (lcs.put hi hl') (hl'.1.trans (hl.1.symm.trans hz)) hc hs)
  case iinc n q =>
    obtain ⟨x, hv, rfl, rfl⟩ := s_inc_i h
    have hi : n < L.length := (List.getElem?_eq_some_iff.mp hv).1
    obtain ⟨j, hj⟩ := List.mem_iff_getElem?.mp (lvL_mem (B := B) (q := (n, .int x)).mpr ⟨.inl x, hv, rfl⟩)
    exact lv_iinc (v := x + v) hx hb hd hl.has hj (by rw [of_decide_eq_true hI]) hi rfl (fun ls' hl' => k H locs cells slots ls' hH hS (lcs.put hi hl') (hl'.1.trans (hl.1.symm.trans hz)) hc hs)
  case iadd =>
    obtain ⟨x, y', S', rfl, rfl, rfl⟩ := s_bin_i h
    exact lv_iadd hx hb hd (k H locs cells slots ls hH hS hl hz hc hs)
  case isub =>
    obtain ⟨x, y', S', rfl, rfl, rfl⟩ := s_bin_i h
    exact lv_isub hx hb hd (k H locs cells slots ls hH hS hl hz hc hs)
  case imul =>
    obtain ⟨x, y', S', rfl, rfl, rfl⟩ := s_bin_i h
    exact lv_imul hx hb hd (k H locs cells slots ls hH hS hl hz hc hs)
  case iand =>
    obtain ⟨x, y', S', rfl, rfl, rfl⟩ := s_bin_i h
    exact lv_iand hx hb hd (k H locs cells slots ls hH hS hl hz hc hs)
  case ior =>
    obtain ⟨x, y', S', rfl, rfl, rfl⟩ := s_bin_i h
    exact lv_ior hx hb hd (k H locs cells slots ls hH hS hl hz hc hs)
  case ixor =>
    obtain ⟨x, y', S', rfl, rfl, rfl⟩ := s_bin_i h
    exact lv_ixor hx hb hd (k H locs cells slots ls hH hS hl hz hc hs)
  case ishl =>
    obtain ⟨x, y', S', rfl, rfl, rfl⟩ := s_bin_i h
    exact lv_ishl hx hb hd (k H locs cells slots ls hH hS hl hz hc hs)
  case ishr =>
    obtain ⟨x, y', S', rfl, rfl, rfl⟩ := s_bin_i h
    exact lv_ishr hx hb hd (k H locs cells slots ls hH hS hl hz hc hs)
  case iushr =>
    obtain ⟨x, y', S', rfl, rfl, rfl⟩ := s_bin_i h
    exact lv_iushr hx hb hd rfl (k H locs cells slots ls hH hS hl hz hc hs)
  case idiv =>
    obtain ⟨x, y', S', rfl, rfl, rfl⟩ := s_div_i h
    exact lv_idiv hx hb hd hp.1 (k H locs cells slots ls hH hS hl hz hc hs)
  case irem =>
    obtain ⟨x, y', S', rfl, rfl, rfl⟩ := s_div_i h
    exact lv_irem hx hb hd hp.1 (k H locs cells slots ls hH hS hl hz hc hs)
  case ineg =>
    obtain ⟨x, S', rfl, rfl, rfl⟩ := s_neg_i h
    exact lv_ineg hx hb hd (k H locs cells slots ls hH hS hl hz hc hs)
  case dup =>
    obtain ⟨v', S', rfl, rfl, rfl⟩ := s_dup_i h
    exact lv_dup hx hb hd (mV_cat B v') (k H locs cells slots ls hH hS hl hz hc hs)
  case dup2 =>
    obtain ⟨v', u', S', rfl, rfl, rfl⟩ := s_dup2_i h
    exact lv_dup2_11 hx hb hd (mV_cat B v') (mV_cat B u') (k H locs cells slots ls hH hS hl hz hc hs)
  case goto off =>
    cases h
    exact lv_goto hx hb hd (of_decide_eq_true hI) (k H locs cells slots ls hH hS hl hz hc hs)
  case ifCond cn off =>
    cases cn with
    | eq =>
      obtain ⟨x, S', rfl, rfl, rfl⟩ := s_if1_i h
      have z : W p l e R s m args below meth c H locs cells slots Q (F0 m (if x = 0 then a else pc + 3) ls (S'.map (mV B))) := k H locs cells slots ls hH hS hl hz hc hs
      exact lv_if_eq hx hb hd (of_decide_eq_true hI) (fun q => by rw [if_pos q] at z; exact z) (fun q => by rw [if_neg q] at z; exact z)
    | ne =>
      obtain ⟨x, S', rfl, rfl, rfl⟩ := s_if1_i h
      have z : W p l e R s m args below meth c H locs cells slots Q (F0 m (if x = 0 then pc + 3 else a) ls (S'.map (mV B))) := k H locs cells slots ls hH hS hl hz hc hs
      exact lv_if_ne hx hb hd (of_decide_eq_true hI) (fun q => by rw [if_neg q] at z; exact z) (fun q => by rw [if_pos q] at z; exact z)
    | lt =>
      obtain ⟨x, S', rfl, rfl, rfl⟩ := s_if1_i h
      have z : W p l e R s m args below meth c H locs cells slots Q (F0 m (if x < 0 then a else pc + 3) ls (S'.map (mV B))) := k H locs cells slots ls hH hS hl hz hc hs
      exact lv_if_lt hx hb hd (of_decide_eq_true hI) (fun q => by rw [if_pos q] at z; exact z) (fun q => by rw [if_neg q] at z; exact z)
    | ge =>
      obtain ⟨x, S', rfl, rfl, rfl⟩ := s_if1_i h
      have z : W p l e R s m args below meth c H locs cells slots Q (F0 m (if 0 ≤ x then a else pc + 3) ls (S'.map (mV B))) := k H locs cells slots ls hH hS hl hz hc hs
      exact lv_if_ge hx hb hd (of_decide_eq_true hI) (fun q => by rw [if_pos q] at z; exact z) (fun q => by rw [if_neg q] at z; exact z)
    | gt =>
      obtain ⟨x, S', rfl, rfl, rfl⟩ := s_if1_i h
      have z : W p l e R s m args below meth c H locs cells slots Q (F0 m (if 0 < x then a else pc + 3) ls (S'.map (mV B))) := k H locs cells slots ls hH hS hl hz hc hs
      exact lv_if_gt hx hb hd (of_decide_eq_true hI) (fun q => by rw [if_pos q] at z; exact z) (fun q => by rw [if_neg q] at z; exact z)
    | le =>
      obtain ⟨x, S', rfl, rfl, rfl⟩ := s_if1_i h
      have z : W p l e R s m args below meth c H locs cells slots Q (F0 m (if x ≤ 0 then a else pc + 3) ls (S'.map (mV B))) := k H locs cells slots ls hH hS hl hz hc hs
      exact lv_if_le hx hb hd (of_decide_eq_true hI) (fun q => by rw [if_pos q] at z; exact z) (fun q => by rw [if_neg q] at z; exact z)
  case if_icmp cn off =>
    cases cn with
    | eq =>
      obtain ⟨x, y', S', rfl, rfl, rfl⟩ := s_if2_i h
      have z : W p l e R s m args below meth c H locs cells slots Q (F0 m (if x = y' then a else pc + 3) ls (S'.map (mV B))) := k H locs cells slots ls hH hS hl hz hc hs
      exact lv_icmp_eq hx hb hd (of_decide_eq_true hI) (fun q => by rw [if_pos q] at z; exact z) (fun q => by rw [if_neg q] at z; exact z)
    | ne =>
      obtain ⟨x, y', S', rfl, rfl, rfl⟩ := s_if2_i h
      have z : W p l e R s m args below meth c H locs cells slots Q (F0 m (if x = y' then pc + 3 else a) ls (S'.map (mV B))) := k H locs cells slots ls hH hS hl hz hc hs
      exact lv_icmp_ne hx hb hd (of_decide_eq_true hI) (fun q => by rw [if_neg q] at z; exact z) (fun q => by rw [if_pos q] at z; exact z)
    | lt =>
      obtain ⟨x, y', S', rfl, rfl, rfl⟩ := s_if2_i h
      have z : W p l e R s m args below meth c H locs cells slots Q (F0 m (if x < y' then a else pc + 3) ls (S'.map (mV B))) := k H locs cells slots ls hH hS hl hz hc hs
      exact lv_icmp_lt hx hb hd (of_decide_eq_true hI) (fun q => by rw [if_pos q] at z; exact z) (fun q => by rw [if_neg q] at z; exact z)
    | ge =>
      obtain ⟨x, y', S', rfl, rfl, rfl⟩ := s_if2_i h
      have z : W p l e R s m args below meth c H locs cells slots Q (F0 m (if y' ≤ x then a else pc + 3) ls (S'.map (mV B))) := k H locs cells slots ls hH hS hl hz hc hs
      exact lv_icmp_ge hx hb hd (of_decide_eq_true hI) (fun q => by rw [if_pos q] at z; exact z) (fun q => by rw [if_neg q] at z; exact z)
    | gt =>
      obtain ⟨x, y', S', rfl, rfl, rfl⟩ := s_if2_i h
      have z : W p l e R s m args below meth c H locs cells slots Q (F0 m (if y' < x then a else pc + 3) ls (S'.map (mV B))) := k H locs cells slots ls hH hS hl hz hc hs
      exact lv_icmp_gt hx hb hd (of_decide_eq_true hI) (fun q => by rw [if_pos q] at z; exact z) (fun q => by rw [if_neg q] at z; exact z)
    | le =>
      obtain ⟨x, y', S', rfl, rfl, rfl⟩ := s_if2_i h
      have z : W p l e R s m args below meth c H locs cells slots Q (F0 m (if x ≤ y' then a else pc + 3) ls (S'.map (mV B))) := k H locs cells slots ls hH hS hl hz hc hs
      exact lv_icmp_le hx hb hd (of_decide_eq_true hI) (fun q => by rw [if_pos q] at z; exact z) (fun q => by rw [if_neg q] at z; exact z)
  case tableswitch df lo hi offs =>
    obtain ⟨x, S', rfl, rfl, rfl⟩ := s_if1_i h
    have z : W p l e R s m args below meth c H locs cells slots Q (F0 m (s_sw x 0 ts a) ls (S'.map (mV B))) := k H locs cells slots ls hH hS hl hz hc hs
    obtain ⟨hI, i5⟩ := Bool.and_eq_true_iff.mp hI
    obtain ⟨hI, i4⟩ := Bool.and_eq_true_iff.mp hI
    obtain ⟨hI, i3⟩ := Bool.and_eq_true_iff.mp hI
    obtain ⟨i1, i2⟩ := Bool.and_eq_true_iff.mp hI
    have j1 : ts.length < 1000 := of_decide_eq_true i1
    have j2 : lo = 0 := of_decide_eq_true i2
    have j3 : hi + 1 = (ts.length : Int) := of_decide_eq_true i3
    have j4 : (pc : Int) + df = (a : Int) := of_decide_eq_true i4
    have j5 : offs.toList.map (fun o => (pc : Int) + o) = ts.map (fun (t : Nat) => (t : Int)) := of_decide_eq_true i5
    subst j2
    by_cases hq : x.toInt < 0 ∨ (ts.length : Int) ≤ x.toInt
    · rw [sw_big x a ts 0 (by omega) (by omega)] at z
      exact lv_tableOut hx hb hd (by omega) j4 z
    · have hn : x.toInt.toNat < ts.length := by omega
      obtain ⟨t, ht⟩ : ∃ t, ts[x.toInt.toNat]? = some t := ⟨_, List.getElem?_eq_getElem hn⟩
      rw [sw_in x a ts 0 x.toInt.toNat t (by omega) (by omega) ht] at z
      have h6 : (offs.toList.map (fun o => (pc : Int) + o))[x.toInt.toNat]? = some (t : Int) := by rw [j5, List.getElem?_map, ht]; rfl
      rw [List.getElem?_map] at h6
      cases h7 : offs.toList[x.toInt.toNat]? with
      | none => rw [h7] at h6; cases h6
      | some off =>
        rw [h7] at h6
        exact lv_tableIn hx hb hd (by omega) (by omega) (by rw [Int.sub_zero, ← Array.getElem?_toList]; exact h7) (Option.some.inj h6) z
  case getfield n =>
    obtain ⟨o, fs, v', S', rfl, hw, hv, rfl, rfl⟩ := s_get_i h
    have hI' : (match cls[a]? with | some r => decide (bb < r.2.2) && decide (lw_tbl[pl]? = some (.fieldLink (mNm y).cls n (r.2.1 bb).1 (r.2.1 bb).2.1 (r.2.1 bb).2.2.1)) | none => false) = true := hI
    split at hI'
    · next r hr =>
      obtain ⟨i1, i2⟩ := Bool.and_eq_true_iff.mp hI'
      exact va_get (C := r.1) (T := r.2.1) (N := r.2.2) (ref := (r.2.1 bb).1) hx hb hts (fun w h => wm_in ((c_ok a r hr).1 w h)) hown hU.1 hH.2 o (mW_at hw) hr bb (of_decide_eq_true i1) (wA i2 rfl) (fun _ h => h) (v := mV B v') (by rw [List.getElem?_map, hv]; rfl) hd (k H locs cells slots ls hH hS hl hz hc hs)
    · cases hI'
  case putfield n =>
    obtain ⟨o, fs, v', S', rfl, hw, hkl, hf, rfl, rfl⟩ := s_put_i h
    have hI' : (match cls[a]? with | some r => decide (bb < r.2.2) && decide (lw_tbl[pl]? = some (.fieldLink (mNm y).cls n (r.2.1 bb).1 (r.2.1 bb).2.1 (r.2.1 bb).2.2.1)) && ((r.2.1 bb).2.2.2 == false || (decide ((mNm y).name = "<init>") && decide ((r.2.1 bb).1 = (mNm y).cls))) | none => false) = true := hI
    split at hI'
    · next r hr =>
      obtain ⟨hI', i3⟩ := Bool.and_eq_true_iff.mp hI'
      obtain ⟨i1, i2⟩ := Bool.and_eq_true_iff.mp hI'
      refine m_put hx hb hU hH hS hown hr hts (fun w h => wm_in h) (of_decide_eq_true i1) hkl (wA i2 rfl) ?_ hw hf hd (fun H1 locs1 g1 g2 => k H1 locs1 cells slots ls g1 g2 hl hz hc hs)
      rcases Bool.or_eq_true_iff.mp i3 with q | q
      · exact Or.inl (by simpa using q)
      · obtain ⟨q1, q2⟩ := Bool.and_eq_true_iff.mp q
        exact Or.inr ⟨by rw [hnm]; exact of_decide_eq_true q1, of_decide_eq_true q2⟩
    · cases hI'
  case iaload =>
    obtain ⟨i, n, f, S', rfl, rfl, hq⟩ := s_iald_i (sc := sc) h
    rcases hq with ⟨o, rfl, hw⟩ | ⟨rfl, hz0, hsc0⟩
    · exact va_iald hx hb hU.1 hH.2 o 0 (cA := cA.1) (mW_at hw) rfl hp.1 hd (k H locs cells slots ls hH hS hl hz hc hs)
    · obtain ⟨hX, hBb⟩ := hsc n f hsc0
      exact va_sld hx hb hX (Nat.lt_of_lt_of_le hBb hB) (Nat.not_le.mpr hBb) hS hp.1 hd (k H locs cells slots ls hH hS hl hz hc hs)
  case baload =>
    obtain ⟨i, n, f, S', rfl, rfl, hq⟩ := s_iald_i (sc := sc) h
    rcases hq with ⟨o, rfl, hw⟩ | ⟨rfl, hz0, hsc0⟩
    · exact va_zald hx hb hU.1 hH.2 o 1 (cA := cA.2.1) (mW_at hw) rfl hp.1 hd (k H locs cells slots ls hH hS hl hz hc hs)
    · cases hz0
  case iastore =>
    obtain ⟨x, i, o, n, f, S', rfl, hw, rfl, rfl⟩ := s_iast_i h
    exact m_iast hx hb hU hH hS hw hp.1 hd (fun H1 locs1 g1 g2 => k H1 locs1 cells slots ls g1 g2 hl hz hc hs)
  case bastore =>
    obtain ⟨x, i, o, n, f, S', rfl, hw, rfl, rfl⟩ := s_iast_i h
    exact m_zast hx hb hU hH hS hw hp.1 hd (fun H1 locs1 g1 g2 => k H1 locs1 cells slots ls g1 g2 hl hz hc hs)
  case aaload =>
    obtain ⟨i, o, n, f, S', rfl, hw, rfl, rfl⟩ := s_aald_i h
    have z := k H locs cells slots ls hH hS hl hz hc hs
    refine va_aldq (C := cN1) hx hb hU.1 hH.2 o 2 (mW_at hw) rfl hp.1 hd ?_
    have z2 : W p l e R s m args below meth c H locs cells slots Q (F0 m (pc + 1) ls (mV B (rfA (f i.toNatClampNeg)) :: S'.map (mV B))) := z
    rw [rfA_V] at z2
    exact z2
  case aastore =>
    obtain ⟨j, i, o, n, f, fs, S', rfl, hw, hj, rfl, rfl⟩ := s_aast_i h
    exact m_aast hx hb hU hH hS hw hj hp.1 hd (fun H1 locs1 g1 g2 => k H1 locs1 cells slots ls g1 g2 hl hz hc hs)
  case arraylength =>
    obtain ⟨n, f, S', rfl, hsc0, rfl, rfl⟩ := s_alen_i h
    obtain ⟨hX, hBb⟩ := hsc n f hsc0
    exact va_slen hx hb hX (Nat.lt_of_lt_of_le hBb hB) (Nat.not_le.mpr hBb) hS hd (k H locs cells slots ls hH hS hl hz hc hs)
  case newarray t =>
    cases t
    case int =>
      obtain ⟨n, S', rfl, ⟨b1, b2, b3⟩, rfl, rfl⟩ := s_newa_i h
      refine m_newa (at_ := .int) hx hb hH hS (cK := cA.1) (z := false) (hts _ (wm_in ar_int)) (hU.1.2 0 (cA.1, .int) rfl).2 (fun n => rfl) (fun n => rfl) hp.1 b3 (by decide) (by dsimp only at hc; omega) (by dsimp only at hs; omega) hd (fun H1 g1 g2 => k H1 locs _ _ ls g1 g2 hl hz ?_ ?_)
      · dsimp only at hc ⊢; omega
      · dsimp only at hs ⊢; omega
    case boolean =>
      obtain ⟨n, S', rfl, ⟨b1, b2, b3⟩, rfl, rfl⟩ := s_newa_i h
      refine m_newa (at_ := .boolean) hx hb hH hS (cK := cA.2.1) (z := true) (hts _ (wm_in ar_boolean)) (hU.1.2 1 (cA.2.1, .boolean) rfl).2 (fun n => rfl) (fun n => rfl) hp.1 b3 (by decide) (by dsimp only at hc; omega) (by dsimp only at hs; omega) hd (fun H1 g1 g2 => k H1 locs _ _ ls g1 g2 hl hz ?_ ?_)
      · dsimp only at hc ⊢; omega
      · dsimp only at hs ⊢; omega
    all_goals (cases h)
  case anewarray n =>
    obtain ⟨n, S', rfl, ⟨b1, b2, b3⟩, rfl, rfl⟩ := s_newq_i h
    refine m_newq hx hb hU hH hS hown (wA hI rfl) hp.1 b3 (by dsimp only at hc; omega) (by dsimp only at hs; omega) hd (fun H1 g1 g2 => k H1 locs _ _ ls g1 g2 hl hz ?_ ?_)
    · dsimp only at hc ⊢; omega
    · dsimp only at hs ⊢; omega
  case new n =>
    obtain ⟨⟨b1, b2⟩, rfl, rfl⟩ := s_new_i h
    have hI' : (match cls[a]? with | some r => decide (lw_tbl[pl]? = some (.classLink (mNm y).cls n r.1)) | none => false) = true := hI
    split at hI'
    · next r hr =>
      have b1' : 1 ≤ b.1 := b1
      have b2' : (cDs.getD a []).length ≤ b.2 := b2
      refine m_new hx hb hU hH hS hown hr hts (fun w h => wm_in h) (wA hI' rfl) (by dsimp only at hc; omega) (by dsimp only at hs; omega) hd (fun H1 g1 g2 => k H1 locs _ _ ls g1 g2 hl hz ?_ ?_)
      · dsimp only at hc ⊢; omega
      · dsimp only at hs ⊢; omega
    · cases hI'
  case invokespecial n =>
    obtain ⟨o, S', ht, rfl, hs8, rfl, rfl⟩ := s_obj_i h
    have ht' : ts = [4] := ht
    subst ht'
    obtain ⟨hI, i3⟩ := Bool.and_eq_true_iff.mp hI
    obtain ⟨i1, i2⟩ := Bool.and_eq_true_iff.mp hI
    have j1 : 1 ≤ mFr y := of_decide_eq_true i1
    have j2 : 20 ≤ mLo y := of_decide_eq_true i2
    refine W.objInit hx hb hown (wA i3 rfl) (hts _ (wm_in oi_inst)) (hts _ (wm_in oi_code)) rfl hz rfl hd (Nat.le_trans j1 hR.1) ?_ (k H locs cells slots ls hH hS hl hz hc hs)
    show 2 * 0 + ((S'.map (mV B)).map fun v => v.category).sum + 12 ≤ R.locals
    rw [mV_sum]
    have := hR.2
    omega
  all_goals (cases h)
end Snd
end
section
def rmO (a : Nat) : Room := { frames := mFr a, cells := mMc a, slots := mMs a, locals := mLo a }
/-- a method's end: what is behind it -/
def RetK (p : Program) (l : Launch) (e : Env) (R : Room) (s : State) (m : MethodId) (args : Array Value) (below : List Frame) (meth : Method) (c : Code) (Q : State → Prop) (B : Nat × Nat) (cA : ClassId × ClassId × ClassId) (D : va_G) (y : Nat) (r : Option Int32 × AW) : Prop :=
  ∀ (pc : Nat) (H : Heap) (locs : List Loc) (cells slots : Nat) (ls : Array Slot), Hw B cA D r.2 H → va_S (fun q => B.1 ≤ q) s.heap H locs → cells ≤ R.cells → slots ≤ R.slots →
    (∀ v, r.1 = some v → decode (mBy y) pc = .ok (.ireturn, 1) → (mRt y = some .int ∨ (mRt y = some .boolean ∧ v &&& 1 = v)) → W p l e R s m args below meth c H locs cells slots Q (F0 m pc ls [.int v])) ∧
    (r.1 = none → decode (mBy y) pc = .ok (.return_, 1) → mRt y = none → W p l e R s m args below meth c H locs cells slots Q (F0 m pc ls []))
def SndP (n : Nat) : Prop := ∀ {p : Program} {l : Launch} {e : Env} {R : Room} {s : State} {m : MethodId} {args : Array Value} {below : List Frame} {meth : Method} {c : Code} {Q : State → Prop} {B : Nat × Nat} {cA : ClassId × ClassId × ClassId} {D : va_G} {sc : SC} {y : Nat} {st : St} {r : Option Int32 × AW},
  Ex n sc y st r → cxF p R s m args meth c B cA D sc y → RetK p l e R s m args below meth c Q B cA D y r → AtS p l e R s m args below meth c Q B cA D st
def cQ (B : Nat × Nat) (cA : ClassId × ClassId × ClassId) (D : va_G) (r : Option Int32 × AW) : Array Value → State → Outcome → State → Prop := fun _ st oc t => (oc = .returned (r.1.map Value.int) ∧ Hw B cA D r.2 t.heap) ∧ va_F (fun q => B.1 ≤ q) st t
def cP (B : Nat × Nat) (cA : ClassId × ClassId × ClassId) (D : va_G) (w : AW) (As : List Value) : Array Value → State → Prop := va_Pc As (fun U => Hw B cA D w U.heap ∧ cxU cA D U)
theorem cP_blind {B : Nat × Nat} {cA : ClassId × ClassId × ClassId} {D : va_G} {w : AW} {As : List Value} : FrameBlind (cP B cA D w As) := fun _ _ _ _ h => ⟨h.1, h.2.1, h.2.2.same rfl⟩
theorem met_of {n : Nat} (ih : SndP n) (l : Launch) (B : Nat × Nat) (cA : ClassId × ClassId × ClassId) (D : va_G) {a : Nat} {As : List AV} {w : AW} {r : Option Int32 × AW} (ha : a < 141) (hn : As.length = mNa a) (h : Ex n none a (0, inL a As, [], w, (mMc a, mMs a)) r) :
    Met l (mNm a) (wm a) (rmO a) (cP B cA D w (As.map (mV B))) (cQ B cA D r) (mMc a) (mMs a) (fun q => B.1 ≤ q) := by
  obtain ⟨m1, m2, m3, m4, m5, m6, m7, m8⟩ := m_ok a ha
  refine va_MetF (cc := mBy a) (maxL := mML a) (ret := mRt a) m1 rfl ?_
  intro p e s m args below meth c s₁ Bd hml hv
  obtain ⟨rfl, hH, hU⟩ := hv
  have hx := Bd.exec
  have hb := Bd.bytes
  have hr := Bd.returns
  have hlocks := Bd.notSynchronized
  have hts := atoms_spec (ws := wm a) Bd.pre
  have hown := findClass_of_methodNamed Bd.named
  have hnm := (name_of_methodNamed Bd.named Bd.method).1
  have hle : As.length ≤ mML a := by rw [hn]; exact m7
  have hent := lcs_entry B As (mML a) hle
  rw [lg_entry_eq]
  refine ih h ⟨hx, hb, hml, hown, hts, hnm, hU, by rw [hH.1]; omega, ⟨Nat.le_refl _, Nat.le_refl _⟩, fun n f h => by cases h⟩ ?_ s.heap [] 0 0 _ hH va_S.rf hent (hent.1.trans ?_) ?_ ?_
  · intro pc H locs cells slots ls hH2 hS2 hc hs
    refine ⟨fun v hv hd hrt => ?_, fun hv hd hrt => ?_⟩
    · refine W.widen (k := mMc a) (n := mMs a) hc hs ?_
      rcases hrt with q | ⟨q, q2⟩
      · exact W.zret (ty := .int) hx hb (hr.trans q) rfl (fun t ht hW => ⟨⟨by rw [hv]; rfl, by rw [ht]; exact hH2⟩, hS2.F ht⟩) hS2.2.2 hd hlocks
      · exact W.zret (ty := .boolean) hx hb (hr.trans q) (by show Value.int (v &&& 1) = .int v; rw [q2]) (fun t ht hW => ⟨⟨by rw [hv]; rfl, by rw [ht]; exact hH2⟩, hS2.F ht⟩) hS2.2.2 hd hlocks
    · refine W.widen (k := mMc a) (n := mMs a) hc hs ?_
      exact W.vret hx hb (hr.trans hrt) (fun t ht hW => ⟨⟨by rw [hv]; rfl, by rw [ht]; exact hH2⟩, hS2.F ht⟩) hS2.2.2 hd hlocks
  · rw [hml]
    simp
    omega
  · show 0 + mMc a ≤ mMc a
    omega
  · show 0 + mMs a ≤ mMs a
    omega
theorem gin {y : Nat} {l1 ws : List Cond} (h : ∀ w ∈ l1, w ∈ tG) (h2 : GoodIn (wm y) ws) : GoodIn (wm y) (l1 ++ ws) := fun w hw => by
  rcases List.mem_append.mp hw with q | q
  · exact ⟨wm_in (h w q), tG_good (h w q)⟩
  · exact h2 w q
theorem ret_stk (B : Nat × Nat) (r : Option Int32) (S : List AV) : ((r.map vI).toList ++ S).map (mV B) = (r.map Value.int).toList ++ S.map (mV B) := by
  cases r <;> rfl
section Snd
variable {p : Program} {l : Launch} {e : Env} {R : Room} {s : State} {m : MethodId} {args : Array Value} {below : List Frame} {meth : Method} {c : Code} {Q : State → Prop} {B : Nat × Nat} {cA : ClassId × ClassId × ClassId} {D : va_G} {H : Heap} {locs : List Loc} {cells slots : Nat} {ls : Array Slot}
theorem m_call {pc mc ms : Nat} {st0 rest : List Value} {r : Option Int32 × AW} {a : Array Value} (hr : va_Run p l e R s m args below meth c H locs cells slots mc ms (F0 m pc ls st0) rest (cQ B cA D r a) (fun q => B.1 ≤ q)) (hS : va_S (fun q => B.1 ≤ q) s.heap H locs)
    (kk : ∀ (H1 : Heap) (locs1 : List Loc), Hw B cA D r.2 H1 → va_S (fun q => B.1 ≤ q) s.heap H1 locs1 → W p l e R s m args below meth c H1 locs1 (cells + mc) (slots + ms) Q (F0 m (pc + 3) ls ((r.1.map Value.int).toList ++ rest))) : W p l e R s m args below meth c H locs cells slots Q (F0 m pc ls st0) := by
  intro T hT X
  obtain ⟨v, st₀, t, T', L, h0, X', hL, e1, e2, ⟨⟨hv, hw⟩, hz, hk⟩, st⟩ := hr T hT X
  have hv' : v = r.1.map Value.int := by injection hv
  subst hv'
  rw [h0] at hz hk
  obtain ⟨t2, a1, b1⟩ := kk T'.heap (locs ++ L) (by rw [e1]; exact hw) ⟨Nat.le_trans hS.1 (by rw [e1]; exact hz), fun q h1 h2 => by rw [e1, hk q (Nat.lt_of_lt_of_le h1 hS.1) h2]; exact hS.2.1 q h1 h2, fun q hq => by
      rcases List.mem_append.mp hq with h | h
      · exact hS.2.2 q h
      · exact hL q h⟩ T' rfl X'
  exact ⟨t2, st t2 a1, b1⟩
end Snd
set_option maxHeartbeats 4000000 in
theorem snd : ∀ n, SndP n := by
  intro n
  induction n with
  | zero => intro p l e R s m args below meth c Q B cA D sc y st r h; exact absurd h (by obtain ⟨pc, L, S, w, b⟩ := st; exact fun h => h)
  | succ n ih =>
    intro p l e R s m args below meth c Q B cA D sc y st r h hC hK
    obtain ⟨pc, L, S, w, b⟩ := st
    obtain ⟨E, hE, hcase⟩ := h
    have hok := ok_all hE
    rcases hcase with ⟨ps, st', h1, h2, h3⟩ | ⟨v, h1, rfl, rfl, h4⟩ | ⟨h1, rfl, rfl, h4⟩ | ⟨hic, As, S', r', rfl, hAs, hS8, hrecv, hb1, hb2, hx1, hx2⟩
    · exact sp_snd hC hok h1 h2 (ih h3 hC hK)
    · intro H locs cells slots ls hH hS hl hz hc hs
      obtain ⟨hd, -⟩ := Bool.and_eq_true_iff.mp hok
      replace hd := of_decide_eq_true hd
      obtain ⟨i, q, ts, u⟩ := E
      have h1' : i = .ireturn := h1
      subst h1'
      exact (hK pc H locs cells slots ls hH hS (by dsimp only at hc; omega) (by dsimp only at hs; omega)).1 v rfl hd h4
    · intro H locs cells slots ls hH hS hl hz hc hs
      obtain ⟨hd, -⟩ := Bool.and_eq_true_iff.mp hok
      replace hd := of_decide_eq_true hd
      obtain ⟨i, q, ts, u⟩ := E
      have h1' : i = .return_ := h1
      subst h1'
      exact (hK pc H locs cells slots ls hH hS (by dsimp only at hc; omega) (by dsimp only at hs; omega)).2 rfl hd h4
    · intro H locs cells slots ls hH hS hl hz hc hs
      have kst := ih hx2 hC hK
      obtain ⟨hx, hb, hml, hown, hts, hnm, hU, hB, hR, hsc⟩ := hC
      obtain ⟨hd, hI⟩ := Bool.and_eq_true_iff.mp hok
      replace hd := of_decide_eq_true hd
      obtain ⟨i, ⟨ln, a, bb, pl⟩, ts, v⟩ := E
      have wA : ∀ {q : Nat} {wd : Cond}, decide (lw_tbl[q]? = some wd) = true → goodWord wd = true → wd ∈ tG := fun h1 h2 => tG_at _ (of_decide_eq_true h1) h2
      have hc1 : cells + b.1 ≤ R.cells := hc
      have hs1 : slots + b.2 ≤ R.slots := hs
      have hb1' : mMc a ≤ b.1 := hb1
      have hb2' : mMs a ≤ b.2 := hb2
      have hf : cells + mMc a ≤ R.cells ∧ slots + mMs a ≤ R.slots := ⟨by omega, by omega⟩
      have kk : ∀ (H1 : Heap) (locs1 : List Loc), Hw B cA D r'.2 H1 → va_S (fun q => B.1 ≤ q) s.heap H1 locs1 → W p l e R s m args below meth c H1 locs1 (cells + mMc a) (slots + mMs a) Q (F0 m (pc + 3) ls ((r'.1.map Value.int).toList ++ S'.map (mV B))) := by
        intro H1 locs1 g1 g2
        have z := kst H1 locs1 (cells + mMc a) (slots + mMs a) ls g1 g2 hl hz (by show cells + mMc a + (b.1 - mMc a) ≤ R.cells; omega) (by show slots + mMs a + (b.2 - mMs a) ≤ R.slots; omega)
        have z2 : W p l e R s m args below meth c H1 locs1 (cells + mMc a) (slots + mMs a) Q (F0 m (pc + 3) ls (((r'.1.map vI).toList ++ S').map (mV B))) := z
        rw [ret_stk] at z2
        exact z2
      have hsize : (F0 m pc ls ((As.reverse ++ S').map (mV B))).locals.size = mML y := hz.trans hml
      have hroom : 2 * (F0 m pc ls ((As.reverse ++ S').map (mV B))).monitorRoom + ((S'.map (mV B)).map fun v => v.category).sum ≤ 8 := lv_room (by rw [mV_sum]; exact hS8)
      have fix_ : CallFix p m c (mBy y) (mML y) s args (wm y) (mNm y).cls := ⟨hx, hb, hml, hown, hts⟩
      have hAs' : As.length = mNa a := hAs
      have room : ∀ {q : Bool}, (okRoom y a && q) = true → a < 141 ∧ (mFr a + 1 ≤ R.frames ∧ 8 + (mML a + 11) + mLo a ≤ R.locals) := by
        intro q hq
        obtain ⟨hq, -⟩ := Bool.and_eq_true_iff.mp hq
        obtain ⟨hq, q3⟩ := Bool.and_eq_true_iff.mp hq
        obtain ⟨q1, q2⟩ := Bool.and_eq_true_iff.mp hq
        exact ⟨of_decide_eq_true q1, Nat.le_trans (of_decide_eq_true q2) hR.1, Nat.le_trans (of_decide_eq_true q3) hR.2⟩
      have pre : ∀ U : State, U.heap = H → s.WarmedH U.vm → cP B cA D w (As.map (mV B)) (As.map (mV B)).toArray U := fun U hUh hW => ⟨rfl, by rw [hUh]; exact hH, hU.moved hW⟩
      cases i
      case invokestatic n =>
        have hI0 : (okRoom y a && decide (bb = mNa a) && decide (mRc a = 99) && (match (generalizing := false) ts with
          | [0] => decide (lw_tbl[pl]? = some (.methodLink (mNm y).cls n (mNm a)))
          | [1] => decide (lw_tbl[pl]? = some (.methodLinkNest (mNm y).cls n (mNm a) cN4))
          | _ => false)) = true := hI
        obtain ⟨hI1, hlnk⟩ := Bool.and_eq_true_iff.mp hI0
        obtain ⟨hI2, hrc⟩ := Bool.and_eq_true_iff.mp hI1
        replace hrc := of_decide_eq_true hrc
        obtain ⟨ha, hroom2⟩ := room hI2
        obtain ⟨m1, m2, m3, m4, m5, m6, m7, m8⟩ := m_ok a ha
        have hM := met_of ih l B cA D ha hAs' hx1
        have hdsc : (mNm a).cls ≠ "java/lang/invoke/MethodHandle" ∧ (mNm a).cls ≠ "java/lang/invoke/VarHandle" ∧ (parseMethodDescriptor (mNm a).desc).map (fun d => d.parameters.length) = some (mNa a) := ⟨m2.1, m2.2, by
          have h := m3
          rw [show (mI a).2.2.2.2.2.2 = 99 from hrc] at h
          exact h⟩
        have hstat : Cond.static (mNm a) ∈ tG := by
          rcases m8 with ⟨-, q⟩ | ⟨-, q, -⟩
          · exact q
          · exfalso
            rw [show (mI a).2.2.2.2.2.2 = 99 from hrc] at q
            cases q
        have hstk : (F0 m pc ls ((As.reverse ++ S').map (mV B))).stack = (As.map (mV B)).reverse ++ S'.map (mV B) := by
          show (As.reverse ++ S').map (mV B) = _
          rw [List.map_append, List.map_reverse]
        split at hlnk
        · refine m_call (va_runS (As := As.map (mV B)) (rest := S'.map (mV B)) fix_ hM (va_cwS (mNa a) hts (gin (l1 := [.methodLink (mNm y).cls n (mNm a), .static (mNm a), .initialized (mNm a).cls]) (fun w hw => ?_) (wm_good m4)) rfl rfl rfl hdsc hroom2) ⟨cP_blind, pre⟩ rfl (by rw [List.length_map]; exact hAs') hsize hstk hroom hd hf) hS kk
          rcases List.mem_cons.mp hw with rfl | hw
          · exact wA hlnk rfl
          · rcases List.mem_cons.mp hw with rfl | hw
            · exact hstat
            · rw [List.mem_singleton.mp hw]; exact m5
        · have hnest : va_Nw (.methodLinkNest (mNm y).cls n (mNm a) cN4) s := hU.2.1 _ _ _ _ (List.mem_of_getElem? (of_decide_eq_true hlnk))
          exact m_call (va_runSN (As := As.map (mV B)) (rest := S'.map (mV B)) fix_ hM ⟨va_cnB (mNa a) hts (wm_good m4) rfl rfl rfl hnest (hts _ (wm_in m5)) hdsc hroom2, hts _ (wm_in hstat), trivial⟩ ⟨cP_blind, pre⟩ rfl (by rw [List.length_map]; exact hAs') hsize hstk hroom hd hf) hS kk
        · cases hlnk
      case invokevirtual n =>
        have hI0 : (okRoom y a && decide (bb = mNa a) && decide (mRc a < 99) && decide ((mNm a).name ≠ "<init>") && decide (ts = [2]) && decide (lw_tbl[pl]? = some (.methodLink (mNm y).cls n (mNm a)))) = true := hI
        obtain ⟨hI1, hlnk⟩ := Bool.and_eq_true_iff.mp hI0
        obtain ⟨hI1, -⟩ := Bool.and_eq_true_iff.mp hI1
        obtain ⟨hI1, hni⟩ := Bool.and_eq_true_iff.mp hI1
        obtain ⟨hI2, hrc⟩ := Bool.and_eq_true_iff.mp hI1
        replace hrc := of_decide_eq_true hrc
        replace hni := of_decide_eq_true hni
        obtain ⟨ha, hroom2⟩ := room hI2
        obtain ⟨m1, m2, m3, m4, m5, m6, m7, m8⟩ := m_ok a ha
        have hM := met_of ih l B cA D ha hAs' hx1
        obtain ⟨k, fs, As', rfl, hk⟩ := hrecv hrc
        have hn99 : ¬ (mI a).2.2.2.2.2.2 = 99 := fun q => by
          have : mRc a = 99 := q
          omega
        have hlen : As'.length = mNa a - 1 := by
          have : As'.length + 1 = mNa a := hAs'
          omega
        obtain ⟨hcl, hinst, hsel⟩ : (cls[mRc a]?).map (·.1) = some (mNm a).cls ∧ Cond.instanceMethod (mNm a) ∈ tG ∧ Cond.selects (mNm a).cls (mNm a) (mNm a) ∈ tG := by
          rcases m8 with ⟨q, -⟩ | ⟨-, q1, q2, q3⟩
          · exact absurd q hn99
          · rcases q3 with q | q
            · exact absurd q hni
            · exact ⟨q1, q2, q⟩
        have hdsc : (mNm a).cls = (mNm a).cls ∧ (mNm a).cls ≠ "java/lang/invoke/MethodHandle" ∧ (mNm a).cls ≠ "java/lang/invoke/VarHandle" ∧ (parseMethodDescriptor (mNm a).desc).map (fun d => d.parameters.length) = some (mNa a - 1) := ⟨rfl, m2.1, m2.2, by
          have h := m3
          rw [if_neg hn99] at h
          exact h⟩
        have hstk : (F0 m pc ls (((vR k :: As').reverse ++ S').map (mV B))).stack = (As'.map (mV B)).reverse ++ .ref (B.1 + k) :: S'.map (mV B) := by
          show ((vR k :: As').reverse ++ S').map (mV B) = _
          rw [List.map_append, List.map_reverse, List.map_cons, List.reverse_cons, List.append_assoc]
          rfl
        have hrec : ∃ cellB : Cell, H[B.1 + k]? = some cellB ∧ cellB.vm.isStatics = false ∧ s.vm.findClass (mNm a).cls = some cellB.cls := by
          cases hq : cls[mRc a]? with
          | none => rw [hq] at hcl; cases hcl
          | some q =>
            rw [hq] at hcl
            have hq1 : q.1 = (mNm a).cls := Option.some.inj hcl
            rw [← hq1]
            exact va_recv hU.1 hH.2 hq (mW_at hk)
        refine m_call (va_runV (As := As'.map (mV B)) (rest := S'.map (mV B)) (b := B.1 + k) fix_ hM (cwV (mNa a - 1) hts (gin (l1 := [.methodLink (mNm y).cls n (mNm a), .instanceMethod (mNm a), .selects (mNm a).cls (mNm a) (mNm a), .initialized (mNm a).cls]) (fun w hw => ?_) (wm_good m4)) rfl rfl rfl hdsc hroom2) ⟨cP_blind, hrec, pre⟩ rfl (by rw [List.length_map]; exact hlen) hsize hstk hroom hd hf) hS kk
        rcases List.mem_cons.mp hw with rfl | hw
        · exact wA hlnk rfl
        · rcases List.mem_cons.mp hw with rfl | hw
          · exact hinst
          · rcases List.mem_cons.mp hw with rfl | hw
            · exact hsel
            · rw [List.mem_singleton.mp hw]; exact m5
      case invokespecial n =>
        have hts3 : ts = [3] := of_decide_eq_true hic
        subst hts3
        have hI0 : (okRoom y a && decide (bb = mNa a) && decide (mRc a < 99) && decide (mRt a = none) && decide ((mNm a).name = "<init>") && decide (lw_tbl[pl]? = some (.methodLink (mNm y).cls n (mNm a)))) = true := hI
        obtain ⟨hI1, hlnk⟩ := Bool.and_eq_true_iff.mp hI0
        obtain ⟨hI1, hni⟩ := Bool.and_eq_true_iff.mp hI1
        obtain ⟨hI1, hrt⟩ := Bool.and_eq_true_iff.mp hI1
        obtain ⟨hI2, hrc⟩ := Bool.and_eq_true_iff.mp hI1
        replace hrc := of_decide_eq_true hrc
        replace hni := of_decide_eq_true hni
        replace hrt := of_decide_eq_true hrt
        obtain ⟨ha, hroom2⟩ := room hI2
        obtain ⟨m1, m2, m3, m4, m5, m6, m7, m8⟩ := m_ok a ha
        have hM := met_of ih l B cA D ha hAs' hx1
        obtain ⟨k, fs, As', rfl, hk⟩ := hrecv hrc
        have hn99 : ¬ (mI a).2.2.2.2.2.2 = 99 := fun q => by
          have : mRc a = 99 := q
          omega
        have hlen : As'.length = mNa a - 1 := by
          have : As'.length + 1 = mNa a := hAs'
          omega
        have hinst : Cond.instanceMethod (mNm a) ∈ tG := by
          rcases m8 with ⟨q, -⟩ | ⟨-, q1, q2, q3⟩
          · exact absurd q hn99
          · exact q2
        have hdsc : (mNm a).cls ≠ "java/lang/invoke/MethodHandle" ∧ (mNm a).cls ≠ "java/lang/invoke/VarHandle" ∧ (parseMethodDescriptor (mNm a).desc).map (fun d => d.parameters.length) = some (mNa a - 1) := ⟨m2.1, m2.2, by
          have h := m3
          rw [if_neg hn99] at h
          exact h⟩
        have hstk : (F0 m pc ls (((vR k :: As').reverse ++ S').map (mV B))).stack = (As'.map (mV B)).reverse ++ .ref (B.1 + k) :: S'.map (mV B) := by
          show ((vR k :: As').reverse ++ S').map (mV B) = _
          rw [List.map_append, List.map_reverse, List.map_cons, List.reverse_cons, List.append_assoc]
          rfl
        exact m_call (va_runI (As := As'.map (mV B)) (rest := S'.map (mV B)) (b := B.1 + k) fix_ hM (cwI (mNa a - 1) hts (wm_good m4) (by show Cond.code _ _ _ _ :: tG = _; rw [hrt]) rfl rfl (hts _ (wm_in m5)) (hts _ (wm_in (wA hlnk rfl))) (hts _ (wm_in hinst)) hni hdsc hroom2) ⟨cP_blind, pre⟩ rfl (by rw [List.length_map]; exact hlen) hsize hstk hroom hd hf) hS kk
      all_goals (cases hic)
end
section
/-! runs of the small machine, goal first -/
def Ev (sc : SC) (y : Nat) (st : St) (r : Option Int32 × AW) : Prop := ∃ n, Ex n sc y st r
theorem Ex_mono : ∀ {n : Nat} {sc : SC} {y : Nat} {st : St} {r : Option Int32 × AW}, Ex n sc y st r → Ex (n + 1) sc y st r := by
  intro n
  induction n with
  | zero => intro sc y st r h; obtain ⟨pc, L, S, w, b⟩ := st; exact absurd h (fun h => h)
  | succ n ih =>
    intro sc y st r h
    obtain ⟨pc, L, S, w, b⟩ := st
    obtain ⟨E, hE, hcase⟩ := h
    refine ⟨E, hE, ?_⟩
    rcases hcase with ⟨ps, st', h1, h2, h3⟩ | h | h | ⟨hic, As, S', r', g1, g2, g3, g4, g5, g6, g7, g8⟩
    · exact Or.inl ⟨ps, st', h1, h2, ih h3⟩
    · exact Or.inr (Or.inl h)
    · exact Or.inr (Or.inr (Or.inl h))
    · exact Or.inr (Or.inr (Or.inr ⟨hic, As, S', r', g1, g2, g3, g4, g5, g6, ih g7, ih g8⟩))
theorem Ex_le {n k : Nat} {sc : SC} {y : Nat} {st : St} {r : Option Int32 × AW} (h : Ex n sc y st r) (hk : n ≤ k) : Ex k sc y st r := by
  induction hk with
  | refl => exact h
  | step _ ih => exact Ex_mono ih
/-- k simple steps -/
def runS (cd : List (Option AE)) : Nat → SC → St → Option (List Prop × St)
  | 0, _, st => some ([], st)
  | n + 1, sc, st => match cd[st.1]? with
    | some (some e) => match sp sc e st with
      | some (ps, st') => match runS cd n sc st' with
        | some (ps', st'') => some (ps ++ ps', st'')
        | none => none
      | none => none
    | _ => none
theorem allP_app : ∀ {a b : List Prop}, allP (a ++ b) → allP a ∧ allP b := by
  intro a
  induction a with
  | nil => intro b h; exact ⟨trivial, h⟩
  | cons q a ih => intro b h; exact ⟨⟨h.1, (ih h.2).1⟩, (ih h.2).2⟩
theorem Ev.go {sc : SC} {y : Nat} {r : Option Int32 × AW} : ∀ (k : Nat) {st st' : St} {ps : List Prop}, runS (pg y) k sc st = some (ps, st') → allP ps → Ev sc y st' r → Ev sc y st r := by
  intro k
  induction k with
  | zero => intro st st' ps h hp hk; cases h; exact hk
  | succ k ih =>
    intro st st' ps h hp hk
    unfold runS at h
    split at h
    · next e he =>
      split at h
      · next ps1 st1 h1 =>
        split at h
        · next ps2 st2 h2 =>
          cases h
          obtain ⟨p1, p2⟩ := allP_app hp
          obtain ⟨n, hn⟩ := ih h2 p2 hk
          refine ⟨n + 1, ?_⟩
          obtain ⟨pc, L, S, w, b⟩ := st
          exact ⟨e, he, Or.inl ⟨ps1, st1, h1, p1, hn⟩⟩
        · cases h
      · cases h
    · cases h
/-- a call that makes no cells: which method, its arguments, the stack below -/
def mcS (y pc : Nat) (S : List AV) (w : AW) : Option (Nat × List AV × List AV) := match (pg y)[pc]? with
  | some (some E) => if isCall E = true ∧ mNa E.2.1.2.1 ≤ S.length ∧ (S.drop (mNa E.2.1.2.1)).length ≤ 8 ∧ mMc E.2.1.2.1 = 0 ∧ mMs E.2.1.2.1 = 0 then
      (if mRc E.2.1.2.1 < 99 then (match (S.take (mNa E.2.1.2.1)).reverse with
        | .inr (some (some k)) :: _ => (match w[k]? with
          | some (.inr (.inr (c, _))) => if c = mRc E.2.1.2.1 then some (E.2.1.2.1, (S.take (mNa E.2.1.2.1)).reverse, S.drop (mNa E.2.1.2.1)) else none
          | _ => none)
        | _ => none)
      else some (E.2.1.2.1, (S.take (mNa E.2.1.2.1)).reverse, S.drop (mNa E.2.1.2.1))) else none
  | _ => none
theorem Ev.callG {sc : SC} {y pc : Nat} {L : List (Option AV)} {S : List AV} {w : AW} {b : Nat × Nat} {r : Option Int32 × AW} {E : AE} (As S' : List AV) (r' : Option Int32 × AW) (hE : (pg y)[pc]? = some (some E)) (hic : isCall E = true) (hS : S = As.reverse ++ S') (hn : As.length = mNa E.2.1.2.1) (h8 : S'.length ≤ 8)
    (hr : mRc E.2.1.2.1 < 99 → ∃ (k : Nat) (fs As' : List AV), As = vR k :: As' ∧ w[k]? = some (.inr (.inr (mRc E.2.1.2.1, fs)))) (h1 : mMc E.2.1.2.1 ≤ b.1) (h2 : mMs E.2.1.2.1 ≤ b.2)
    (k1 : Ev none E.2.1.2.1 (0, inL E.2.1.2.1 As, [], w, (mMc E.2.1.2.1, mMs E.2.1.2.1)) r') (k2 : Ev sc y (pc + 3, L, (r'.1.map vI).toList ++ S', r'.2, (b.1 - mMc E.2.1.2.1, b.2 - mMs E.2.1.2.1)) r) : Ev sc y (pc, L, S, w, b) r := by
  obtain ⟨n1, k1⟩ := k1
  obtain ⟨n2, k2⟩ := k2
  exact ⟨max n1 n2 + 1, E, hE, Or.inr (Or.inr (Or.inr ⟨hic, As, S', r', hS, hn, h8, hr, h1, h2, Ex_le k1 (Nat.le_max_left _ _), Ex_le k2 (Nat.le_max_right _ _)⟩))⟩
theorem Ev.call {sc : SC} {y pc : Nat} {L : List (Option AV)} {S : List AV} {w : AW} {b : Nat × Nat} {r : Option Int32 × AW} {a : Nat} {As S' : List AV} (r' : Option Int32 × AW) (h : mcS y pc S w = some (a, As, S')) (k1 : Ev none a (0, inL a As, [], w, (0, 0)) r') (k2 : Ev sc y (pc + 3, L, (r'.1.map vI).toList ++ S', r'.2, b) r) : Ev sc y (pc, L, S, w, b) r := by
  unfold mcS at h
  split at h
  · next E hE =>
    split at h
    · next hc =>
      obtain ⟨c1, c2, c3, c4, c5⟩ := hc
      have hS : S = ((S.take (mNa E.2.1.2.1)).reverse).reverse ++ S.drop (mNa E.2.1.2.1) := by rw [List.reverse_reverse, List.take_append_drop]
      have hn : ((S.take (mNa E.2.1.2.1)).reverse).length = mNa E.2.1.2.1 := by rw [List.length_reverse, List.length_take]; omega
      have fin : some (E.2.1.2.1, (S.take (mNa E.2.1.2.1)).reverse, S.drop (mNa E.2.1.2.1)) = some (a, As, S') → (mRc E.2.1.2.1 < 99 → ∃ (k : Nat) (fs As' : List AV), (S.take (mNa E.2.1.2.1)).reverse = vR k :: As' ∧ w[k]? = some (.inr (.inr (mRc E.2.1.2.1, fs)))) → Ev sc y (pc, L, S, w, b) r := by
        intro hq hr
        cases hq
        refine Ev.callG _ _ r' hE c1 hS hn c3 hr (by omega) (by omega) (by rw [c4, c5]; exact k1) ?_
        rw [c4, c5]
        exact k2
      split at h
      · next h99 =>
        split at h
        · next k As' hA =>
          split at h
          · next c fs hw =>
            split at h
            · next hcc =>
              refine fin h (fun _ => ⟨k, fs, As', hA, ?_⟩)
              rw [← hcc]
              exact hw
            · cases h
          · cases h
        · cases h
      · next h99 => exact fin h (fun q => absurd q h99)
    · cases h
  · cases h
theorem Ev.callI {sc : SC} {y pc : Nat} {L : List (Option AV)} {S : List AV} {w : AW} {b : Nat × Nat} {r : Option Int32 × AW} {a : Nat} {As : List AV} (S' : List AV) (x : Int32) (w' : AW) (h : mcS y pc S w = some (a, As, S')) (k1 : Ev none a (0, inL a As, [], w, (0, 0)) (some x, w')) (k2 : Ev sc y (pc + 3, L, vI x :: S', w', b) r) : Ev sc y (pc, L, S, w, b) r := Ev.call (some x, w') h k1 k2
theorem Ev.callV {sc : SC} {y pc : Nat} {L : List (Option AV)} {S : List AV} {w : AW} {b : Nat × Nat} {r : Option Int32 × AW} {a : Nat} {As : List AV} (S' : List AV) (w' : AW) (h : mcS y pc S w = some (a, As, S')) (k1 : Ev none a (0, inL a As, [], w, (0, 0)) (none, w')) (k2 : Ev sc y (pc + 3, L, S', w', b) r) : Ev sc y (pc, L, S, w, b) r := Ev.call (none, w') h k1 k2
theorem Ev.ireti {sc : SC} {y pc : Nat} {L : List (Option AV)} {w : AW} {b : Nat × Nat} {v : Int32} {q : Nat × Nat × Nat × Nat} {ts : List Nat} {u : Int32} (hE : (pg y)[pc]? = some (some (.ireturn, q, ts, u))) (hr : mRt y = some .int) : Ev sc y (pc, L, [vI v], w, b) (some v, w) := ⟨1, _, hE, Or.inr (Or.inl ⟨v, rfl, rfl, rfl, Or.inl hr⟩)⟩
theorem Ev.iretz {sc : SC} {y pc : Nat} {L : List (Option AV)} {w : AW} {b : Nat × Nat} {v : Int32} {q : Nat × Nat × Nat × Nat} {ts : List Nat} {u : Int32} (hE : (pg y)[pc]? = some (some (.ireturn, q, ts, u))) (hr : mRt y = some .boolean) (hv : v &&& 1 = v) : Ev sc y (pc, L, [vI v], w, b) (some v, w) := ⟨1, _, hE, Or.inr (Or.inl ⟨v, rfl, rfl, rfl, Or.inr ⟨hr, hv⟩⟩)⟩
theorem Ev.retv {sc : SC} {y pc : Nat} {L : List (Option AV)} {w : AW} {b : Nat × Nat} {q : Nat × Nat × Nat × Nat} {ts : List Nat} {u : Int32} (hE : (pg y)[pc]? = some (some (.return_, q, ts, u))) (hr : mRt y = none) : Ev sc y (pc, L, [], w, b) (none, w) := ⟨1, _, hE, Or.inr (Or.inr (Or.inl ⟨rfl, rfl, rfl, hr⟩))⟩
/-- fewer locals -/
def Lle : List (Option AV) → List (Option AV) → Prop
  | [], [] => True
  | none :: L, _ :: L' => Lle L L'
  | some v :: L, some v' :: L' => v = v' ∧ Lle L L'
  | _, _ => False
theorem Lle.len : ∀ {L L' : List (Option AV)}, Lle L L' → L.length = L'.length := by
  intro L
  induction L with
  | nil => intro L' h; cases L' with
    | nil => rfl
    | cons a b => exact absurd h (fun h => h)
  | cons a L ih => intro L' h; cases L' with
    | nil => cases a <;> exact absurd h (fun h => h)
    | cons b L' =>
      cases a with
      | none => simp only [List.length_cons, ih (show Lle L L' from h)]
      | some v => cases b with
        | none => exact absurd h (fun h => h)
        | some u => simp only [List.length_cons, ih (show Lle L L' from h.2)]
theorem Lle.get : ∀ {L L' : List (Option AV)}, Lle L L' → ∀ {i : Nat} {v : AV}, L[i]? = some (some v) → L'[i]? = some (some v) := by
  intro L
  induction L with
  | nil => intro L' h i v hv; cases hv
  | cons a L ih => intro L' h i v hv; cases L' with
    | nil => cases a <;> exact absurd h (fun h => h)
    | cons b L' =>
      cases i with
      | zero =>
        cases a with
        | none => cases hv
        | some x => cases b with
          | none => exact absurd h (fun h => h)
          | some u => obtain ⟨h1, -⟩ := h; subst h1; exact hv
      | succ i =>
        cases a with
        | none => exact ih (show Lle L L' from h) hv
        | some x => cases b with
          | none => exact absurd h (fun h => h)
          | some u => exact ih (show Lle L L' from h.2) hv
theorem Lle.set : ∀ {L L' : List (Option AV)}, Lle L L' → ∀ (i : Nat) (v : AV), Lle (L.set i (some v)) (L'.set i (some v)) := by
  intro L
  induction L with
  | nil => intro L' h i v; cases L' with
    | nil => exact trivial
    | cons a b => exact absurd h (fun h => h)
  | cons a L ih => intro L' h i v; cases L' with
    | nil => cases a <;> exact absurd h (fun h => h)
    | cons b L' =>
      cases i with
      | zero =>
        cases a with
        | none => exact ⟨rfl, h⟩
        | some x => cases b with
          | none => exact absurd h (fun h => h)
          | some u => exact ⟨rfl, h.2⟩
      | succ i =>
        cases a with
        | none => exact ih (show Lle L L' from h) i v
        | some x => cases b with
          | none => exact absurd h (fun h => h)
          | some u => exact ⟨h.1, ih (show Lle L L' from h.2) i v⟩
theorem Lle.rf : ∀ (L : List (Option AV)), Lle L L
  | [] => trivial
  | none :: L => Lle.rf L
  | some _ :: L => ⟨rfl, Lle.rf L⟩
theorem Lle.n {x : Option AV} {L L' : List (Option AV)} (h : Lle L L') : Lle (none :: L) (x :: L') := h
theorem Lle.s {v : AV} {L L' : List (Option AV)} (h : Lle L L') : Lle (some v :: L) (some v :: L') := ⟨rfl, h⟩
theorem Lle.z : Lle [] [] := trivial
theorem sp_wk {sc : SC} {E : AE} {pc : Nat} {L L' : List (Option AV)} {S : List AV} {w : AW} {b : Nat × Nat} {ps : List Prop} {st : St} (h : sp sc E (pc, L, S, w, b) = some (ps, st)) (hl : Lle L L') : ∃ L1, Lle st.2.1 L1 ∧ sp sc E (pc, L', S, w, b) = some (ps, (st.1, L1, st.2.2)) := by
  obtain ⟨i, ⟨ln, a, bb, pl⟩, ts, v⟩ := E
  cases i
  case iconst n =>
    cases h
    exact ⟨L', hl, rfl⟩
  case bipush n =>
    cases h
    exact ⟨L', hl, rfl⟩
  case sipush n =>
    cases h
    exact ⟨L', hl, rfl⟩
  case ldc_w n =>
    cases h
    exact ⟨L', hl, rfl⟩
  case iload_n n =>
    obtain ⟨x, hv, rfl, rfl⟩ := s_ild_i h
    refine ⟨L', hl, ?_⟩
    show s_ild _ _ L' S w b = _
    unfold s_ild
    rw [hl.get hv]
  case iload n =>
    obtain ⟨x, hv, rfl, rfl⟩ := s_ild_i h
    refine ⟨L', hl, ?_⟩
    show s_ild _ _ L' S w b = _
    unfold s_ild
    rw [hl.get hv]
  case aload_n n =>
    obtain ⟨x, hv, rfl, rfl⟩ := s_ald_i h
    refine ⟨L', hl, ?_⟩
    show s_ald _ _ L' S w b = _
    unfold s_ald
    rw [hl.get hv]
  case aload n =>
    obtain ⟨x, hv, rfl, rfl⟩ := s_ald_i h
    refine ⟨L', hl, ?_⟩
    show s_ald _ _ L' S w b = _
    unfold s_ald
    rw [hl.get hv]
  case istore_n n =>
    obtain ⟨x, S', rfl, hi, rfl, rfl⟩ := s_ist_i h
    refine ⟨_, hl.set _ _, ?_⟩
    show s_ist _ _ L' (.inl x :: S') w b = _
    unfold s_ist
    simp only []
    rw [if_pos (by rw [← hl.len]; exact hi)]
  case istore n =>
    obtain ⟨x, S', rfl, hi, rfl, rfl⟩ := s_ist_i h
    refine ⟨_, hl.set _ _, ?_⟩
    show s_ist _ _ L' (.inl x :: S') w b = _
    unfold s_ist
    simp only []
    rw [if_pos (by rw [← hl.len]; exact hi)]
  case astore_n n =>
    obtain ⟨x, S', rfl, hi, rfl, rfl⟩ := s_ast_i h
    refine ⟨_, hl.set _ _, ?_⟩
    show s_ast _ _ L' (.inr (some x) :: S') w b = _
    unfold s_ast
    simp only []
    rw [if_pos (by rw [← hl.len]; exact hi)]
  case astore n =>
    obtain ⟨x, S', rfl, hi, rfl, rfl⟩ := s_ast_i h
    refine ⟨_, hl.set _ _, ?_⟩
    show s_ast _ _ L' (.inr (some x) :: S') w b = _
    unfold s_ast
    simp only []
    rw [if_pos (by rw [← hl.len]; exact hi)]
  case iinc n q =>
    obtain ⟨x, hv, rfl, rfl⟩ := s_inc_i h
    refine ⟨_, hl.set _ _, ?_⟩
    show s_inc _ _ _ L' S w b = _
    unfold s_inc
    rw [hl.get hv]
  case iadd =>
    obtain ⟨x, y', S', rfl, rfl, rfl⟩ := s_bin_i h
    exact ⟨L', hl, rfl⟩
  case isub =>
    obtain ⟨x, y', S', rfl, rfl, rfl⟩ := s_bin_i h
    exact ⟨L', hl, rfl⟩
  case imul =>
    obtain ⟨x, y', S', rfl, rfl, rfl⟩ := s_bin_i h
    exact ⟨L', hl, rfl⟩
  case iand =>
    obtain ⟨x, y', S', rfl, rfl, rfl⟩ := s_bin_i h
    exact ⟨L', hl, rfl⟩
  case ior =>
    obtain ⟨x, y', S', rfl, rfl, rfl⟩ := s_bin_i h
    exact ⟨L', hl, rfl⟩
  case ixor =>
    obtain ⟨x, y', S', rfl, rfl, rfl⟩ := s_bin_i h
    exact ⟨L', hl, rfl⟩
  case ishl =>
    obtain ⟨x, y', S', rfl, rfl, rfl⟩ := s_bin_i h
    exact ⟨L', hl, rfl⟩
  case ishr =>
    obtain ⟨x, y', S', rfl, rfl, rfl⟩ := s_bin_i h
    exact ⟨L', hl, rfl⟩
  case iushr =>
    obtain ⟨x, y', S', rfl, rfl, rfl⟩ := s_bin_i h
    exact ⟨L', hl, rfl⟩
  case idiv =>
    obtain ⟨x, y', S', rfl, rfl, rfl⟩ := s_div_i h
    exact ⟨L', hl, rfl⟩
  case irem =>
    obtain ⟨x, y', S', rfl, rfl, rfl⟩ := s_div_i h
    exact ⟨L', hl, rfl⟩
  case ineg =>
    obtain ⟨x, S', rfl, rfl, rfl⟩ := s_neg_i h
    exact ⟨L', hl, rfl⟩
  case dup =>
    obtain ⟨v', S', rfl, rfl, rfl⟩ := s_dup_i h
    exact ⟨L', hl, rfl⟩
  case dup2 =>
    obtain ⟨v', u', S', rfl, rfl, rfl⟩ := s_dup2_i h
    exact ⟨L', hl, rfl⟩
  case goto off =>
    cases h
    exact ⟨L', hl, rfl⟩
  case ifCond cn off =>
    cases cn <;> (obtain ⟨x, S', rfl, rfl, rfl⟩ := s_if1_i h; exact ⟨L', hl, rfl⟩)
  case if_icmp cn off =>
    cases cn <;> (obtain ⟨x, y', S', rfl, rfl, rfl⟩ := s_if2_i h; exact ⟨L', hl, rfl⟩)
  case tableswitch df lo hi offs =>
    obtain ⟨x, S', rfl, rfl, rfl⟩ := s_if1_i h
    exact ⟨L', hl, rfl⟩
  case getfield n =>
    obtain ⟨o, fs, v', S', rfl, hw, hv, rfl, rfl⟩ := s_get_i h
    refine ⟨L', hl, ?_⟩
    show s_get _ _ _ L' (.inr (some (some o)) :: S') w b = _
    unfold s_get
    simp [hw, hv]
  case putfield n =>
    obtain ⟨o, fs, v', S', rfl, hw, hkl, hf, rfl, rfl⟩ := s_put_i h
    refine ⟨L', hl, ?_⟩
    show s_put _ _ _ L' (v' :: .inr (some (some o)) :: S') w b = _
    unfold s_put
    simp only [hw]
    rw [if_pos ⟨trivial, hkl, hf⟩]
  case iaload =>
    obtain ⟨i, n, f, S', rfl, rfl, hq⟩ := s_iald_i (sc := sc) h
    refine ⟨L', hl, ?_⟩
    rcases hq with ⟨o, rfl, hw⟩ | ⟨rfl, hz0, hsc0⟩
    · show s_iald _ sc _ L' (.inl i :: .inr (some (some o)) :: S') w b = _
      unfold s_iald
      simp [hw]
    · subst hsc0
      rfl
  case baload =>
    obtain ⟨i, n, f, S', rfl, rfl, hq⟩ := s_iald_i (sc := sc) h
    refine ⟨L', hl, ?_⟩
    rcases hq with ⟨o, rfl, hw⟩ | ⟨rfl, hz0, hsc0⟩
    · show s_iald _ sc _ L' (.inl i :: .inr (some (some o)) :: S') w b = _
      unfold s_iald
      simp [hw]
    · cases hz0
  case iastore =>
    obtain ⟨x, i, o, n, f, S', rfl, hw, rfl, rfl⟩ := s_iast_i h
    refine ⟨L', hl, ?_⟩
    show s_iast _ _ L' (.inl x :: .inl i :: .inr (some (some o)) :: S') w b = _
    unfold s_iast
    simp [hw]
  case bastore =>
    obtain ⟨x, i, o, n, f, S', rfl, hw, rfl, rfl⟩ := s_iast_i h
    refine ⟨L', hl, ?_⟩
    show s_iast _ _ L' (.inl x :: .inl i :: .inr (some (some o)) :: S') w b = _
    unfold s_iast
    simp [hw]
  case aaload =>
    obtain ⟨i, o, n, f, S', rfl, hw, rfl, rfl⟩ := s_aald_i h
    refine ⟨L', hl, ?_⟩
    show s_aald _ L' (.inl i :: .inr (some (some o)) :: S') w b = _
    unfold s_aald
    simp only [hw]
  case aastore =>
    obtain ⟨j, i, o, n, f, fs, S', rfl, hw, hj, rfl, rfl⟩ := s_aast_i h
    refine ⟨L', hl, ?_⟩
    show s_aast _ L' (.inr (some (some j)) :: .inl i :: .inr (some (some o)) :: S') w b = _
    unfold s_aast
    simp only [hw, hj]
  case arraylength =>
    obtain ⟨n, f, S', rfl, hsc0, rfl, rfl⟩ := s_alen_i h
    subst hsc0
    exact ⟨L', hl, rfl⟩
  case newarray t =>
    cases t
    case int =>
      obtain ⟨n, S', rfl, hc, rfl, rfl⟩ := s_newa_i h
      refine ⟨L', hl, ?_⟩
      show s_newa _ _ L' (.inl n :: S') w b = _
      unfold s_newa
      simp only []
      rw [if_pos hc]
    case boolean =>
      obtain ⟨n, S', rfl, hc, rfl, rfl⟩ := s_newa_i h
      refine ⟨L', hl, ?_⟩
      show s_newa _ _ L' (.inl n :: S') w b = _
      unfold s_newa
      simp only []
      rw [if_pos hc]
    all_goals (cases h)
  case anewarray n =>
    obtain ⟨n, S', rfl, hc, rfl, rfl⟩ := s_newq_i h
    refine ⟨L', hl, ?_⟩
    show s_newq _ L' (.inl n :: S') w b = _
    unfold s_newq
    simp only []
    rw [if_pos hc]
  case new n =>
    obtain ⟨hc, rfl, rfl⟩ := s_new_i h
    refine ⟨L', hl, ?_⟩
    show s_new _ _ L' S w b = _
    unfold s_new
    rw [if_pos hc]
  case invokespecial n =>
    obtain ⟨o, S', ht, rfl, hs8, rfl, rfl⟩ := s_obj_i h
    have ht' : ts = [4] := ht
    subst ht'
    refine ⟨L', hl, ?_⟩
    show s_obj [4] _ L' (.inr (some (some o)) :: S') w b = _
    unfold s_obj
    simp only []
    rw [if_pos hs8]
  all_goals (cases h)
theorem Ex_wk : ∀ {n : Nat} {sc : SC} {y pc : Nat} {L L' : List (Option AV)} {S : List AV} {w : AW} {b : Nat × Nat} {r : Option Int32 × AW}, Ex n sc y (pc, L, S, w, b) r → Lle L L' → Ex n sc y (pc, L', S, w, b) r := by
  intro n
  induction n with
  | zero => intro sc y pc L L' S w b r h; exact absurd h (fun h => h)
  | succ n ih =>
    intro sc y pc L L' S w b r h hl
    obtain ⟨E, hE, hcase⟩ := h
    refine ⟨E, hE, ?_⟩
    rcases hcase with ⟨ps, st', h1, h2, h3⟩ | h | h | ⟨hic, As, S', r', g1, g2, g3, g4, g5, g6, g7, g8⟩
    · obtain ⟨L1, hL1, h4⟩ := sp_wk h1 hl
      obtain ⟨pc1, L2, S2, w2, b2⟩ := st'
      exact Or.inl ⟨ps, _, h4, h2, ih h3 hL1⟩
    · exact Or.inr (Or.inl h)
    · exact Or.inr (Or.inr (Or.inl h))
    · exact Or.inr (Or.inr (Or.inr ⟨hic, As, S', r', g1, g2, g3, g4, g5, g6, g7, ih g8 hl⟩))
theorem Ev.wk {sc : SC} {y pc : Nat} {L L' : List (Option AV)} {S : List AV} {w : AW} {b : Nat × Nat} {r : Option Int32 × AW} (hl : Lle L L') (h : Ev sc y (pc, L, S, w, b) r) : Ev sc y (pc, L', S, w, b) r := by
  obtain ⟨n, h⟩ := h
  exact ⟨n, Ex_wk h hl⟩
theorem Ev.to {sc : SC} {y : Nat} {st st' : St} {r : Option Int32 × AW} (h : Ev sc y st r) (hs : st' = st) : Ev sc y st' r := by rw [hs]; exact h
/-- a branch: to the one place or the other -/
theorem Ev.br {sc : SC} {y : Nat} {c : Prop} [Decidable c] {t f : Nat} {q : List (Option AV) × List AV × AW × (Nat × Nat)} {r : Option Int32 × AW} (ht : c → Ev sc y (t, q) r) (hf : ¬ c → Ev sc y (f, q) r) : Ev sc y (if c then t else f, q) r := by
  by_cases h : c
  · rw [if_pos h]; exact ht h
  · rw [if_neg h]; exact hf h
theorem Ev.brK {sc : SC} {y : Nat} {c : Prop} [Decidable c] {t f : Nat} {q : List (Option AV) × List AV × AW × (Nat × Nat)} {r : Option Int32 × AW} {O : Type} {K : O → Prop} {A B : O} (k : K (if c then A else B)) (ht : c → K A → Ev sc y (t, q) r) (hf : ¬ c → K B → Ev sc y (f, q) r) : Ev sc y (if c then t else f, q) r := by
  by_cases h : c
  · rw [if_pos h] at k ⊢; exact ht h k
  · rw [if_neg h] at k ⊢; exact hf h k
/-- the same, the other way round -/
theorem Ev.brN {sc : SC} {y : Nat} {c : Prop} [Decidable c] {t f : Nat} {q : List (Option AV) × List AV × AW × (Nat × Nat)} {r : Option Int32 × AW} (hc : c) (h : Ev sc y (t, q) r) : Ev sc y (if c then t else f, q) r := by rw [if_pos hc]; exact h
theorem Ev.brF {sc : SC} {y : Nat} {c : Prop} [Decidable c] {t f : Nat} {q : List (Option AV) × List AV × AW × (Nat × Nat)} {r : Option Int32 × AW} (hc : ¬ c) (h : Ev sc y (f, q) r) : Ev sc y (if c then t else f, q) r := by rw [if_neg hc]; exact h
/-- a switch -/
theorem Ev.swK {sc : SC} {y : Nat} {x : Int32} {j t d : Nat} {ts : List Nat} {q : List (Option AV) × List AV × AW × (Nat × Nat)} {r : Option Int32 × AW} {O : Type} {K : O → Prop} {A B : O} (v : Int32) (hv : nI j = v) (k : K (if x = v then A else B)) (ht : x = v → K A → Ev sc y (t, q) r) (hf : ¬ x = v → K B → Ev sc y (s_sw x (j + 1) ts d, q) r) : Ev sc y (s_sw x j (t :: ts) d, q) r := by
  subst hv
  show Ev sc y (if x = nI j then t else s_sw x (j + 1) ts d, q) r
  exact Ev.brK k ht hf
/-! loops: a counter from a on, n times; with an exit -/
def forC {V : Type} (f : Nat → V → V) (a : Nat) : Nat → V → V
  | 0, v => v
  | n + 1, v => f (a + n) (forC f a n v)
/-- by choice, so that nothing unfolds it -/
noncomputable def forN {V : Type} (f : Nat → V → V) (a n : Nat) (v : V) : V := Classical.choose (⟨forC f a n v, rfl⟩ : ∃ x, x = forC f a n v)
theorem forN_eq {V : Type} (f : Nat → V → V) (a n : Nat) (v : V) : forN f a n v = forC f a n v := Classical.choose_spec (⟨forC f a n v, rfl⟩ : ∃ x, x = forC f a n v)
theorem forN_0 {V : Type} (f : Nat → V → V) (a : Nat) (v : V) : forN f a 0 v = v := by rw [forN_eq]; rfl
theorem forN_s {V : Type} (f : Nat → V → V) (a n : Nat) (v : V) : forN f a (n + 1) v = f (a + n) (forN f a n v) := by rw [forN_eq, forN_eq]; rfl
theorem Ev.loopN {sc : SC} {y : Nat} {r : Option Int32 × AW} {V : Type} (T : Int32 → V → St) (f : Nat → V → V) (a n N : Nat) (v0 : V) {c0 : Int32} (hc : c0 = nI a) (hN : a + n = N) (hs : ∀ j, j < n → Ev sc y (T (nI (a + j) + 1) (f (a + j) (forN f a j v0))) r → Ev sc y (T (nI (a + j)) (forN f a j v0)) r) (k : Ev sc y (T (nI N) (forN f a n v0)) r) : Ev sc y (T c0 v0) r := by
  subst hN
  have key : ∀ j, j ≤ n → Ev sc y (T (nI (a + j)) (forN f a j v0)) r → Ev sc y (T (nI a) v0) r := by
    intro j
    induction j with
    | zero => intro _ h; rw [forN_0] at h; exact h
    | succ j ih => intro hj h; exact ih (by omega) (hs j (by omega) (by rw [nI_1]; rw [forN_s] at h; exact h))
  rw [hc]
  exact key n (Nat.le_refl n) k
def forXC {V X : Type} (f : Nat → V → V ⊕ X) (a : Nat) : Nat → V → V ⊕ X
  | 0, v => .inl v
  | n + 1, v => match forXC f a n v with
    | .inl v' => f (a + n) v'
    | .inr x => .inr x
noncomputable def forX {V X : Type} (f : Nat → V → V ⊕ X) (a n : Nat) (v : V) : V ⊕ X := Classical.choose (⟨forXC f a n v, rfl⟩ : ∃ x, x = forXC f a n v)
theorem forX_eq {V X : Type} (f : Nat → V → V ⊕ X) (a n : Nat) (v : V) : forX f a n v = forXC f a n v := Classical.choose_spec (⟨forXC f a n v, rfl⟩ : ∃ x, x = forXC f a n v)
theorem forX_0 {V X : Type} (f : Nat → V → V ⊕ X) (a : Nat) (v : V) : forX f a 0 v = .inl v := by rw [forX_eq]; rfl
theorem forX_l {V X : Type} {f : Nat → V → V ⊕ X} {a n : Nat} {v v' : V} (h : forX f a n v = .inl v') : forX f a (n + 1) v = f (a + n) v' := by
  rw [forX_eq] at h ⊢
  simp only [forXC, h]
theorem forX_r {V X : Type} {f : Nat → V → V ⊕ X} {a n : Nat} {v : V} {x : X} (h : forX f a n v = .inr x) : forX f a (n + 1) v = .inr x := by
  rw [forX_eq] at h ⊢
  simp only [forXC, h]
/-- what a step of such a loop comes to: the next turn, or the exit -/
def eX {V X : Type} (A : V → Prop) (B : X → Prop) : V ⊕ X → Prop
  | .inl v => A v
  | .inr x => B x
theorem Ev.loopX {sc : SC} {y : Nat} {r : Option Int32 × AW} {V X : Type} (T : Int32 → V → St) (f : Nat → V → V ⊕ X) (a n : Nat) (v0 : V) {c0 : Int32} (hc : c0 = nI a) (Bx : X → Prop) (hx : ∃ x, forX f a n v0 = .inr x) (hB : ∀ x, forX f a n v0 = .inr x → Bx x) (hs : ∀ j v, j < n → forX f a j v0 = .inl v → ∀ K : V ⊕ X → Prop, K = eX (fun v' => Ev sc y (T (nI (a + j) + 1) v') r) Bx → K (f (a + j) v) → Ev sc y (T (nI (a + j)) v) r) : Ev sc y (T c0 v0) r := by
  obtain ⟨x, hx⟩ := hx
  have hB := hB x hx
  have key : ∀ j v, j ≤ n → forX f a j v0 = .inl v → Ev sc y (T (nI (a + j)) v) r → Ev sc y (T (nI a) v0) r := by
    intro j
    induction j with
    | zero => intro v _ h1 h; rw [forX_0] at h1; cases h1; exact h
    | succ j ih =>
      intro v hj h1 h
      cases h2 : forX f a j v0 with
      | inl v' =>
        rw [forX_l h2] at h1
        refine ih v' (by omega) h2 (hs j v' (by omega) h2 _ rfl ?_)
        rw [h1]
        show Ev sc y (T (nI (a + j) + 1) v) r
        rw [nI_1]
        exact h
      | inr x' => rw [forX_r h2] at h1; cases h1
  have main : ∀ i, i ≤ n → forX f a i v0 = .inr x → Ev sc y (T (nI a) v0) r := by
    intro i
    induction i with
    | zero => intro _ h; rw [forX_0] at h; cases h
    | succ i ih =>
      intro hi h
      cases h2 : forX f a i v0 with
      | inl v' =>
        rw [forX_l h2] at h
        refine key i v' (by omega) h2 (hs i v' (by omega) h2 _ rfl ?_)
        rw [h]
        exact hB
      | inr x' =>
        rw [forX_r h2] at h
        cases h
        exact ih (by omega) h2
  rw [hc]
  exact main n (Nat.le_refl n) hx
def unX {V : Type} : V ⊕ V → V
  | .inl v => v
  | .inr v => v
/-- all exits come to one place -/
theorem Ev.loopA {sc : SC} {y : Nat} {r : Option Int32 × AW} {V : Type} (T : Int32 → V → St) (Te : V → St) (f : Nat → V → V ⊕ V) (a n : Nat) (v0 : V) {c0 : Int32} (hc : c0 = nI a) (hx : ∃ x, forX f a n v0 = .inr x) (hs : ∀ j v, j < n → forX f a j v0 = .inl v → ∀ K : V ⊕ V → Prop, K = eX (fun v' => Ev sc y (T (nI (a + j) + 1) v') r) (fun x => Ev sc y (Te x) r) → K (f (a + j) v) → Ev sc y (T (nI (a + j)) v) r) (k : Ev sc y (Te (unX (forX f a n v0))) r) : Ev sc y (T c0 v0) r := by
  refine Ev.loopX T f a n v0 hc (fun x => Ev sc y (Te x) r) hx (fun x hx => ?_) hs
  rw [hx] at k
  exact k
def exB {V X : Type} (d : X) : V ⊕ X → X
  | .inr x => x
  | .inl _ => d
/-- exits that are the end of the method -/
theorem Ev.loopB {sc : SC} {y : Nat} {r : Option Int32 × AW} {V X : Type} (T : Int32 → V → St) (f : Nat → V → V ⊕ X) (a n : Nat) (v0 : V) {c0 : Int32} (hc : c0 = nI a) (d : X) (K0 : X → Prop) (hx : ∃ x, forX f a n v0 = .inr x) (k : K0 (exB d (forX f a n v0))) (hs : ∀ j v, j < n → forX f a j v0 = .inl v → ∀ K : V ⊕ X → Prop, K = eX (fun v' => Ev sc y (T (nI (a + j) + 1) v') r) K0 → K (f (a + j) v) → Ev sc y (T (nI (a + j)) v) r) : Ev sc y (T c0 v0) r := by
  refine Ev.loopX T f a n v0 hc K0 hx (fun x hx => ?_) hs
  rw [hx] at k
  exact k
theorem in_2 {x : Int32} (h : x = 0 ∨ x = 1) (h0 : ¬ x = 0) : x = 1 := h.resolve_left h0
end
section
/-! the cells: what the class has, then what the reference has -/
abbrev Sg : Type := (Nat → Nat → Int32) × (Nat → Int32)
def mdl (σ : Sg) : AW := [.inr (.inr (5, [vR 40, vR 41, vR 42, vR 43, vR 44, vR 45, vR 46, vR 47, vI (σ.2 11), vI (σ.2 12), vI (σ.2 13), vI (σ.2 14), vR 48, vR 49, vR 50])), .inl (false, 80, σ.1 40), .inl (false, 240, σ.1 41), .inl (true, 2, σ.1 42), .inl (false, 64, σ.1 43), .inl (false, 8, σ.1 44), .inl (false, 64, σ.1 45), .inl (false, 8, σ.1 46), .inl (false, 1024, σ.1 47), .inl (false, 8, σ.1 48), .inl (false, 64, σ.1 49), .inl (false, 8, σ.1 50)]
def wd (σ : Sg) (md : AW) : AW := .inr (.inr (4, [vR 1, vR 4, vR 12, vR 14, vR 16, vI (σ.2 0)])) :: .inr (.inr (0, [vR 2, vR 3, vI (σ.2 1)])) :: .inl (false, 8, σ.1 2) :: .inl (false, 8, σ.1 3) :: .inr (.inr (1, [vR 1, vR 5, vR 6, vR 7, vR 8, vR 9, vR 10, vR 11])) :: .inl (false, 8, σ.1 5) :: .inl (false, 8, σ.1 6) :: .inl (false, 8, σ.1 7) :: .inl (false, 64, σ.1 8) :: .inl (false, 8, σ.1 9) :: .inl (false, 64, σ.1 10) :: .inl (false, 64, σ.1 11) :: .inr (.inr (2, [vR 4, vR 13, vI (σ.2 4), vI (σ.2 5), vI (σ.2 6), vI (σ.2 7)])) :: .inl (false, 8, σ.1 13) :: .inr (.inr (3, [vR 4, vR 12, vR 15, vI (σ.2 8), vI (σ.2 9), vI (σ.2 10)])) :: .inl (false, 8, σ.1 15) :: .inr (.inl (2, va_up (va_up (fun _ => none) 0 (some 17)) 1 (some 28))) :: .inr (.inr (1, [vR 18, vR 21, vR 22, vR 23, vR 24, vR 25, vR 26, vR 27])) :: .inr (.inr (0, [vR 19, vR 20, vI (σ.2 2)])) :: .inl (false, 8, σ.1 19) :: .inl (false, 8, σ.1 20) :: .inl (false, 8, σ.1 21) :: .inl (false, 8, σ.1 22) :: .inl (false, 8, σ.1 23) :: .inl (false, 64, σ.1 24) :: .inl (false, 8, σ.1 25) :: .inl (false, 64, σ.1 26) :: .inl (false, 64, σ.1 27) :: .inr (.inr (1, [vR 29, vR 32, vR 33, vR 34, vR 35, vR 36, vR 37, vR 38])) :: .inr (.inr (0, [vR 30, vR 31, vI (σ.2 3)])) :: .inl (false, 8, σ.1 30) :: .inl (false, 8, σ.1 31) :: .inl (false, 8, σ.1 32) :: .inl (false, 8, σ.1 33) :: .inl (false, 8, σ.1 34) :: .inl (false, 64, σ.1 35) :: .inl (false, 8, σ.1 36) :: .inl (false, 64, σ.1 37) :: .inl (false, 64, σ.1 38) :: md
def sA (j : Nat) (f : Nat → Int32) (σ : Sg) : Sg := (fun i => if i = j then f else σ.1 i, σ.2)
def sV (j : Nat) (x : Int32) (σ : Sg) : Sg := (σ.1, fun i => if i = j then x else σ.2 i)
end
section
/-! OF MeshNames.isNode(I)Z -/
noncomputable def f_C_isNode (x1 : Int32) : Int32 := (if x1 < 0 then (0 : Int32) else (if (8 : Int32) ≤ x1 then (0 : Int32) else (1 : Int32)))
theorem z_C_isNode (x1 : Int32) : (f_C_isNode x1) &&& 1 = f_C_isNode x1 := by
  unfold f_C_isNode
  (repeat' split) <;> first | rfl
set_option maxRecDepth 8000 in
set_option maxHeartbeats 4000000 in
theorem e_C_isNode (w : AW) (x1 : Int32)  : Ev none 14 (0, [some (vI x1)], [], w, (0, 0)) (some (f_C_isNode x1), w) := by
  suffices hh : ∀ (r : Option Int32 × AW) (K : (Int32) → Prop), K = (fun o : Int32 => (some o, w) = r) → K (if x1 < 0 then (0 : Int32) else (if (8 : Int32) ≤ x1 then (0 : Int32) else (1 : Int32))) → Ev none 14 (0, [some (vI x1)], [], w, (0, 0)) r from hh _ _ rfl rfl
  intro r K hK k
  refine Ev.go (st' := (if x1 < 0 then 14 else 4, [some (vI x1)], [], w, (0, 0))) 2 rfl trivial ?_
  have kJ1 : Ev none 14 (15, [none], [vI (if x1 < 0 then (0 : Int32) else (if (8 : Int32) ≤ x1 then (0 : Int32) else (1 : Int32)))], w, (0, 0)) r := by
    rw [hK] at k
    have k3 : (some (if x1 < 0 then (0 : Int32) else (if (8 : Int32) ≤ x1 then (0 : Int32) else (1 : Int32))), w) = r := k
    rw [← k3]
    exact Ev.iretz rfl rfl (by (repeat' split) <;> first | rfl)
  refine Ev.br (fun h1 => ?_) (fun h1 => ?_)
  · refine Ev.go (st' := (15, [some (vI x1)], [vI (0 : Int32)], w, (0, 0))) 1 rfl trivial ?_
    exact Ev.wk (Lle.n Lle.z) (Ev.to kJ1 (by simp only [if_pos h1]))
  · refine Ev.go (st' := (if (8 : Int32) ≤ x1 then 14 else 10, [some (vI x1)], [], w, (0, 0))) 3 rfl trivial ?_
    have kJ2 : Ev none 14 (15, [none], [vI (if (8 : Int32) ≤ x1 then (0 : Int32) else (1 : Int32))], w, (0, 0)) r := by
      exact Ev.wk (Lle.n Lle.z) (Ev.to kJ1 (by simp only [if_neg h1]))
    refine Ev.br (fun h2 => ?_) (fun h2 => ?_)
    · refine Ev.go (st' := (15, [some (vI x1)], [vI (0 : Int32)], w, (0, 0))) 1 rfl trivial ?_
      exact Ev.wk (Lle.n Lle.z) (Ev.to kJ2 (by simp only [if_pos h2]))
    · refine Ev.go (st' := (15, [some (vI x1)], [vI (1 : Int32)], w, (0, 0))) 2 rfl trivial ?_
      exact Ev.wk (Lle.n Lle.z) (Ev.to kJ2 (by simp only [if_neg h2]))
end
section
/-! OF MeshNames.isName(I)Z -/
noncomputable def f_C_isName (x1 : Int32) : Int32 := (if x1 < 0 then (0 : Int32) else (if (256 : Int32) ≤ x1 then (0 : Int32) else (1 : Int32)))
theorem z_C_isName (x1 : Int32) : (f_C_isName x1) &&& 1 = f_C_isName x1 := by
  unfold f_C_isName
  (repeat' split) <;> first | rfl
set_option maxRecDepth 8000 in
set_option maxHeartbeats 4000000 in
theorem e_C_isName (w : AW) (x1 : Int32)  : Ev none 20 (0, [some (vI x1)], [], w, (0, 0)) (some (f_C_isName x1), w) := by
  suffices hh : ∀ (r : Option Int32 × AW) (K : (Int32) → Prop), K = (fun o : Int32 => (some o, w) = r) → K (if x1 < 0 then (0 : Int32) else (if (256 : Int32) ≤ x1 then (0 : Int32) else (1 : Int32))) → Ev none 20 (0, [some (vI x1)], [], w, (0, 0)) r from hh _ _ rfl rfl
  intro r K hK k
  refine Ev.go (st' := (if x1 < 0 then 15 else 4, [some (vI x1)], [], w, (0, 0))) 2 rfl trivial ?_
  have kJ1 : Ev none 20 (16, [none], [vI (if x1 < 0 then (0 : Int32) else (if (256 : Int32) ≤ x1 then (0 : Int32) else (1 : Int32)))], w, (0, 0)) r := by
    rw [hK] at k
    have k3 : (some (if x1 < 0 then (0 : Int32) else (if (256 : Int32) ≤ x1 then (0 : Int32) else (1 : Int32))), w) = r := k
    rw [← k3]
    exact Ev.iretz rfl rfl (by (repeat' split) <;> first | rfl)
  refine Ev.br (fun h1 => ?_) (fun h1 => ?_)
  · refine Ev.go (st' := (16, [some (vI x1)], [vI (0 : Int32)], w, (0, 0))) 1 rfl trivial ?_
    exact Ev.wk (Lle.n Lle.z) (Ev.to kJ1 (by simp only [if_pos h1]))
  · refine Ev.go (st' := (if (256 : Int32) ≤ x1 then 15 else 11, [some (vI x1)], [], w, (0, 0))) 3 rfl trivial ?_
    have kJ2 : Ev none 20 (16, [none], [vI (if (256 : Int32) ≤ x1 then (0 : Int32) else (1 : Int32))], w, (0, 0)) r := by
      exact Ev.wk (Lle.n Lle.z) (Ev.to kJ1 (by simp only [if_neg h1]))
    refine Ev.br (fun h2 => ?_) (fun h2 => ?_)
    · refine Ev.go (st' := (16, [some (vI x1)], [vI (0 : Int32)], w, (0, 0))) 1 rfl trivial ?_
      exact Ev.wk (Lle.n Lle.z) (Ev.to kJ2 (by simp only [if_pos h2]))
    · refine Ev.go (st' := (16, [some (vI x1)], [vI (1 : Int32)], w, (0, 0))) 2 rfl trivial ?_
      exact Ev.wk (Lle.n Lle.z) (Ev.to kJ2 (by simp only [if_neg h2]))
end
section
/-! OF MeshNames.has(II)Z -/
noncomputable def f_C_has (x1 : Int32) (x2 : Int32) : Int32 := (if ((x1 >>> (x2 &&& 31)) &&& (1 : Int32)) = 0 then (0 : Int32) else (1 : Int32))
theorem z_C_has (x1 : Int32) (x2 : Int32) : (f_C_has x1 x2) &&& 1 = f_C_has x1 x2 := by
  unfold f_C_has
  (repeat' split) <;> first | rfl
set_option maxRecDepth 8000 in
set_option maxHeartbeats 4000000 in
theorem e_C_has (w : AW) (x1 x2 : Int32)  : Ev none 6 (0, [some (vI x1), some (vI x2)], [], w, (0, 0)) (some (f_C_has x1 x2), w) := by
  suffices hh : ∀ (r : Option Int32 × AW) (K : (Int32) → Prop), K = (fun o : Int32 => (some o, w) = r) → K (if ((x1 >>> (x2 &&& 31)) &&& (1 : Int32)) = 0 then (0 : Int32) else (1 : Int32)) → Ev none 6 (0, [some (vI x1), some (vI x2)], [], w, (0, 0)) r from hh _ _ rfl rfl
  intro r K hK k
  refine Ev.go (st' := (if ((x1 >>> (x2 &&& 31)) &&& (1 : Int32)) = 0 then 12 else 8, [some (vI x1), some (vI x2)], [], w, (0, 0))) 6 rfl trivial ?_
  have kJ1 : Ev none 6 (13, [none, none], [vI (if ((x1 >>> (x2 &&& 31)) &&& (1 : Int32)) = 0 then (0 : Int32) else (1 : Int32))], w, (0, 0)) r := by
    rw [hK] at k
    have k3 : (some (if ((x1 >>> (x2 &&& 31)) &&& (1 : Int32)) = 0 then (0 : Int32) else (1 : Int32)), w) = r := k
    rw [← k3]
    exact Ev.iretz rfl rfl (by (repeat' split) <;> first | rfl)
  refine Ev.br (fun h1 => ?_) (fun h1 => ?_)
  · refine Ev.go (st' := (13, [some (vI x1), some (vI x2)], [vI (0 : Int32)], w, (0, 0))) 1 rfl trivial ?_
    exact Ev.wk (Lle.n (Lle.n Lle.z)) (Ev.to kJ1 (by simp only [if_pos h1]))
  · refine Ev.go (st' := (13, [some (vI x1), some (vI x2)], [vI (1 : Int32)], w, (0, 0))) 2 rfl trivial ?_
    exact Ev.wk (Lle.n (Lle.n Lle.z)) (Ev.to kJ1 (by simp only [if_neg h1]))
end
section
/-! OF MeshNames$Mesh.isUp(I)Z -/
noncomputable def f_Mesh_isUp (x1 : Int32) (upSet : Int32) : Int32 := (f_C_has upSet x1)
theorem z_Mesh_isUp (x1 : Int32) (upSet : Int32) : (f_Mesh_isUp x1 upSet) &&& 1 = f_Mesh_isUp x1 upSet := by
  unfold f_Mesh_isUp
  (repeat' split) <;> first | rfl | exact z_C_has _ _
set_option maxRecDepth 8000 in
set_option maxHeartbeats 4000000 in
theorem e_Mesh_isUp_1 (σ : Sg) (md : AW) (x1 : Int32)  : Ev none 8 (0, [some (vR 1), some (vI x1)], [], wd σ md, (0, 0)) (some (f_Mesh_isUp x1 (σ.2 1)), wd σ md) := by
  suffices hh : ∀ (r : Option Int32 × AW) (K : (Int32) → Prop), K = (fun o : Int32 => (some o, wd σ md) = r) → K (f_C_has (σ.2 1) x1) → Ev none 8 (0, [some (vR 1), some (vI x1)], [], wd σ md, (0, 0)) r from hh _ _ rfl rfl
  intro r K hK k
  refine Ev.go (st' := (5, [some (vR 1), some (vI x1)], [vI x1, vI (σ.2 1)], wd σ md, (0, 0))) 3 rfl trivial ?_
  refine Ev.callI (a := 6) (As := [vI (σ.2 1), vI x1]) [] (f_C_has (σ.2 1) x1) (wd σ md) rfl (e_C_has (wd σ md) (σ.2 1) x1) ?_
  rw [hK] at k
  have k3 : (some (f_C_has (σ.2 1) x1), wd σ md) = r := k
  rw [← k3]
  exact Ev.iretz rfl rfl (by exact z_C_has (σ.2 1) x1)
end
section
/-! OF MeshNames$Mesh.isTaken(I)Z -/
noncomputable def b_Mesh_isTaken_1 (upSet : Int32) (names : Nat → Int32) (p1 : Int32) (j : Nat) (v : Unit) : (Unit) ⊕ (Int32) := (if (8 : Int32) ≤ (nI j) then (.inr (0 : Int32)) else (if (f_Mesh_isUp (nI j) upSet) = 0 then (.inl ()) else (if (names (nI j).toNatClampNeg) = p1 then (.inr (1 : Int32)) else (.inl ()))))
def P_Mesh_isTaken_1 (upSet : Int32) (names : Nat → Int32) (p1 : Int32) (j : Nat) (v : Unit) : Prop := (((8 : Int32) ≤ (nI j) → True) ∧ (¬ ((8 : Int32) ≤ (nI j)) → ((((f_Mesh_isUp (nI j) upSet) = 0 → True) ∧ (¬ ((f_Mesh_isUp (nI j) upSet) = 0) → (vp_in (nI j) 8 ∧ True))) ∧ True))) ∧ True
noncomputable def f_Mesh_isTaken (x1 : Int32) (upSet : Int32) (names : Nat → Int32) : Int32 := (exB 0 (forX (b_Mesh_isTaken_1 upSet names x1) 0 9 ()))
def P_Mesh_isTaken (x1 : Int32) (upSet : Int32) (names : Nat → Int32) : Prop := (∃ x, forX (b_Mesh_isTaken_1 upSet names x1) 0 9 () = .inr x) ∧ (∀ j v, j < 9 → forX (b_Mesh_isTaken_1 upSet names x1) 0 j () = .inl v → P_Mesh_isTaken_1 upSet names x1 (0 + j) v) ∧ True
set_option maxRecDepth 8000 in
set_option maxHeartbeats 4000000 in
theorem e_Mesh_isTaken_1 (σ : Sg) (md : AW) (x1 : Int32) (hP : P_Mesh_isTaken x1 (σ.2 1) (σ.1 2))  : Ev none 21 (0, [some (vR 1), some (vI x1), none], [], wd σ md, (0, 0)) (some (f_Mesh_isTaken x1 (σ.2 1) (σ.1 2)), wd σ md) := by
  suffices hh : ∀ (r : Option Int32 × AW) (K : (Int32) → Prop), K = (fun o : Int32 => (some o, wd σ md) = r) → K (exB 0 (forX (b_Mesh_isTaken_1 (σ.2 1) (σ.1 2) x1) 0 9 ())) → Ev none 21 (0, [some (vR 1), some (vI x1), none], [], wd σ md, (0, 0)) r from hh _ _ rfl rfl
  intro r K hK k
  refine Ev.go (st' := (2, [some (vR 1), some (vI x1), some (vI (0 : Int32))], [], wd σ md, (0, 0))) 2 rfl trivial ?_
  refine Ev.wk (Lle.s (Lle.s (Lle.s Lle.z))) ?_
  refine Ev.loopB (fun c v => (2, [some (vR 1), some (vI x1), some (vI c)], [], wd σ md, (0, 0))) (b_Mesh_isTaken_1 (σ.2 1) (σ.1 2) x1) 0 9 () (c0 := (0 : Int32)) rfl 0 K hP.1 k (fun j v1 hj hv K1 hK1 k => ?_)
  · have hp1 := hP.2.1 j v1 hj hv
    have hi1 : 0 + j < 0 + 9 := by omega
    clear hj hv
    generalize 0 + j = i1 at hi1 hK1 hp1 k ⊢
    replace k : K1 (if (8 : Int32) ≤ (nI i1) then (.inr (0 : Int32)) else (if (f_Mesh_isUp (nI i1) (σ.2 1)) = 0 then (.inl ()) else (if ((σ.1 2) (nI i1).toNatClampNeg) = x1 then (.inr (1 : Int32)) else (.inl ())))) := k
    show Ev none 21 (2, [some (vR 1), some (vI x1), some (vI (nI i1))], [], wd σ md, (0, 0)) r
    refine Ev.go (st' := (if (8 : Int32) ≤ (nI i1) then 34 else 8, [some (vR 1), some (vI x1), some (vI (nI i1))], [], wd σ md, (0, 0))) 3 rfl trivial ?_
    refine Ev.brK (K := K1) k (fun h2 k => ?_) (fun h2 k => ?_)
    · refine Ev.go (st' := (35, [some (vR 1), some (vI x1), some (vI (nI i1))], [vI (0 : Int32)], wd σ md, (0, 0))) 1 rfl trivial ?_
      rw [hK1] at k
      replace k : K (0 : Int32) := k
      rw [hK] at k
      have k3 : (some (0 : Int32), wd σ md) = r := k
      rw [← k3]
      exact Ev.iretz rfl rfl (by rfl)
    · refine Ev.go (st' := (10, [some (vR 1), some (vI x1), some (vI (nI i1))], [vI (nI i1), vR 1], wd σ md, (0, 0))) 2 rfl trivial ?_
      refine Ev.callI (a := 8) (As := [vR 1, vI (nI i1)]) [] (f_Mesh_isUp (nI i1) (σ.2 1)) (wd σ md) rfl (e_Mesh_isUp_1 σ md (nI i1)) ?_
      refine Ev.go (st' := (if (f_Mesh_isUp (nI i1) (σ.2 1)) = 0 then 28 else 16, [some (vR 1), some (vI x1), some (vI (nI i1))], [], wd σ md, (0, 0))) 1 rfl trivial ?_
      refine Ev.brK (K := K1) k (fun h3 k => ?_) (fun h3 k => ?_)
      · refine Ev.go (st' := (2, [some (vR 1), some (vI x1), some (vI ((nI i1) + (1 : Int32)))], [], wd σ md, (0, 0))) 2 rfl trivial ?_
        rw [hK1] at k
        exact Ev.wk (Lle.s (Lle.s (Lle.s Lle.z))) (show Ev none 21 (2, [some (vR 1), some (vI x1), some (vI ((nI i1) + (1 : Int32)))], [], wd σ md, (0, 0)) r from k)
      · refine Ev.go (st' := (if ((σ.1 2) (nI i1).toNatClampNeg) = x1 then 26 else 28, [some (vR 1), some (vI x1), some (vI (nI i1))], [], wd σ md, (0, 0))) 6 rfl ⟨((hp1.1.2 h2).1.2 h3).1, trivial⟩ ?_
        refine Ev.brK (K := K1) k (fun h4 k => ?_) (fun h4 k => ?_)
        · refine Ev.go (st' := (27, [some (vR 1), some (vI x1), some (vI (nI i1))], [vI (1 : Int32)], wd σ md, (0, 0))) 1 rfl trivial ?_
          rw [hK1] at k
          replace k : K (1 : Int32) := k
          rw [hK] at k
          have k3 : (some (1 : Int32), wd σ md) = r := k
          rw [← k3]
          exact Ev.iretz rfl rfl (by rfl)
        · refine Ev.go (st' := (2, [some (vR 1), some (vI x1), some (vI ((nI i1) + (1 : Int32)))], [], wd σ md, (0, 0))) 2 rfl trivial ?_
          rw [hK1] at k
          exact Ev.wk (Lle.s (Lle.s (Lle.s Lle.z))) (show Ev none 21 (2, [some (vR 1), some (vI x1), some (vI ((nI i1) + (1 : Int32)))], [], wd σ md, (0, 0)) r from k)
end
section
/-! OF MeshNames.bit(I)I -/
noncomputable def f_C_bit (x1 : Int32) : Int32 := ((1 : Int32) <<< (x1 &&& 31))
set_option maxRecDepth 8000 in
set_option maxHeartbeats 4000000 in
theorem e_C_bit (w : AW) (x1 : Int32)  : Ev none 5 (0, [some (vI x1)], [], w, (0, 0)) (some (f_C_bit x1), w) := by
  suffices hh : ∀ (r : Option Int32 × AW) (K : (Int32) → Prop), K = (fun o : Int32 => (some o, w) = r) → K ((1 : Int32) <<< (x1 &&& 31)) → Ev none 5 (0, [some (vI x1)], [], w, (0, 0)) r from hh _ _ rfl rfl
  intro r K hK k
  refine Ev.go (st' := (3, [some (vI x1)], [vI ((1 : Int32) <<< (x1 &&& 31))], w, (0, 0))) 3 rfl trivial ?_
  rw [hK] at k
  have k3 : (some ((1 : Int32) <<< (x1 &&& 31)), w) = r := k
  rw [← k3]
  exact Ev.ireti rfl rfl
end
section
/-! OF MeshNames$Mesh.raise(II)V -/
noncomputable def f_Mesh_raise (x1 : Int32) (x2 : Int32) (names : Nat → Int32) (upSet : Int32) : (Nat → Int32) × Int32 := ((upd names x1.toNatClampNeg x2), (upSet ||| (f_C_bit x1)))
def P_Mesh_raise (x1 : Int32) (x2 : Int32) (names : Nat → Int32) (upSet : Int32) : Prop := vp_in x1 8 ∧ True
set_option maxRecDepth 8000 in
set_option maxHeartbeats 4000000 in
theorem e_Mesh_raise_1 (σ : Sg) (md : AW) (x1 x2 : Int32) (hP : P_Mesh_raise x1 x2 (σ.1 2) (σ.2 1))  : Ev none 22 (0, [some (vR 1), some (vI x1), some (vI x2)], [], wd σ md, (0, 0)) (none, wd (sA 2 (f_Mesh_raise x1 x2 (σ.1 2) (σ.2 1)).1 (sV 1 (f_Mesh_raise x1 x2 (σ.1 2) (σ.2 1)).2 σ)) md) := by
  suffices hh : ∀ (r : Option Int32 × AW) (K : ((Nat → Int32) × Int32) → Prop), K = (fun o : (Nat → Int32) × Int32 => (none, wd (sA 2 o.1 (sV 1 o.2 σ)) md) = r) → K ((upd (σ.1 2) x1.toNatClampNeg x2), ((σ.2 1) ||| (f_C_bit x1))) → Ev none 22 (0, [some (vR 1), some (vI x1), some (vI x2)], [], wd σ md, (0, 0)) r from hh _ _ rfl rfl
  intro r K hK k
  refine Ev.go (st' := (6, [some (vR 1), some (vI x1), some (vI x2)], [vI x1, vI (σ.2 1), vR 1], wd σ md, (0, 0))) 4 rfl trivial ?_
  refine Ev.callI (a := 5) (As := [vI x1]) [vI (σ.2 1), vR 1] (f_C_bit x1) (wd σ md) rfl (e_C_bit (wd σ md) x1) ?_
  refine Ev.go (st' := (20, [some (vR 1), some (vI x1), some (vI x2)], [], wd (sA 2 (upd (σ.1 2) x1.toNatClampNeg x2) (sV 1 ((σ.2 1) ||| (f_C_bit x1)) σ)) md, (0, 0))) 7 rfl ⟨hP.1, trivial⟩ ?_
  rw [hK] at k
  have k3 : (none, wd (sA 2 (upd (σ.1 2) x1.toNatClampNeg x2) (sV 1 ((σ.2 1) ||| (f_C_bit x1)) σ)) md) = r := k
  rw [← k3]
  exact Ev.retv rfl rfl
end
section
/-! OF MeshNames$Paths.noteSteps(III)V -/
noncomputable def b_Paths_noteSteps_1 (p1 : Int32) (p2 : Int32) (p3 : Int32) (j : Nat) (v : Nat → Int32) : Nat → Int32 := (if (f_C_has p1 (nI j)) = 0 then v else (upd v ((p2 * (8 : Int32)) + (nI j)).toNatClampNeg p3))
def P_Paths_noteSteps_1 (p1 : Int32) (p2 : Int32) (p3 : Int32) (j : Nat) (v : Nat → Int32) : Prop := (((f_C_has p1 (nI j)) = 0 → True) ∧ (¬ ((f_C_has p1 (nI j)) = 0) → (vp_in ((p2 * (8 : Int32)) + (nI j)) 64 ∧ True))) ∧ True
noncomputable def f_Paths_noteSteps (x1 : Int32) (x2 : Int32) (x3 : Int32) (steps : Nat → Int32) : Nat → Int32 := (forN (b_Paths_noteSteps_1 x2 x1 x3) 0 8 steps)
def P_Paths_noteSteps (x1 : Int32) (x2 : Int32) (x3 : Int32) (steps : Nat → Int32) : Prop := (∀ j, j < 8 → P_Paths_noteSteps_1 x2 x1 x3 (0 + j) (forN (b_Paths_noteSteps_1 x2 x1 x3) 0 j steps)) ∧ True
set_option maxRecDepth 8000 in
set_option maxHeartbeats 4000000 in
theorem e_Paths_noteSteps_4 (σ : Sg) (md : AW) (x1 x2 x3 : Int32) (hP : P_Paths_noteSteps x1 x2 x3 (σ.1 8))  : Ev none 7 (0, [some (vR 4), some (vI x1), some (vI x2), some (vI x3), none], [], wd σ md, (0, 0)) (none, wd (sA 8 (f_Paths_noteSteps x1 x2 x3 (σ.1 8)) σ) md) := by
  suffices hh : ∀ (r : Option Int32 × AW) (K : (Nat → Int32) → Prop), K = (fun o : Nat → Int32 => (none, wd (sA 8 o σ) md) = r) → K (forN (b_Paths_noteSteps_1 x2 x1 x3) 0 8 (σ.1 8)) → Ev none 7 (0, [some (vR 4), some (vI x1), some (vI x2), some (vI x3), none], [], wd σ md, (0, 0)) r from hh _ _ rfl rfl
  intro r K hK k
  refine Ev.go (st' := (3, [some (vR 4), some (vI x1), some (vI x2), some (vI x3), some (vI (0 : Int32))], [], wd σ md, (0, 0))) 2 rfl trivial ?_
  refine Ev.wk (Lle.s (Lle.s (Lle.s (Lle.s (Lle.s Lle.z))))) ?_
  refine Ev.loopN (fun c v => (3, [some (vR 4), some (vI x1), some (vI x2), some (vI x3), some (vI c)], [], wd (sA 8 v σ) md, (0, 0))) (b_Paths_noteSteps_1 x2 x1 x3) 0 8 8 (σ.1 8) (c0 := (0 : Int32)) rfl (by omega) (fun j hj k2 => ?_) ?_
  · have hp1 := hP.1 j hj
    have hi1 : 0 + j < 8 := by omega
    clear hj
    generalize forN (b_Paths_noteSteps_1 x2 x1 x3) 0 j (σ.1 8) = v1 at hp1 k2 ⊢
    generalize 0 + j = i1 at hi1 hp1 k2 ⊢
    show Ev none 7 (3, [some (vR 4), some (vI x1), some (vI x2), some (vI x3), some (vI (nI i1))], [], wd (sA 8 v1 σ) md, (0, 0)) r
    refine Ev.go (st' := (if (8 : Int32) ≤ nI i1 then 38 else 10, [some (vR 4), some (vI x1), some (vI x2), some (vI x3), some (vI (nI i1))], [], wd (sA 8 v1 σ) md, (0, 0))) 3 rfl trivial (Ev.brF (nI_ge hi1 (by decide)) ?_)
    refine Ev.go (st' := (13, [some (vR 4), some (vI x1), some (vI x2), some (vI x3), some (vI (nI i1))], [vI (nI i1), vI x2], wd (sA 8 v1 σ) md, (0, 0))) 2 rfl trivial ?_
    refine Ev.callI (a := 6) (As := [vI x2, vI (nI i1)]) [] (f_C_has x2 (nI i1)) (wd (sA 8 v1 σ) md) rfl (e_C_has (wd (sA 8 v1 σ) md) x2 (nI i1)) ?_
    refine Ev.go (st' := (if (f_C_has x2 (nI i1)) = 0 then 32 else 19, [some (vR 4), some (vI x1), some (vI x2), some (vI x3), some (vI (nI i1))], [], wd (sA 8 v1 σ) md, (0, 0))) 1 rfl trivial ?_
    have kJ2 : Ev none 7 (32, [some (vR 4), some (vI x1), some (vI x2), some (vI x3), some (vI (nI i1))], [], wd (sA 8 (if (f_C_has x2 (nI i1)) = 0 then v1 else (upd v1 ((x1 * (8 : Int32)) + (nI i1)).toNatClampNeg x3)) σ) md, (0, 0)) r := by
      refine Ev.go (st' := (3, [some (vR 4), some (vI x1), some (vI x2), some (vI x3), some (vI ((nI i1) + (1 : Int32)))], [], wd (sA 8 (if (f_C_has x2 (nI i1)) = 0 then v1 else (upd v1 ((x1 * (8 : Int32)) + (nI i1)).toNatClampNeg x3)) σ) md, (0, 0))) 2 rfl trivial ?_
      exact Ev.wk (Lle.s (Lle.s (Lle.s (Lle.s (Lle.s Lle.z))))) (show Ev none 7 (3, [some (vR 4), some (vI x1), some (vI x2), some (vI x3), some (vI ((nI i1) + (1 : Int32)))], [], wd (sA 8 (if (f_C_has x2 (nI i1)) = 0 then v1 else (upd v1 ((x1 * (8 : Int32)) + (nI i1)).toNatClampNeg x3)) σ) md, (0, 0)) r from k2)
    refine Ev.br (fun h2 => ?_) (fun h2 => ?_)
    · exact Ev.wk (Lle.s (Lle.s (Lle.s (Lle.s (Lle.s Lle.z))))) (Ev.to kJ2 (by simp only [if_pos h2]))
    · refine Ev.go (st' := (32, [some (vR 4), some (vI x1), some (vI x2), some (vI x3), some (vI (nI i1))], [], wd (sA 8 (upd v1 ((x1 * (8 : Int32)) + (nI i1)).toNatClampNeg x3) σ) md, (0, 0))) 9 rfl ⟨(hp1.1.2 h2).1, trivial⟩ ?_
      exact Ev.wk (Lle.s (Lle.s (Lle.s (Lle.s (Lle.s Lle.z))))) (Ev.to kJ2 (by simp only [if_neg h2]))
  · refine Ev.go (st' := (if (8 : Int32) ≤ nI 8 then 38 else 10, [some (vR 4), some (vI x1), some (vI x2), some (vI x3), some (vI (nI 8))], [], wd (sA 8 (forN (b_Paths_noteSteps_1 x2 x1 x3) 0 8 (σ.1 8)) σ) md, (0, 0))) 3 rfl trivial (Ev.brN (by decide) ?_)
    refine Ev.wk (Lle.n (Lle.n (Lle.n (Lle.n (Lle.n Lle.z))))) ?_
    rw [hK] at k
    have k3 : (none, wd (sA 8 (forN (b_Paths_noteSteps_1 x2 x1 x3) 0 8 (σ.1 8)) σ) md) = r := k
    rw [← k3]
    exact Ev.retv rfl rfl
end
section
/-! OF MeshNames$Mesh.neighbours(I)I -/
noncomputable def f_Mesh_neighbours (x1 : Int32) (upSet : Int32) (links : Nat → Int32) : Int32 := (if (f_Mesh_isUp x1 upSet) = 0 then (0 : Int32) else ((links x1.toNatClampNeg) &&& upSet))
def P_Mesh_neighbours (x1 : Int32) (upSet : Int32) (links : Nat → Int32) : Prop := (((f_Mesh_isUp x1 upSet) = 0 → True) ∧ (¬ ((f_Mesh_isUp x1 upSet) = 0) → (vp_in x1 8 ∧ True))) ∧ True
set_option maxRecDepth 8000 in
set_option maxHeartbeats 4000000 in
theorem e_Mesh_neighbours_1 (σ : Sg) (md : AW) (x1 : Int32) (hP : P_Mesh_neighbours x1 (σ.2 1) (σ.1 3))  : Ev none 9 (0, [some (vR 1), some (vI x1)], [], wd σ md, (0, 0)) (some (f_Mesh_neighbours x1 (σ.2 1) (σ.1 3)), wd σ md) := by
  suffices hh : ∀ (r : Option Int32 × AW) (K : (Int32) → Prop), K = (fun o : Int32 => (some o, wd σ md) = r) → K (if (f_Mesh_isUp x1 (σ.2 1)) = 0 then (0 : Int32) else (((σ.1 3) x1.toNatClampNeg) &&& (σ.2 1))) → Ev none 9 (0, [some (vR 1), some (vI x1)], [], wd σ md, (0, 0)) r from hh _ _ rfl rfl
  intro r K hK k
  refine Ev.go (st' := (2, [some (vR 1), some (vI x1)], [vI x1, vR 1], wd σ md, (0, 0))) 2 rfl trivial ?_
  refine Ev.callI (a := 8) (As := [vR 1, vI x1]) [] (f_Mesh_isUp x1 (σ.2 1)) (wd σ md) rfl (e_Mesh_isUp_1 σ md x1) ?_
  refine Ev.go (st' := (if (f_Mesh_isUp x1 (σ.2 1)) = 0 then 22 else 8, [some (vR 1), some (vI x1)], [], wd σ md, (0, 0))) 1 rfl trivial ?_
  have kJ1 : Ev none 9 (23, [none, none], [vI (if (f_Mesh_isUp x1 (σ.2 1)) = 0 then (0 : Int32) else (((σ.1 3) x1.toNatClampNeg) &&& (σ.2 1)))], wd σ md, (0, 0)) r := by
    rw [hK] at k
    have k3 : (some (if (f_Mesh_isUp x1 (σ.2 1)) = 0 then (0 : Int32) else (((σ.1 3) x1.toNatClampNeg) &&& (σ.2 1))), wd σ md) = r := k
    rw [← k3]
    exact Ev.ireti rfl rfl
  refine Ev.br (fun h1 => ?_) (fun h1 => ?_)
  · refine Ev.go (st' := (23, [some (vR 1), some (vI x1)], [vI (0 : Int32)], wd σ md, (0, 0))) 1 rfl trivial ?_
    exact Ev.wk (Lle.n (Lle.n Lle.z)) (Ev.to kJ1 (by simp only [if_pos h1]))
  · refine Ev.go (st' := (23, [some (vR 1), some (vI x1)], [vI (((σ.1 3) x1.toNatClampNeg) &&& (σ.2 1))], wd σ md, (0, 0))) 8 rfl ⟨(hP.1.2 h1).1, trivial⟩ ?_
    exact Ev.wk (Lle.n (Lle.n Lle.z)) (Ev.to kJ1 (by simp only [if_neg h1]))
end
section
/-! OF MeshNames$Mesh.neighboursOfAll(I)I -/
noncomputable def b_Mesh_neighboursOfAll_1 (p1 : Int32) (upSet : Int32) (links : Nat → Int32) (j : Nat) (v : Int32) : Int32 := (if (f_C_has p1 (nI j)) = 0 then v else (v ||| (f_Mesh_neighbours (nI j) upSet links)))
def P_Mesh_neighboursOfAll_1 (p1 : Int32) (upSet : Int32) (links : Nat → Int32) (j : Nat) (v : Int32) : Prop := (((f_C_has p1 (nI j)) = 0 → True) ∧ (¬ ((f_C_has p1 (nI j)) = 0) → ((P_Mesh_neighbours (nI j) upSet links) ∧ True))) ∧ True
noncomputable def f_Mesh_neighboursOfAll (x1 : Int32) (upSet : Int32) (links : Nat → Int32) : Int32 := (forN (b_Mesh_neighboursOfAll_1 x1 upSet links) 0 8 (0 : Int32))
def P_Mesh_neighboursOfAll (x1 : Int32) (upSet : Int32) (links : Nat → Int32) : Prop := (∀ j, j < 8 → P_Mesh_neighboursOfAll_1 x1 upSet links (0 + j) (forN (b_Mesh_neighboursOfAll_1 x1 upSet links) 0 j (0 : Int32))) ∧ True
set_option maxRecDepth 8000 in
set_option maxHeartbeats 4000000 in
theorem e_Mesh_neighboursOfAll_1 (σ : Sg) (md : AW) (x1 : Int32) (hP : P_Mesh_neighboursOfAll x1 (σ.2 1) (σ.1 3))  : Ev none 10 (0, [some (vR 1), some (vI x1), none, none], [], wd σ md, (0, 0)) (some (f_Mesh_neighboursOfAll x1 (σ.2 1) (σ.1 3)), wd σ md) := by
  suffices hh : ∀ (r : Option Int32 × AW) (K : (Int32) → Prop), K = (fun o : Int32 => (some o, wd σ md) = r) → K (forN (b_Mesh_neighboursOfAll_1 x1 (σ.2 1) (σ.1 3)) 0 8 (0 : Int32)) → Ev none 10 (0, [some (vR 1), some (vI x1), none, none], [], wd σ md, (0, 0)) r from hh _ _ rfl rfl
  intro r K hK k
  refine Ev.go (st' := (4, [some (vR 1), some (vI x1), some (vI (0 : Int32)), some (vI (0 : Int32))], [], wd σ md, (0, 0))) 4 rfl trivial ?_
  refine Ev.wk (Lle.s (Lle.s (Lle.s (Lle.s Lle.z)))) ?_
  refine Ev.loopN (fun c v => (4, [some (vR 1), some (vI x1), some (vI v), some (vI c)], [], wd σ md, (0, 0))) (b_Mesh_neighboursOfAll_1 x1 (σ.2 1) (σ.1 3)) 0 8 8 (0 : Int32) (c0 := (0 : Int32)) rfl (by omega) (fun j hj k2 => ?_) ?_
  · have hp1 := hP.1 j hj
    have hi1 : 0 + j < 8 := by omega
    clear hj
    generalize forN (b_Mesh_neighboursOfAll_1 x1 (σ.2 1) (σ.1 3)) 0 j (0 : Int32) = v1 at hp1 k2 ⊢
    generalize 0 + j = i1 at hi1 hp1 k2 ⊢
    show Ev none 10 (4, [some (vR 1), some (vI x1), some (vI v1), some (vI (nI i1))], [], wd σ md, (0, 0)) r
    refine Ev.go (st' := (if (8 : Int32) ≤ nI i1 then 32 else 10, [some (vR 1), some (vI x1), some (vI v1), some (vI (nI i1))], [], wd σ md, (0, 0))) 3 rfl trivial (Ev.brF (nI_ge hi1 (by decide)) ?_)
    refine Ev.go (st' := (12, [some (vR 1), some (vI x1), some (vI v1), some (vI (nI i1))], [vI (nI i1), vI x1], wd σ md, (0, 0))) 2 rfl trivial ?_
    refine Ev.callI (a := 6) (As := [vI x1, vI (nI i1)]) [] (f_C_has x1 (nI i1)) (wd σ md) rfl (e_C_has (wd σ md) x1 (nI i1)) ?_
    refine Ev.go (st' := (if (f_C_has x1 (nI i1)) = 0 then 26 else 18, [some (vR 1), some (vI x1), some (vI v1), some (vI (nI i1))], [], wd σ md, (0, 0))) 1 rfl trivial ?_
    have kJ2 : Ev none 10 (26, [some (vR 1), some (vI x1), some (vI (if (f_C_has x1 (nI i1)) = 0 then v1 else (v1 ||| (f_Mesh_neighbours (nI i1) (σ.2 1) (σ.1 3))))), some (vI (nI i1))], [], wd σ md, (0, 0)) r := by
      refine Ev.go (st' := (4, [some (vR 1), some (vI x1), some (vI (if (f_C_has x1 (nI i1)) = 0 then v1 else (v1 ||| (f_Mesh_neighbours (nI i1) (σ.2 1) (σ.1 3))))), some (vI ((nI i1) + (1 : Int32)))], [], wd σ md, (0, 0))) 2 rfl trivial ?_
      exact Ev.wk (Lle.s (Lle.s (Lle.s (Lle.s Lle.z)))) (show Ev none 10 (4, [some (vR 1), some (vI x1), some (vI (if (f_C_has x1 (nI i1)) = 0 then v1 else (v1 ||| (f_Mesh_neighbours (nI i1) (σ.2 1) (σ.1 3))))), some (vI ((nI i1) + (1 : Int32)))], [], wd σ md, (0, 0)) r from k2)
    refine Ev.br (fun h2 => ?_) (fun h2 => ?_)
    · exact Ev.wk (Lle.s (Lle.s (Lle.s (Lle.s Lle.z)))) (Ev.to kJ2 (by simp only [if_pos h2]))
    · refine Ev.go (st' := (21, [some (vR 1), some (vI x1), some (vI v1), some (vI (nI i1))], [vI (nI i1), vR 1, vI v1], wd σ md, (0, 0))) 3 rfl trivial ?_
      refine Ev.callI (a := 9) (As := [vR 1, vI (nI i1)]) [vI v1] (f_Mesh_neighbours (nI i1) (σ.2 1) (σ.1 3)) (wd σ md) rfl (e_Mesh_neighbours_1 σ md (nI i1) (hp1.1.2 h2).1) ?_
      refine Ev.go (st' := (26, [some (vR 1), some (vI x1), some (vI (v1 ||| (f_Mesh_neighbours (nI i1) (σ.2 1) (σ.1 3)))), some (vI (nI i1))], [], wd σ md, (0, 0))) 2 rfl trivial ?_
      exact Ev.wk (Lle.s (Lle.s (Lle.s (Lle.s Lle.z)))) (Ev.to kJ2 (by simp only [if_neg h2]))
  · refine Ev.go (st' := (if (8 : Int32) ≤ nI 8 then 32 else 10, [some (vR 1), some (vI x1), some (vI (forN (b_Mesh_neighboursOfAll_1 x1 (σ.2 1) (σ.1 3)) 0 8 (0 : Int32))), some (vI (nI 8))], [], wd σ md, (0, 0))) 3 rfl trivial (Ev.brN (by decide) ?_)
    refine Ev.wk (Lle.n (Lle.n (Lle.s (Lle.n Lle.z)))) ?_
    refine Ev.go (st' := (33, [none, none, some (vI (forN (b_Mesh_neighboursOfAll_1 x1 (σ.2 1) (σ.1 3)) 0 8 (0 : Int32))), none], [vI (forN (b_Mesh_neighboursOfAll_1 x1 (σ.2 1) (σ.1 3)) 0 8 (0 : Int32))], wd σ md, (0, 0))) 1 rfl trivial ?_
    rw [hK] at k
    have k3 : (some (forN (b_Mesh_neighboursOfAll_1 x1 (σ.2 1) (σ.1 3)) 0 8 (0 : Int32)), wd σ md) = r := k
    rw [← k3]
    exact Ev.ireti rfl rfl
end
section
/-! OF MeshNames$Paths.measureFrom(I)V -/
noncomputable def b_Paths_measureFrom_1 (p1 : Int32) (j : Nat) (v : Nat → Int32) : Nat → Int32 := (upd v ((p1 * (8 : Int32)) + (nI j)).toNatClampNeg (-6 : Int32))
def P_Paths_measureFrom_1 (p1 : Int32) (j : Nat) (v : Nat → Int32) : Prop := vp_in ((p1 * (8 : Int32)) + (nI j)) 64 ∧ True
noncomputable def b_Paths_measureFrom_2 (upSet : Int32) (links : Nat → Int32) (p1 : Int32) (j : Nat) (v : Int32 × Int32 × (Nat → Int32)) : (Int32 × Int32 × (Nat → Int32)) ⊕ (Int32 × Int32 × (Nat → Int32)) := (if (8 : Int32) ≤ (nI j) then (.inr (v.1, v.2.1, v.2.2)) else (if v.2.1 = 0 then (.inr (v.1, v.2.1, v.2.2)) else (.inl ((v.1 ||| v.2.1), ((f_Mesh_neighboursOfAll v.2.1 upSet links) &&& ((v.1 ||| v.2.1) ^^^ (-1 : Int32))), (f_Paths_noteSteps p1 v.2.1 (nI j) v.2.2)))))
def P_Paths_measureFrom_2 (upSet : Int32) (links : Nat → Int32) (p1 : Int32) (j : Nat) (v : Int32 × Int32 × (Nat → Int32)) : Prop := (((8 : Int32) ≤ (nI j) → True) ∧ (¬ ((8 : Int32) ≤ (nI j)) → (((v.2.1 = 0 → True) ∧ (¬ (v.2.1 = 0) → ((P_Paths_noteSteps p1 v.2.1 (nI j) v.2.2) ∧ (P_Mesh_neighboursOfAll v.2.1 upSet links) ∧ True))) ∧ True))) ∧ True
noncomputable def f_Paths_measureFrom (x1 : Int32) (parts : Nat → Int32) (upSet : Int32) (links : Nat → Int32) (steps : Nat → Int32) : (Nat → Int32) × (Nat → Int32) := ((upd parts x1.toNatClampNeg (unX (forX (b_Paths_measureFrom_2 upSet links x1) 0 9 ((0 : Int32), (upSet &&& (f_C_bit x1)), (forN (b_Paths_measureFrom_1 x1) 0 8 steps)))).1), (unX (forX (b_Paths_measureFrom_2 upSet links x1) 0 9 ((0 : Int32), (upSet &&& (f_C_bit x1)), (forN (b_Paths_measureFrom_1 x1) 0 8 steps)))).2.2)
def P_Paths_measureFrom (x1 : Int32) (parts : Nat → Int32) (upSet : Int32) (links : Nat → Int32) (steps : Nat → Int32) : Prop := (∀ j, j < 8 → P_Paths_measureFrom_1 x1 (0 + j) (forN (b_Paths_measureFrom_1 x1) 0 j steps)) ∧ (∃ x, forX (b_Paths_measureFrom_2 upSet links x1) 0 9 ((0 : Int32), (upSet &&& (f_C_bit x1)), (forN (b_Paths_measureFrom_1 x1) 0 8 steps)) = .inr x) ∧ (∀ j v, j < 9 → forX (b_Paths_measureFrom_2 upSet links x1) 0 j ((0 : Int32), (upSet &&& (f_C_bit x1)), (forN (b_Paths_measureFrom_1 x1) 0 8 steps)) = .inl v → P_Paths_measureFrom_2 upSet links x1 (0 + j) v) ∧ vp_in x1 8 ∧ True
set_option maxRecDepth 8000 in
set_option maxHeartbeats 4000000 in
theorem e_Paths_measureFrom_4 (σ : Sg) (md : AW) (x1 : Int32) (hP : P_Paths_measureFrom x1 (σ.1 5) (σ.2 1) (σ.1 3) (σ.1 8))  : Ev none 11 (0, [some (vR 4), some (vI x1), none, none, none], [], wd σ md, (0, 0)) (none, wd (sA 5 (f_Paths_measureFrom x1 (σ.1 5) (σ.2 1) (σ.1 3) (σ.1 8)).1 (sA 8 (f_Paths_measureFrom x1 (σ.1 5) (σ.2 1) (σ.1 3) (σ.1 8)).2 σ)) md) := by
  suffices hh : ∀ (r : Option Int32 × AW) (K : ((Nat → Int32) × (Nat → Int32)) → Prop), K = (fun o : (Nat → Int32) × (Nat → Int32) => (none, wd (sA 5 o.1 (sA 8 o.2 σ)) md) = r) → K ((upd (σ.1 5) x1.toNatClampNeg (unX (forX (b_Paths_measureFrom_2 (σ.2 1) (σ.1 3) x1) 0 9 ((0 : Int32), ((σ.2 1) &&& (f_C_bit x1)), (forN (b_Paths_measureFrom_1 x1) 0 8 (σ.1 8))))).1), (unX (forX (b_Paths_measureFrom_2 (σ.2 1) (σ.1 3) x1) 0 9 ((0 : Int32), ((σ.2 1) &&& (f_C_bit x1)), (forN (b_Paths_measureFrom_1 x1) 0 8 (σ.1 8))))).2.2) → Ev none 11 (0, [some (vR 4), some (vI x1), none, none, none], [], wd σ md, (0, 0)) r from hh _ _ rfl rfl
  intro r K hK k
  refine Ev.go (st' := (10, [some (vR 4), some (vI x1), some (vI (0 : Int32)), none, none], [vI x1, vI (σ.2 1)], wd σ md, (0, 0))) 6 rfl trivial ?_
  refine Ev.callI (a := 5) (As := [vI x1]) [vI (σ.2 1)] (f_C_bit x1) (wd σ md) rfl (e_C_bit (wd σ md) x1) ?_
  refine Ev.go (st' := (18, [some (vR 4), some (vI x1), some (vI (0 : Int32)), some (vI ((σ.2 1) &&& (f_C_bit x1))), some (vI (0 : Int32))], [], wd σ md, (0, 0))) 4 rfl trivial ?_
  refine Ev.wk (Lle.s (Lle.s (Lle.s (Lle.s (Lle.s Lle.z))))) ?_
  refine Ev.loopN (fun c v => (18, [some (vR 4), some (vI x1), some (vI (0 : Int32)), some (vI ((σ.2 1) &&& (f_C_bit x1))), some (vI c)], [], wd (sA 8 v σ) md, (0, 0))) (b_Paths_measureFrom_1 x1) 0 8 8 (σ.1 8) (c0 := (0 : Int32)) rfl (by omega) (fun j hj k2 => ?_) ?_
  · have hp1 := hP.1 j hj
    have hi1 : 0 + j < 8 := by omega
    clear hj
    generalize forN (b_Paths_measureFrom_1 x1) 0 j (σ.1 8) = v1 at hp1 k2 ⊢
    generalize 0 + j = i1 at hi1 hp1 k2 ⊢
    show Ev none 11 (18, [some (vR 4), some (vI x1), some (vI (0 : Int32)), some (vI ((σ.2 1) &&& (f_C_bit x1))), some (vI (nI i1))], [], wd (sA 8 v1 σ) md, (0, 0)) r
    refine Ev.go (st' := (if (8 : Int32) ≤ nI i1 then 45 else 25, [some (vR 4), some (vI x1), some (vI (0 : Int32)), some (vI ((σ.2 1) &&& (f_C_bit x1))), some (vI (nI i1))], [], wd (sA 8 v1 σ) md, (0, 0))) 3 rfl trivial (Ev.brF (nI_ge hi1 (by decide)) ?_)
    refine Ev.go (st' := (18, [some (vR 4), some (vI x1), some (vI (0 : Int32)), some (vI ((σ.2 1) &&& (f_C_bit x1))), some (vI ((nI i1) + (1 : Int32)))], [], wd (sA 8 (upd v1 ((x1 * (8 : Int32)) + (nI i1)).toNatClampNeg (-6 : Int32)) σ) md, (0, 0))) 11 rfl ⟨hp1.1, trivial⟩ ?_
    exact Ev.wk (Lle.s (Lle.s (Lle.s (Lle.s (Lle.s Lle.z))))) (show Ev none 11 (18, [some (vR 4), some (vI x1), some (vI (0 : Int32)), some (vI ((σ.2 1) &&& (f_C_bit x1))), some (vI ((nI i1) + (1 : Int32)))], [], wd (sA 8 (upd v1 ((x1 * (8 : Int32)) + (nI i1)).toNatClampNeg (-6 : Int32)) σ) md, (0, 0)) r from k2)
  · refine Ev.go (st' := (if (8 : Int32) ≤ nI 8 then 45 else 25, [some (vR 4), some (vI x1), some (vI (0 : Int32)), some (vI ((σ.2 1) &&& (f_C_bit x1))), some (vI (nI 8))], [], wd (sA 8 (forN (b_Paths_measureFrom_1 x1) 0 8 (σ.1 8)) σ) md, (0, 0))) 3 rfl trivial (Ev.brN (by decide) ?_)
    refine Ev.wk (Lle.s (Lle.s (Lle.s (Lle.s (Lle.n Lle.z))))) ?_
    refine Ev.go (st' := (48, [some (vR 4), some (vI x1), some (vI (0 : Int32)), some (vI ((σ.2 1) &&& (f_C_bit x1))), some (vI (0 : Int32))], [], wd (sA 8 (forN (b_Paths_measureFrom_1 x1) 0 8 (σ.1 8)) σ) md, (0, 0))) 2 rfl trivial ?_
    refine Ev.wk (Lle.s (Lle.s (Lle.s (Lle.s (Lle.s Lle.z))))) ?_
    refine Ev.loopA (fun c v => (48, [some (vR 4), some (vI x1), some (vI v.1), some (vI v.2.1), some (vI c)], [], wd (sA 8 v.2.2 σ) md, (0, 0))) (fun v => (90, [some (vR 4), some (vI x1), some (vI v.1), none, none], [], wd (sA 8 v.2.2 σ) md, (0, 0))) (b_Paths_measureFrom_2 (σ.2 1) (σ.1 3) x1) 0 9 ((0 : Int32), ((σ.2 1) &&& (f_C_bit x1)), (forN (b_Paths_measureFrom_1 x1) 0 8 (σ.1 8))) (c0 := (0 : Int32)) rfl hP.2.1 (fun j v2 hj hv K2 hK2 k => ?_) ?_
    · have hp2 := hP.2.2.1 j v2 hj hv
      have hi2 : 0 + j < 0 + 9 := by omega
      clear hj hv
      generalize 0 + j = i2 at hi2 hK2 hp2 k ⊢
      replace k : K2 (if (8 : Int32) ≤ (nI i2) then (.inr (v2.1, v2.2.1, v2.2.2)) else (if v2.2.1 = 0 then (.inr (v2.1, v2.2.1, v2.2.2)) else (.inl ((v2.1 ||| v2.2.1), ((f_Mesh_neighboursOfAll v2.2.1 (σ.2 1) (σ.1 3)) &&& ((v2.1 ||| v2.2.1) ^^^ (-1 : Int32))), (f_Paths_noteSteps x1 v2.2.1 (nI i2) v2.2.2))))) := k
      show Ev none 11 (48, [some (vR 4), some (vI x1), some (vI v2.1), some (vI v2.2.1), some (vI (nI i2))], [], wd (sA 8 v2.2.2 σ) md, (0, 0)) r
      refine Ev.go (st' := (if (8 : Int32) ≤ (nI i2) then 90 else 55, [some (vR 4), some (vI x1), some (vI v2.1), some (vI v2.2.1), some (vI (nI i2))], [], wd (sA 8 v2.2.2 σ) md, (0, 0))) 3 rfl trivial ?_
      refine Ev.brK (K := K2) k (fun h3 k => ?_) (fun h3 k => ?_)
      · rw [hK2] at k
        exact Ev.wk (Lle.s (Lle.s (Lle.s (Lle.n (Lle.n Lle.z))))) (show Ev none 11 (90, [some (vR 4), some (vI x1), some (vI v2.1), none, none], [], wd (sA 8 v2.2.2 σ) md, (0, 0)) r from k)
      · refine Ev.go (st' := (if v2.2.1 = 0 then 90 else 59, [some (vR 4), some (vI x1), some (vI v2.1), some (vI v2.2.1), some (vI (nI i2))], [], wd (sA 8 v2.2.2 σ) md, (0, 0))) 2 rfl trivial ?_
        refine Ev.brK (K := K2) k (fun h4 k => ?_) (fun h4 k => ?_)
        · rw [hK2] at k
          exact Ev.wk (Lle.s (Lle.s (Lle.s (Lle.n (Lle.n Lle.z))))) (show Ev none 11 (90, [some (vR 4), some (vI x1), some (vI v2.1), none, none], [], wd (sA 8 v2.2.2 σ) md, (0, 0)) r from k)
        · refine Ev.go (st' := (64, [some (vR 4), some (vI x1), some (vI v2.1), some (vI v2.2.1), some (vI (nI i2))], [vI (nI i2), vI v2.2.1, vI x1, vR 4], wd (sA 8 v2.2.2 σ) md, (0, 0))) 4 rfl trivial ?_
          refine Ev.callV (a := 7) (As := [vR 4, vI x1, vI v2.2.1, vI (nI i2)]) [] (wd (sA 8 (f_Paths_noteSteps x1 v2.2.1 (nI i2) v2.2.2) σ) md) rfl (e_Paths_noteSteps_4 (sA 8 v2.2.2 σ) md x1 v2.2.1 (nI i2) ((hp2.1.2 h3).1.2 h4).1) ?_
          refine Ev.go (st' := (76, [some (vR 4), some (vI x1), some (vI (v2.1 ||| v2.2.1)), some (vI v2.2.1), some (vI (nI i2))], [vI v2.2.1, vR 1], wd (sA 8 (f_Paths_noteSteps x1 v2.2.1 (nI i2) v2.2.2) σ) md, (0, 0))) 7 rfl trivial ?_
          refine Ev.callI (a := 10) (As := [vR 1, vI v2.2.1]) [] (f_Mesh_neighboursOfAll v2.2.1 (σ.2 1) (σ.1 3)) (wd (sA 8 (f_Paths_noteSteps x1 v2.2.1 (nI i2) v2.2.2) σ) md) rfl (e_Mesh_neighboursOfAll_1 (sA 8 (f_Paths_noteSteps x1 v2.2.1 (nI i2) v2.2.2) σ) md v2.2.1 ((hp2.1.2 h3).1.2 h4).2.1) ?_
          refine Ev.go (st' := (48, [some (vR 4), some (vI x1), some (vI (v2.1 ||| v2.2.1)), some (vI ((f_Mesh_neighboursOfAll v2.2.1 (σ.2 1) (σ.1 3)) &&& ((v2.1 ||| v2.2.1) ^^^ (-1 : Int32)))), some (vI ((nI i2) + (1 : Int32)))], [], wd (sA 8 (f_Paths_noteSteps x1 v2.2.1 (nI i2) v2.2.2) σ) md, (0, 0))) 7 rfl trivial ?_
          rw [hK2] at k
          exact Ev.wk (Lle.s (Lle.s (Lle.s (Lle.s (Lle.s Lle.z))))) (show Ev none 11 (48, [some (vR 4), some (vI x1), some (vI (v2.1 ||| v2.2.1)), some (vI ((f_Mesh_neighboursOfAll v2.2.1 (σ.2 1) (σ.1 3)) &&& ((v2.1 ||| v2.2.1) ^^^ (-1 : Int32)))), some (vI ((nI i2) + (1 : Int32)))], [], wd (sA 8 (f_Paths_noteSteps x1 v2.2.1 (nI i2) v2.2.2) σ) md, (0, 0)) r from k)
    · show Ev none 11 (90, [some (vR 4), some (vI x1), some (vI (unX (forX (b_Paths_measureFrom_2 (σ.2 1) (σ.1 3) x1) 0 9 ((0 : Int32), ((σ.2 1) &&& (f_C_bit x1)), (forN (b_Paths_measureFrom_1 x1) 0 8 (σ.1 8))))).1), none, none], [], wd (sA 8 (unX (forX (b_Paths_measureFrom_2 (σ.2 1) (σ.1 3) x1) 0 9 ((0 : Int32), ((σ.2 1) &&& (f_C_bit x1)), (forN (b_Paths_measureFrom_1 x1) 0 8 (σ.1 8))))).2.2 σ) md, (0, 0)) r
      refine Ev.go (st' := (97, [some (vR 4), some (vI x1), some (vI (unX (forX (b_Paths_measureFrom_2 (σ.2 1) (σ.1 3) x1) 0 9 ((0 : Int32), ((σ.2 1) &&& (f_C_bit x1)), (forN (b_Paths_measureFrom_1 x1) 0 8 (σ.1 8))))).1), none, none], [], wd (sA 5 (upd (σ.1 5) x1.toNatClampNeg (unX (forX (b_Paths_measureFrom_2 (σ.2 1) (σ.1 3) x1) 0 9 ((0 : Int32), ((σ.2 1) &&& (f_C_bit x1)), (forN (b_Paths_measureFrom_1 x1) 0 8 (σ.1 8))))).1) (sA 8 (unX (forX (b_Paths_measureFrom_2 (σ.2 1) (σ.1 3) x1) 0 9 ((0 : Int32), ((σ.2 1) &&& (f_C_bit x1)), (forN (b_Paths_measureFrom_1 x1) 0 8 (σ.1 8))))).2.2 σ)) md, (0, 0))) 5 rfl ⟨hP.2.2.2.1, trivial⟩ ?_
      rw [hK] at k
      have k3 : (none, wd (sA 5 (upd (σ.1 5) x1.toNatClampNeg (unX (forX (b_Paths_measureFrom_2 (σ.2 1) (σ.1 3) x1) 0 9 ((0 : Int32), ((σ.2 1) &&& (f_C_bit x1)), (forN (b_Paths_measureFrom_1 x1) 0 8 (σ.1 8))))).1) (sA 8 (unX (forX (b_Paths_measureFrom_2 (σ.2 1) (σ.1 3) x1) 0 9 ((0 : Int32), ((σ.2 1) &&& (f_C_bit x1)), (forN (b_Paths_measureFrom_1 x1) 0 8 (σ.1 8))))).2.2 σ)) md) = r := k
      rw [← k3]
      exact Ev.retv rfl rfl
end
section
/-! OF java/lang/Math.floorMod(II)I -/
noncomputable def f_J_floorMod (x1 : Int32) (x2 : Int32) : Int32 := (if 0 ≤ (x1 ^^^ x2) then (x1 - x1 / x2 * x2) else (if (x1 - x1 / x2 * x2) = 0 then (x1 - x1 / x2 * x2) else ((x1 - x1 / x2 * x2) + x2)))
def P_J_floorMod (x1 : Int32) (x2 : Int32) : Prop := ¬ x2 = 0 ∧ True
set_option maxRecDepth 8000 in
set_option maxHeartbeats 4000000 in
theorem e_J_floorMod (w : AW) (x1 x2 : Int32) (hP : P_J_floorMod x1 x2)  : Ev none 12 (0, [some (vI x1), some (vI x2), none], [], w, (0, 0)) (some (f_J_floorMod x1 x2), w) := by
  suffices hh : ∀ (r : Option Int32 × AW) (K : (Int32) → Prop), K = (fun o : Int32 => (some o, w) = r) → K (if 0 ≤ (x1 ^^^ x2) then (x1 - x1 / x2 * x2) else (if (x1 - x1 / x2 * x2) = 0 then (x1 - x1 / x2 * x2) else ((x1 - x1 / x2 * x2) + x2))) → Ev none 12 (0, [some (vI x1), some (vI x2), none], [], w, (0, 0)) r from hh _ _ rfl rfl
  intro r K hK k
  refine Ev.go (st' := (if 0 ≤ (x1 ^^^ x2) then 18 else 10, [some (vI x1), some (vI x2), some (vI (x1 - x1 / x2 * x2))], [], w, (0, 0))) 8 rfl ⟨hP.1, trivial⟩ ?_
  refine Ev.brK (K := K) k (fun h1 k => ?_) (fun h1 k => ?_)
  · refine Ev.go (st' := (19, [some (vI x1), some (vI x2), some (vI (x1 - x1 / x2 * x2))], [vI (x1 - x1 / x2 * x2)], w, (0, 0))) 1 rfl trivial ?_
    rw [hK] at k
    have k3 : (some (x1 - x1 / x2 * x2), w) = r := k
    rw [← k3]
    exact Ev.ireti rfl rfl
  · refine Ev.go (st' := (if (x1 - x1 / x2 * x2) = 0 then 18 else 14, [some (vI x1), some (vI x2), some (vI (x1 - x1 / x2 * x2))], [], w, (0, 0))) 2 rfl trivial ?_
    refine Ev.brK (K := K) k (fun h2 k => ?_) (fun h2 k => ?_)
    · refine Ev.go (st' := (19, [some (vI x1), some (vI x2), some (vI (x1 - x1 / x2 * x2))], [vI (x1 - x1 / x2 * x2)], w, (0, 0))) 1 rfl trivial ?_
      rw [hK] at k
      have k3 : (some (x1 - x1 / x2 * x2), w) = r := k
      rw [← k3]
      exact Ev.ireti rfl rfl
    · refine Ev.go (st' := (17, [some (vI x1), some (vI x2), some (vI (x1 - x1 / x2 * x2))], [vI ((x1 - x1 / x2 * x2) + x2)], w, (0, 0))) 3 rfl trivial ?_
      rw [hK] at k
      have k3 : (some ((x1 - x1 / x2 * x2) + x2), w) = r := k
      rw [← k3]
      exact Ev.ireti rfl rfl
end
section
/-! OF MeshNames$Paths.nextOnRing(I)I -/
noncomputable def b_Paths_nextOnRing_1 (p1 : Int32) (parts : Nat → Int32) (names : Nat → Int32) (j : Nat) (v : Int32 × Int32) : Int32 × Int32 := ((if (nI j) = p1 then v.1 else (if (f_C_has (parts p1.toNatClampNeg) (nI j)) = 0 then v.1 else (if v.2 ≤ (f_J_floorMod ((names (nI j).toNatClampNeg) - (names p1.toNatClampNeg)) (256 : Int32)) then v.1 else (nI j)))), (if (nI j) = p1 then v.2 else (if (f_C_has (parts p1.toNatClampNeg) (nI j)) = 0 then v.2 else (if v.2 ≤ (f_J_floorMod ((names (nI j).toNatClampNeg) - (names p1.toNatClampNeg)) (256 : Int32)) then v.2 else (f_J_floorMod ((names (nI j).toNatClampNeg) - (names p1.toNatClampNeg)) (256 : Int32))))))
def P_Paths_nextOnRing_1 (p1 : Int32) (parts : Nat → Int32) (names : Nat → Int32) (j : Nat) (v : Int32 × Int32) : Prop := (((nI j) = p1 → True) ∧ (¬ ((nI j) = p1) → (vp_in p1 8 ∧ (((f_C_has (parts p1.toNatClampNeg) (nI j)) = 0 → True) ∧ (¬ ((f_C_has (parts p1.toNatClampNeg) (nI j)) = 0) → (vp_in p1 8 ∧ (P_J_floorMod ((names (nI j).toNatClampNeg) - (names p1.toNatClampNeg)) (256 : Int32)) ∧ True))) ∧ True))) ∧ True
noncomputable def f_Paths_nextOnRing (x1 : Int32) (parts : Nat → Int32) (names : Nat → Int32) : Int32 := (forN (b_Paths_nextOnRing_1 x1 parts names) 0 8 ((-6 : Int32), (256 : Int32))).1
def P_Paths_nextOnRing (x1 : Int32) (parts : Nat → Int32) (names : Nat → Int32) : Prop := (∀ j, j < 8 → P_Paths_nextOnRing_1 x1 parts names (0 + j) (forN (b_Paths_nextOnRing_1 x1 parts names) 0 j ((-6 : Int32), (256 : Int32)))) ∧ True
set_option maxRecDepth 8000 in
set_option maxHeartbeats 4000000 in
theorem e_Paths_nextOnRing_4 (σ : Sg) (md : AW) (x1 : Int32) (hP : P_Paths_nextOnRing x1 (σ.1 5) (σ.1 2))  : Ev none 13 (0, [some (vR 4), some (vI x1), none, none, none, none], [], wd σ md, (0, 0)) (some (f_Paths_nextOnRing x1 (σ.1 5) (σ.1 2)), wd σ md) := by
  suffices hh : ∀ (r : Option Int32 × AW) (K : (Int32) → Prop), K = (fun o : Int32 => (some o, wd σ md) = r) → K (forN (b_Paths_nextOnRing_1 x1 (σ.1 5) (σ.1 2)) 0 8 ((-6 : Int32), (256 : Int32))).1 → Ev none 13 (0, [some (vR 4), some (vI x1), none, none, none, none], [], wd σ md, (0, 0)) r from hh _ _ rfl rfl
  intro r K hK k
  refine Ev.go (st' := (10, [some (vR 4), some (vI x1), some (vI (-6 : Int32)), some (vI (256 : Int32)), some (vI (0 : Int32)), none], [], wd σ md, (0, 0))) 6 rfl trivial ?_
  refine Ev.wk (Lle.s (Lle.s (Lle.s (Lle.s (Lle.s (Lle.n Lle.z)))))) ?_
  refine Ev.loopN (fun c v => (10, [some (vR 4), some (vI x1), some (vI v.1), some (vI v.2), some (vI c), none], [], wd σ md, (0, 0))) (b_Paths_nextOnRing_1 x1 (σ.1 5) (σ.1 2)) 0 8 8 ((-6 : Int32), (256 : Int32)) (c0 := (0 : Int32)) rfl (by omega) (fun j hj k2 => ?_) ?_
  · have hp1 := hP.1 j hj
    have hi1 : 0 + j < 8 := by omega
    clear hj
    generalize forN (b_Paths_nextOnRing_1 x1 (σ.1 5) (σ.1 2)) 0 j ((-6 : Int32), (256 : Int32)) = v1 at hp1 k2 ⊢
    generalize 0 + j = i1 at hi1 hp1 k2 ⊢
    show Ev none 13 (10, [some (vR 4), some (vI x1), some (vI v1.1), some (vI v1.2), some (vI (nI i1)), none], [], wd σ md, (0, 0)) r
    refine Ev.go (st' := (if (8 : Int32) ≤ nI i1 then 83 else 17, [some (vR 4), some (vI x1), some (vI v1.1), some (vI v1.2), some (vI (nI i1)), none], [], wd σ md, (0, 0))) 3 rfl trivial (Ev.brF (nI_ge hi1 (by decide)) ?_)
    refine Ev.go (st' := (if (nI i1) = x1 then 77 else 23, [some (vR 4), some (vI x1), some (vI v1.1), some (vI v1.2), some (vI (nI i1)), none], [], wd σ md, (0, 0))) 3 rfl trivial ?_
    have kJ2 : Ev none 13 (77, [some (vR 4), some (vI x1), some (vI (if (nI i1) = x1 then v1.1 else (if (f_C_has ((σ.1 5) x1.toNatClampNeg) (nI i1)) = 0 then v1.1 else (if v1.2 ≤ (f_J_floorMod (((σ.1 2) (nI i1).toNatClampNeg) - ((σ.1 2) x1.toNatClampNeg)) (256 : Int32)) then v1.1 else (nI i1))))), some (vI (if (nI i1) = x1 then v1.2 else (if (f_C_has ((σ.1 5) x1.toNatClampNeg) (nI i1)) = 0 then v1.2 else (if v1.2 ≤ (f_J_floorMod (((σ.1 2) (nI i1).toNatClampNeg) - ((σ.1 2) x1.toNatClampNeg)) (256 : Int32)) then v1.2 else (f_J_floorMod (((σ.1 2) (nI i1).toNatClampNeg) - ((σ.1 2) x1.toNatClampNeg)) (256 : Int32)))))), some (vI (nI i1)), none], [], wd σ md, (0, 0)) r := by
      refine Ev.go (st' := (10, [some (vR 4), some (vI x1), some (vI (if (nI i1) = x1 then v1.1 else (if (f_C_has ((σ.1 5) x1.toNatClampNeg) (nI i1)) = 0 then v1.1 else (if v1.2 ≤ (f_J_floorMod (((σ.1 2) (nI i1).toNatClampNeg) - ((σ.1 2) x1.toNatClampNeg)) (256 : Int32)) then v1.1 else (nI i1))))), some (vI (if (nI i1) = x1 then v1.2 else (if (f_C_has ((σ.1 5) x1.toNatClampNeg) (nI i1)) = 0 then v1.2 else (if v1.2 ≤ (f_J_floorMod (((σ.1 2) (nI i1).toNatClampNeg) - ((σ.1 2) x1.toNatClampNeg)) (256 : Int32)) then v1.2 else (f_J_floorMod (((σ.1 2) (nI i1).toNatClampNeg) - ((σ.1 2) x1.toNatClampNeg)) (256 : Int32)))))), some (vI ((nI i1) + (1 : Int32))), none], [], wd σ md, (0, 0))) 2 rfl trivial ?_
      exact Ev.wk (Lle.s (Lle.s (Lle.s (Lle.s (Lle.s (Lle.n Lle.z)))))) (show Ev none 13 (10, [some (vR 4), some (vI x1), some (vI (if (nI i1) = x1 then v1.1 else (if (f_C_has ((σ.1 5) x1.toNatClampNeg) (nI i1)) = 0 then v1.1 else (if v1.2 ≤ (f_J_floorMod (((σ.1 2) (nI i1).toNatClampNeg) - ((σ.1 2) x1.toNatClampNeg)) (256 : Int32)) then v1.1 else (nI i1))))), some (vI (if (nI i1) = x1 then v1.2 else (if (f_C_has ((σ.1 5) x1.toNatClampNeg) (nI i1)) = 0 then v1.2 else (if v1.2 ≤ (f_J_floorMod (((σ.1 2) (nI i1).toNatClampNeg) - ((σ.1 2) x1.toNatClampNeg)) (256 : Int32)) then v1.2 else (f_J_floorMod (((σ.1 2) (nI i1).toNatClampNeg) - ((σ.1 2) x1.toNatClampNeg)) (256 : Int32)))))), some (vI ((nI i1) + (1 : Int32))), none], [], wd σ md, (0, 0)) r from k2)
    refine Ev.br (fun h2 => ?_) (fun h2 => ?_)
    · exact Ev.wk (Lle.s (Lle.s (Lle.s (Lle.s (Lle.s (Lle.n Lle.z)))))) (Ev.to kJ2 (by simp only [if_pos h2]))
    · refine Ev.go (st' := (31, [some (vR 4), some (vI x1), some (vI v1.1), some (vI v1.2), some (vI (nI i1)), none], [vI (nI i1), vI ((σ.1 5) x1.toNatClampNeg)], wd σ md, (0, 0))) 5 rfl ⟨(hp1.1.2 h2).1, trivial⟩ ?_
      refine Ev.callI (a := 6) (As := [vI ((σ.1 5) x1.toNatClampNeg), vI (nI i1)]) [] (f_C_has ((σ.1 5) x1.toNatClampNeg) (nI i1)) (wd σ md) rfl (e_C_has (wd σ md) ((σ.1 5) x1.toNatClampNeg) (nI i1)) ?_
      refine Ev.go (st' := (if (f_C_has ((σ.1 5) x1.toNatClampNeg) (nI i1)) = 0 then 77 else 37, [some (vR 4), some (vI x1), some (vI v1.1), some (vI v1.2), some (vI (nI i1)), none], [], wd σ md, (0, 0))) 1 rfl trivial ?_
      have kJ3 : Ev none 13 (77, [some (vR 4), some (vI x1), some (vI (if (f_C_has ((σ.1 5) x1.toNatClampNeg) (nI i1)) = 0 then v1.1 else (if v1.2 ≤ (f_J_floorMod (((σ.1 2) (nI i1).toNatClampNeg) - ((σ.1 2) x1.toNatClampNeg)) (256 : Int32)) then v1.1 else (nI i1)))), some (vI (if (f_C_has ((σ.1 5) x1.toNatClampNeg) (nI i1)) = 0 then v1.2 else (if v1.2 ≤ (f_J_floorMod (((σ.1 2) (nI i1).toNatClampNeg) - ((σ.1 2) x1.toNatClampNeg)) (256 : Int32)) then v1.2 else (f_J_floorMod (((σ.1 2) (nI i1).toNatClampNeg) - ((σ.1 2) x1.toNatClampNeg)) (256 : Int32))))), some (vI (nI i1)), none], [], wd σ md, (0, 0)) r := by
        exact Ev.wk (Lle.s (Lle.s (Lle.s (Lle.s (Lle.s (Lle.n Lle.z)))))) (Ev.to kJ2 (by simp only [if_neg h2]))
      refine Ev.br (fun h3 => ?_) (fun h3 => ?_)
      · exact Ev.wk (Lle.s (Lle.s (Lle.s (Lle.s (Lle.s (Lle.n Lle.z)))))) (Ev.to kJ3 (by simp only [if_pos h3]))
      · refine Ev.go (st' := (60, [some (vR 4), some (vI x1), some (vI v1.1), some (vI v1.2), some (vI (nI i1)), none], [vI (256 : Int32), vI (((σ.1 2) (nI i1).toNatClampNeg) - ((σ.1 2) x1.toNatClampNeg))], wd σ md, (0, 0))) 12 rfl ⟨(vp_in_nI (by omega) (by decide)), ((hp1.1.2 h2).2.1.2 h3).1, trivial⟩ ?_
        refine Ev.callI (a := 12) (As := [vI (((σ.1 2) (nI i1).toNatClampNeg) - ((σ.1 2) x1.toNatClampNeg)), vI (256 : Int32)]) [] (f_J_floorMod (((σ.1 2) (nI i1).toNatClampNeg) - ((σ.1 2) x1.toNatClampNeg)) (256 : Int32)) (wd σ md) rfl (e_J_floorMod (wd σ md) (((σ.1 2) (nI i1).toNatClampNeg) - ((σ.1 2) x1.toNatClampNeg)) (256 : Int32) ((hp1.1.2 h2).2.1.2 h3).2.1) ?_
        refine Ev.go (st' := (if v1.2 ≤ (f_J_floorMod (((σ.1 2) (nI i1).toNatClampNeg) - ((σ.1 2) x1.toNatClampNeg)) (256 : Int32)) then 77 else 71, [some (vR 4), some (vI x1), some (vI v1.1), some (vI v1.2), some (vI (nI i1)), some (vI (f_J_floorMod (((σ.1 2) (nI i1).toNatClampNeg) - ((σ.1 2) x1.toNatClampNeg)) (256 : Int32)))], [], wd σ md, (0, 0))) 4 rfl trivial ?_
        have kJ4 : Ev none 13 (77, [some (vR 4), some (vI x1), some (vI (if v1.2 ≤ (f_J_floorMod (((σ.1 2) (nI i1).toNatClampNeg) - ((σ.1 2) x1.toNatClampNeg)) (256 : Int32)) then v1.1 else (nI i1))), some (vI (if v1.2 ≤ (f_J_floorMod (((σ.1 2) (nI i1).toNatClampNeg) - ((σ.1 2) x1.toNatClampNeg)) (256 : Int32)) then v1.2 else (f_J_floorMod (((σ.1 2) (nI i1).toNatClampNeg) - ((σ.1 2) x1.toNatClampNeg)) (256 : Int32)))), some (vI (nI i1)), none], [], wd σ md, (0, 0)) r := by
          exact Ev.wk (Lle.s (Lle.s (Lle.s (Lle.s (Lle.s (Lle.n Lle.z)))))) (Ev.to kJ3 (by simp only [if_neg h3]))
        refine Ev.br (fun h4 => ?_) (fun h4 => ?_)
        · exact Ev.wk (Lle.s (Lle.s (Lle.s (Lle.s (Lle.s (Lle.n Lle.z)))))) (Ev.to kJ4 (by simp only [if_pos h4]))
        · refine Ev.go (st' := (77, [some (vR 4), some (vI x1), some (vI (nI i1)), some (vI (f_J_floorMod (((σ.1 2) (nI i1).toNatClampNeg) - ((σ.1 2) x1.toNatClampNeg)) (256 : Int32))), some (vI (nI i1)), some (vI (f_J_floorMod (((σ.1 2) (nI i1).toNatClampNeg) - ((σ.1 2) x1.toNatClampNeg)) (256 : Int32)))], [], wd σ md, (0, 0))) 4 rfl trivial ?_
          exact Ev.wk (Lle.s (Lle.s (Lle.s (Lle.s (Lle.s (Lle.n Lle.z)))))) (Ev.to kJ4 (by simp only [if_neg h4]))
  · refine Ev.go (st' := (if (8 : Int32) ≤ nI 8 then 83 else 17, [some (vR 4), some (vI x1), some (vI (forN (b_Paths_nextOnRing_1 x1 (σ.1 5) (σ.1 2)) 0 8 ((-6 : Int32), (256 : Int32))).1), some (vI (forN (b_Paths_nextOnRing_1 x1 (σ.1 5) (σ.1 2)) 0 8 ((-6 : Int32), (256 : Int32))).2), some (vI (nI 8)), none], [], wd σ md, (0, 0))) 3 rfl trivial (Ev.brN (by decide) ?_)
    refine Ev.wk (Lle.n (Lle.n (Lle.s (Lle.n (Lle.n (Lle.n Lle.z)))))) ?_
    refine Ev.go (st' := (84, [none, none, some (vI (forN (b_Paths_nextOnRing_1 x1 (σ.1 5) (σ.1 2)) 0 8 ((-6 : Int32), (256 : Int32))).1), none, none, none], [vI (forN (b_Paths_nextOnRing_1 x1 (σ.1 5) (σ.1 2)) 0 8 ((-6 : Int32), (256 : Int32))).1], wd σ md, (0, 0))) 1 rfl trivial ?_
    rw [hK] at k
    have k3 : (some (forN (b_Paths_nextOnRing_1 x1 (σ.1 5) (σ.1 2)) 0 8 ((-6 : Int32), (256 : Int32))).1, wd σ md) = r := k
    rw [← k3]
    exact Ev.ireti rfl rfl
end
section
/-! OF MeshNames$Paths.firstNearer(II)I -/
noncomputable def b_Paths_firstNearer_1 (p1 : Int32) (p2 : Int32) (steps : Nat → Int32) (p3 : Int32) (j : Nat) (v : Unit) : (Unit) ⊕ (Int32) := (if (8 : Int32) ≤ (nI j) then (.inr (-6 : Int32)) else (if p1 < 0 then (.inr (-6 : Int32)) else (if (f_C_has p2 (nI j)) = 0 then (.inl ()) else (if (steps (((nI j) * (8 : Int32)) + p3).toNatClampNeg) = p1 then (.inr (nI j)) else (.inl ())))))
def P_Paths_firstNearer_1 (p1 : Int32) (p2 : Int32) (steps : Nat → Int32) (p3 : Int32) (j : Nat) (v : Unit) : Prop := (((8 : Int32) ≤ (nI j) → True) ∧ (¬ ((8 : Int32) ≤ (nI j)) → (((p1 < 0 → True) ∧ (¬ (p1 < 0) → ((((f_C_has p2 (nI j)) = 0 → True) ∧ (¬ ((f_C_has p2 (nI j)) = 0) → (vp_in (((nI j) * (8 : Int32)) + p3) 64 ∧ True))) ∧ True))) ∧ True))) ∧ True
noncomputable def f_Paths_firstNearer (x1 : Int32) (x2 : Int32) (steps : Nat → Int32) (upSet : Int32) (links : Nat → Int32) : Int32 := (exB 0 (forX (b_Paths_firstNearer_1 ((steps ((x1 * (8 : Int32)) + x2).toNatClampNeg) - (1 : Int32)) (f_Mesh_neighbours x1 upSet links) steps x2) 0 9 ()))
def P_Paths_firstNearer (x1 : Int32) (x2 : Int32) (steps : Nat → Int32) (upSet : Int32) (links : Nat → Int32) : Prop := vp_in ((x1 * (8 : Int32)) + x2) 64 ∧ (P_Mesh_neighbours x1 upSet links) ∧ (∃ x, forX (b_Paths_firstNearer_1 ((steps ((x1 * (8 : Int32)) + x2).toNatClampNeg) - (1 : Int32)) (f_Mesh_neighbours x1 upSet links) steps x2) 0 9 () = .inr x) ∧ (∀ j v, j < 9 → forX (b_Paths_firstNearer_1 ((steps ((x1 * (8 : Int32)) + x2).toNatClampNeg) - (1 : Int32)) (f_Mesh_neighbours x1 upSet links) steps x2) 0 j () = .inl v → P_Paths_firstNearer_1 ((steps ((x1 * (8 : Int32)) + x2).toNatClampNeg) - (1 : Int32)) (f_Mesh_neighbours x1 upSet links) steps x2 (0 + j) v) ∧ True
set_option maxRecDepth 8000 in
set_option maxHeartbeats 4000000 in
theorem e_Paths_firstNearer_4 (σ : Sg) (md : AW) (x1 x2 : Int32) (hP : P_Paths_firstNearer x1 x2 (σ.1 8) (σ.2 1) (σ.1 3))  : Ev none 15 (0, [some (vR 4), some (vI x1), some (vI x2), none, none, none], [], wd σ md, (0, 0)) (some (f_Paths_firstNearer x1 x2 (σ.1 8) (σ.2 1) (σ.1 3)), wd σ md) := by
  suffices hh : ∀ (r : Option Int32 × AW) (K : (Int32) → Prop), K = (fun o : Int32 => (some o, wd σ md) = r) → K (exB 0 (forX (b_Paths_firstNearer_1 (((σ.1 8) ((x1 * (8 : Int32)) + x2).toNatClampNeg) - (1 : Int32)) (f_Mesh_neighbours x1 (σ.2 1) (σ.1 3)) (σ.1 8) x2) 0 9 ())) → Ev none 15 (0, [some (vR 4), some (vI x1), some (vI x2), none, none, none], [], wd σ md, (0, 0)) r from hh _ _ rfl rfl
  intro r K hK k
  refine Ev.go (st' := (19, [some (vR 4), some (vI x1), some (vI x2), some (vI (((σ.1 8) ((x1 * (8 : Int32)) + x2).toNatClampNeg) - (1 : Int32))), none, none], [vI x1, vR 1], wd σ md, (0, 0))) 14 rfl ⟨hP.1, trivial⟩ ?_
  refine Ev.callI (a := 9) (As := [vR 1, vI x1]) [] (f_Mesh_neighbours x1 (σ.2 1) (σ.1 3)) (wd σ md) rfl (e_Mesh_neighbours_1 σ md x1 hP.2.1) ?_
  refine Ev.go (st' := (27, [some (vR 4), some (vI x1), some (vI x2), some (vI (((σ.1 8) ((x1 * (8 : Int32)) + x2).toNatClampNeg) - (1 : Int32))), some (vI (f_Mesh_neighbours x1 (σ.2 1) (σ.1 3))), some (vI (0 : Int32))], [], wd σ md, (0, 0))) 3 rfl trivial ?_
  refine Ev.wk (Lle.s (Lle.n (Lle.s (Lle.s (Lle.s (Lle.s Lle.z)))))) ?_
  refine Ev.loopB (fun c v => (27, [some (vR 4), none, some (vI x2), some (vI (((σ.1 8) ((x1 * (8 : Int32)) + x2).toNatClampNeg) - (1 : Int32))), some (vI (f_Mesh_neighbours x1 (σ.2 1) (σ.1 3))), some (vI c)], [], wd σ md, (0, 0))) (b_Paths_firstNearer_1 (((σ.1 8) ((x1 * (8 : Int32)) + x2).toNatClampNeg) - (1 : Int32)) (f_Mesh_neighbours x1 (σ.2 1) (σ.1 3)) (σ.1 8) x2) 0 9 () (c0 := (0 : Int32)) rfl 0 K hP.2.2.1 k (fun j v1 hj hv K1 hK1 k => ?_)
  · have hp1 := hP.2.2.2.1 j v1 hj hv
    have hi1 : 0 + j < 0 + 9 := by omega
    clear hj hv
    generalize 0 + j = i1 at hi1 hK1 hp1 k ⊢
    replace k : K1 (if (8 : Int32) ≤ (nI i1) then (.inr (-6 : Int32)) else (if (((σ.1 8) ((x1 * (8 : Int32)) + x2).toNatClampNeg) - (1 : Int32)) < 0 then (.inr (-6 : Int32)) else (if (f_C_has (f_Mesh_neighbours x1 (σ.2 1) (σ.1 3)) (nI i1)) = 0 then (.inl ()) else (if ((σ.1 8) (((nI i1) * (8 : Int32)) + x2).toNatClampNeg) = (((σ.1 8) ((x1 * (8 : Int32)) + x2).toNatClampNeg) - (1 : Int32)) then (.inr (nI i1)) else (.inl ()))))) := k
    show Ev none 15 (27, [some (vR 4), none, some (vI x2), some (vI (((σ.1 8) ((x1 * (8 : Int32)) + x2).toNatClampNeg) - (1 : Int32))), some (vI (f_Mesh_neighbours x1 (σ.2 1) (σ.1 3))), some (vI (nI i1))], [], wd σ md, (0, 0)) r
    refine Ev.go (st' := (if (8 : Int32) ≤ (nI i1) then 73 else 34, [some (vR 4), none, some (vI x2), some (vI (((σ.1 8) ((x1 * (8 : Int32)) + x2).toNatClampNeg) - (1 : Int32))), some (vI (f_Mesh_neighbours x1 (σ.2 1) (σ.1 3))), some (vI (nI i1))], [], wd σ md, (0, 0))) 3 rfl trivial ?_
    refine Ev.brK (K := K1) k (fun h2 k => ?_) (fun h2 k => ?_)
    · refine Ev.go (st' := (75, [some (vR 4), none, some (vI x2), some (vI (((σ.1 8) ((x1 * (8 : Int32)) + x2).toNatClampNeg) - (1 : Int32))), some (vI (f_Mesh_neighbours x1 (σ.2 1) (σ.1 3))), some (vI (nI i1))], [vI (-6 : Int32)], wd σ md, (0, 0))) 1 rfl trivial ?_
      rw [hK1] at k
      replace k : K (-6 : Int32) := k
      rw [hK] at k
      have k3 : (some (-6 : Int32), wd σ md) = r := k
      rw [← k3]
      exact Ev.ireti rfl rfl
    · refine Ev.go (st' := (if (((σ.1 8) ((x1 * (8 : Int32)) + x2).toNatClampNeg) - (1 : Int32)) < 0 then 73 else 38, [some (vR 4), none, some (vI x2), some (vI (((σ.1 8) ((x1 * (8 : Int32)) + x2).toNatClampNeg) - (1 : Int32))), some (vI (f_Mesh_neighbours x1 (σ.2 1) (σ.1 3))), some (vI (nI i1))], [], wd σ md, (0, 0))) 2 rfl trivial ?_
      refine Ev.brK (K := K1) k (fun h3 k => ?_) (fun h3 k => ?_)
      · refine Ev.go (st' := (75, [some (vR 4), none, some (vI x2), some (vI (((σ.1 8) ((x1 * (8 : Int32)) + x2).toNatClampNeg) - (1 : Int32))), some (vI (f_Mesh_neighbours x1 (σ.2 1) (σ.1 3))), some (vI (nI i1))], [vI (-6 : Int32)], wd σ md, (0, 0))) 1 rfl trivial ?_
        rw [hK1] at k
        replace k : K (-6 : Int32) := k
        rw [hK] at k
        have k3 : (some (-6 : Int32), wd σ md) = r := k
        rw [← k3]
        exact Ev.ireti rfl rfl
      · refine Ev.go (st' := (42, [some (vR 4), none, some (vI x2), some (vI (((σ.1 8) ((x1 * (8 : Int32)) + x2).toNatClampNeg) - (1 : Int32))), some (vI (f_Mesh_neighbours x1 (σ.2 1) (σ.1 3))), some (vI (nI i1))], [vI (nI i1), vI (f_Mesh_neighbours x1 (σ.2 1) (σ.1 3))], wd σ md, (0, 0))) 2 rfl trivial ?_
        refine Ev.callI (a := 6) (As := [vI (f_Mesh_neighbours x1 (σ.2 1) (σ.1 3)), vI (nI i1)]) [] (f_C_has (f_Mesh_neighbours x1 (σ.2 1) (σ.1 3)) (nI i1)) (wd σ md) rfl (e_C_has (wd σ md) (f_Mesh_neighbours x1 (σ.2 1) (σ.1 3)) (nI i1)) ?_
        refine Ev.go (st' := (if (f_C_has (f_Mesh_neighbours x1 (σ.2 1) (σ.1 3)) (nI i1)) = 0 then 67 else 48, [some (vR 4), none, some (vI x2), some (vI (((σ.1 8) ((x1 * (8 : Int32)) + x2).toNatClampNeg) - (1 : Int32))), some (vI (f_Mesh_neighbours x1 (σ.2 1) (σ.1 3))), some (vI (nI i1))], [], wd σ md, (0, 0))) 1 rfl trivial ?_
        refine Ev.brK (K := K1) k (fun h4 k => ?_) (fun h4 k => ?_)
        · refine Ev.go (st' := (27, [some (vR 4), none, some (vI x2), some (vI (((σ.1 8) ((x1 * (8 : Int32)) + x2).toNatClampNeg) - (1 : Int32))), some (vI (f_Mesh_neighbours x1 (σ.2 1) (σ.1 3))), some (vI ((nI i1) + (1 : Int32)))], [], wd σ md, (0, 0))) 2 rfl trivial ?_
          rw [hK1] at k
          exact Ev.wk (Lle.s (Lle.n (Lle.s (Lle.s (Lle.s (Lle.s Lle.z)))))) (show Ev none 15 (27, [some (vR 4), none, some (vI x2), some (vI (((σ.1 8) ((x1 * (8 : Int32)) + x2).toNatClampNeg) - (1 : Int32))), some (vI (f_Mesh_neighbours x1 (σ.2 1) (σ.1 3))), some (vI ((nI i1) + (1 : Int32)))], [], wd σ md, (0, 0)) r from k)
        · refine Ev.go (st' := (if ((σ.1 8) (((nI i1) * (8 : Int32)) + x2).toNatClampNeg) = (((σ.1 8) ((x1 * (8 : Int32)) + x2).toNatClampNeg) - (1 : Int32)) then 64 else 67, [some (vR 4), none, some (vI x2), some (vI (((σ.1 8) ((x1 * (8 : Int32)) + x2).toNatClampNeg) - (1 : Int32))), some (vI (f_Mesh_neighbours x1 (σ.2 1) (σ.1 3))), some (vI (nI i1))], [], wd σ md, (0, 0))) 10 rfl ⟨(((hp1.1.2 h2).1.2 h3).1.2 h4).1, trivial⟩ ?_
          refine Ev.brK (K := K1) k (fun h5 k => ?_) (fun h5 k => ?_)
          · refine Ev.go (st' := (66, [some (vR 4), none, some (vI x2), some (vI (((σ.1 8) ((x1 * (8 : Int32)) + x2).toNatClampNeg) - (1 : Int32))), some (vI (f_Mesh_neighbours x1 (σ.2 1) (σ.1 3))), some (vI (nI i1))], [vI (nI i1)], wd σ md, (0, 0))) 1 rfl trivial ?_
            rw [hK1] at k
            replace k : K (nI i1) := k
            rw [hK] at k
            have k3 : (some (nI i1), wd σ md) = r := k
            rw [← k3]
            exact Ev.ireti rfl rfl
          · refine Ev.go (st' := (27, [some (vR 4), none, some (vI x2), some (vI (((σ.1 8) ((x1 * (8 : Int32)) + x2).toNatClampNeg) - (1 : Int32))), some (vI (f_Mesh_neighbours x1 (σ.2 1) (σ.1 3))), some (vI ((nI i1) + (1 : Int32)))], [], wd σ md, (0, 0))) 2 rfl trivial ?_
            rw [hK1] at k
            exact Ev.wk (Lle.s (Lle.n (Lle.s (Lle.s (Lle.s (Lle.s Lle.z)))))) (show Ev none 15 (27, [some (vR 4), none, some (vI x2), some (vI (((σ.1 8) ((x1 * (8 : Int32)) + x2).toNatClampNeg) - (1 : Int32))), some (vI (f_Mesh_neighbours x1 (σ.2 1) (σ.1 3))), some (vI ((nI i1) + (1 : Int32)))], [], wd σ md, (0, 0)) r from k)
end
section
/-! OF MeshNames$Paths.layFrom(II)V -/
noncomputable def b_Paths_layFrom_1 (p1 : Int32) (j : Nat) (v : Nat → Int32) : Nat → Int32 := (upd v ((p1 * (8 : Int32)) + (nI j)).toNatClampNeg (-6 : Int32))
def P_Paths_layFrom_1 (p1 : Int32) (j : Nat) (v : Nat → Int32) : Prop := vp_in ((p1 * (8 : Int32)) + (nI j)) 64 ∧ True
noncomputable def b_Paths_layFrom_2 (p1 : Int32) (steps : Nat → Int32) (upSet : Int32) (links : Nat → Int32) (p2 : Int32) (j : Nat) (v : Int32 × (Nat → Int32) × (Nat → Int32) × (Nat → Int32)) : (Int32 × (Nat → Int32) × (Nat → Int32) × (Nat → Int32)) ⊕ (Int32 × (Nat → Int32) × (Nat → Int32) × (Nat → Int32)) := (if (8 : Int32) ≤ (nI j) then (.inr (v.1, v.2.1, v.2.2.1, v.2.2.2)) else (if (f_C_isNode v.1) = 0 then (.inr (v.1, v.2.1, v.2.2.1, v.2.2.2)) else (.inl ((f_Paths_firstNearer v.1 p1 steps upSet links), (upd v.2.1 p2.toNatClampNeg ((nI j) + (1 : Int32))), (upd v.2.2.1 ((p2 * (8 : Int32)) + (nI j)).toNatClampNeg v.1), (upd v.2.2.2 ((p2 * (8 : Int32)) + v.1).toNatClampNeg (nI j))))))
def P_Paths_layFrom_2 (p1 : Int32) (steps : Nat → Int32) (upSet : Int32) (links : Nat → Int32) (p2 : Int32) (j : Nat) (v : Int32 × (Nat → Int32) × (Nat → Int32) × (Nat → Int32)) : Prop := (((8 : Int32) ≤ (nI j) → True) ∧ (¬ ((8 : Int32) ≤ (nI j)) → ((((f_C_isNode v.1) = 0 → True) ∧ (¬ ((f_C_isNode v.1) = 0) → (vp_in ((p2 * (8 : Int32)) + (nI j)) 64 ∧ vp_in ((p2 * (8 : Int32)) + v.1) 64 ∧ vp_in p2 8 ∧ (P_Paths_firstNearer v.1 p1 steps upSet links) ∧ True))) ∧ True))) ∧ True
noncomputable def f_Paths_layFrom (x1 : Int32) (x2 : Int32) (steps : Nat → Int32) (upSet : Int32) (links : Nat → Int32) (lengths : Nat → Int32) (rows : Nat → Int32) (places : Nat → Int32) : (Nat → Int32) × (Nat → Int32) × (Nat → Int32) := ((unX (forX (b_Paths_layFrom_2 x2 steps upSet links x1) 0 9 ((if (f_C_isNode x2) = 0 then (-6 : Int32) else x1), (upd lengths x1.toNatClampNeg (0 : Int32)), rows, (forN (b_Paths_layFrom_1 x1) 0 8 places)))).2.1, (unX (forX (b_Paths_layFrom_2 x2 steps upSet links x1) 0 9 ((if (f_C_isNode x2) = 0 then (-6 : Int32) else x1), (upd lengths x1.toNatClampNeg (0 : Int32)), rows, (forN (b_Paths_layFrom_1 x1) 0 8 places)))).2.2.1, (unX (forX (b_Paths_layFrom_2 x2 steps upSet links x1) 0 9 ((if (f_C_isNode x2) = 0 then (-6 : Int32) else x1), (upd lengths x1.toNatClampNeg (0 : Int32)), rows, (forN (b_Paths_layFrom_1 x1) 0 8 places)))).2.2.2)
def P_Paths_layFrom (x1 : Int32) (x2 : Int32) (steps : Nat → Int32) (upSet : Int32) (links : Nat → Int32) (lengths : Nat → Int32) (rows : Nat → Int32) (places : Nat → Int32) : Prop := vp_in x1 8 ∧ (∀ j, j < 8 → P_Paths_layFrom_1 x1 (0 + j) (forN (b_Paths_layFrom_1 x1) 0 j places)) ∧ (∃ x, forX (b_Paths_layFrom_2 x2 steps upSet links x1) 0 9 ((if (f_C_isNode x2) = 0 then (-6 : Int32) else x1), (upd lengths x1.toNatClampNeg (0 : Int32)), rows, (forN (b_Paths_layFrom_1 x1) 0 8 places)) = .inr x) ∧ (∀ j v, j < 9 → forX (b_Paths_layFrom_2 x2 steps upSet links x1) 0 j ((if (f_C_isNode x2) = 0 then (-6 : Int32) else x1), (upd lengths x1.toNatClampNeg (0 : Int32)), rows, (forN (b_Paths_layFrom_1 x1) 0 8 places)) = .inl v → P_Paths_layFrom_2 x2 steps upSet links x1 (0 + j) v) ∧ True
set_option maxRecDepth 8000 in
set_option maxHeartbeats 4000000 in
theorem e_Paths_layFrom_4 (σ : Sg) (md : AW) (x1 x2 : Int32) (hP : P_Paths_layFrom x1 x2 (σ.1 8) (σ.2 1) (σ.1 3) (σ.1 9) (σ.1 10) (σ.1 11))  : Ev none 16 (0, [some (vR 4), some (vI x1), some (vI x2), none, none], [], wd σ md, (0, 0)) (none, wd (sA 9 (f_Paths_layFrom x1 x2 (σ.1 8) (σ.2 1) (σ.1 3) (σ.1 9) (σ.1 10) (σ.1 11)).1 (sA 10 (f_Paths_layFrom x1 x2 (σ.1 8) (σ.2 1) (σ.1 3) (σ.1 9) (σ.1 10) (σ.1 11)).2.1 (sA 11 (f_Paths_layFrom x1 x2 (σ.1 8) (σ.2 1) (σ.1 3) (σ.1 9) (σ.1 10) (σ.1 11)).2.2 σ))) md) := by
  suffices hh : ∀ (r : Option Int32 × AW) (K : ((Nat → Int32) × (Nat → Int32) × (Nat → Int32)) → Prop), K = (fun o : (Nat → Int32) × (Nat → Int32) × (Nat → Int32) => (none, wd (sA 9 o.1 (sA 10 o.2.1 (sA 11 o.2.2 σ))) md) = r) → K ((unX (forX (b_Paths_layFrom_2 x2 (σ.1 8) (σ.2 1) (σ.1 3) x1) 0 9 ((if (f_C_isNode x2) = 0 then (-6 : Int32) else x1), (upd (σ.1 9) x1.toNatClampNeg (0 : Int32)), (σ.1 10), (forN (b_Paths_layFrom_1 x1) 0 8 (σ.1 11))))).2.1, (unX (forX (b_Paths_layFrom_2 x2 (σ.1 8) (σ.2 1) (σ.1 3) x1) 0 9 ((if (f_C_isNode x2) = 0 then (-6 : Int32) else x1), (upd (σ.1 9) x1.toNatClampNeg (0 : Int32)), (σ.1 10), (forN (b_Paths_layFrom_1 x1) 0 8 (σ.1 11))))).2.2.1, (unX (forX (b_Paths_layFrom_2 x2 (σ.1 8) (σ.2 1) (σ.1 3) x1) 0 9 ((if (f_C_isNode x2) = 0 then (-6 : Int32) else x1), (upd (σ.1 9) x1.toNatClampNeg (0 : Int32)), (σ.1 10), (forN (b_Paths_layFrom_1 x1) 0 8 (σ.1 11))))).2.2.2) → Ev none 16 (0, [some (vR 4), some (vI x1), some (vI x2), none, none], [], wd σ md, (0, 0)) r from hh _ _ rfl rfl
  intro r K hK k
  refine Ev.go (st' := (9, [some (vR 4), some (vI x1), some (vI x2), some (vI (0 : Int32)), none], [], wd (sA 9 (upd (σ.1 9) x1.toNatClampNeg (0 : Int32)) σ) md, (0, 0))) 7 rfl ⟨hP.1, trivial⟩ ?_
  refine Ev.wk (Lle.s (Lle.s (Lle.s (Lle.s (Lle.n Lle.z))))) ?_
  refine Ev.loopN (fun c v => (9, [some (vR 4), some (vI x1), some (vI x2), some (vI c), none], [], wd (sA 9 (upd (σ.1 9) x1.toNatClampNeg (0 : Int32)) (sA 11 v σ)) md, (0, 0))) (b_Paths_layFrom_1 x1) 0 8 8 (σ.1 11) (c0 := (0 : Int32)) rfl (by omega) (fun j hj k2 => ?_) ?_
  · have hp1 := hP.2.1 j hj
    have hi1 : 0 + j < 8 := by omega
    clear hj
    generalize forN (b_Paths_layFrom_1 x1) 0 j (σ.1 11) = v1 at hp1 k2 ⊢
    generalize 0 + j = i1 at hi1 hp1 k2 ⊢
    show Ev none 16 (9, [some (vR 4), some (vI x1), some (vI x2), some (vI (nI i1)), none], [], wd (sA 9 (upd (σ.1 9) x1.toNatClampNeg (0 : Int32)) (sA 11 v1 σ)) md, (0, 0)) r
    refine Ev.go (st' := (if (8 : Int32) ≤ nI i1 then 34 else 15, [some (vR 4), some (vI x1), some (vI x2), some (vI (nI i1)), none], [], wd (sA 9 (upd (σ.1 9) x1.toNatClampNeg (0 : Int32)) (sA 11 v1 σ)) md, (0, 0))) 3 rfl trivial (Ev.brF (nI_ge hi1 (by decide)) ?_)
    refine Ev.go (st' := (9, [some (vR 4), some (vI x1), some (vI x2), some (vI ((nI i1) + (1 : Int32))), none], [], wd (sA 9 (upd (σ.1 9) x1.toNatClampNeg (0 : Int32)) (sA 11 (upd v1 ((x1 * (8 : Int32)) + (nI i1)).toNatClampNeg (-6 : Int32)) σ)) md, (0, 0))) 11 rfl ⟨hp1.1, trivial⟩ ?_
    exact Ev.wk (Lle.s (Lle.s (Lle.s (Lle.s (Lle.n Lle.z))))) (show Ev none 16 (9, [some (vR 4), some (vI x1), some (vI x2), some (vI ((nI i1) + (1 : Int32))), none], [], wd (sA 9 (upd (σ.1 9) x1.toNatClampNeg (0 : Int32)) (sA 11 (upd v1 ((x1 * (8 : Int32)) + (nI i1)).toNatClampNeg (-6 : Int32)) σ)) md, (0, 0)) r from k2)
  · refine Ev.go (st' := (if (8 : Int32) ≤ nI 8 then 34 else 15, [some (vR 4), some (vI x1), some (vI x2), some (vI (nI 8)), none], [], wd (sA 9 (upd (σ.1 9) x1.toNatClampNeg (0 : Int32)) (sA 11 (forN (b_Paths_layFrom_1 x1) 0 8 (σ.1 11)) σ)) md, (0, 0))) 3 rfl trivial (Ev.brN (by decide) ?_)
    refine Ev.wk (Lle.s (Lle.s (Lle.s (Lle.n (Lle.n Lle.z))))) ?_
    refine Ev.go (st' := (35, [some (vR 4), some (vI x1), some (vI x2), none, none], [vI x2], wd (sA 9 (upd (σ.1 9) x1.toNatClampNeg (0 : Int32)) (sA 11 (forN (b_Paths_layFrom_1 x1) 0 8 (σ.1 11)) σ)) md, (0, 0))) 1 rfl trivial ?_
    refine Ev.callI (a := 14) (As := [vI x2]) [] (f_C_isNode x2) (wd (sA 9 (upd (σ.1 9) x1.toNatClampNeg (0 : Int32)) (sA 11 (forN (b_Paths_layFrom_1 x1) 0 8 (σ.1 11)) σ)) md) rfl (e_C_isNode (wd (sA 9 (upd (σ.1 9) x1.toNatClampNeg (0 : Int32)) (sA 11 (forN (b_Paths_layFrom_1 x1) 0 8 (σ.1 11)) σ)) md) x2) ?_
    refine Ev.go (st' := (if (f_C_isNode x2) = 0 then 45 else 41, [some (vR 4), some (vI x1), some (vI x2), none, none], [], wd (sA 9 (upd (σ.1 9) x1.toNatClampNeg (0 : Int32)) (sA 11 (forN (b_Paths_layFrom_1 x1) 0 8 (σ.1 11)) σ)) md, (0, 0))) 1 rfl trivial ?_
    have kJ2 : Ev none 16 (47, [some (vR 4), some (vI x1), some (vI x2), none, none], [vI (if (f_C_isNode x2) = 0 then (-6 : Int32) else x1)], wd (sA 9 (upd (σ.1 9) x1.toNatClampNeg (0 : Int32)) (sA 11 (forN (b_Paths_layFrom_1 x1) 0 8 (σ.1 11)) σ)) md, (0, 0)) r := by
      refine Ev.go (st' := (51, [some (vR 4), some (vI x1), some (vI x2), some (vI (if (f_C_isNode x2) = 0 then (-6 : Int32) else x1)), some (vI (0 : Int32))], [], wd (sA 9 (upd (σ.1 9) x1.toNatClampNeg (0 : Int32)) (sA 11 (forN (b_Paths_layFrom_1 x1) 0 8 (σ.1 11)) σ)) md, (0, 0))) 3 rfl trivial ?_
      refine Ev.wk (Lle.s (Lle.s (Lle.s (Lle.s (Lle.s Lle.z))))) ?_
      refine Ev.loopA (fun c v => (51, [some (vR 4), some (vI x1), some (vI x2), some (vI v.1), some (vI c)], [], wd (sA 9 v.2.1 (sA 10 v.2.2.1 (sA 11 v.2.2.2 σ))) md, (0, 0))) (fun v => (114, [none, none, none, none, none], [], wd (sA 9 v.2.1 (sA 10 v.2.2.1 (sA 11 v.2.2.2 σ))) md, (0, 0))) (b_Paths_layFrom_2 x2 (σ.1 8) (σ.2 1) (σ.1 3) x1) 0 9 ((if (f_C_isNode x2) = 0 then (-6 : Int32) else x1), (upd (σ.1 9) x1.toNatClampNeg (0 : Int32)), (σ.1 10), (forN (b_Paths_layFrom_1 x1) 0 8 (σ.1 11))) (c0 := (0 : Int32)) rfl hP.2.2.1 (fun j v3 hj hv K3 hK3 k => ?_) ?_
      · have hp3 := hP.2.2.2.1 j v3 hj hv
        have hi3 : 0 + j < 0 + 9 := by omega
        clear hj hv
        generalize 0 + j = i3 at hi3 hK3 hp3 k ⊢
        replace k : K3 (if (8 : Int32) ≤ (nI i3) then (.inr (v3.1, v3.2.1, v3.2.2.1, v3.2.2.2)) else (if (f_C_isNode v3.1) = 0 then (.inr (v3.1, v3.2.1, v3.2.2.1, v3.2.2.2)) else (.inl ((f_Paths_firstNearer v3.1 x2 (σ.1 8) (σ.2 1) (σ.1 3)), (upd v3.2.1 x1.toNatClampNeg ((nI i3) + (1 : Int32))), (upd v3.2.2.1 ((x1 * (8 : Int32)) + (nI i3)).toNatClampNeg v3.1), (upd v3.2.2.2 ((x1 * (8 : Int32)) + v3.1).toNatClampNeg (nI i3)))))) := k
        show Ev none 16 (51, [some (vR 4), some (vI x1), some (vI x2), some (vI v3.1), some (vI (nI i3))], [], wd (sA 9 v3.2.1 (sA 10 v3.2.2.1 (sA 11 v3.2.2.2 σ))) md, (0, 0)) r
        refine Ev.go (st' := (if (8 : Int32) ≤ (nI i3) then 114 else 58, [some (vR 4), some (vI x1), some (vI x2), some (vI v3.1), some (vI (nI i3))], [], wd (sA 9 v3.2.1 (sA 10 v3.2.2.1 (sA 11 v3.2.2.2 σ))) md, (0, 0))) 3 rfl trivial ?_
        refine Ev.brK (K := K3) k (fun h4 k => ?_) (fun h4 k => ?_)
        · rw [hK3] at k
          exact Ev.wk (Lle.n (Lle.n (Lle.n (Lle.n (Lle.n Lle.z))))) (show Ev none 16 (114, [none, none, none, none, none], [], wd (sA 9 v3.2.1 (sA 10 v3.2.2.1 (sA 11 v3.2.2.2 σ))) md, (0, 0)) r from k)
        · refine Ev.go (st' := (59, [some (vR 4), some (vI x1), some (vI x2), some (vI v3.1), some (vI (nI i3))], [vI v3.1], wd (sA 9 v3.2.1 (sA 10 v3.2.2.1 (sA 11 v3.2.2.2 σ))) md, (0, 0))) 1 rfl trivial ?_
          refine Ev.callI (a := 14) (As := [vI v3.1]) [] (f_C_isNode v3.1) (wd (sA 9 v3.2.1 (sA 10 v3.2.2.1 (sA 11 v3.2.2.2 σ))) md) rfl (e_C_isNode (wd (sA 9 v3.2.1 (sA 10 v3.2.2.1 (sA 11 v3.2.2.2 σ))) md) v3.1) ?_
          refine Ev.go (st' := (if (f_C_isNode v3.1) = 0 then 114 else 65, [some (vR 4), some (vI x1), some (vI x2), some (vI v3.1), some (vI (nI i3))], [], wd (sA 9 v3.2.1 (sA 10 v3.2.2.1 (sA 11 v3.2.2.2 σ))) md, (0, 0))) 1 rfl trivial ?_
          refine Ev.brK (K := K3) k (fun h5 k => ?_) (fun h5 k => ?_)
          · rw [hK3] at k
            exact Ev.wk (Lle.n (Lle.n (Lle.n (Lle.n (Lle.n Lle.z))))) (show Ev none 16 (114, [none, none, none, none, none], [], wd (sA 9 v3.2.1 (sA 10 v3.2.2.1 (sA 11 v3.2.2.2 σ))) md, (0, 0)) r from k)
          · refine Ev.go (st' := (104, [some (vR 4), some (vI x1), some (vI x2), some (vI v3.1), some (vI (nI i3))], [vI x2, vI v3.1, vR 4], wd (sA 9 (upd v3.2.1 x1.toNatClampNeg ((nI i3) + (1 : Int32))) (sA 10 (upd v3.2.2.1 ((x1 * (8 : Int32)) + (nI i3)).toNatClampNeg v3.1) (sA 11 (upd v3.2.2.2 ((x1 * (8 : Int32)) + v3.1).toNatClampNeg (nI i3)) σ))) md, (0, 0))) 28 rfl ⟨((hp3.1.2 h4).1.2 h5).1, ((hp3.1.2 h4).1.2 h5).2.1, ((hp3.1.2 h4).1.2 h5).2.2.1, trivial⟩ ?_
            refine Ev.callI (a := 15) (As := [vR 4, vI v3.1, vI x2]) [] (f_Paths_firstNearer v3.1 x2 (σ.1 8) (σ.2 1) (σ.1 3)) (wd (sA 9 (upd v3.2.1 x1.toNatClampNeg ((nI i3) + (1 : Int32))) (sA 10 (upd v3.2.2.1 ((x1 * (8 : Int32)) + (nI i3)).toNatClampNeg v3.1) (sA 11 (upd v3.2.2.2 ((x1 * (8 : Int32)) + v3.1).toNatClampNeg (nI i3)) σ))) md) rfl (e_Paths_firstNearer_4 (sA 9 (upd v3.2.1 x1.toNatClampNeg ((nI i3) + (1 : Int32))) (sA 10 (upd v3.2.2.1 ((x1 * (8 : Int32)) + (nI i3)).toNatClampNeg v3.1) (sA 11 (upd v3.2.2.2 ((x1 * (8 : Int32)) + v3.1).toNatClampNeg (nI i3)) σ))) md v3.1 x2 ((hp3.1.2 h4).1.2 h5).2.2.2.1) ?_
            refine Ev.go (st' := (51, [some (vR 4), some (vI x1), some (vI x2), some (vI (f_Paths_firstNearer v3.1 x2 (σ.1 8) (σ.2 1) (σ.1 3))), some (vI ((nI i3) + (1 : Int32)))], [], wd (sA 9 (upd v3.2.1 x1.toNatClampNeg ((nI i3) + (1 : Int32))) (sA 10 (upd v3.2.2.1 ((x1 * (8 : Int32)) + (nI i3)).toNatClampNeg v3.1) (sA 11 (upd v3.2.2.2 ((x1 * (8 : Int32)) + v3.1).toNatClampNeg (nI i3)) σ))) md, (0, 0))) 3 rfl trivial ?_
            rw [hK3] at k
            exact Ev.wk (Lle.s (Lle.s (Lle.s (Lle.s (Lle.s Lle.z))))) (show Ev none 16 (51, [some (vR 4), some (vI x1), some (vI x2), some (vI (f_Paths_firstNearer v3.1 x2 (σ.1 8) (σ.2 1) (σ.1 3))), some (vI ((nI i3) + (1 : Int32)))], [], wd (sA 9 (upd v3.2.1 x1.toNatClampNeg ((nI i3) + (1 : Int32))) (sA 10 (upd v3.2.2.1 ((x1 * (8 : Int32)) + (nI i3)).toNatClampNeg v3.1) (sA 11 (upd v3.2.2.2 ((x1 * (8 : Int32)) + v3.1).toNatClampNeg (nI i3)) σ))) md, (0, 0)) r from k)
      · show Ev none 16 (114, [none, none, none, none, none], [], wd (sA 9 (unX (forX (b_Paths_layFrom_2 x2 (σ.1 8) (σ.2 1) (σ.1 3) x1) 0 9 ((if (f_C_isNode x2) = 0 then (-6 : Int32) else x1), (upd (σ.1 9) x1.toNatClampNeg (0 : Int32)), (σ.1 10), (forN (b_Paths_layFrom_1 x1) 0 8 (σ.1 11))))).2.1 (sA 10 (unX (forX (b_Paths_layFrom_2 x2 (σ.1 8) (σ.2 1) (σ.1 3) x1) 0 9 ((if (f_C_isNode x2) = 0 then (-6 : Int32) else x1), (upd (σ.1 9) x1.toNatClampNeg (0 : Int32)), (σ.1 10), (forN (b_Paths_layFrom_1 x1) 0 8 (σ.1 11))))).2.2.1 (sA 11 (unX (forX (b_Paths_layFrom_2 x2 (σ.1 8) (σ.2 1) (σ.1 3) x1) 0 9 ((if (f_C_isNode x2) = 0 then (-6 : Int32) else x1), (upd (σ.1 9) x1.toNatClampNeg (0 : Int32)), (σ.1 10), (forN (b_Paths_layFrom_1 x1) 0 8 (σ.1 11))))).2.2.2 σ))) md, (0, 0)) r
        rw [hK] at k
        have k3 : (none, wd (sA 9 (unX (forX (b_Paths_layFrom_2 x2 (σ.1 8) (σ.2 1) (σ.1 3) x1) 0 9 ((if (f_C_isNode x2) = 0 then (-6 : Int32) else x1), (upd (σ.1 9) x1.toNatClampNeg (0 : Int32)), (σ.1 10), (forN (b_Paths_layFrom_1 x1) 0 8 (σ.1 11))))).2.1 (sA 10 (unX (forX (b_Paths_layFrom_2 x2 (σ.1 8) (σ.2 1) (σ.1 3) x1) 0 9 ((if (f_C_isNode x2) = 0 then (-6 : Int32) else x1), (upd (σ.1 9) x1.toNatClampNeg (0 : Int32)), (σ.1 10), (forN (b_Paths_layFrom_1 x1) 0 8 (σ.1 11))))).2.2.1 (sA 11 (unX (forX (b_Paths_layFrom_2 x2 (σ.1 8) (σ.2 1) (σ.1 3) x1) 0 9 ((if (f_C_isNode x2) = 0 then (-6 : Int32) else x1), (upd (σ.1 9) x1.toNatClampNeg (0 : Int32)), (σ.1 10), (forN (b_Paths_layFrom_1 x1) 0 8 (σ.1 11))))).2.2.2 σ))) md) = r := k
        rw [← k3]
        exact Ev.retv rfl rfl
    refine Ev.br (fun h2 => ?_) (fun h2 => ?_)
    · refine Ev.go (st' := (47, [some (vR 4), some (vI x1), some (vI x2), none, none], [vI (-6 : Int32)], wd (sA 9 (upd (σ.1 9) x1.toNatClampNeg (0 : Int32)) (sA 11 (forN (b_Paths_layFrom_1 x1) 0 8 (σ.1 11)) σ)) md, (0, 0))) 1 rfl trivial ?_
      exact Ev.wk (Lle.s (Lle.s (Lle.s (Lle.n (Lle.n Lle.z))))) (Ev.to kJ2 (by simp only [if_pos h2]))
    · refine Ev.go (st' := (47, [some (vR 4), some (vI x1), some (vI x2), none, none], [vI x1], wd (sA 9 (upd (σ.1 9) x1.toNatClampNeg (0 : Int32)) (sA 11 (forN (b_Paths_layFrom_1 x1) 0 8 (σ.1 11)) σ)) md, (0, 0))) 2 rfl trivial ?_
      exact Ev.wk (Lle.s (Lle.s (Lle.s (Lle.n (Lle.n Lle.z))))) (Ev.to kJ2 (by simp only [if_neg h2]))
end
section
/-! OF MeshNames$Paths.lay()V -/
noncomputable def b_Paths_lay_1 (upSet : Int32) (links : Nat → Int32) (j : Nat) (v : (Nat → Int32) × (Nat → Int32) × (Nat → Int32)) : (Nat → Int32) × (Nat → Int32) × (Nat → Int32) := ((f_Paths_measureFrom (nI j) v.1 upSet links v.2.2).1, (upd v.2.1 (nI j).toNatClampNeg (-6 : Int32)), (f_Paths_measureFrom (nI j) v.1 upSet links v.2.2).2)
def P_Paths_lay_1 (upSet : Int32) (links : Nat → Int32) (j : Nat) (v : (Nat → Int32) × (Nat → Int32) × (Nat → Int32)) : Prop := (P_Paths_measureFrom (nI j) v.1 upSet links v.2.2) ∧ True
noncomputable def b_Paths_lay_2 (parts : Nat → Int32) (names : Nat → Int32) (steps : Nat → Int32) (upSet : Int32) (links : Nat → Int32) (j : Nat) (v : (Nat → Int32) × (Nat → Int32) × (Nat → Int32) × (Nat → Int32) × (Nat → Int32)) : (Nat → Int32) × (Nat → Int32) × (Nat → Int32) × (Nat → Int32) × (Nat → Int32) := ((upd v.1 (nI j).toNatClampNeg (f_Paths_nextOnRing (nI j) parts names)), (if (f_C_isNode (f_Paths_nextOnRing (nI j) parts names)) = 0 then v.2.1 else (upd v.2.1 (f_Paths_nextOnRing (nI j) parts names).toNatClampNeg (nI j))), (f_Paths_layFrom (nI j) (f_Paths_nextOnRing (nI j) parts names) steps upSet links v.2.2.1 v.2.2.2.1 v.2.2.2.2).1, (f_Paths_layFrom (nI j) (f_Paths_nextOnRing (nI j) parts names) steps upSet links v.2.2.1 v.2.2.2.1 v.2.2.2.2).2.1, (f_Paths_layFrom (nI j) (f_Paths_nextOnRing (nI j) parts names) steps upSet links v.2.2.1 v.2.2.2.1 v.2.2.2.2).2.2)
def P_Paths_lay_2 (parts : Nat → Int32) (names : Nat → Int32) (steps : Nat → Int32) (upSet : Int32) (links : Nat → Int32) (j : Nat) (v : (Nat → Int32) × (Nat → Int32) × (Nat → Int32) × (Nat → Int32) × (Nat → Int32)) : Prop := (P_Paths_nextOnRing (nI j) parts names) ∧ (((f_C_isNode (f_Paths_nextOnRing (nI j) parts names)) = 0 → True) ∧ (¬ ((f_C_isNode (f_Paths_nextOnRing (nI j) parts names)) = 0) → (vp_in (f_Paths_nextOnRing (nI j) parts names) 8 ∧ True))) ∧ (P_Paths_layFrom (nI j) (f_Paths_nextOnRing (nI j) parts names) steps upSet links v.2.2.1 v.2.2.2.1 v.2.2.2.2) ∧ True
noncomputable def f_Paths_lay (upSet : Int32) (links : Nat → Int32) (parts : Nat → Int32) (befores : Nat → Int32) (steps : Nat → Int32) (names : Nat → Int32) (nexts : Nat → Int32) (lengths : Nat → Int32) (rows : Nat → Int32) (places : Nat → Int32) : (Nat → Int32) × (Nat → Int32) × (Nat → Int32) × (Nat → Int32) × (Nat → Int32) × (Nat → Int32) × (Nat → Int32) := ((forN (b_Paths_lay_1 upSet links) 0 8 (parts, befores, steps)).1, (forN (b_Paths_lay_2 (forN (b_Paths_lay_1 upSet links) 0 8 (parts, befores, steps)).1 names (forN (b_Paths_lay_1 upSet links) 0 8 (parts, befores, steps)).2.2 upSet links) 0 8 (nexts, (forN (b_Paths_lay_1 upSet links) 0 8 (parts, befores, steps)).2.1, lengths, rows, places)).1, (forN (b_Paths_lay_2 (forN (b_Paths_lay_1 upSet links) 0 8 (parts, befores, steps)).1 names (forN (b_Paths_lay_1 upSet links) 0 8 (parts, befores, steps)).2.2 upSet links) 0 8 (nexts, (forN (b_Paths_lay_1 upSet links) 0 8 (parts, befores, steps)).2.1, lengths, rows, places)).2.1, (forN (b_Paths_lay_1 upSet links) 0 8 (parts, befores, steps)).2.2, (forN (b_Paths_lay_2 (forN (b_Paths_lay_1 upSet links) 0 8 (parts, befores, steps)).1 names (forN (b_Paths_lay_1 upSet links) 0 8 (parts, befores, steps)).2.2 upSet links) 0 8 (nexts, (forN (b_Paths_lay_1 upSet links) 0 8 (parts, befores, steps)).2.1, lengths, rows, places)).2.2.1, (forN (b_Paths_lay_2 (forN (b_Paths_lay_1 upSet links) 0 8 (parts, befores, steps)).1 names (forN (b_Paths_lay_1 upSet links) 0 8 (parts, befores, steps)).2.2 upSet links) 0 8 (nexts, (forN (b_Paths_lay_1 upSet links) 0 8 (parts, befores, steps)).2.1, lengths, rows, places)).2.2.2.1, (forN (b_Paths_lay_2 (forN (b_Paths_lay_1 upSet links) 0 8 (parts, befores, steps)).1 names (forN (b_Paths_lay_1 upSet links) 0 8 (parts, befores, steps)).2.2 upSet links) 0 8 (nexts, (forN (b_Paths_lay_1 upSet links) 0 8 (parts, befores, steps)).2.1, lengths, rows, places)).2.2.2.2)
def P_Paths_lay (upSet : Int32) (links : Nat → Int32) (parts : Nat → Int32) (befores : Nat → Int32) (steps : Nat → Int32) (names : Nat → Int32) (nexts : Nat → Int32) (lengths : Nat → Int32) (rows : Nat → Int32) (places : Nat → Int32) : Prop := (∀ j, j < 8 → P_Paths_lay_1 upSet links (0 + j) (forN (b_Paths_lay_1 upSet links) 0 j (parts, befores, steps))) ∧ (∀ j, j < 8 → P_Paths_lay_2 (forN (b_Paths_lay_1 upSet links) 0 8 (parts, befores, steps)).1 names (forN (b_Paths_lay_1 upSet links) 0 8 (parts, befores, steps)).2.2 upSet links (0 + j) (forN (b_Paths_lay_2 (forN (b_Paths_lay_1 upSet links) 0 8 (parts, befores, steps)).1 names (forN (b_Paths_lay_1 upSet links) 0 8 (parts, befores, steps)).2.2 upSet links) 0 j (nexts, (forN (b_Paths_lay_1 upSet links) 0 8 (parts, befores, steps)).2.1, lengths, rows, places))) ∧ True
set_option maxRecDepth 8000 in
set_option maxHeartbeats 4000000 in
theorem e_Paths_lay_4 (σ : Sg) (md : AW) (hP : P_Paths_lay (σ.2 1) (σ.1 3) (σ.1 5) (σ.1 7) (σ.1 8) (σ.1 2) (σ.1 6) (σ.1 9) (σ.1 10) (σ.1 11))  : Ev none 17 (0, [some (vR 4), none, none], [], wd σ md, (0, 0)) (none, wd (sA 5 (f_Paths_lay (σ.2 1) (σ.1 3) (σ.1 5) (σ.1 7) (σ.1 8) (σ.1 2) (σ.1 6) (σ.1 9) (σ.1 10) (σ.1 11)).1 (sA 6 (f_Paths_lay (σ.2 1) (σ.1 3) (σ.1 5) (σ.1 7) (σ.1 8) (σ.1 2) (σ.1 6) (σ.1 9) (σ.1 10) (σ.1 11)).2.1 (sA 7 (f_Paths_lay (σ.2 1) (σ.1 3) (σ.1 5) (σ.1 7) (σ.1 8) (σ.1 2) (σ.1 6) (σ.1 9) (σ.1 10) (σ.1 11)).2.2.1 (sA 8 (f_Paths_lay (σ.2 1) (σ.1 3) (σ.1 5) (σ.1 7) (σ.1 8) (σ.1 2) (σ.1 6) (σ.1 9) (σ.1 10) (σ.1 11)).2.2.2.1 (sA 9 (f_Paths_lay (σ.2 1) (σ.1 3) (σ.1 5) (σ.1 7) (σ.1 8) (σ.1 2) (σ.1 6) (σ.1 9) (σ.1 10) (σ.1 11)).2.2.2.2.1 (sA 10 (f_Paths_lay (σ.2 1) (σ.1 3) (σ.1 5) (σ.1 7) (σ.1 8) (σ.1 2) (σ.1 6) (σ.1 9) (σ.1 10) (σ.1 11)).2.2.2.2.2.1 (sA 11 (f_Paths_lay (σ.2 1) (σ.1 3) (σ.1 5) (σ.1 7) (σ.1 8) (σ.1 2) (σ.1 6) (σ.1 9) (σ.1 10) (σ.1 11)).2.2.2.2.2.2 σ))))))) md) := by
  suffices hh : ∀ (r : Option Int32 × AW) (K : ((Nat → Int32) × (Nat → Int32) × (Nat → Int32) × (Nat → Int32) × (Nat → Int32) × (Nat → Int32) × (Nat → Int32)) → Prop), K = (fun o : (Nat → Int32) × (Nat → Int32) × (Nat → Int32) × (Nat → Int32) × (Nat → Int32) × (Nat → Int32) × (Nat → Int32) => (none, wd (sA 5 o.1 (sA 6 o.2.1 (sA 7 o.2.2.1 (sA 8 o.2.2.2.1 (sA 9 o.2.2.2.2.1 (sA 10 o.2.2.2.2.2.1 (sA 11 o.2.2.2.2.2.2 σ))))))) md) = r) → K ((forN (b_Paths_lay_1 (σ.2 1) (σ.1 3)) 0 8 ((σ.1 5), (σ.1 7), (σ.1 8))).1, (forN (b_Paths_lay_2 (forN (b_Paths_lay_1 (σ.2 1) (σ.1 3)) 0 8 ((σ.1 5), (σ.1 7), (σ.1 8))).1 (σ.1 2) (forN (b_Paths_lay_1 (σ.2 1) (σ.1 3)) 0 8 ((σ.1 5), (σ.1 7), (σ.1 8))).2.2 (σ.2 1) (σ.1 3)) 0 8 ((σ.1 6), (forN (b_Paths_lay_1 (σ.2 1) (σ.1 3)) 0 8 ((σ.1 5), (σ.1 7), (σ.1 8))).2.1, (σ.1 9), (σ.1 10), (σ.1 11))).1, (forN (b_Paths_lay_2 (forN (b_Paths_lay_1 (σ.2 1) (σ.1 3)) 0 8 ((σ.1 5), (σ.1 7), (σ.1 8))).1 (σ.1 2) (forN (b_Paths_lay_1 (σ.2 1) (σ.1 3)) 0 8 ((σ.1 5), (σ.1 7), (σ.1 8))).2.2 (σ.2 1) (σ.1 3)) 0 8 ((σ.1 6), (forN (b_Paths_lay_1 (σ.2 1) (σ.1 3)) 0 8 ((σ.1 5), (σ.1 7), (σ.1 8))).2.1, (σ.1 9), (σ.1 10), (σ.1 11))).2.1, (forN (b_Paths_lay_1 (σ.2 1) (σ.1 3)) 0 8 ((σ.1 5), (σ.1 7), (σ.1 8))).2.2, (forN (b_Paths_lay_2 (forN (b_Paths_lay_1 (σ.2 1) (σ.1 3)) 0 8 ((σ.1 5), (σ.1 7), (σ.1 8))).1 (σ.1 2) (forN (b_Paths_lay_1 (σ.2 1) (σ.1 3)) 0 8 ((σ.1 5), (σ.1 7), (σ.1 8))).2.2 (σ.2 1) (σ.1 3)) 0 8 ((σ.1 6), (forN (b_Paths_lay_1 (σ.2 1) (σ.1 3)) 0 8 ((σ.1 5), (σ.1 7), (σ.1 8))).2.1, (σ.1 9), (σ.1 10), (σ.1 11))).2.2.1, (forN (b_Paths_lay_2 (forN (b_Paths_lay_1 (σ.2 1) (σ.1 3)) 0 8 ((σ.1 5), (σ.1 7), (σ.1 8))).1 (σ.1 2) (forN (b_Paths_lay_1 (σ.2 1) (σ.1 3)) 0 8 ((σ.1 5), (σ.1 7), (σ.1 8))).2.2 (σ.2 1) (σ.1 3)) 0 8 ((σ.1 6), (forN (b_Paths_lay_1 (σ.2 1) (σ.1 3)) 0 8 ((σ.1 5), (σ.1 7), (σ.1 8))).2.1, (σ.1 9), (σ.1 10), (σ.1 11))).2.2.2.1, (forN (b_Paths_lay_2 (forN (b_Paths_lay_1 (σ.2 1) (σ.1 3)) 0 8 ((σ.1 5), (σ.1 7), (σ.1 8))).1 (σ.1 2) (forN (b_Paths_lay_1 (σ.2 1) (σ.1 3)) 0 8 ((σ.1 5), (σ.1 7), (σ.1 8))).2.2 (σ.2 1) (σ.1 3)) 0 8 ((σ.1 6), (forN (b_Paths_lay_1 (σ.2 1) (σ.1 3)) 0 8 ((σ.1 5), (σ.1 7), (σ.1 8))).2.1, (σ.1 9), (σ.1 10), (σ.1 11))).2.2.2.2) → Ev none 17 (0, [some (vR 4), none, none], [], wd σ md, (0, 0)) r from hh _ _ rfl rfl
  intro r K hK k
  refine Ev.go (st' := (2, [some (vR 4), some (vI (0 : Int32)), none], [], wd σ md, (0, 0))) 2 rfl trivial ?_
  refine Ev.wk (Lle.s (Lle.s (Lle.n Lle.z))) ?_
  refine Ev.loopN (fun c v => (2, [some (vR 4), some (vI c), none], [], wd (sA 5 v.1 (sA 7 v.2.1 (sA 8 v.2.2 σ))) md, (0, 0))) (b_Paths_lay_1 (σ.2 1) (σ.1 3)) 0 8 8 ((σ.1 5), (σ.1 7), (σ.1 8)) (c0 := (0 : Int32)) rfl (by omega) (fun j hj k2 => ?_) ?_
  · have hp1 := hP.1 j hj
    have hi1 : 0 + j < 8 := by omega
    clear hj
    generalize forN (b_Paths_lay_1 (σ.2 1) (σ.1 3)) 0 j ((σ.1 5), (σ.1 7), (σ.1 8)) = v1 at hp1 k2 ⊢
    generalize 0 + j = i1 at hi1 hp1 k2 ⊢
    show Ev none 17 (2, [some (vR 4), some (vI (nI i1)), none], [], wd (sA 5 v1.1 (sA 7 v1.2.1 (sA 8 v1.2.2 σ))) md, (0, 0)) r
    refine Ev.go (st' := (if (8 : Int32) ≤ nI i1 then 27 else 8, [some (vR 4), some (vI (nI i1)), none], [], wd (sA 5 v1.1 (sA 7 v1.2.1 (sA 8 v1.2.2 σ))) md, (0, 0))) 3 rfl trivial (Ev.brF (nI_ge hi1 (by decide)) ?_)
    refine Ev.go (st' := (18, [some (vR 4), some (vI (nI i1)), none], [vI (nI i1), vR 4], wd (sA 5 v1.1 (sA 7 (upd v1.2.1 (nI i1).toNatClampNeg (-6 : Int32)) (sA 8 v1.2.2 σ))) md, (0, 0))) 7 rfl ⟨(vp_in_nI (by omega) (by decide)), trivial⟩ ?_
    refine Ev.callV (a := 11) (As := [vR 4, vI (nI i1)]) [] (wd (sA 5 (f_Paths_measureFrom (nI i1) v1.1 (σ.2 1) (σ.1 3) v1.2.2).1 (sA 7 (upd v1.2.1 (nI i1).toNatClampNeg (-6 : Int32)) (sA 8 (f_Paths_measureFrom (nI i1) v1.1 (σ.2 1) (σ.1 3) v1.2.2).2 σ))) md) rfl (e_Paths_measureFrom_4 (sA 5 v1.1 (sA 7 (upd v1.2.1 (nI i1).toNatClampNeg (-6 : Int32)) (sA 8 v1.2.2 σ))) md (nI i1) hp1.1) ?_
    refine Ev.go (st' := (2, [some (vR 4), some (vI ((nI i1) + (1 : Int32))), none], [], wd (sA 5 (f_Paths_measureFrom (nI i1) v1.1 (σ.2 1) (σ.1 3) v1.2.2).1 (sA 7 (upd v1.2.1 (nI i1).toNatClampNeg (-6 : Int32)) (sA 8 (f_Paths_measureFrom (nI i1) v1.1 (σ.2 1) (σ.1 3) v1.2.2).2 σ))) md, (0, 0))) 2 rfl trivial ?_
    exact Ev.wk (Lle.s (Lle.s (Lle.n Lle.z))) (show Ev none 17 (2, [some (vR 4), some (vI ((nI i1) + (1 : Int32))), none], [], wd (sA 5 (f_Paths_measureFrom (nI i1) v1.1 (σ.2 1) (σ.1 3) v1.2.2).1 (sA 7 (upd v1.2.1 (nI i1).toNatClampNeg (-6 : Int32)) (sA 8 (f_Paths_measureFrom (nI i1) v1.1 (σ.2 1) (σ.1 3) v1.2.2).2 σ))) md, (0, 0)) r from k2)
  · refine Ev.go (st' := (if (8 : Int32) ≤ nI 8 then 27 else 8, [some (vR 4), some (vI (nI 8)), none], [], wd (sA 5 (forN (b_Paths_lay_1 (σ.2 1) (σ.1 3)) 0 8 ((σ.1 5), (σ.1 7), (σ.1 8))).1 (sA 7 (forN (b_Paths_lay_1 (σ.2 1) (σ.1 3)) 0 8 ((σ.1 5), (σ.1 7), (σ.1 8))).2.1 (sA 8 (forN (b_Paths_lay_1 (σ.2 1) (σ.1 3)) 0 8 ((σ.1 5), (σ.1 7), (σ.1 8))).2.2 σ))) md, (0, 0))) 3 rfl trivial (Ev.brN (by decide) ?_)
    refine Ev.wk (Lle.s (Lle.n (Lle.n Lle.z))) ?_
    refine Ev.go (st' := (29, [some (vR 4), some (vI (0 : Int32)), none], [], wd (sA 5 (forN (b_Paths_lay_1 (σ.2 1) (σ.1 3)) 0 8 ((σ.1 5), (σ.1 7), (σ.1 8))).1 (sA 7 (forN (b_Paths_lay_1 (σ.2 1) (σ.1 3)) 0 8 ((σ.1 5), (σ.1 7), (σ.1 8))).2.1 (sA 8 (forN (b_Paths_lay_1 (σ.2 1) (σ.1 3)) 0 8 ((σ.1 5), (σ.1 7), (σ.1 8))).2.2 σ))) md, (0, 0))) 2 rfl trivial ?_
    refine Ev.wk (Lle.s (Lle.s (Lle.n Lle.z))) ?_
    refine Ev.loopN (fun c v => (29, [some (vR 4), some (vI c), none], [], wd (sA 5 (forN (b_Paths_lay_1 (σ.2 1) (σ.1 3)) 0 8 ((σ.1 5), (σ.1 7), (σ.1 8))).1 (sA 6 v.1 (sA 7 v.2.1 (sA 8 (forN (b_Paths_lay_1 (σ.2 1) (σ.1 3)) 0 8 ((σ.1 5), (σ.1 7), (σ.1 8))).2.2 (sA 9 v.2.2.1 (sA 10 v.2.2.2.1 (sA 11 v.2.2.2.2 σ))))))) md, (0, 0))) (b_Paths_lay_2 (forN (b_Paths_lay_1 (σ.2 1) (σ.1 3)) 0 8 ((σ.1 5), (σ.1 7), (σ.1 8))).1 (σ.1 2) (forN (b_Paths_lay_1 (σ.2 1) (σ.1 3)) 0 8 ((σ.1 5), (σ.1 7), (σ.1 8))).2.2 (σ.2 1) (σ.1 3)) 0 8 8 ((σ.1 6), (forN (b_Paths_lay_1 (σ.2 1) (σ.1 3)) 0 8 ((σ.1 5), (σ.1 7), (σ.1 8))).2.1, (σ.1 9), (σ.1 10), (σ.1 11)) (c0 := (0 : Int32)) rfl (by omega) (fun j hj k2 => ?_) ?_
    · have hp2 := hP.2.1 j hj
      have hi2 : 0 + j < 8 := by omega
      clear hj
      generalize forN (b_Paths_lay_2 (forN (b_Paths_lay_1 (σ.2 1) (σ.1 3)) 0 8 ((σ.1 5), (σ.1 7), (σ.1 8))).1 (σ.1 2) (forN (b_Paths_lay_1 (σ.2 1) (σ.1 3)) 0 8 ((σ.1 5), (σ.1 7), (σ.1 8))).2.2 (σ.2 1) (σ.1 3)) 0 j ((σ.1 6), (forN (b_Paths_lay_1 (σ.2 1) (σ.1 3)) 0 8 ((σ.1 5), (σ.1 7), (σ.1 8))).2.1, (σ.1 9), (σ.1 10), (σ.1 11)) = v2 at hp2 k2 ⊢
      generalize 0 + j = i2 at hi2 hp2 k2 ⊢
      show Ev none 17 (29, [some (vR 4), some (vI (nI i2)), none], [], wd (sA 5 (forN (b_Paths_lay_1 (σ.2 1) (σ.1 3)) 0 8 ((σ.1 5), (σ.1 7), (σ.1 8))).1 (sA 6 v2.1 (sA 7 v2.2.1 (sA 8 (forN (b_Paths_lay_1 (σ.2 1) (σ.1 3)) 0 8 ((σ.1 5), (σ.1 7), (σ.1 8))).2.2 (sA 9 v2.2.2.1 (sA 10 v2.2.2.2.1 (sA 11 v2.2.2.2.2 σ))))))) md, (0, 0)) r
      refine Ev.go (st' := (if (8 : Int32) ≤ nI i2 then 74 else 35, [some (vR 4), some (vI (nI i2)), none], [], wd (sA 5 (forN (b_Paths_lay_1 (σ.2 1) (σ.1 3)) 0 8 ((σ.1 5), (σ.1 7), (σ.1 8))).1 (sA 6 v2.1 (sA 7 v2.2.1 (sA 8 (forN (b_Paths_lay_1 (σ.2 1) (σ.1 3)) 0 8 ((σ.1 5), (σ.1 7), (σ.1 8))).2.2 (sA 9 v2.2.2.1 (sA 10 v2.2.2.2.1 (sA 11 v2.2.2.2.2 σ))))))) md, (0, 0))) 3 rfl trivial (Ev.brF (nI_ge hi2 (by decide)) ?_)
      refine Ev.go (st' := (37, [some (vR 4), some (vI (nI i2)), none], [vI (nI i2), vR 4], wd (sA 5 (forN (b_Paths_lay_1 (σ.2 1) (σ.1 3)) 0 8 ((σ.1 5), (σ.1 7), (σ.1 8))).1 (sA 6 v2.1 (sA 7 v2.2.1 (sA 8 (forN (b_Paths_lay_1 (σ.2 1) (σ.1 3)) 0 8 ((σ.1 5), (σ.1 7), (σ.1 8))).2.2 (sA 9 v2.2.2.1 (sA 10 v2.2.2.2.1 (sA 11 v2.2.2.2.2 σ))))))) md, (0, 0))) 2 rfl trivial ?_
      refine Ev.callI (a := 13) (As := [vR 4, vI (nI i2)]) [] (f_Paths_nextOnRing (nI i2) (forN (b_Paths_lay_1 (σ.2 1) (σ.1 3)) 0 8 ((σ.1 5), (σ.1 7), (σ.1 8))).1 (σ.1 2)) (wd (sA 5 (forN (b_Paths_lay_1 (σ.2 1) (σ.1 3)) 0 8 ((σ.1 5), (σ.1 7), (σ.1 8))).1 (sA 6 v2.1 (sA 7 v2.2.1 (sA 8 (forN (b_Paths_lay_1 (σ.2 1) (σ.1 3)) 0 8 ((σ.1 5), (σ.1 7), (σ.1 8))).2.2 (sA 9 v2.2.2.1 (sA 10 v2.2.2.2.1 (sA 11 v2.2.2.2.2 σ))))))) md) rfl (e_Paths_nextOnRing_4 (sA 5 (forN (b_Paths_lay_1 (σ.2 1) (σ.1 3)) 0 8 ((σ.1 5), (σ.1 7), (σ.1 8))).1 (sA 6 v2.1 (sA 7 v2.2.1 (sA 8 (forN (b_Paths_lay_1 (σ.2 1) (σ.1 3)) 0 8 ((σ.1 5), (σ.1 7), (σ.1 8))).2.2 (sA 9 v2.2.2.1 (sA 10 v2.2.2.2.1 (sA 11 v2.2.2.2.2 σ))))))) md (nI i2) hp2.1) ?_
      refine Ev.go (st' := (49, [some (vR 4), some (vI (nI i2)), some (vI (f_Paths_nextOnRing (nI i2) (forN (b_Paths_lay_1 (σ.2 1) (σ.1 3)) 0 8 ((σ.1 5), (σ.1 7), (σ.1 8))).1 (σ.1 2)))], [vI (f_Paths_nextOnRing (nI i2) (forN (b_Paths_lay_1 (σ.2 1) (σ.1 3)) 0 8 ((σ.1 5), (σ.1 7), (σ.1 8))).1 (σ.1 2))], wd (sA 5 (forN (b_Paths_lay_1 (σ.2 1) (σ.1 3)) 0 8 ((σ.1 5), (σ.1 7), (σ.1 8))).1 (sA 6 (upd v2.1 (nI i2).toNatClampNeg (f_Paths_nextOnRing (nI i2) (forN (b_Paths_lay_1 (σ.2 1) (σ.1 3)) 0 8 ((σ.1 5), (σ.1 7), (σ.1 8))).1 (σ.1 2))) (sA 7 v2.2.1 (sA 8 (forN (b_Paths_lay_1 (σ.2 1) (σ.1 3)) 0 8 ((σ.1 5), (σ.1 7), (σ.1 8))).2.2 (sA 9 v2.2.2.1 (sA 10 v2.2.2.2.1 (sA 11 v2.2.2.2.2 σ))))))) md, (0, 0))) 7 rfl ⟨(vp_in_nI (by omega) (by decide)), trivial⟩ ?_
      refine Ev.callI (a := 14) (As := [vI (f_Paths_nextOnRing (nI i2) (forN (b_Paths_lay_1 (σ.2 1) (σ.1 3)) 0 8 ((σ.1 5), (σ.1 7), (σ.1 8))).1 (σ.1 2))]) [] (f_C_isNode (f_Paths_nextOnRing (nI i2) (forN (b_Paths_lay_1 (σ.2 1) (σ.1 3)) 0 8 ((σ.1 5), (σ.1 7), (σ.1 8))).1 (σ.1 2))) (wd (sA 5 (forN (b_Paths_lay_1 (σ.2 1) (σ.1 3)) 0 8 ((σ.1 5), (σ.1 7), (σ.1 8))).1 (sA 6 (upd v2.1 (nI i2).toNatClampNeg (f_Paths_nextOnRing (nI i2) (forN (b_Paths_lay_1 (σ.2 1) (σ.1 3)) 0 8 ((σ.1 5), (σ.1 7), (σ.1 8))).1 (σ.1 2))) (sA 7 v2.2.1 (sA 8 (forN (b_Paths_lay_1 (σ.2 1) (σ.1 3)) 0 8 ((σ.1 5), (σ.1 7), (σ.1 8))).2.2 (sA 9 v2.2.2.1 (sA 10 v2.2.2.2.1 (sA 11 v2.2.2.2.2 σ))))))) md) rfl (e_C_isNode (wd (sA 5 (forN (b_Paths_lay_1 (σ.2 1) (σ.1 3)) 0 8 ((σ.1 5), (σ.1 7), (σ.1 8))).1 (sA 6 (upd v2.1 (nI i2).toNatClampNeg (f_Paths_nextOnRing (nI i2) (forN (b_Paths_lay_1 (σ.2 1) (σ.1 3)) 0 8 ((σ.1 5), (σ.1 7), (σ.1 8))).1 (σ.1 2))) (sA 7 v2.2.1 (sA 8 (forN (b_Paths_lay_1 (σ.2 1) (σ.1 3)) 0 8 ((σ.1 5), (σ.1 7), (σ.1 8))).2.2 (sA 9 v2.2.2.1 (sA 10 v2.2.2.2.1 (sA 11 v2.2.2.2.2 σ))))))) md) (f_Paths_nextOnRing (nI i2) (forN (b_Paths_lay_1 (σ.2 1) (σ.1 3)) 0 8 ((σ.1 5), (σ.1 7), (σ.1 8))).1 (σ.1 2))) ?_
      refine Ev.go (st' := (if (f_C_isNode (f_Paths_nextOnRing (nI i2) (forN (b_Paths_lay_1 (σ.2 1) (σ.1 3)) 0 8 ((σ.1 5), (σ.1 7), (σ.1 8))).1 (σ.1 2))) = 0 then 62 else 55, [some (vR 4), some (vI (nI i2)), some (vI (f_Paths_nextOnRing (nI i2) (forN (b_Paths_lay_1 (σ.2 1) (σ.1 3)) 0 8 ((σ.1 5), (σ.1 7), (σ.1 8))).1 (σ.1 2)))], [], wd (sA 5 (forN (b_Paths_lay_1 (σ.2 1) (σ.1 3)) 0 8 ((σ.1 5), (σ.1 7), (σ.1 8))).1 (sA 6 (upd v2.1 (nI i2).toNatClampNeg (f_Paths_nextOnRing (nI i2) (forN (b_Paths_lay_1 (σ.2 1) (σ.1 3)) 0 8 ((σ.1 5), (σ.1 7), (σ.1 8))).1 (σ.1 2))) (sA 7 v2.2.1 (sA 8 (forN (b_Paths_lay_1 (σ.2 1) (σ.1 3)) 0 8 ((σ.1 5), (σ.1 7), (σ.1 8))).2.2 (sA 9 v2.2.2.1 (sA 10 v2.2.2.2.1 (sA 11 v2.2.2.2.2 σ))))))) md, (0, 0))) 1 rfl trivial ?_
      have kJ3 : Ev none 17 (62, [some (vR 4), some (vI (nI i2)), some (vI (f_Paths_nextOnRing (nI i2) (forN (b_Paths_lay_1 (σ.2 1) (σ.1 3)) 0 8 ((σ.1 5), (σ.1 7), (σ.1 8))).1 (σ.1 2)))], [], wd (sA 5 (forN (b_Paths_lay_1 (σ.2 1) (σ.1 3)) 0 8 ((σ.1 5), (σ.1 7), (σ.1 8))).1 (sA 6 (upd v2.1 (nI i2).toNatClampNeg (f_Paths_nextOnRing (nI i2) (forN (b_Paths_lay_1 (σ.2 1) (σ.1 3)) 0 8 ((σ.1 5), (σ.1 7), (σ.1 8))).1 (σ.1 2))) (sA 7 (if (f_C_isNode (f_Paths_nextOnRing (nI i2) (forN (b_Paths_lay_1 (σ.2 1) (σ.1 3)) 0 8 ((σ.1 5), (σ.1 7), (σ.1 8))).1 (σ.1 2))) = 0 then v2.2.1 else (upd v2.2.1 (f_Paths_nextOnRing (nI i2) (forN (b_Paths_lay_1 (σ.2 1) (σ.1 3)) 0 8 ((σ.1 5), (σ.1 7), (σ.1 8))).1 (σ.1 2)).toNatClampNeg (nI i2))) (sA 8 (forN (b_Paths_lay_1 (σ.2 1) (σ.1 3)) 0 8 ((σ.1 5), (σ.1 7), (σ.1 8))).2.2 (sA 9 v2.2.2.1 (sA 10 v2.2.2.2.1 (sA 11 v2.2.2.2.2 σ))))))) md, (0, 0)) r := by
        refine Ev.go (st' := (65, [some (vR 4), some (vI (nI i2)), some (vI (f_Paths_nextOnRing (nI i2) (forN (b_Paths_lay_1 (σ.2 1) (σ.1 3)) 0 8 ((σ.1 5), (σ.1 7), (σ.1 8))).1 (σ.1 2)))], [vI (f_Paths_nextOnRing (nI i2) (forN (b_Paths_lay_1 (σ.2 1) (σ.1 3)) 0 8 ((σ.1 5), (σ.1 7), (σ.1 8))).1 (σ.1 2)), vI (nI i2), vR 4], wd (sA 5 (forN (b_Paths_lay_1 (σ.2 1) (σ.1 3)) 0 8 ((σ.1 5), (σ.1 7), (σ.1 8))).1 (sA 6 (upd v2.1 (nI i2).toNatClampNeg (f_Paths_nextOnRing (nI i2) (forN (b_Paths_lay_1 (σ.2 1) (σ.1 3)) 0 8 ((σ.1 5), (σ.1 7), (σ.1 8))).1 (σ.1 2))) (sA 7 (if (f_C_isNode (f_Paths_nextOnRing (nI i2) (forN (b_Paths_lay_1 (σ.2 1) (σ.1 3)) 0 8 ((σ.1 5), (σ.1 7), (σ.1 8))).1 (σ.1 2))) = 0 then v2.2.1 else (upd v2.2.1 (f_Paths_nextOnRing (nI i2) (forN (b_Paths_lay_1 (σ.2 1) (σ.1 3)) 0 8 ((σ.1 5), (σ.1 7), (σ.1 8))).1 (σ.1 2)).toNatClampNeg (nI i2))) (sA 8 (forN (b_Paths_lay_1 (σ.2 1) (σ.1 3)) 0 8 ((σ.1 5), (σ.1 7), (σ.1 8))).2.2 (sA 9 v2.2.2.1 (sA 10 v2.2.2.2.1 (sA 11 v2.2.2.2.2 σ))))))) md, (0, 0))) 3 rfl trivial ?_
        refine Ev.callV (a := 16) (As := [vR 4, vI (nI i2), vI (f_Paths_nextOnRing (nI i2) (forN (b_Paths_lay_1 (σ.2 1) (σ.1 3)) 0 8 ((σ.1 5), (σ.1 7), (σ.1 8))).1 (σ.1 2))]) [] (wd (sA 5 (forN (b_Paths_lay_1 (σ.2 1) (σ.1 3)) 0 8 ((σ.1 5), (σ.1 7), (σ.1 8))).1 (sA 6 (upd v2.1 (nI i2).toNatClampNeg (f_Paths_nextOnRing (nI i2) (forN (b_Paths_lay_1 (σ.2 1) (σ.1 3)) 0 8 ((σ.1 5), (σ.1 7), (σ.1 8))).1 (σ.1 2))) (sA 7 (if (f_C_isNode (f_Paths_nextOnRing (nI i2) (forN (b_Paths_lay_1 (σ.2 1) (σ.1 3)) 0 8 ((σ.1 5), (σ.1 7), (σ.1 8))).1 (σ.1 2))) = 0 then v2.2.1 else (upd v2.2.1 (f_Paths_nextOnRing (nI i2) (forN (b_Paths_lay_1 (σ.2 1) (σ.1 3)) 0 8 ((σ.1 5), (σ.1 7), (σ.1 8))).1 (σ.1 2)).toNatClampNeg (nI i2))) (sA 8 (forN (b_Paths_lay_1 (σ.2 1) (σ.1 3)) 0 8 ((σ.1 5), (σ.1 7), (σ.1 8))).2.2 (sA 9 (f_Paths_layFrom (nI i2) (f_Paths_nextOnRing (nI i2) (forN (b_Paths_lay_1 (σ.2 1) (σ.1 3)) 0 8 ((σ.1 5), (σ.1 7), (σ.1 8))).1 (σ.1 2)) (forN (b_Paths_lay_1 (σ.2 1) (σ.1 3)) 0 8 ((σ.1 5), (σ.1 7), (σ.1 8))).2.2 (σ.2 1) (σ.1 3) v2.2.2.1 v2.2.2.2.1 v2.2.2.2.2).1 (sA 10 (f_Paths_layFrom (nI i2) (f_Paths_nextOnRing (nI i2) (forN (b_Paths_lay_1 (σ.2 1) (σ.1 3)) 0 8 ((σ.1 5), (σ.1 7), (σ.1 8))).1 (σ.1 2)) (forN (b_Paths_lay_1 (σ.2 1) (σ.1 3)) 0 8 ((σ.1 5), (σ.1 7), (σ.1 8))).2.2 (σ.2 1) (σ.1 3) v2.2.2.1 v2.2.2.2.1 v2.2.2.2.2).2.1 (sA 11 (f_Paths_layFrom (nI i2) (f_Paths_nextOnRing (nI i2) (forN (b_Paths_lay_1 (σ.2 1) (σ.1 3)) 0 8 ((σ.1 5), (σ.1 7), (σ.1 8))).1 (σ.1 2)) (forN (b_Paths_lay_1 (σ.2 1) (σ.1 3)) 0 8 ((σ.1 5), (σ.1 7), (σ.1 8))).2.2 (σ.2 1) (σ.1 3) v2.2.2.1 v2.2.2.2.1 v2.2.2.2.2).2.2 σ))))))) md) rfl (e_Paths_layFrom_4 (sA 5 (forN (b_Paths_lay_1 (σ.2 1) (σ.1 3)) 0 8 ((σ.1 5), (σ.1 7), (σ.1 8))).1 (sA 6 (upd v2.1 (nI i2).toNatClampNeg (f_Paths_nextOnRing (nI i2) (forN (b_Paths_lay_1 (σ.2 1) (σ.1 3)) 0 8 ((σ.1 5), (σ.1 7), (σ.1 8))).1 (σ.1 2))) (sA 7 (if (f_C_isNode (f_Paths_nextOnRing (nI i2) (forN (b_Paths_lay_1 (σ.2 1) (σ.1 3)) 0 8 ((σ.1 5), (σ.1 7), (σ.1 8))).1 (σ.1 2))) = 0 then v2.2.1 else (upd v2.2.1 (f_Paths_nextOnRing (nI i2) (forN (b_Paths_lay_1 (σ.2 1) (σ.1 3)) 0 8 ((σ.1 5), (σ.1 7), (σ.1 8))).1 (σ.1 2)).toNatClampNeg (nI i2))) (sA 8 (forN (b_Paths_lay_1 (σ.2 1) (σ.1 3)) 0 8 ((σ.1 5), (σ.1 7), (σ.1 8))).2.2 (sA 9 v2.2.2.1 (sA 10 v2.2.2.2.1 (sA 11 v2.2.2.2.2 σ))))))) md (nI i2) (f_Paths_nextOnRing (nI i2) (forN (b_Paths_lay_1 (σ.2 1) (σ.1 3)) 0 8 ((σ.1 5), (σ.1 7), (σ.1 8))).1 (σ.1 2)) hp2.2.2.1) ?_
        refine Ev.go (st' := (29, [some (vR 4), some (vI ((nI i2) + (1 : Int32))), some (vI (f_Paths_nextOnRing (nI i2) (forN (b_Paths_lay_1 (σ.2 1) (σ.1 3)) 0 8 ((σ.1 5), (σ.1 7), (σ.1 8))).1 (σ.1 2)))], [], wd (sA 5 (forN (b_Paths_lay_1 (σ.2 1) (σ.1 3)) 0 8 ((σ.1 5), (σ.1 7), (σ.1 8))).1 (sA 6 (upd v2.1 (nI i2).toNatClampNeg (f_Paths_nextOnRing (nI i2) (forN (b_Paths_lay_1 (σ.2 1) (σ.1 3)) 0 8 ((σ.1 5), (σ.1 7), (σ.1 8))).1 (σ.1 2))) (sA 7 (if (f_C_isNode (f_Paths_nextOnRing (nI i2) (forN (b_Paths_lay_1 (σ.2 1) (σ.1 3)) 0 8 ((σ.1 5), (σ.1 7), (σ.1 8))).1 (σ.1 2))) = 0 then v2.2.1 else (upd v2.2.1 (f_Paths_nextOnRing (nI i2) (forN (b_Paths_lay_1 (σ.2 1) (σ.1 3)) 0 8 ((σ.1 5), (σ.1 7), (σ.1 8))).1 (σ.1 2)).toNatClampNeg (nI i2))) (sA 8 (forN (b_Paths_lay_1 (σ.2 1) (σ.1 3)) 0 8 ((σ.1 5), (σ.1 7), (σ.1 8))).2.2 (sA 9 (f_Paths_layFrom (nI i2) (f_Paths_nextOnRing (nI i2) (forN (b_Paths_lay_1 (σ.2 1) (σ.1 3)) 0 8 ((σ.1 5), (σ.1 7), (σ.1 8))).1 (σ.1 2)) (forN (b_Paths_lay_1 (σ.2 1) (σ.1 3)) 0 8 ((σ.1 5), (σ.1 7), (σ.1 8))).2.2 (σ.2 1) (σ.1 3) v2.2.2.1 v2.2.2.2.1 v2.2.2.2.2).1 (sA 10 (f_Paths_layFrom (nI i2) (f_Paths_nextOnRing (nI i2) (forN (b_Paths_lay_1 (σ.2 1) (σ.1 3)) 0 8 ((σ.1 5), (σ.1 7), (σ.1 8))).1 (σ.1 2)) (forN (b_Paths_lay_1 (σ.2 1) (σ.1 3)) 0 8 ((σ.1 5), (σ.1 7), (σ.1 8))).2.2 (σ.2 1) (σ.1 3) v2.2.2.1 v2.2.2.2.1 v2.2.2.2.2).2.1 (sA 11 (f_Paths_layFrom (nI i2) (f_Paths_nextOnRing (nI i2) (forN (b_Paths_lay_1 (σ.2 1) (σ.1 3)) 0 8 ((σ.1 5), (σ.1 7), (σ.1 8))).1 (σ.1 2)) (forN (b_Paths_lay_1 (σ.2 1) (σ.1 3)) 0 8 ((σ.1 5), (σ.1 7), (σ.1 8))).2.2 (σ.2 1) (σ.1 3) v2.2.2.1 v2.2.2.2.1 v2.2.2.2.2).2.2 σ))))))) md, (0, 0))) 2 rfl trivial ?_
        exact Ev.wk (Lle.s (Lle.s (Lle.n Lle.z))) (show Ev none 17 (29, [some (vR 4), some (vI ((nI i2) + (1 : Int32))), none], [], wd (sA 5 (forN (b_Paths_lay_1 (σ.2 1) (σ.1 3)) 0 8 ((σ.1 5), (σ.1 7), (σ.1 8))).1 (sA 6 (upd v2.1 (nI i2).toNatClampNeg (f_Paths_nextOnRing (nI i2) (forN (b_Paths_lay_1 (σ.2 1) (σ.1 3)) 0 8 ((σ.1 5), (σ.1 7), (σ.1 8))).1 (σ.1 2))) (sA 7 (if (f_C_isNode (f_Paths_nextOnRing (nI i2) (forN (b_Paths_lay_1 (σ.2 1) (σ.1 3)) 0 8 ((σ.1 5), (σ.1 7), (σ.1 8))).1 (σ.1 2))) = 0 then v2.2.1 else (upd v2.2.1 (f_Paths_nextOnRing (nI i2) (forN (b_Paths_lay_1 (σ.2 1) (σ.1 3)) 0 8 ((σ.1 5), (σ.1 7), (σ.1 8))).1 (σ.1 2)).toNatClampNeg (nI i2))) (sA 8 (forN (b_Paths_lay_1 (σ.2 1) (σ.1 3)) 0 8 ((σ.1 5), (σ.1 7), (σ.1 8))).2.2 (sA 9 (f_Paths_layFrom (nI i2) (f_Paths_nextOnRing (nI i2) (forN (b_Paths_lay_1 (σ.2 1) (σ.1 3)) 0 8 ((σ.1 5), (σ.1 7), (σ.1 8))).1 (σ.1 2)) (forN (b_Paths_lay_1 (σ.2 1) (σ.1 3)) 0 8 ((σ.1 5), (σ.1 7), (σ.1 8))).2.2 (σ.2 1) (σ.1 3) v2.2.2.1 v2.2.2.2.1 v2.2.2.2.2).1 (sA 10 (f_Paths_layFrom (nI i2) (f_Paths_nextOnRing (nI i2) (forN (b_Paths_lay_1 (σ.2 1) (σ.1 3)) 0 8 ((σ.1 5), (σ.1 7), (σ.1 8))).1 (σ.1 2)) (forN (b_Paths_lay_1 (σ.2 1) (σ.1 3)) 0 8 ((σ.1 5), (σ.1 7), (σ.1 8))).2.2 (σ.2 1) (σ.1 3) v2.2.2.1 v2.2.2.2.1 v2.2.2.2.2).2.1 (sA 11 (f_Paths_layFrom (nI i2) (f_Paths_nextOnRing (nI i2) (forN (b_Paths_lay_1 (σ.2 1) (σ.1 3)) 0 8 ((σ.1 5), (σ.1 7), (σ.1 8))).1 (σ.1 2)) (forN (b_Paths_lay_1 (σ.2 1) (σ.1 3)) 0 8 ((σ.1 5), (σ.1 7), (σ.1 8))).2.2 (σ.2 1) (σ.1 3) v2.2.2.1 v2.2.2.2.1 v2.2.2.2.2).2.2 σ))))))) md, (0, 0)) r from k2)
      refine Ev.br (fun h3 => ?_) (fun h3 => ?_)
      · exact Ev.wk (Lle.s (Lle.s (Lle.s Lle.z))) (Ev.to kJ3 (by simp only [if_pos h3]))
      · refine Ev.go (st' := (62, [some (vR 4), some (vI (nI i2)), some (vI (f_Paths_nextOnRing (nI i2) (forN (b_Paths_lay_1 (σ.2 1) (σ.1 3)) 0 8 ((σ.1 5), (σ.1 7), (σ.1 8))).1 (σ.1 2)))], [], wd (sA 5 (forN (b_Paths_lay_1 (σ.2 1) (σ.1 3)) 0 8 ((σ.1 5), (σ.1 7), (σ.1 8))).1 (sA 6 (upd v2.1 (nI i2).toNatClampNeg (f_Paths_nextOnRing (nI i2) (forN (b_Paths_lay_1 (σ.2 1) (σ.1 3)) 0 8 ((σ.1 5), (σ.1 7), (σ.1 8))).1 (σ.1 2))) (sA 7 (upd v2.2.1 (f_Paths_nextOnRing (nI i2) (forN (b_Paths_lay_1 (σ.2 1) (σ.1 3)) 0 8 ((σ.1 5), (σ.1 7), (σ.1 8))).1 (σ.1 2)).toNatClampNeg (nI i2)) (sA 8 (forN (b_Paths_lay_1 (σ.2 1) (σ.1 3)) 0 8 ((σ.1 5), (σ.1 7), (σ.1 8))).2.2 (sA 9 v2.2.2.1 (sA 10 v2.2.2.2.1 (sA 11 v2.2.2.2.2 σ))))))) md, (0, 0))) 5 rfl ⟨(hp2.2.1.2 h3).1, trivial⟩ ?_
        exact Ev.wk (Lle.s (Lle.s (Lle.s Lle.z))) (Ev.to kJ3 (by simp only [if_neg h3]))
    · refine Ev.go (st' := (if (8 : Int32) ≤ nI 8 then 74 else 35, [some (vR 4), some (vI (nI 8)), none], [], wd (sA 5 (forN (b_Paths_lay_1 (σ.2 1) (σ.1 3)) 0 8 ((σ.1 5), (σ.1 7), (σ.1 8))).1 (sA 6 (forN (b_Paths_lay_2 (forN (b_Paths_lay_1 (σ.2 1) (σ.1 3)) 0 8 ((σ.1 5), (σ.1 7), (σ.1 8))).1 (σ.1 2) (forN (b_Paths_lay_1 (σ.2 1) (σ.1 3)) 0 8 ((σ.1 5), (σ.1 7), (σ.1 8))).2.2 (σ.2 1) (σ.1 3)) 0 8 ((σ.1 6), (forN (b_Paths_lay_1 (σ.2 1) (σ.1 3)) 0 8 ((σ.1 5), (σ.1 7), (σ.1 8))).2.1, (σ.1 9), (σ.1 10), (σ.1 11))).1 (sA 7 (forN (b_Paths_lay_2 (forN (b_Paths_lay_1 (σ.2 1) (σ.1 3)) 0 8 ((σ.1 5), (σ.1 7), (σ.1 8))).1 (σ.1 2) (forN (b_Paths_lay_1 (σ.2 1) (σ.1 3)) 0 8 ((σ.1 5), (σ.1 7), (σ.1 8))).2.2 (σ.2 1) (σ.1 3)) 0 8 ((σ.1 6), (forN (b_Paths_lay_1 (σ.2 1) (σ.1 3)) 0 8 ((σ.1 5), (σ.1 7), (σ.1 8))).2.1, (σ.1 9), (σ.1 10), (σ.1 11))).2.1 (sA 8 (forN (b_Paths_lay_1 (σ.2 1) (σ.1 3)) 0 8 ((σ.1 5), (σ.1 7), (σ.1 8))).2.2 (sA 9 (forN (b_Paths_lay_2 (forN (b_Paths_lay_1 (σ.2 1) (σ.1 3)) 0 8 ((σ.1 5), (σ.1 7), (σ.1 8))).1 (σ.1 2) (forN (b_Paths_lay_1 (σ.2 1) (σ.1 3)) 0 8 ((σ.1 5), (σ.1 7), (σ.1 8))).2.2 (σ.2 1) (σ.1 3)) 0 8 ((σ.1 6), (forN (b_Paths_lay_1 (σ.2 1) (σ.1 3)) 0 8 ((σ.1 5), (σ.1 7), (σ.1 8))).2.1, (σ.1 9), (σ.1 10), (σ.1 11))).2.2.1 (sA 10 (forN (b_Paths_lay_2 (forN (b_Paths_lay_1 (σ.2 1) (σ.1 3)) 0 8 ((σ.1 5), (σ.1 7), (σ.1 8))).1 (σ.1 2) (forN (b_Paths_lay_1 (σ.2 1) (σ.1 3)) 0 8 ((σ.1 5), (σ.1 7), (σ.1 8))).2.2 (σ.2 1) (σ.1 3)) 0 8 ((σ.1 6), (forN (b_Paths_lay_1 (σ.2 1) (σ.1 3)) 0 8 ((σ.1 5), (σ.1 7), (σ.1 8))).2.1, (σ.1 9), (σ.1 10), (σ.1 11))).2.2.2.1 (sA 11 (forN (b_Paths_lay_2 (forN (b_Paths_lay_1 (σ.2 1) (σ.1 3)) 0 8 ((σ.1 5), (σ.1 7), (σ.1 8))).1 (σ.1 2) (forN (b_Paths_lay_1 (σ.2 1) (σ.1 3)) 0 8 ((σ.1 5), (σ.1 7), (σ.1 8))).2.2 (σ.2 1) (σ.1 3)) 0 8 ((σ.1 6), (forN (b_Paths_lay_1 (σ.2 1) (σ.1 3)) 0 8 ((σ.1 5), (σ.1 7), (σ.1 8))).2.1, (σ.1 9), (σ.1 10), (σ.1 11))).2.2.2.2 σ))))))) md, (0, 0))) 3 rfl trivial (Ev.brN (by decide) ?_)
      refine Ev.wk (Lle.n (Lle.n (Lle.n Lle.z))) ?_
      rw [hK] at k
      have k3 : (none, wd (sA 5 (forN (b_Paths_lay_1 (σ.2 1) (σ.1 3)) 0 8 ((σ.1 5), (σ.1 7), (σ.1 8))).1 (sA 6 (forN (b_Paths_lay_2 (forN (b_Paths_lay_1 (σ.2 1) (σ.1 3)) 0 8 ((σ.1 5), (σ.1 7), (σ.1 8))).1 (σ.1 2) (forN (b_Paths_lay_1 (σ.2 1) (σ.1 3)) 0 8 ((σ.1 5), (σ.1 7), (σ.1 8))).2.2 (σ.2 1) (σ.1 3)) 0 8 ((σ.1 6), (forN (b_Paths_lay_1 (σ.2 1) (σ.1 3)) 0 8 ((σ.1 5), (σ.1 7), (σ.1 8))).2.1, (σ.1 9), (σ.1 10), (σ.1 11))).1 (sA 7 (forN (b_Paths_lay_2 (forN (b_Paths_lay_1 (σ.2 1) (σ.1 3)) 0 8 ((σ.1 5), (σ.1 7), (σ.1 8))).1 (σ.1 2) (forN (b_Paths_lay_1 (σ.2 1) (σ.1 3)) 0 8 ((σ.1 5), (σ.1 7), (σ.1 8))).2.2 (σ.2 1) (σ.1 3)) 0 8 ((σ.1 6), (forN (b_Paths_lay_1 (σ.2 1) (σ.1 3)) 0 8 ((σ.1 5), (σ.1 7), (σ.1 8))).2.1, (σ.1 9), (σ.1 10), (σ.1 11))).2.1 (sA 8 (forN (b_Paths_lay_1 (σ.2 1) (σ.1 3)) 0 8 ((σ.1 5), (σ.1 7), (σ.1 8))).2.2 (sA 9 (forN (b_Paths_lay_2 (forN (b_Paths_lay_1 (σ.2 1) (σ.1 3)) 0 8 ((σ.1 5), (σ.1 7), (σ.1 8))).1 (σ.1 2) (forN (b_Paths_lay_1 (σ.2 1) (σ.1 3)) 0 8 ((σ.1 5), (σ.1 7), (σ.1 8))).2.2 (σ.2 1) (σ.1 3)) 0 8 ((σ.1 6), (forN (b_Paths_lay_1 (σ.2 1) (σ.1 3)) 0 8 ((σ.1 5), (σ.1 7), (σ.1 8))).2.1, (σ.1 9), (σ.1 10), (σ.1 11))).2.2.1 (sA 10 (forN (b_Paths_lay_2 (forN (b_Paths_lay_1 (σ.2 1) (σ.1 3)) 0 8 ((σ.1 5), (σ.1 7), (σ.1 8))).1 (σ.1 2) (forN (b_Paths_lay_1 (σ.2 1) (σ.1 3)) 0 8 ((σ.1 5), (σ.1 7), (σ.1 8))).2.2 (σ.2 1) (σ.1 3)) 0 8 ((σ.1 6), (forN (b_Paths_lay_1 (σ.2 1) (σ.1 3)) 0 8 ((σ.1 5), (σ.1 7), (σ.1 8))).2.1, (σ.1 9), (σ.1 10), (σ.1 11))).2.2.2.1 (sA 11 (forN (b_Paths_lay_2 (forN (b_Paths_lay_1 (σ.2 1) (σ.1 3)) 0 8 ((σ.1 5), (σ.1 7), (σ.1 8))).1 (σ.1 2) (forN (b_Paths_lay_1 (σ.2 1) (σ.1 3)) 0 8 ((σ.1 5), (σ.1 7), (σ.1 8))).2.2 (σ.2 1) (σ.1 3)) 0 8 ((σ.1 6), (forN (b_Paths_lay_1 (σ.2 1) (σ.1 3)) 0 8 ((σ.1 5), (σ.1 7), (σ.1 8))).2.1, (σ.1 9), (σ.1 10), (σ.1 11))).2.2.2.2 σ))))))) md) = r := k
      rw [← k3]
      exact Ev.retv rfl rfl
end
section
/-! OF java/lang/Integer.bitCount(I)I -/
noncomputable def f_J_bitCount (x1 : Int32) : Int32 := ((((((((x1 - (((x1.toUInt32 >>> ((1 : Int32).toUInt32 &&& Int32.toUInt32 31)).toInt32) &&& (1431655765 : Int32))) &&& (858993459 : Int32)) + ((((x1 - (((x1.toUInt32 >>> ((1 : Int32).toUInt32 &&& Int32.toUInt32 31)).toInt32) &&& (1431655765 : Int32))).toUInt32 >>> ((2 : Int32).toUInt32 &&& Int32.toUInt32 31)).toInt32) &&& (858993459 : Int32))) + (((((x1 - (((x1.toUInt32 >>> ((1 : Int32).toUInt32 &&& Int32.toUInt32 31)).toInt32) &&& (1431655765 : Int32))) &&& (858993459 : Int32)) + ((((x1 - (((x1.toUInt32 >>> ((1 : Int32).toUInt32 &&& Int32.toUInt32 31)).toInt32) &&& (1431655765 : Int32))).toUInt32 >>> ((2 : Int32).toUInt32 &&& Int32.toUInt32 31)).toInt32) &&& (858993459 : Int32))).toUInt32 >>> ((4 : Int32).toUInt32 &&& Int32.toUInt32 31)).toInt32)) &&& (252645135 : Int32)) + (((((((x1 - (((x1.toUInt32 >>> ((1 : Int32).toUInt32 &&& Int32.toUInt32 31)).toInt32) &&& (1431655765 : Int32))) &&& (858993459 : Int32)) + ((((x1 - (((x1.toUInt32 >>> ((1 : Int32).toUInt32 &&& Int32.toUInt32 31)).toInt32) &&& (1431655765 : Int32))).toUInt32 >>> ((2 : Int32).toUInt32 &&& Int32.toUInt32 31)).toInt32) &&& (858993459 : Int32))) + (((((x1 - (((x1.toUInt32 >>> ((1 : Int32).toUInt32 &&& Int32.toUInt32 31)).toInt32) &&& (1431655765 : Int32))) &&& (858993459 : Int32)) + ((((x1 - (((x1.toUInt32 >>> ((1 : Int32).toUInt32 &&& Int32.toUInt32 31)).toInt32) &&& (1431655765 : Int32))).toUInt32 >>> ((2 : Int32).toUInt32 &&& Int32.toUInt32 31)).toInt32) &&& (858993459 : Int32))).toUInt32 >>> ((4 : Int32).toUInt32 &&& Int32.toUInt32 31)).toInt32)) &&& (252645135 : Int32)).toUInt32 >>> ((8 : Int32).toUInt32 &&& Int32.toUInt32 31)).toInt32)) + ((((((((x1 - (((x1.toUInt32 >>> ((1 : Int32).toUInt32 &&& Int32.toUInt32 31)).toInt32) &&& (1431655765 : Int32))) &&& (858993459 : Int32)) + ((((x1 - (((x1.toUInt32 >>> ((1 : Int32).toUInt32 &&& Int32.toUInt32 31)).toInt32) &&& (1431655765 : Int32))).toUInt32 >>> ((2 : Int32).toUInt32 &&& Int32.toUInt32 31)).toInt32) &&& (858993459 : Int32))) + (((((x1 - (((x1.toUInt32 >>> ((1 : Int32).toUInt32 &&& Int32.toUInt32 31)).toInt32) &&& (1431655765 : Int32))) &&& (858993459 : Int32)) + ((((x1 - (((x1.toUInt32 >>> ((1 : Int32).toUInt32 &&& Int32.toUInt32 31)).toInt32) &&& (1431655765 : Int32))).toUInt32 >>> ((2 : Int32).toUInt32 &&& Int32.toUInt32 31)).toInt32) &&& (858993459 : Int32))).toUInt32 >>> ((4 : Int32).toUInt32 &&& Int32.toUInt32 31)).toInt32)) &&& (252645135 : Int32)) + (((((((x1 - (((x1.toUInt32 >>> ((1 : Int32).toUInt32 &&& Int32.toUInt32 31)).toInt32) &&& (1431655765 : Int32))) &&& (858993459 : Int32)) + ((((x1 - (((x1.toUInt32 >>> ((1 : Int32).toUInt32 &&& Int32.toUInt32 31)).toInt32) &&& (1431655765 : Int32))).toUInt32 >>> ((2 : Int32).toUInt32 &&& Int32.toUInt32 31)).toInt32) &&& (858993459 : Int32))) + (((((x1 - (((x1.toUInt32 >>> ((1 : Int32).toUInt32 &&& Int32.toUInt32 31)).toInt32) &&& (1431655765 : Int32))) &&& (858993459 : Int32)) + ((((x1 - (((x1.toUInt32 >>> ((1 : Int32).toUInt32 &&& Int32.toUInt32 31)).toInt32) &&& (1431655765 : Int32))).toUInt32 >>> ((2 : Int32).toUInt32 &&& Int32.toUInt32 31)).toInt32) &&& (858993459 : Int32))).toUInt32 >>> ((4 : Int32).toUInt32 &&& Int32.toUInt32 31)).toInt32)) &&& (252645135 : Int32)).toUInt32 >>> ((8 : Int32).toUInt32 &&& Int32.toUInt32 31)).toInt32)).toUInt32 >>> ((16 : Int32).toUInt32 &&& Int32.toUInt32 31)).toInt32)) &&& (63 : Int32))
set_option maxRecDepth 8000 in
set_option maxHeartbeats 4000000 in
theorem e_J_bitCount (w : AW) (x1 : Int32)  : Ev none 23 (0, [some (vI x1)], [], w, (0, 0)) (some (f_J_bitCount x1), w) := by
  suffices hh : ∀ (r : Option Int32 × AW) (K : (Int32) → Prop), K = (fun o : Int32 => (some o, w) = r) → K ((((((((x1 - (((x1.toUInt32 >>> ((1 : Int32).toUInt32 &&& Int32.toUInt32 31)).toInt32) &&& (1431655765 : Int32))) &&& (858993459 : Int32)) + ((((x1 - (((x1.toUInt32 >>> ((1 : Int32).toUInt32 &&& Int32.toUInt32 31)).toInt32) &&& (1431655765 : Int32))).toUInt32 >>> ((2 : Int32).toUInt32 &&& Int32.toUInt32 31)).toInt32) &&& (858993459 : Int32))) + (((((x1 - (((x1.toUInt32 >>> ((1 : Int32).toUInt32 &&& Int32.toUInt32 31)).toInt32) &&& (1431655765 : Int32))) &&& (858993459 : Int32)) + ((((x1 - (((x1.toUInt32 >>> ((1 : Int32).toUInt32 &&& Int32.toUInt32 31)).toInt32) &&& (1431655765 : Int32))).toUInt32 >>> ((2 : Int32).toUInt32 &&& Int32.toUInt32 31)).toInt32) &&& (858993459 : Int32))).toUInt32 >>> ((4 : Int32).toUInt32 &&& Int32.toUInt32 31)).toInt32)) &&& (252645135 : Int32)) + (((((((x1 - (((x1.toUInt32 >>> ((1 : Int32).toUInt32 &&& Int32.toUInt32 31)).toInt32) &&& (1431655765 : Int32))) &&& (858993459 : Int32)) + ((((x1 - (((x1.toUInt32 >>> ((1 : Int32).toUInt32 &&& Int32.toUInt32 31)).toInt32) &&& (1431655765 : Int32))).toUInt32 >>> ((2 : Int32).toUInt32 &&& Int32.toUInt32 31)).toInt32) &&& (858993459 : Int32))) + (((((x1 - (((x1.toUInt32 >>> ((1 : Int32).toUInt32 &&& Int32.toUInt32 31)).toInt32) &&& (1431655765 : Int32))) &&& (858993459 : Int32)) + ((((x1 - (((x1.toUInt32 >>> ((1 : Int32).toUInt32 &&& Int32.toUInt32 31)).toInt32) &&& (1431655765 : Int32))).toUInt32 >>> ((2 : Int32).toUInt32 &&& Int32.toUInt32 31)).toInt32) &&& (858993459 : Int32))).toUInt32 >>> ((4 : Int32).toUInt32 &&& Int32.toUInt32 31)).toInt32)) &&& (252645135 : Int32)).toUInt32 >>> ((8 : Int32).toUInt32 &&& Int32.toUInt32 31)).toInt32)) + ((((((((x1 - (((x1.toUInt32 >>> ((1 : Int32).toUInt32 &&& Int32.toUInt32 31)).toInt32) &&& (1431655765 : Int32))) &&& (858993459 : Int32)) + ((((x1 - (((x1.toUInt32 >>> ((1 : Int32).toUInt32 &&& Int32.toUInt32 31)).toInt32) &&& (1431655765 : Int32))).toUInt32 >>> ((2 : Int32).toUInt32 &&& Int32.toUInt32 31)).toInt32) &&& (858993459 : Int32))) + (((((x1 - (((x1.toUInt32 >>> ((1 : Int32).toUInt32 &&& Int32.toUInt32 31)).toInt32) &&& (1431655765 : Int32))) &&& (858993459 : Int32)) + ((((x1 - (((x1.toUInt32 >>> ((1 : Int32).toUInt32 &&& Int32.toUInt32 31)).toInt32) &&& (1431655765 : Int32))).toUInt32 >>> ((2 : Int32).toUInt32 &&& Int32.toUInt32 31)).toInt32) &&& (858993459 : Int32))).toUInt32 >>> ((4 : Int32).toUInt32 &&& Int32.toUInt32 31)).toInt32)) &&& (252645135 : Int32)) + (((((((x1 - (((x1.toUInt32 >>> ((1 : Int32).toUInt32 &&& Int32.toUInt32 31)).toInt32) &&& (1431655765 : Int32))) &&& (858993459 : Int32)) + ((((x1 - (((x1.toUInt32 >>> ((1 : Int32).toUInt32 &&& Int32.toUInt32 31)).toInt32) &&& (1431655765 : Int32))).toUInt32 >>> ((2 : Int32).toUInt32 &&& Int32.toUInt32 31)).toInt32) &&& (858993459 : Int32))) + (((((x1 - (((x1.toUInt32 >>> ((1 : Int32).toUInt32 &&& Int32.toUInt32 31)).toInt32) &&& (1431655765 : Int32))) &&& (858993459 : Int32)) + ((((x1 - (((x1.toUInt32 >>> ((1 : Int32).toUInt32 &&& Int32.toUInt32 31)).toInt32) &&& (1431655765 : Int32))).toUInt32 >>> ((2 : Int32).toUInt32 &&& Int32.toUInt32 31)).toInt32) &&& (858993459 : Int32))).toUInt32 >>> ((4 : Int32).toUInt32 &&& Int32.toUInt32 31)).toInt32)) &&& (252645135 : Int32)).toUInt32 >>> ((8 : Int32).toUInt32 &&& Int32.toUInt32 31)).toInt32)).toUInt32 >>> ((16 : Int32).toUInt32 &&& Int32.toUInt32 31)).toInt32)) &&& (63 : Int32)) → Ev none 23 (0, [some (vI x1)], [], w, (0, 0)) r from hh _ _ rfl rfl
  intro r K hK k
  refine Ev.go (st' := (52, [some (vI (((((((x1 - (((x1.toUInt32 >>> ((1 : Int32).toUInt32 &&& Int32.toUInt32 31)).toInt32) &&& (1431655765 : Int32))) &&& (858993459 : Int32)) + ((((x1 - (((x1.toUInt32 >>> ((1 : Int32).toUInt32 &&& Int32.toUInt32 31)).toInt32) &&& (1431655765 : Int32))).toUInt32 >>> ((2 : Int32).toUInt32 &&& Int32.toUInt32 31)).toInt32) &&& (858993459 : Int32))) + (((((x1 - (((x1.toUInt32 >>> ((1 : Int32).toUInt32 &&& Int32.toUInt32 31)).toInt32) &&& (1431655765 : Int32))) &&& (858993459 : Int32)) + ((((x1 - (((x1.toUInt32 >>> ((1 : Int32).toUInt32 &&& Int32.toUInt32 31)).toInt32) &&& (1431655765 : Int32))).toUInt32 >>> ((2 : Int32).toUInt32 &&& Int32.toUInt32 31)).toInt32) &&& (858993459 : Int32))).toUInt32 >>> ((4 : Int32).toUInt32 &&& Int32.toUInt32 31)).toInt32)) &&& (252645135 : Int32)) + (((((((x1 - (((x1.toUInt32 >>> ((1 : Int32).toUInt32 &&& Int32.toUInt32 31)).toInt32) &&& (1431655765 : Int32))) &&& (858993459 : Int32)) + ((((x1 - (((x1.toUInt32 >>> ((1 : Int32).toUInt32 &&& Int32.toUInt32 31)).toInt32) &&& (1431655765 : Int32))).toUInt32 >>> ((2 : Int32).toUInt32 &&& Int32.toUInt32 31)).toInt32) &&& (858993459 : Int32))) + (((((x1 - (((x1.toUInt32 >>> ((1 : Int32).toUInt32 &&& Int32.toUInt32 31)).toInt32) &&& (1431655765 : Int32))) &&& (858993459 : Int32)) + ((((x1 - (((x1.toUInt32 >>> ((1 : Int32).toUInt32 &&& Int32.toUInt32 31)).toInt32) &&& (1431655765 : Int32))).toUInt32 >>> ((2 : Int32).toUInt32 &&& Int32.toUInt32 31)).toInt32) &&& (858993459 : Int32))).toUInt32 >>> ((4 : Int32).toUInt32 &&& Int32.toUInt32 31)).toInt32)) &&& (252645135 : Int32)).toUInt32 >>> ((8 : Int32).toUInt32 &&& Int32.toUInt32 31)).toInt32)) + ((((((((x1 - (((x1.toUInt32 >>> ((1 : Int32).toUInt32 &&& Int32.toUInt32 31)).toInt32) &&& (1431655765 : Int32))) &&& (858993459 : Int32)) + ((((x1 - (((x1.toUInt32 >>> ((1 : Int32).toUInt32 &&& Int32.toUInt32 31)).toInt32) &&& (1431655765 : Int32))).toUInt32 >>> ((2 : Int32).toUInt32 &&& Int32.toUInt32 31)).toInt32) &&& (858993459 : Int32))) + (((((x1 - (((x1.toUInt32 >>> ((1 : Int32).toUInt32 &&& Int32.toUInt32 31)).toInt32) &&& (1431655765 : Int32))) &&& (858993459 : Int32)) + ((((x1 - (((x1.toUInt32 >>> ((1 : Int32).toUInt32 &&& Int32.toUInt32 31)).toInt32) &&& (1431655765 : Int32))).toUInt32 >>> ((2 : Int32).toUInt32 &&& Int32.toUInt32 31)).toInt32) &&& (858993459 : Int32))).toUInt32 >>> ((4 : Int32).toUInt32 &&& Int32.toUInt32 31)).toInt32)) &&& (252645135 : Int32)) + (((((((x1 - (((x1.toUInt32 >>> ((1 : Int32).toUInt32 &&& Int32.toUInt32 31)).toInt32) &&& (1431655765 : Int32))) &&& (858993459 : Int32)) + ((((x1 - (((x1.toUInt32 >>> ((1 : Int32).toUInt32 &&& Int32.toUInt32 31)).toInt32) &&& (1431655765 : Int32))).toUInt32 >>> ((2 : Int32).toUInt32 &&& Int32.toUInt32 31)).toInt32) &&& (858993459 : Int32))) + (((((x1 - (((x1.toUInt32 >>> ((1 : Int32).toUInt32 &&& Int32.toUInt32 31)).toInt32) &&& (1431655765 : Int32))) &&& (858993459 : Int32)) + ((((x1 - (((x1.toUInt32 >>> ((1 : Int32).toUInt32 &&& Int32.toUInt32 31)).toInt32) &&& (1431655765 : Int32))).toUInt32 >>> ((2 : Int32).toUInt32 &&& Int32.toUInt32 31)).toInt32) &&& (858993459 : Int32))).toUInt32 >>> ((4 : Int32).toUInt32 &&& Int32.toUInt32 31)).toInt32)) &&& (252645135 : Int32)).toUInt32 >>> ((8 : Int32).toUInt32 &&& Int32.toUInt32 31)).toInt32)).toUInt32 >>> ((16 : Int32).toUInt32 &&& Int32.toUInt32 31)).toInt32)))], [vI ((((((((x1 - (((x1.toUInt32 >>> ((1 : Int32).toUInt32 &&& Int32.toUInt32 31)).toInt32) &&& (1431655765 : Int32))) &&& (858993459 : Int32)) + ((((x1 - (((x1.toUInt32 >>> ((1 : Int32).toUInt32 &&& Int32.toUInt32 31)).toInt32) &&& (1431655765 : Int32))).toUInt32 >>> ((2 : Int32).toUInt32 &&& Int32.toUInt32 31)).toInt32) &&& (858993459 : Int32))) + (((((x1 - (((x1.toUInt32 >>> ((1 : Int32).toUInt32 &&& Int32.toUInt32 31)).toInt32) &&& (1431655765 : Int32))) &&& (858993459 : Int32)) + ((((x1 - (((x1.toUInt32 >>> ((1 : Int32).toUInt32 &&& Int32.toUInt32 31)).toInt32) &&& (1431655765 : Int32))).toUInt32 >>> ((2 : Int32).toUInt32 &&& Int32.toUInt32 31)).toInt32) &&& (858993459 : Int32))).toUInt32 >>> ((4 : Int32).toUInt32 &&& Int32.toUInt32 31)).toInt32)) &&& (252645135 : Int32)) + (((((((x1 - (((x1.toUInt32 >>> ((1 : Int32).toUInt32 &&& Int32.toUInt32 31)).toInt32) &&& (1431655765 : Int32))) &&& (858993459 : Int32)) + ((((x1 - (((x1.toUInt32 >>> ((1 : Int32).toUInt32 &&& Int32.toUInt32 31)).toInt32) &&& (1431655765 : Int32))).toUInt32 >>> ((2 : Int32).toUInt32 &&& Int32.toUInt32 31)).toInt32) &&& (858993459 : Int32))) + (((((x1 - (((x1.toUInt32 >>> ((1 : Int32).toUInt32 &&& Int32.toUInt32 31)).toInt32) &&& (1431655765 : Int32))) &&& (858993459 : Int32)) + ((((x1 - (((x1.toUInt32 >>> ((1 : Int32).toUInt32 &&& Int32.toUInt32 31)).toInt32) &&& (1431655765 : Int32))).toUInt32 >>> ((2 : Int32).toUInt32 &&& Int32.toUInt32 31)).toInt32) &&& (858993459 : Int32))).toUInt32 >>> ((4 : Int32).toUInt32 &&& Int32.toUInt32 31)).toInt32)) &&& (252645135 : Int32)).toUInt32 >>> ((8 : Int32).toUInt32 &&& Int32.toUInt32 31)).toInt32)) + ((((((((x1 - (((x1.toUInt32 >>> ((1 : Int32).toUInt32 &&& Int32.toUInt32 31)).toInt32) &&& (1431655765 : Int32))) &&& (858993459 : Int32)) + ((((x1 - (((x1.toUInt32 >>> ((1 : Int32).toUInt32 &&& Int32.toUInt32 31)).toInt32) &&& (1431655765 : Int32))).toUInt32 >>> ((2 : Int32).toUInt32 &&& Int32.toUInt32 31)).toInt32) &&& (858993459 : Int32))) + (((((x1 - (((x1.toUInt32 >>> ((1 : Int32).toUInt32 &&& Int32.toUInt32 31)).toInt32) &&& (1431655765 : Int32))) &&& (858993459 : Int32)) + ((((x1 - (((x1.toUInt32 >>> ((1 : Int32).toUInt32 &&& Int32.toUInt32 31)).toInt32) &&& (1431655765 : Int32))).toUInt32 >>> ((2 : Int32).toUInt32 &&& Int32.toUInt32 31)).toInt32) &&& (858993459 : Int32))).toUInt32 >>> ((4 : Int32).toUInt32 &&& Int32.toUInt32 31)).toInt32)) &&& (252645135 : Int32)) + (((((((x1 - (((x1.toUInt32 >>> ((1 : Int32).toUInt32 &&& Int32.toUInt32 31)).toInt32) &&& (1431655765 : Int32))) &&& (858993459 : Int32)) + ((((x1 - (((x1.toUInt32 >>> ((1 : Int32).toUInt32 &&& Int32.toUInt32 31)).toInt32) &&& (1431655765 : Int32))).toUInt32 >>> ((2 : Int32).toUInt32 &&& Int32.toUInt32 31)).toInt32) &&& (858993459 : Int32))) + (((((x1 - (((x1.toUInt32 >>> ((1 : Int32).toUInt32 &&& Int32.toUInt32 31)).toInt32) &&& (1431655765 : Int32))) &&& (858993459 : Int32)) + ((((x1 - (((x1.toUInt32 >>> ((1 : Int32).toUInt32 &&& Int32.toUInt32 31)).toInt32) &&& (1431655765 : Int32))).toUInt32 >>> ((2 : Int32).toUInt32 &&& Int32.toUInt32 31)).toInt32) &&& (858993459 : Int32))).toUInt32 >>> ((4 : Int32).toUInt32 &&& Int32.toUInt32 31)).toInt32)) &&& (252645135 : Int32)).toUInt32 >>> ((8 : Int32).toUInt32 &&& Int32.toUInt32 31)).toInt32)).toUInt32 >>> ((16 : Int32).toUInt32 &&& Int32.toUInt32 31)).toInt32)) &&& (63 : Int32))], w, (0, 0))) 41 rfl trivial ?_
  rw [hK] at k
  have k3 : (some ((((((((x1 - (((x1.toUInt32 >>> ((1 : Int32).toUInt32 &&& Int32.toUInt32 31)).toInt32) &&& (1431655765 : Int32))) &&& (858993459 : Int32)) + ((((x1 - (((x1.toUInt32 >>> ((1 : Int32).toUInt32 &&& Int32.toUInt32 31)).toInt32) &&& (1431655765 : Int32))).toUInt32 >>> ((2 : Int32).toUInt32 &&& Int32.toUInt32 31)).toInt32) &&& (858993459 : Int32))) + (((((x1 - (((x1.toUInt32 >>> ((1 : Int32).toUInt32 &&& Int32.toUInt32 31)).toInt32) &&& (1431655765 : Int32))) &&& (858993459 : Int32)) + ((((x1 - (((x1.toUInt32 >>> ((1 : Int32).toUInt32 &&& Int32.toUInt32 31)).toInt32) &&& (1431655765 : Int32))).toUInt32 >>> ((2 : Int32).toUInt32 &&& Int32.toUInt32 31)).toInt32) &&& (858993459 : Int32))).toUInt32 >>> ((4 : Int32).toUInt32 &&& Int32.toUInt32 31)).toInt32)) &&& (252645135 : Int32)) + (((((((x1 - (((x1.toUInt32 >>> ((1 : Int32).toUInt32 &&& Int32.toUInt32 31)).toInt32) &&& (1431655765 : Int32))) &&& (858993459 : Int32)) + ((((x1 - (((x1.toUInt32 >>> ((1 : Int32).toUInt32 &&& Int32.toUInt32 31)).toInt32) &&& (1431655765 : Int32))).toUInt32 >>> ((2 : Int32).toUInt32 &&& Int32.toUInt32 31)).toInt32) &&& (858993459 : Int32))) + (((((x1 - (((x1.toUInt32 >>> ((1 : Int32).toUInt32 &&& Int32.toUInt32 31)).toInt32) &&& (1431655765 : Int32))) &&& (858993459 : Int32)) + ((((x1 - (((x1.toUInt32 >>> ((1 : Int32).toUInt32 &&& Int32.toUInt32 31)).toInt32) &&& (1431655765 : Int32))).toUInt32 >>> ((2 : Int32).toUInt32 &&& Int32.toUInt32 31)).toInt32) &&& (858993459 : Int32))).toUInt32 >>> ((4 : Int32).toUInt32 &&& Int32.toUInt32 31)).toInt32)) &&& (252645135 : Int32)).toUInt32 >>> ((8 : Int32).toUInt32 &&& Int32.toUInt32 31)).toInt32)) + ((((((((x1 - (((x1.toUInt32 >>> ((1 : Int32).toUInt32 &&& Int32.toUInt32 31)).toInt32) &&& (1431655765 : Int32))) &&& (858993459 : Int32)) + ((((x1 - (((x1.toUInt32 >>> ((1 : Int32).toUInt32 &&& Int32.toUInt32 31)).toInt32) &&& (1431655765 : Int32))).toUInt32 >>> ((2 : Int32).toUInt32 &&& Int32.toUInt32 31)).toInt32) &&& (858993459 : Int32))) + (((((x1 - (((x1.toUInt32 >>> ((1 : Int32).toUInt32 &&& Int32.toUInt32 31)).toInt32) &&& (1431655765 : Int32))) &&& (858993459 : Int32)) + ((((x1 - (((x1.toUInt32 >>> ((1 : Int32).toUInt32 &&& Int32.toUInt32 31)).toInt32) &&& (1431655765 : Int32))).toUInt32 >>> ((2 : Int32).toUInt32 &&& Int32.toUInt32 31)).toInt32) &&& (858993459 : Int32))).toUInt32 >>> ((4 : Int32).toUInt32 &&& Int32.toUInt32 31)).toInt32)) &&& (252645135 : Int32)) + (((((((x1 - (((x1.toUInt32 >>> ((1 : Int32).toUInt32 &&& Int32.toUInt32 31)).toInt32) &&& (1431655765 : Int32))) &&& (858993459 : Int32)) + ((((x1 - (((x1.toUInt32 >>> ((1 : Int32).toUInt32 &&& Int32.toUInt32 31)).toInt32) &&& (1431655765 : Int32))).toUInt32 >>> ((2 : Int32).toUInt32 &&& Int32.toUInt32 31)).toInt32) &&& (858993459 : Int32))) + (((((x1 - (((x1.toUInt32 >>> ((1 : Int32).toUInt32 &&& Int32.toUInt32 31)).toInt32) &&& (1431655765 : Int32))) &&& (858993459 : Int32)) + ((((x1 - (((x1.toUInt32 >>> ((1 : Int32).toUInt32 &&& Int32.toUInt32 31)).toInt32) &&& (1431655765 : Int32))).toUInt32 >>> ((2 : Int32).toUInt32 &&& Int32.toUInt32 31)).toInt32) &&& (858993459 : Int32))).toUInt32 >>> ((4 : Int32).toUInt32 &&& Int32.toUInt32 31)).toInt32)) &&& (252645135 : Int32)).toUInt32 >>> ((8 : Int32).toUInt32 &&& Int32.toUInt32 31)).toInt32)).toUInt32 >>> ((16 : Int32).toUInt32 &&& Int32.toUInt32 31)).toInt32)) &&& (63 : Int32)), w) = r := k
  rw [← k3]
  exact Ev.ireti rfl rfl
end
section
/-! OF MeshNames.up(II)I -/
noncomputable def f_C_up (x1 : Int32) (x2 : Int32) (names : Nat → Int32) (parts : Nat → Int32) (nexts : Nat → Int32) (befores : Nat → Int32) (steps : Nat → Int32) (lengths : Nat → Int32) (rows : Nat → Int32) (places : Nat → Int32) (upSet : Int32) (links : Nat → Int32) : Int32 × (Nat → Int32) × (Nat → Int32) × (Nat → Int32) × (Nat → Int32) × (Nat → Int32) × (Nat → Int32) × (Nat → Int32) × (Nat → Int32) × Int32 := (if (f_C_isNode x1) = 0 then ((-1 : Int32), names, parts, nexts, befores, steps, lengths, rows, places, upSet) else (if (f_C_isName x2) = 0 then ((-2 : Int32), names, parts, nexts, befores, steps, lengths, rows, places, upSet) else (if (f_Mesh_isUp x1 upSet) = 0 then (if (f_Mesh_isTaken x2 upSet names) = 0 then ((f_J_bitCount (f_Mesh_raise x1 x2 names upSet).2), (f_Mesh_raise x1 x2 names upSet).1, (f_Paths_lay (f_Mesh_raise x1 x2 names upSet).2 links parts befores steps (f_Mesh_raise x1 x2 names upSet).1 nexts lengths rows places).1, (f_Paths_lay (f_Mesh_raise x1 x2 names upSet).2 links parts befores steps (f_Mesh_raise x1 x2 names upSet).1 nexts lengths rows places).2.1, (f_Paths_lay (f_Mesh_raise x1 x2 names upSet).2 links parts befores steps (f_Mesh_raise x1 x2 names upSet).1 nexts lengths rows places).2.2.1, (f_Paths_lay (f_Mesh_raise x1 x2 names upSet).2 links parts befores steps (f_Mesh_raise x1 x2 names upSet).1 nexts lengths rows places).2.2.2.1, (f_Paths_lay (f_Mesh_raise x1 x2 names upSet).2 links parts befores steps (f_Mesh_raise x1 x2 names upSet).1 nexts lengths rows places).2.2.2.2.1, (f_Paths_lay (f_Mesh_raise x1 x2 names upSet).2 links parts befores steps (f_Mesh_raise x1 x2 names upSet).1 nexts lengths rows places).2.2.2.2.2.1, (f_Paths_lay (f_Mesh_raise x1 x2 names upSet).2 links parts befores steps (f_Mesh_raise x1 x2 names upSet).1 nexts lengths rows places).2.2.2.2.2.2, (f_Mesh_raise x1 x2 names upSet).2) else ((-5 : Int32), names, parts, nexts, befores, steps, lengths, rows, places, upSet)) else ((-3 : Int32), names, parts, nexts, befores, steps, lengths, rows, places, upSet))))
def P_C_up (x1 : Int32) (x2 : Int32) (names : Nat → Int32) (parts : Nat → Int32) (nexts : Nat → Int32) (befores : Nat → Int32) (steps : Nat → Int32) (lengths : Nat → Int32) (rows : Nat → Int32) (places : Nat → Int32) (upSet : Int32) (links : Nat → Int32) : Prop := (((f_C_isNode x1) = 0 → True) ∧ (¬ ((f_C_isNode x1) = 0) → ((((f_C_isName x2) = 0 → True) ∧ (¬ ((f_C_isName x2) = 0) → ((((f_Mesh_isUp x1 upSet) = 0 → ((P_Mesh_isTaken x2 upSet names) ∧ (((f_Mesh_isTaken x2 upSet names) = 0 → ((P_Mesh_raise x1 x2 names upSet) ∧ (P_Paths_lay (f_Mesh_raise x1 x2 names upSet).2 links parts befores steps (f_Mesh_raise x1 x2 names upSet).1 nexts lengths rows places) ∧ True)) ∧ (¬ ((f_Mesh_isTaken x2 upSet names) = 0) → True)) ∧ True)) ∧ (¬ ((f_Mesh_isUp x1 upSet) = 0) → True)) ∧ True))) ∧ True))) ∧ True
set_option maxRecDepth 8000 in
set_option maxHeartbeats 4000000 in
theorem e_C_up_0 (σ : Sg) (md : AW) (x1 x2 : Int32) (hP : P_C_up x1 x2 (σ.1 2) (σ.1 5) (σ.1 6) (σ.1 7) (σ.1 8) (σ.1 9) (σ.1 10) (σ.1 11) (σ.2 1) (σ.1 3))  : Ev none 24 (0, [some (vR 0), some (vI x1), some (vI x2)], [], wd σ md, (0, 0)) (some (f_C_up x1 x2 (σ.1 2) (σ.1 5) (σ.1 6) (σ.1 7) (σ.1 8) (σ.1 9) (σ.1 10) (σ.1 11) (σ.2 1) (σ.1 3)).1, wd (sA 2 (f_C_up x1 x2 (σ.1 2) (σ.1 5) (σ.1 6) (σ.1 7) (σ.1 8) (σ.1 9) (σ.1 10) (σ.1 11) (σ.2 1) (σ.1 3)).2.1 (sA 5 (f_C_up x1 x2 (σ.1 2) (σ.1 5) (σ.1 6) (σ.1 7) (σ.1 8) (σ.1 9) (σ.1 10) (σ.1 11) (σ.2 1) (σ.1 3)).2.2.1 (sA 6 (f_C_up x1 x2 (σ.1 2) (σ.1 5) (σ.1 6) (σ.1 7) (σ.1 8) (σ.1 9) (σ.1 10) (σ.1 11) (σ.2 1) (σ.1 3)).2.2.2.1 (sA 7 (f_C_up x1 x2 (σ.1 2) (σ.1 5) (σ.1 6) (σ.1 7) (σ.1 8) (σ.1 9) (σ.1 10) (σ.1 11) (σ.2 1) (σ.1 3)).2.2.2.2.1 (sA 8 (f_C_up x1 x2 (σ.1 2) (σ.1 5) (σ.1 6) (σ.1 7) (σ.1 8) (σ.1 9) (σ.1 10) (σ.1 11) (σ.2 1) (σ.1 3)).2.2.2.2.2.1 (sA 9 (f_C_up x1 x2 (σ.1 2) (σ.1 5) (σ.1 6) (σ.1 7) (σ.1 8) (σ.1 9) (σ.1 10) (σ.1 11) (σ.2 1) (σ.1 3)).2.2.2.2.2.2.1 (sA 10 (f_C_up x1 x2 (σ.1 2) (σ.1 5) (σ.1 6) (σ.1 7) (σ.1 8) (σ.1 9) (σ.1 10) (σ.1 11) (σ.2 1) (σ.1 3)).2.2.2.2.2.2.2.1 (sA 11 (f_C_up x1 x2 (σ.1 2) (σ.1 5) (σ.1 6) (σ.1 7) (σ.1 8) (σ.1 9) (σ.1 10) (σ.1 11) (σ.2 1) (σ.1 3)).2.2.2.2.2.2.2.2.1 (sV 1 (f_C_up x1 x2 (σ.1 2) (σ.1 5) (σ.1 6) (σ.1 7) (σ.1 8) (σ.1 9) (σ.1 10) (σ.1 11) (σ.2 1) (σ.1 3)).2.2.2.2.2.2.2.2.2 σ))))))))) md) := by
  suffices hh : ∀ (r : Option Int32 × AW) (K : (Int32 × (Nat → Int32) × (Nat → Int32) × (Nat → Int32) × (Nat → Int32) × (Nat → Int32) × (Nat → Int32) × (Nat → Int32) × (Nat → Int32) × Int32) → Prop), K = (fun o : Int32 × (Nat → Int32) × (Nat → Int32) × (Nat → Int32) × (Nat → Int32) × (Nat → Int32) × (Nat → Int32) × (Nat → Int32) × (Nat → Int32) × Int32 => (some o.1, wd (sA 2 o.2.1 (sA 5 o.2.2.1 (sA 6 o.2.2.2.1 (sA 7 o.2.2.2.2.1 (sA 8 o.2.2.2.2.2.1 (sA 9 o.2.2.2.2.2.2.1 (sA 10 o.2.2.2.2.2.2.2.1 (sA 11 o.2.2.2.2.2.2.2.2.1 (sV 1 o.2.2.2.2.2.2.2.2.2 σ))))))))) md) = r) → K (if (f_C_isNode x1) = 0 then ((-1 : Int32), (σ.1 2), (σ.1 5), (σ.1 6), (σ.1 7), (σ.1 8), (σ.1 9), (σ.1 10), (σ.1 11), (σ.2 1)) else (if (f_C_isName x2) = 0 then ((-2 : Int32), (σ.1 2), (σ.1 5), (σ.1 6), (σ.1 7), (σ.1 8), (σ.1 9), (σ.1 10), (σ.1 11), (σ.2 1)) else (if (f_Mesh_isUp x1 (σ.2 1)) = 0 then (if (f_Mesh_isTaken x2 (σ.2 1) (σ.1 2)) = 0 then ((f_J_bitCount (f_Mesh_raise x1 x2 (σ.1 2) (σ.2 1)).2), (f_Mesh_raise x1 x2 (σ.1 2) (σ.2 1)).1, (f_Paths_lay (f_Mesh_raise x1 x2 (σ.1 2) (σ.2 1)).2 (σ.1 3) (σ.1 5) (σ.1 7) (σ.1 8) (f_Mesh_raise x1 x2 (σ.1 2) (σ.2 1)).1 (σ.1 6) (σ.1 9) (σ.1 10) (σ.1 11)).1, (f_Paths_lay (f_Mesh_raise x1 x2 (σ.1 2) (σ.2 1)).2 (σ.1 3) (σ.1 5) (σ.1 7) (σ.1 8) (f_Mesh_raise x1 x2 (σ.1 2) (σ.2 1)).1 (σ.1 6) (σ.1 9) (σ.1 10) (σ.1 11)).2.1, (f_Paths_lay (f_Mesh_raise x1 x2 (σ.1 2) (σ.2 1)).2 (σ.1 3) (σ.1 5) (σ.1 7) (σ.1 8) (f_Mesh_raise x1 x2 (σ.1 2) (σ.2 1)).1 (σ.1 6) (σ.1 9) (σ.1 10) (σ.1 11)).2.2.1, (f_Paths_lay (f_Mesh_raise x1 x2 (σ.1 2) (σ.2 1)).2 (σ.1 3) (σ.1 5) (σ.1 7) (σ.1 8) (f_Mesh_raise x1 x2 (σ.1 2) (σ.2 1)).1 (σ.1 6) (σ.1 9) (σ.1 10) (σ.1 11)).2.2.2.1, (f_Paths_lay (f_Mesh_raise x1 x2 (σ.1 2) (σ.2 1)).2 (σ.1 3) (σ.1 5) (σ.1 7) (σ.1 8) (f_Mesh_raise x1 x2 (σ.1 2) (σ.2 1)).1 (σ.1 6) (σ.1 9) (σ.1 10) (σ.1 11)).2.2.2.2.1, (f_Paths_lay (f_Mesh_raise x1 x2 (σ.1 2) (σ.2 1)).2 (σ.1 3) (σ.1 5) (σ.1 7) (σ.1 8) (f_Mesh_raise x1 x2 (σ.1 2) (σ.2 1)).1 (σ.1 6) (σ.1 9) (σ.1 10) (σ.1 11)).2.2.2.2.2.1, (f_Paths_lay (f_Mesh_raise x1 x2 (σ.1 2) (σ.2 1)).2 (σ.1 3) (σ.1 5) (σ.1 7) (σ.1 8) (f_Mesh_raise x1 x2 (σ.1 2) (σ.2 1)).1 (σ.1 6) (σ.1 9) (σ.1 10) (σ.1 11)).2.2.2.2.2.2, (f_Mesh_raise x1 x2 (σ.1 2) (σ.2 1)).2) else ((-5 : Int32), (σ.1 2), (σ.1 5), (σ.1 6), (σ.1 7), (σ.1 8), (σ.1 9), (σ.1 10), (σ.1 11), (σ.2 1))) else ((-3 : Int32), (σ.1 2), (σ.1 5), (σ.1 6), (σ.1 7), (σ.1 8), (σ.1 9), (σ.1 10), (σ.1 11), (σ.2 1))))) → Ev none 24 (0, [some (vR 0), some (vI x1), some (vI x2)], [], wd σ md, (0, 0)) r from hh _ _ rfl rfl
  intro r K hK k
  refine Ev.go (st' := (1, [some (vR 0), some (vI x1), some (vI x2)], [vI x1], wd σ md, (0, 0))) 1 rfl trivial ?_
  refine Ev.callI (a := 14) (As := [vI x1]) [] (f_C_isNode x1) (wd σ md) rfl (e_C_isNode (wd σ md) x1) ?_
  refine Ev.go (st' := (if (f_C_isNode x1) = 0 then 7 else 9, [some (vR 0), some (vI x1), some (vI x2)], [], wd σ md, (0, 0))) 1 rfl trivial ?_
  refine Ev.brK (K := K) k (fun h1 k => ?_) (fun h1 k => ?_)
  · refine Ev.go (st' := (8, [some (vR 0), some (vI x1), some (vI x2)], [vI (-1 : Int32)], wd σ md, (0, 0))) 1 rfl trivial ?_
    rw [hK] at k
    have k3 : (some (-1 : Int32), wd (sA 2 (σ.1 2) (sA 5 (σ.1 5) (sA 6 (σ.1 6) (sA 7 (σ.1 7) (sA 8 (σ.1 8) (sA 9 (σ.1 9) (sA 10 (σ.1 10) (sA 11 (σ.1 11) (sV 1 (σ.2 1) σ))))))))) md) = r := k
    rw [← k3]
    exact Ev.ireti rfl rfl
  · refine Ev.go (st' := (10, [some (vR 0), some (vI x1), some (vI x2)], [vI x2], wd σ md, (0, 0))) 1 rfl trivial ?_
    refine Ev.callI (a := 20) (As := [vI x2]) [] (f_C_isName x2) (wd σ md) rfl (e_C_isName (wd σ md) x2) ?_
    refine Ev.go (st' := (if (f_C_isName x2) = 0 then 16 else 19, [some (vR 0), some (vI x1), some (vI x2)], [], wd σ md, (0, 0))) 1 rfl trivial ?_
    refine Ev.brK (K := K) k (fun h2 k => ?_) (fun h2 k => ?_)
    · refine Ev.go (st' := (18, [some (vR 0), some (vI x1), some (vI x2)], [vI (-2 : Int32)], wd σ md, (0, 0))) 1 rfl trivial ?_
      rw [hK] at k
      have k3 : (some (-2 : Int32), wd (sA 2 (σ.1 2) (sA 5 (σ.1 5) (sA 6 (σ.1 6) (sA 7 (σ.1 7) (sA 8 (σ.1 8) (sA 9 (σ.1 9) (sA 10 (σ.1 10) (sA 11 (σ.1 11) (sV 1 (σ.2 1) σ))))))))) md) = r := k
      rw [← k3]
      exact Ev.ireti rfl rfl
    · refine Ev.go (st' := (24, [some (vR 0), some (vI x1), some (vI x2)], [vI x1, vR 1], wd σ md, (0, 0))) 3 rfl trivial ?_
      refine Ev.callI (a := 8) (As := [vR 1, vI x1]) [] (f_Mesh_isUp x1 (σ.2 1)) (wd σ md) rfl (e_Mesh_isUp_1 σ md x1) ?_
      refine Ev.go (st' := (if (f_Mesh_isUp x1 (σ.2 1)) = 0 then 33 else 30, [some (vR 0), some (vI x1), some (vI x2)], [], wd σ md, (0, 0))) 1 rfl trivial ?_
      refine Ev.brK (K := K) k (fun h3 k => ?_) (fun h3 k => ?_)
      · refine Ev.go (st' := (38, [some (vR 0), some (vI x1), some (vI x2)], [vI x2, vR 1], wd σ md, (0, 0))) 3 rfl trivial ?_
        refine Ev.callI (a := 21) (As := [vR 1, vI x2]) [] (f_Mesh_isTaken x2 (σ.2 1) (σ.1 2)) (wd σ md) rfl (e_Mesh_isTaken_1 σ md x2 (((hP.1.2 h1).1.2 h2).1.1 h3).1) ?_
        refine Ev.go (st' := (if (f_Mesh_isTaken x2 (σ.2 1) (σ.1 2)) = 0 then 47 else 44, [some (vR 0), some (vI x1), some (vI x2)], [], wd σ md, (0, 0))) 1 rfl trivial ?_
        refine Ev.brK (K := K) k (fun h4 k => ?_) (fun h4 k => ?_)
        · refine Ev.go (st' := (53, [some (vR 0), some (vI x1), some (vI x2)], [vI x2, vI x1, vR 1], wd σ md, (0, 0))) 4 rfl trivial ?_
          refine Ev.callV (a := 22) (As := [vR 1, vI x1, vI x2]) [] (wd (sA 2 (f_Mesh_raise x1 x2 (σ.1 2) (σ.2 1)).1 (sV 1 (f_Mesh_raise x1 x2 (σ.1 2) (σ.2 1)).2 σ)) md) rfl (e_Mesh_raise_1 σ md x1 x2 ((((hP.1.2 h1).1.2 h2).1.1 h3).2.1.1 h4).1) ?_
          refine Ev.go (st' := (60, [some (vR 0), some (vI x1), some (vI x2)], [vR 4], wd (sA 2 (f_Mesh_raise x1 x2 (σ.1 2) (σ.2 1)).1 (sV 1 (f_Mesh_raise x1 x2 (σ.1 2) (σ.2 1)).2 σ)) md, (0, 0))) 2 rfl trivial ?_
          refine Ev.callV (a := 17) (As := [vR 4]) [] (wd (sA 2 (f_Mesh_raise x1 x2 (σ.1 2) (σ.2 1)).1 (sA 5 (f_Paths_lay (f_Mesh_raise x1 x2 (σ.1 2) (σ.2 1)).2 (σ.1 3) (σ.1 5) (σ.1 7) (σ.1 8) (f_Mesh_raise x1 x2 (σ.1 2) (σ.2 1)).1 (σ.1 6) (σ.1 9) (σ.1 10) (σ.1 11)).1 (sA 6 (f_Paths_lay (f_Mesh_raise x1 x2 (σ.1 2) (σ.2 1)).2 (σ.1 3) (σ.1 5) (σ.1 7) (σ.1 8) (f_Mesh_raise x1 x2 (σ.1 2) (σ.2 1)).1 (σ.1 6) (σ.1 9) (σ.1 10) (σ.1 11)).2.1 (sA 7 (f_Paths_lay (f_Mesh_raise x1 x2 (σ.1 2) (σ.2 1)).2 (σ.1 3) (σ.1 5) (σ.1 7) (σ.1 8) (f_Mesh_raise x1 x2 (σ.1 2) (σ.2 1)).1 (σ.1 6) (σ.1 9) (σ.1 10) (σ.1 11)).2.2.1 (sA 8 (f_Paths_lay (f_Mesh_raise x1 x2 (σ.1 2) (σ.2 1)).2 (σ.1 3) (σ.1 5) (σ.1 7) (σ.1 8) (f_Mesh_raise x1 x2 (σ.1 2) (σ.2 1)).1 (σ.1 6) (σ.1 9) (σ.1 10) (σ.1 11)).2.2.2.1 (sA 9 (f_Paths_lay (f_Mesh_raise x1 x2 (σ.1 2) (σ.2 1)).2 (σ.1 3) (σ.1 5) (σ.1 7) (σ.1 8) (f_Mesh_raise x1 x2 (σ.1 2) (σ.2 1)).1 (σ.1 6) (σ.1 9) (σ.1 10) (σ.1 11)).2.2.2.2.1 (sA 10 (f_Paths_lay (f_Mesh_raise x1 x2 (σ.1 2) (σ.2 1)).2 (σ.1 3) (σ.1 5) (σ.1 7) (σ.1 8) (f_Mesh_raise x1 x2 (σ.1 2) (σ.2 1)).1 (σ.1 6) (σ.1 9) (σ.1 10) (σ.1 11)).2.2.2.2.2.1 (sA 11 (f_Paths_lay (f_Mesh_raise x1 x2 (σ.1 2) (σ.2 1)).2 (σ.1 3) (σ.1 5) (σ.1 7) (σ.1 8) (f_Mesh_raise x1 x2 (σ.1 2) (σ.2 1)).1 (σ.1 6) (σ.1 9) (σ.1 10) (σ.1 11)).2.2.2.2.2.2 (sV 1 (f_Mesh_raise x1 x2 (σ.1 2) (σ.2 1)).2 σ))))))))) md) rfl (e_Paths_lay_4 (sA 2 (f_Mesh_raise x1 x2 (σ.1 2) (σ.2 1)).1 (sV 1 (f_Mesh_raise x1 x2 (σ.1 2) (σ.2 1)).2 σ)) md ((((hP.1.2 h1).1.2 h2).1.1 h3).2.1.1 h4).2.1) ?_
          refine Ev.go (st' := (70, [some (vR 0), some (vI x1), some (vI x2)], [vI (f_Mesh_raise x1 x2 (σ.1 2) (σ.2 1)).2], wd (sA 2 (f_Mesh_raise x1 x2 (σ.1 2) (σ.2 1)).1 (sA 5 (f_Paths_lay (f_Mesh_raise x1 x2 (σ.1 2) (σ.2 1)).2 (σ.1 3) (σ.1 5) (σ.1 7) (σ.1 8) (f_Mesh_raise x1 x2 (σ.1 2) (σ.2 1)).1 (σ.1 6) (σ.1 9) (σ.1 10) (σ.1 11)).1 (sA 6 (f_Paths_lay (f_Mesh_raise x1 x2 (σ.1 2) (σ.2 1)).2 (σ.1 3) (σ.1 5) (σ.1 7) (σ.1 8) (f_Mesh_raise x1 x2 (σ.1 2) (σ.2 1)).1 (σ.1 6) (σ.1 9) (σ.1 10) (σ.1 11)).2.1 (sA 7 (f_Paths_lay (f_Mesh_raise x1 x2 (σ.1 2) (σ.2 1)).2 (σ.1 3) (σ.1 5) (σ.1 7) (σ.1 8) (f_Mesh_raise x1 x2 (σ.1 2) (σ.2 1)).1 (σ.1 6) (σ.1 9) (σ.1 10) (σ.1 11)).2.2.1 (sA 8 (f_Paths_lay (f_Mesh_raise x1 x2 (σ.1 2) (σ.2 1)).2 (σ.1 3) (σ.1 5) (σ.1 7) (σ.1 8) (f_Mesh_raise x1 x2 (σ.1 2) (σ.2 1)).1 (σ.1 6) (σ.1 9) (σ.1 10) (σ.1 11)).2.2.2.1 (sA 9 (f_Paths_lay (f_Mesh_raise x1 x2 (σ.1 2) (σ.2 1)).2 (σ.1 3) (σ.1 5) (σ.1 7) (σ.1 8) (f_Mesh_raise x1 x2 (σ.1 2) (σ.2 1)).1 (σ.1 6) (σ.1 9) (σ.1 10) (σ.1 11)).2.2.2.2.1 (sA 10 (f_Paths_lay (f_Mesh_raise x1 x2 (σ.1 2) (σ.2 1)).2 (σ.1 3) (σ.1 5) (σ.1 7) (σ.1 8) (f_Mesh_raise x1 x2 (σ.1 2) (σ.2 1)).1 (σ.1 6) (σ.1 9) (σ.1 10) (σ.1 11)).2.2.2.2.2.1 (sA 11 (f_Paths_lay (f_Mesh_raise x1 x2 (σ.1 2) (σ.2 1)).2 (σ.1 3) (σ.1 5) (σ.1 7) (σ.1 8) (f_Mesh_raise x1 x2 (σ.1 2) (σ.2 1)).1 (σ.1 6) (σ.1 9) (σ.1 10) (σ.1 11)).2.2.2.2.2.2 (sV 1 (f_Mesh_raise x1 x2 (σ.1 2) (σ.2 1)).2 σ))))))))) md, (0, 0))) 3 rfl trivial ?_
          refine Ev.callI (a := 23) (As := [vI (f_Mesh_raise x1 x2 (σ.1 2) (σ.2 1)).2]) [] (f_J_bitCount (f_Mesh_raise x1 x2 (σ.1 2) (σ.2 1)).2) (wd (sA 2 (f_Mesh_raise x1 x2 (σ.1 2) (σ.2 1)).1 (sA 5 (f_Paths_lay (f_Mesh_raise x1 x2 (σ.1 2) (σ.2 1)).2 (σ.1 3) (σ.1 5) (σ.1 7) (σ.1 8) (f_Mesh_raise x1 x2 (σ.1 2) (σ.2 1)).1 (σ.1 6) (σ.1 9) (σ.1 10) (σ.1 11)).1 (sA 6 (f_Paths_lay (f_Mesh_raise x1 x2 (σ.1 2) (σ.2 1)).2 (σ.1 3) (σ.1 5) (σ.1 7) (σ.1 8) (f_Mesh_raise x1 x2 (σ.1 2) (σ.2 1)).1 (σ.1 6) (σ.1 9) (σ.1 10) (σ.1 11)).2.1 (sA 7 (f_Paths_lay (f_Mesh_raise x1 x2 (σ.1 2) (σ.2 1)).2 (σ.1 3) (σ.1 5) (σ.1 7) (σ.1 8) (f_Mesh_raise x1 x2 (σ.1 2) (σ.2 1)).1 (σ.1 6) (σ.1 9) (σ.1 10) (σ.1 11)).2.2.1 (sA 8 (f_Paths_lay (f_Mesh_raise x1 x2 (σ.1 2) (σ.2 1)).2 (σ.1 3) (σ.1 5) (σ.1 7) (σ.1 8) (f_Mesh_raise x1 x2 (σ.1 2) (σ.2 1)).1 (σ.1 6) (σ.1 9) (σ.1 10) (σ.1 11)).2.2.2.1 (sA 9 (f_Paths_lay (f_Mesh_raise x1 x2 (σ.1 2) (σ.2 1)).2 (σ.1 3) (σ.1 5) (σ.1 7) (σ.1 8) (f_Mesh_raise x1 x2 (σ.1 2) (σ.2 1)).1 (σ.1 6) (σ.1 9) (σ.1 10) (σ.1 11)).2.2.2.2.1 (sA 10 (f_Paths_lay (f_Mesh_raise x1 x2 (σ.1 2) (σ.2 1)).2 (σ.1 3) (σ.1 5) (σ.1 7) (σ.1 8) (f_Mesh_raise x1 x2 (σ.1 2) (σ.2 1)).1 (σ.1 6) (σ.1 9) (σ.1 10) (σ.1 11)).2.2.2.2.2.1 (sA 11 (f_Paths_lay (f_Mesh_raise x1 x2 (σ.1 2) (σ.2 1)).2 (σ.1 3) (σ.1 5) (σ.1 7) (σ.1 8) (f_Mesh_raise x1 x2 (σ.1 2) (σ.2 1)).1 (σ.1 6) (σ.1 9) (σ.1 10) (σ.1 11)).2.2.2.2.2.2 (sV 1 (f_Mesh_raise x1 x2 (σ.1 2) (σ.2 1)).2 σ))))))))) md) rfl (e_J_bitCount (wd (sA 2 (f_Mesh_raise x1 x2 (σ.1 2) (σ.2 1)).1 (sA 5 (f_Paths_lay (f_Mesh_raise x1 x2 (σ.1 2) (σ.2 1)).2 (σ.1 3) (σ.1 5) (σ.1 7) (σ.1 8) (f_Mesh_raise x1 x2 (σ.1 2) (σ.2 1)).1 (σ.1 6) (σ.1 9) (σ.1 10) (σ.1 11)).1 (sA 6 (f_Paths_lay (f_Mesh_raise x1 x2 (σ.1 2) (σ.2 1)).2 (σ.1 3) (σ.1 5) (σ.1 7) (σ.1 8) (f_Mesh_raise x1 x2 (σ.1 2) (σ.2 1)).1 (σ.1 6) (σ.1 9) (σ.1 10) (σ.1 11)).2.1 (sA 7 (f_Paths_lay (f_Mesh_raise x1 x2 (σ.1 2) (σ.2 1)).2 (σ.1 3) (σ.1 5) (σ.1 7) (σ.1 8) (f_Mesh_raise x1 x2 (σ.1 2) (σ.2 1)).1 (σ.1 6) (σ.1 9) (σ.1 10) (σ.1 11)).2.2.1 (sA 8 (f_Paths_lay (f_Mesh_raise x1 x2 (σ.1 2) (σ.2 1)).2 (σ.1 3) (σ.1 5) (σ.1 7) (σ.1 8) (f_Mesh_raise x1 x2 (σ.1 2) (σ.2 1)).1 (σ.1 6) (σ.1 9) (σ.1 10) (σ.1 11)).2.2.2.1 (sA 9 (f_Paths_lay (f_Mesh_raise x1 x2 (σ.1 2) (σ.2 1)).2 (σ.1 3) (σ.1 5) (σ.1 7) (σ.1 8) (f_Mesh_raise x1 x2 (σ.1 2) (σ.2 1)).1 (σ.1 6) (σ.1 9) (σ.1 10) (σ.1 11)).2.2.2.2.1 (sA 10 (f_Paths_lay (f_Mesh_raise x1 x2 (σ.1 2) (σ.2 1)).2 (σ.1 3) (σ.1 5) (σ.1 7) (σ.1 8) (f_Mesh_raise x1 x2 (σ.1 2) (σ.2 1)).1 (σ.1 6) (σ.1 9) (σ.1 10) (σ.1 11)).2.2.2.2.2.1 (sA 11 (f_Paths_lay (f_Mesh_raise x1 x2 (σ.1 2) (σ.2 1)).2 (σ.1 3) (σ.1 5) (σ.1 7) (σ.1 8) (f_Mesh_raise x1 x2 (σ.1 2) (σ.2 1)).1 (σ.1 6) (σ.1 9) (σ.1 10) (σ.1 11)).2.2.2.2.2.2 (sV 1 (f_Mesh_raise x1 x2 (σ.1 2) (σ.2 1)).2 σ))))))))) md) (f_Mesh_raise x1 x2 (σ.1 2) (σ.2 1)).2) ?_
          rw [hK] at k
          have k3 : (some (f_J_bitCount (f_Mesh_raise x1 x2 (σ.1 2) (σ.2 1)).2), wd (sA 2 (f_Mesh_raise x1 x2 (σ.1 2) (σ.2 1)).1 (sA 5 (f_Paths_lay (f_Mesh_raise x1 x2 (σ.1 2) (σ.2 1)).2 (σ.1 3) (σ.1 5) (σ.1 7) (σ.1 8) (f_Mesh_raise x1 x2 (σ.1 2) (σ.2 1)).1 (σ.1 6) (σ.1 9) (σ.1 10) (σ.1 11)).1 (sA 6 (f_Paths_lay (f_Mesh_raise x1 x2 (σ.1 2) (σ.2 1)).2 (σ.1 3) (σ.1 5) (σ.1 7) (σ.1 8) (f_Mesh_raise x1 x2 (σ.1 2) (σ.2 1)).1 (σ.1 6) (σ.1 9) (σ.1 10) (σ.1 11)).2.1 (sA 7 (f_Paths_lay (f_Mesh_raise x1 x2 (σ.1 2) (σ.2 1)).2 (σ.1 3) (σ.1 5) (σ.1 7) (σ.1 8) (f_Mesh_raise x1 x2 (σ.1 2) (σ.2 1)).1 (σ.1 6) (σ.1 9) (σ.1 10) (σ.1 11)).2.2.1 (sA 8 (f_Paths_lay (f_Mesh_raise x1 x2 (σ.1 2) (σ.2 1)).2 (σ.1 3) (σ.1 5) (σ.1 7) (σ.1 8) (f_Mesh_raise x1 x2 (σ.1 2) (σ.2 1)).1 (σ.1 6) (σ.1 9) (σ.1 10) (σ.1 11)).2.2.2.1 (sA 9 (f_Paths_lay (f_Mesh_raise x1 x2 (σ.1 2) (σ.2 1)).2 (σ.1 3) (σ.1 5) (σ.1 7) (σ.1 8) (f_Mesh_raise x1 x2 (σ.1 2) (σ.2 1)).1 (σ.1 6) (σ.1 9) (σ.1 10) (σ.1 11)).2.2.2.2.1 (sA 10 (f_Paths_lay (f_Mesh_raise x1 x2 (σ.1 2) (σ.2 1)).2 (σ.1 3) (σ.1 5) (σ.1 7) (σ.1 8) (f_Mesh_raise x1 x2 (σ.1 2) (σ.2 1)).1 (σ.1 6) (σ.1 9) (σ.1 10) (σ.1 11)).2.2.2.2.2.1 (sA 11 (f_Paths_lay (f_Mesh_raise x1 x2 (σ.1 2) (σ.2 1)).2 (σ.1 3) (σ.1 5) (σ.1 7) (σ.1 8) (f_Mesh_raise x1 x2 (σ.1 2) (σ.2 1)).1 (σ.1 6) (σ.1 9) (σ.1 10) (σ.1 11)).2.2.2.2.2.2 (sV 1 (f_Mesh_raise x1 x2 (σ.1 2) (σ.2 1)).2 σ))))))))) md) = r := k
          rw [← k3]
          exact Ev.ireti rfl rfl
        · refine Ev.go (st' := (46, [some (vR 0), some (vI x1), some (vI x2)], [vI (-5 : Int32)], wd σ md, (0, 0))) 1 rfl trivial ?_
          rw [hK] at k
          have k3 : (some (-5 : Int32), wd (sA 2 (σ.1 2) (sA 5 (σ.1 5) (sA 6 (σ.1 6) (sA 7 (σ.1 7) (sA 8 (σ.1 8) (sA 9 (σ.1 9) (sA 10 (σ.1 10) (sA 11 (σ.1 11) (sV 1 (σ.2 1) σ))))))))) md) = r := k
          rw [← k3]
          exact Ev.ireti rfl rfl
      · refine Ev.go (st' := (32, [some (vR 0), some (vI x1), some (vI x2)], [vI (-3 : Int32)], wd σ md, (0, 0))) 1 rfl trivial ?_
        rw [hK] at k
        have k3 : (some (-3 : Int32), wd (sA 2 (σ.1 2) (sA 5 (σ.1 5) (sA 6 (σ.1 6) (sA 7 (σ.1 7) (sA 8 (σ.1 8) (sA 9 (σ.1 9) (sA 10 (σ.1 10) (sA 11 (σ.1 11) (sV 1 (σ.2 1) σ))))))))) md) = r := k
        rw [← k3]
        exact Ev.ireti rfl rfl
end

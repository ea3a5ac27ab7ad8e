section
-- ===== PART A: goes FIRST, ahead of the names: the tables' words, and 'selects' of the private methods out of them =====
/-- a private method of a class that the tables say can be made, by its rows of tables_1 -/
def lw_okq (q : MethodName × Nat) : Prop := (q.1.cls ≠ "java/lang/invoke/MethodHandle" ∧ q.1.cls ≠ "java/lang/invoke/VarHandle") ∧ Cond.instantiable q.1.cls q.2 ∈ tables_1 ∧ Cond.privateMethod q.1 ∈ tables_1 ∧ Cond.instanceMethod q.1 ∈ tables_1
theorem lw_p0 : lw_okq (⟨"RumourCustoms", "figureOfLand", "(I)I"⟩, 11) := ⟨⟨by decide +kernel, by decide +kernel⟩, List.mem_of_getElem? (i := 26) (by decide +kernel), List.mem_of_getElem? (i := 153) (by decide +kernel), List.mem_of_getElem? (i := 154) (by decide +kernel)⟩
theorem lw_p1 : lw_okq (⟨"RumourCustoms", "goneRumours", "()I"⟩, 11) := ⟨⟨by decide +kernel, by decide +kernel⟩, List.mem_of_getElem? (i := 26) (by decide +kernel), List.mem_of_getElem? (i := 157) (by decide +kernel), List.mem_of_getElem? (i := 158) (by decide +kernel)⟩
theorem lw_p2 : lw_okq (⟨"RumourCustoms", "carriersOnTheWay", "()I"⟩, 11) := ⟨⟨by decide +kernel, by decide +kernel⟩, List.mem_of_getElem? (i := 26) (by decide +kernel), List.mem_of_getElem? (i := 165) (by decide +kernel), List.mem_of_getElem? (i := 166) (by decide +kernel)⟩
theorem lw_p3 : lw_okq (⟨"RumourCustoms", "digestRoads", "(J)J"⟩, 11) := ⟨⟨by decide +kernel, by decide +kernel⟩, List.mem_of_getElem? (i := 26) (by decide +kernel), List.mem_of_getElem? (i := 174) (by decide +kernel), List.mem_of_getElem? (i := 175) (by decide +kernel)⟩
theorem lw_p4 : lw_okq (⟨"RumourCustoms", "digestRumours", "(J)J"⟩, 11) := ⟨⟨by decide +kernel, by decide +kernel⟩, List.mem_of_getElem? (i := 26) (by decide +kernel), List.mem_of_getElem? (i := 192) (by decide +kernel), List.mem_of_getElem? (i := 193) (by decide +kernel)⟩
theorem lw_p5 : lw_okq (⟨"RumourCustoms", "digestCarriers", "(J)J"⟩, 11) := ⟨⟨by decide +kernel, by decide +kernel⟩, List.mem_of_getElem? (i := 26) (by decide +kernel), List.mem_of_getElem? (i := 200) (by decide +kernel), List.mem_of_getElem? (i := 201) (by decide +kernel)⟩
theorem lw_p6 : lw_okq (⟨"RumourCustoms", "figureOf", "(LRumourCustoms$Carrier;I)I"⟩, 11) := ⟨⟨by decide +kernel, by decide +kernel⟩, List.mem_of_getElem? (i := 26) (by decide +kernel), List.mem_of_getElem? (i := 204) (by decide +kernel), List.mem_of_getElem? (i := 205) (by decide +kernel)⟩
theorem lw_p7 : lw_okq (⟨"RumourCustoms", "inBag", "(LRumourCustoms$Carrier;)I"⟩, 11) := ⟨⟨by decide +kernel, by decide +kernel⟩, List.mem_of_getElem? (i := 26) (by decide +kernel), List.mem_of_getElem? (i := 208) (by decide +kernel), List.mem_of_getElem? (i := 209) (by decide +kernel)⟩
theorem lw_p8 : lw_okq (⟨"RumourCustoms", "hiddenInBag", "(LRumourCustoms$Carrier;)I"⟩, 11) := ⟨⟨by decide +kernel, by decide +kernel⟩, List.mem_of_getElem? (i := 26) (by decide +kernel), List.mem_of_getElem? (i := 216) (by decide +kernel), List.mem_of_getElem? (i := 217) (by decide +kernel)⟩
theorem lw_p9 : lw_okq (⟨"java/lang/Throwable", "fillInStackTrace", "(I)Ljava/lang/Throwable;"⟩, 6) := ⟨⟨by decide +kernel, by decide +kernel⟩, List.mem_of_getElem? (i := 271) (by decide +kernel), List.mem_of_getElem? (i := 269) (by decide +kernel), List.mem_of_getElem? (i := 270) (by decide +kernel)⟩
theorem lw_p10 : lw_okq (⟨"RumourCustoms", "requireTown", "(I)V"⟩, 11) := ⟨⟨by decide +kernel, by decide +kernel⟩, List.mem_of_getElem? (i := 26) (by decide +kernel), List.mem_of_getElem? (i := 310) (by decide +kernel), List.mem_of_getElem? (i := 311) (by decide +kernel)⟩
theorem lw_p11 : lw_okq (⟨"java/util/ArrayList", "add", "(Ljava/lang/Object;[Ljava/lang/Object;I)V"⟩, 3) := ⟨⟨by decide +kernel, by decide +kernel⟩, List.mem_of_getElem? (i := 64) (by decide +kernel), List.mem_of_getElem? (i := 447) (by decide +kernel), List.mem_of_getElem? (i := 448) (by decide +kernel)⟩
theorem lw_p12 : lw_okq (⟨"java/util/ArrayList", "grow", "()[Ljava/lang/Object;"⟩, 3) := ⟨⟨by decide +kernel, by decide +kernel⟩, List.mem_of_getElem? (i := 64) (by decide +kernel), List.mem_of_getElem? (i := 451) (by decide +kernel), List.mem_of_getElem? (i := 452) (by decide +kernel)⟩
theorem lw_p13 : lw_okq (⟨"java/util/ArrayList", "grow", "(I)[Ljava/lang/Object;"⟩, 3) := ⟨⟨by decide +kernel, by decide +kernel⟩, List.mem_of_getElem? (i := 64) (by decide +kernel), List.mem_of_getElem? (i := 455) (by decide +kernel), List.mem_of_getElem? (i := 456) (by decide +kernel)⟩
theorem lw_p14 : lw_okq (⟨"RumourCustoms", "rumourAt", "(I)LRumourCustoms$Rumour;"⟩, 11) := ⟨⟨by decide +kernel, by decide +kernel⟩, List.mem_of_getElem? (i := 26) (by decide +kernel), List.mem_of_getElem? (i := 508) (by decide +kernel), List.mem_of_getElem? (i := 509) (by decide +kernel)⟩
theorem lw_p15 : lw_okq (⟨"RumourCustoms", "rumoursIn", "(I)I"⟩, 11) := ⟨⟨by decide +kernel, by decide +kernel⟩, List.mem_of_getElem? (i := 26) (by decide +kernel), List.mem_of_getElem? (i := 520) (by decide +kernel), List.mem_of_getElem? (i := 521) (by decide +kernel)⟩
def lw_privs_1 : List (MethodName × Nat) := [(⟨"RumourCustoms", "figureOfLand", "(I)I"⟩, 11), (⟨"RumourCustoms", "goneRumours", "()I"⟩, 11), (⟨"RumourCustoms", "carriersOnTheWay", "()I"⟩, 11), (⟨"RumourCustoms", "digestRoads", "(J)J"⟩, 11), (⟨"RumourCustoms", "digestRumours", "(J)J"⟩, 11), (⟨"RumourCustoms", "digestCarriers", "(J)J"⟩, 11), (⟨"RumourCustoms", "figureOf", "(LRumourCustoms$Carrier;I)I"⟩, 11), (⟨"RumourCustoms", "inBag", "(LRumourCustoms$Carrier;)I"⟩, 11), (⟨"RumourCustoms", "hiddenInBag", "(LRumourCustoms$Carrier;)I"⟩, 11), (⟨"java/lang/Throwable", "fillInStackTrace", "(I)Ljava/lang/Throwable;"⟩, 6), (⟨"RumourCustoms", "requireTown", "(I)V"⟩, 11), (⟨"java/util/ArrayList", "add", "(Ljava/lang/Object;[Ljava/lang/Object;I)V"⟩, 3), (⟨"java/util/ArrayList", "grow", "()[Ljava/lang/Object;"⟩, 3), (⟨"java/util/ArrayList", "grow", "(I)[Ljava/lang/Object;"⟩, 3), (⟨"RumourCustoms", "rumourAt", "(I)LRumourCustoms$Rumour;"⟩, 11), (⟨"RumourCustoms", "rumoursIn", "(I)I"⟩, 11)]
theorem lw_r1 : ∀ q ∈ lw_privs_1, lw_okq q := List.forall_mem_cons.mpr ⟨lw_p0, List.forall_mem_cons.mpr ⟨lw_p1, List.forall_mem_cons.mpr ⟨lw_p2, List.forall_mem_cons.mpr ⟨lw_p3, List.forall_mem_cons.mpr ⟨lw_p4, List.forall_mem_cons.mpr ⟨lw_p5, List.forall_mem_cons.mpr ⟨lw_p6, List.forall_mem_cons.mpr ⟨lw_p7, List.forall_mem_cons.mpr ⟨lw_p8, List.forall_mem_cons.mpr ⟨lw_p9, List.forall_mem_cons.mpr ⟨lw_p10, List.forall_mem_cons.mpr ⟨lw_p11, List.forall_mem_cons.mpr ⟨lw_p12, List.forall_mem_cons.mpr ⟨lw_p13, List.forall_mem_cons.mpr ⟨lw_p14, List.forall_mem_cons.mpr ⟨lw_p15, fun _ h => absurd h List.not_mem_nil⟩⟩⟩⟩⟩⟩⟩⟩⟩⟩⟩⟩⟩⟩⟩⟩
theorem lw_p16 : lw_okq (⟨"RumourCustoms", "familiesIn", "(I)I"⟩, 11) := ⟨⟨by decide +kernel, by decide +kernel⟩, List.mem_of_getElem? (i := 26) (by decide +kernel), List.mem_of_getElem? (i := 524) (by decide +kernel), List.mem_of_getElem? (i := 525) (by decide +kernel)⟩
theorem lw_p17 : lw_okq (⟨"RumourCustoms", "deepestIn", "(I)I"⟩, 11) := ⟨⟨by decide +kernel, by decide +kernel⟩, List.mem_of_getElem? (i := 26) (by decide +kernel), List.mem_of_getElem? (i := 534) (by decide +kernel), List.mem_of_getElem? (i := 535) (by decide +kernel)⟩
theorem lw_p18 : lw_okq (⟨"RumourCustoms", "carriersIn", "(I)I"⟩, 11) := ⟨⟨by decide +kernel, by decide +kernel⟩, List.mem_of_getElem? (i := 26) (by decide +kernel), List.mem_of_getElem? (i := 538) (by decide +kernel), List.mem_of_getElem? (i := 539) (by decide +kernel)⟩
theorem lw_p19 : lw_okq (⟨"RumourCustoms", "leastDeepIn", "(II)LRumourCustoms$Rumour;"⟩, 11) := ⟨⟨by decide +kernel, by decide +kernel⟩, List.mem_of_getElem? (i := 26) (by decide +kernel), List.mem_of_getElem? (i := 549) (by decide +kernel), List.mem_of_getElem? (i := 550) (by decide +kernel)⟩
theorem lw_p20 : lw_okq (⟨"RumourCustoms", "carrierAt", "(I)LRumourCustoms$Carrier;"⟩, 11) := ⟨⟨by decide +kernel, by decide +kernel⟩, List.mem_of_getElem? (i := 26) (by decide +kernel), List.mem_of_getElem? (i := 595) (by decide +kernel), List.mem_of_getElem? (i := 596) (by decide +kernel)⟩
theorem lw_p21 : lw_okq (⟨"RumourCustoms$Rumour", "move", "(II)V"⟩, 8) := ⟨⟨by decide +kernel, by decide +kernel⟩, List.mem_of_getElem? (i := 402) (by decide +kernel), List.mem_of_getElem? (i := 610) (by decide +kernel), List.mem_of_getElem? (i := 611) (by decide +kernel)⟩
theorem lw_p22 : lw_okq (⟨"RumourCustoms", "owedBy", "(LRumourCustoms$Carrier;LRumourCustoms$Road;I)I"⟩, 11) := ⟨⟨by decide +kernel, by decide +kernel⟩, List.mem_of_getElem? (i := 26) (by decide +kernel), List.mem_of_getElem? (i := 652) (by decide +kernel), List.mem_of_getElem? (i := 653) (by decide +kernel)⟩
theorem lw_p23 : lw_okq (⟨"RumourCustoms", "fineOf", "(LRumourCustoms$Carrier;LRumourCustoms$Road;I)I"⟩, 11) := ⟨⟨by decide +kernel, by decide +kernel⟩, List.mem_of_getElem? (i := 26) (by decide +kernel), List.mem_of_getElem? (i := 670) (by decide +kernel), List.mem_of_getElem? (i := 671) (by decide +kernel)⟩
theorem lw_p24 : lw_okq (⟨"RumourCustoms", "burnProofs", "(LRumourCustoms$Carrier;I)V"⟩, 11) := ⟨⟨by decide +kernel, by decide +kernel⟩, List.mem_of_getElem? (i := 26) (by decide +kernel), List.mem_of_getElem? (i := 680) (by decide +kernel), List.mem_of_getElem? (i := 681) (by decide +kernel)⟩
theorem lw_p25 : lw_okq (⟨"RumourCustoms", "inspect", "(LRumourCustoms$Carrier;LRumourCustoms$Road;)V"⟩, 11) := ⟨⟨by decide +kernel, by decide +kernel⟩, List.mem_of_getElem? (i := 26) (by decide +kernel), List.mem_of_getElem? (i := 684) (by decide +kernel), List.mem_of_getElem? (i := 685) (by decide +kernel)⟩
theorem lw_p26 : lw_okq (⟨"RumourCustoms", "takeHidden", "(LRumourCustoms$Carrier;)V"⟩, 11) := ⟨⟨by decide +kernel, by decide +kernel⟩, List.mem_of_getElem? (i := 26) (by decide +kernel), List.mem_of_getElem? (i := 688) (by decide +kernel), List.mem_of_getElem? (i := 689) (by decide +kernel)⟩
theorem lw_p27 : lw_okq (⟨"RumourCustoms", "pay", "(LRumourCustoms$Carrier;LRumourCustoms$Road;II)V"⟩, 11) := ⟨⟨by decide +kernel, by decide +kernel⟩, List.mem_of_getElem? (i := 26) (by decide +kernel), List.mem_of_getElem? (i := 696) (by decide +kernel), List.mem_of_getElem? (i := 697) (by decide +kernel)⟩
theorem lw_p28 : lw_okq (⟨"RumourCustoms$WaySearch", "startIn", "(I)V"⟩, 3) := ⟨⟨by decide +kernel, by decide +kernel⟩, List.mem_of_getElem? (i := 46) (by decide +kernel), List.mem_of_getElem? (i := 753) (by decide +kernel), List.mem_of_getElem? (i := 754) (by decide +kernel)⟩
theorem lw_p29 : lw_okq (⟨"RumourCustoms$WaySearch", "nextStage", "()I"⟩, 3) := ⟨⟨by decide +kernel, by decide +kernel⟩, List.mem_of_getElem? (i := 46) (by decide +kernel), List.mem_of_getElem? (i := 758) (by decide +kernel), List.mem_of_getElem? (i := 759) (by decide +kernel)⟩
theorem lw_p30 : lw_okq (⟨"RumourCustoms$WaySearch", "goOnFrom", "(ILRumourCustoms$Rumour;)V"⟩, 3) := ⟨⟨by decide +kernel, by decide +kernel⟩, List.mem_of_getElem? (i := 46) (by decide +kernel), List.mem_of_getElem? (i := 765) (by decide +kernel), List.mem_of_getElem? (i := 766) (by decide +kernel)⟩
theorem lw_p31 : lw_okq (⟨"RumourCustoms$WaySearch", "goBy", "(LRumourCustoms$Road;IILRumourCustoms$Rumour;)V"⟩, 3) := ⟨⟨by decide +kernel, by decide +kernel⟩, List.mem_of_getElem? (i := 46) (by decide +kernel), List.mem_of_getElem? (i := 770) (by decide +kernel), List.mem_of_getElem? (i := 771) (by decide +kernel)⟩
def lw_privs_2 : List (MethodName × Nat) := [(⟨"RumourCustoms", "familiesIn", "(I)I"⟩, 11), (⟨"RumourCustoms", "deepestIn", "(I)I"⟩, 11), (⟨"RumourCustoms", "carriersIn", "(I)I"⟩, 11), (⟨"RumourCustoms", "leastDeepIn", "(II)LRumourCustoms$Rumour;"⟩, 11), (⟨"RumourCustoms", "carrierAt", "(I)LRumourCustoms$Carrier;"⟩, 11), (⟨"RumourCustoms$Rumour", "move", "(II)V"⟩, 8), (⟨"RumourCustoms", "owedBy", "(LRumourCustoms$Carrier;LRumourCustoms$Road;I)I"⟩, 11), (⟨"RumourCustoms", "fineOf", "(LRumourCustoms$Carrier;LRumourCustoms$Road;I)I"⟩, 11), (⟨"RumourCustoms", "burnProofs", "(LRumourCustoms$Carrier;I)V"⟩, 11), (⟨"RumourCustoms", "inspect", "(LRumourCustoms$Carrier;LRumourCustoms$Road;)V"⟩, 11), (⟨"RumourCustoms", "takeHidden", "(LRumourCustoms$Carrier;)V"⟩, 11), (⟨"RumourCustoms", "pay", "(LRumourCustoms$Carrier;LRumourCustoms$Road;II)V"⟩, 11), (⟨"RumourCustoms$WaySearch", "startIn", "(I)V"⟩, 3), (⟨"RumourCustoms$WaySearch", "nextStage", "()I"⟩, 3), (⟨"RumourCustoms$WaySearch", "goOnFrom", "(ILRumourCustoms$Rumour;)V"⟩, 3), (⟨"RumourCustoms$WaySearch", "goBy", "(LRumourCustoms$Road;IILRumourCustoms$Rumour;)V"⟩, 3)]
theorem lw_r2 : ∀ q ∈ lw_privs_2, lw_okq q := List.forall_mem_cons.mpr ⟨lw_p16, List.forall_mem_cons.mpr ⟨lw_p17, List.forall_mem_cons.mpr ⟨lw_p18, List.forall_mem_cons.mpr ⟨lw_p19, List.forall_mem_cons.mpr ⟨lw_p20, List.forall_mem_cons.mpr ⟨lw_p21, List.forall_mem_cons.mpr ⟨lw_p22, List.forall_mem_cons.mpr ⟨lw_p23, List.forall_mem_cons.mpr ⟨lw_p24, List.forall_mem_cons.mpr ⟨lw_p25, List.forall_mem_cons.mpr ⟨lw_p26, List.forall_mem_cons.mpr ⟨lw_p27, List.forall_mem_cons.mpr ⟨lw_p28, List.forall_mem_cons.mpr ⟨lw_p29, List.forall_mem_cons.mpr ⟨lw_p30, List.forall_mem_cons.mpr ⟨lw_p31, fun _ h => absurd h List.not_mem_nil⟩⟩⟩⟩⟩⟩⟩⟩⟩⟩⟩⟩⟩⟩⟩⟩
theorem lw_p32 : lw_okq (⟨"RumourCustoms", "townsThatKnow", "(I)I"⟩, 11) := ⟨⟨by decide +kernel, by decide +kernel⟩, List.mem_of_getElem? (i := 26) (by decide +kernel), List.mem_of_getElem? (i := 791) (by decide +kernel), List.mem_of_getElem? (i := 792) (by decide +kernel)⟩
theorem lw_p33 : lw_okq (⟨"RumourCustoms", "greatestDepthInTowns", "(I)I"⟩, 11) := ⟨⟨by decide +kernel, by decide +kernel⟩, List.mem_of_getElem? (i := 26) (by decide +kernel), List.mem_of_getElem? (i := 801) (by decide +kernel), List.mem_of_getElem? (i := 802) (by decide +kernel)⟩
theorem lw_p34 : lw_okq (⟨"RumourCustoms", "notGoneOf", "(I)I"⟩, 11) := ⟨⟨by decide +kernel, by decide +kernel⟩, List.mem_of_getElem? (i := 26) (by decide +kernel), List.mem_of_getElem? (i := 805) (by decide +kernel), List.mem_of_getElem? (i := 806) (by decide +kernel)⟩
theorem lw_p35 : lw_okq (⟨"RumourCustomsModel", "fail", "(I)I"⟩, 14) := ⟨⟨by decide +kernel, by decide +kernel⟩, List.mem_of_getElem? (i := 809) (by decide +kernel), List.mem_of_getElem? (i := 867) (by decide +kernel), List.mem_of_getElem? (i := 868) (by decide +kernel)⟩
theorem lw_p36 : lw_okq (⟨"RumourCustomsModel", "isTown", "(I)Z"⟩, 14) := ⟨⟨by decide +kernel, by decide +kernel⟩, List.mem_of_getElem? (i := 809) (by decide +kernel), List.mem_of_getElem? (i := 875) (by decide +kernel), List.mem_of_getElem? (i := 876) (by decide +kernel)⟩
theorem lw_p37 : lw_okq (⟨"RumourCustomsModel", "add", "(IIIII)I"⟩, 14) := ⟨⟨by decide +kernel, by decide +kernel⟩, List.mem_of_getElem? (i := 809) (by decide +kernel), List.mem_of_getElem? (i := 896) (by decide +kernel), List.mem_of_getElem? (i := 897) (by decide +kernel)⟩
theorem lw_p38 : lw_okq (⟨"RumourCustomsModel", "isRumour", "(I)Z"⟩, 14) := ⟨⟨by decide +kernel, by decide +kernel⟩, List.mem_of_getElem? (i := 809) (by decide +kernel), List.mem_of_getElem? (i := 904) (by decide +kernel), List.mem_of_getElem? (i := 905) (by decide +kernel)⟩
theorem lw_p39 : lw_okq (⟨"RumourCustomsModel", "get", "(II)I"⟩, 14) := ⟨⟨by decide +kernel, by decide +kernel⟩, List.mem_of_getElem? (i := 809) (by decide +kernel), List.mem_of_getElem? (i := 908) (by decide +kernel), List.mem_of_getElem? (i := 909) (by decide +kernel)⟩
theorem lw_p40 : lw_okq (⟨"RumourCustomsModel", "townTold", "(II)I"⟩, 14) := ⟨⟨by decide +kernel, by decide +kernel⟩, List.mem_of_getElem? (i := 809) (by decide +kernel), List.mem_of_getElem? (i := 916) (by decide +kernel), List.mem_of_getElem? (i := 917) (by decide +kernel)⟩
theorem lw_p41 : lw_okq (⟨"RumourCustomsModel", "knows", "(II)Z"⟩, 14) := ⟨⟨by decide +kernel, by decide +kernel⟩, List.mem_of_getElem? (i := 809) (by decide +kernel), List.mem_of_getElem? (i := 920) (by decide +kernel), List.mem_of_getElem? (i := 921) (by decide +kernel)⟩
theorem lw_p42 : lw_okq (⟨"RumourCustomsModel", "heardOf", "(II)I"⟩, 14) := ⟨⟨by decide +kernel, by decide +kernel⟩, List.mem_of_getElem? (i := 809) (by decide +kernel), List.mem_of_getElem? (i := 924) (by decide +kernel), List.mem_of_getElem? (i := 925) (by decide +kernel)⟩
theorem lw_p43 : lw_okq (⟨"RumourCustomsModel", "man", "(II)I"⟩, 14) := ⟨⟨by decide +kernel, by decide +kernel⟩, List.mem_of_getElem? (i := 809) (by decide +kernel), List.mem_of_getElem? (i := 928) (by decide +kernel), List.mem_of_getElem? (i := 929) (by decide +kernel)⟩
theorem lw_p44 : lw_okq (⟨"RumourCustomsModel", "isCarrier", "(I)Z"⟩, 14) := ⟨⟨by decide +kernel, by decide +kernel⟩, List.mem_of_getElem? (i := 809) (by decide +kernel), List.mem_of_getElem? (i := 945) (by decide +kernel), List.mem_of_getElem? (i := 946) (by decide +kernel)⟩
theorem lw_p45 : lw_okq (⟨"RumourCustomsModel", "inBag", "(IZ)I"⟩, 14) := ⟨⟨by decide +kernel, by decide +kernel⟩, List.mem_of_getElem? (i := 809) (by decide +kernel), List.mem_of_getElem? (i := 949) (by decide +kernel), List.mem_of_getElem? (i := 950) (by decide +kernel)⟩
theorem lw_p46 : lw_okq (⟨"RumourCustomsModel", "lay", "(III)V"⟩, 14) := ⟨⟨by decide +kernel, by decide +kernel⟩, List.mem_of_getElem? (i := 809) (by decide +kernel), List.mem_of_getElem? (i := 953) (by decide +kernel), List.mem_of_getElem? (i := 954) (by decide +kernel)⟩
theorem lw_p47 : lw_okq (⟨"RumourCustomsModel", "set", "(III)V"⟩, 14) := ⟨⟨by decide +kernel, by decide +kernel⟩, List.mem_of_getElem? (i := 809) (by decide +kernel), List.mem_of_getElem? (i := 957) (by decide +kernel), List.mem_of_getElem? (i := 958) (by decide +kernel)⟩
def lw_privs_3 : List (MethodName × Nat) := [(⟨"RumourCustoms", "townsThatKnow", "(I)I"⟩, 11), (⟨"RumourCustoms", "greatestDepthInTowns", "(I)I"⟩, 11), (⟨"RumourCustoms", "notGoneOf", "(I)I"⟩, 11), (⟨"RumourCustomsModel", "fail", "(I)I"⟩, 14), (⟨"RumourCustomsModel", "isTown", "(I)Z"⟩, 14), (⟨"RumourCustomsModel", "add", "(IIIII)I"⟩, 14), (⟨"RumourCustomsModel", "isRumour", "(I)Z"⟩, 14), (⟨"RumourCustomsModel", "get", "(II)I"⟩, 14), (⟨"RumourCustomsModel", "townTold", "(II)I"⟩, 14), (⟨"RumourCustomsModel", "knows", "(II)Z"⟩, 14), (⟨"RumourCustomsModel", "heardOf", "(II)I"⟩, 14), (⟨"RumourCustomsModel", "man", "(II)I"⟩, 14), (⟨"RumourCustomsModel", "isCarrier", "(I)Z"⟩, 14), (⟨"RumourCustomsModel", "inBag", "(IZ)I"⟩, 14), (⟨"RumourCustomsModel", "lay", "(III)V"⟩, 14), (⟨"RumourCustomsModel", "set", "(III)V"⟩, 14)]
theorem lw_r3 : ∀ q ∈ lw_privs_3, lw_okq q := List.forall_mem_cons.mpr ⟨lw_p32, List.forall_mem_cons.mpr ⟨lw_p33, List.forall_mem_cons.mpr ⟨lw_p34, List.forall_mem_cons.mpr ⟨lw_p35, List.forall_mem_cons.mpr ⟨lw_p36, List.forall_mem_cons.mpr ⟨lw_p37, List.forall_mem_cons.mpr ⟨lw_p38, List.forall_mem_cons.mpr ⟨lw_p39, List.forall_mem_cons.mpr ⟨lw_p40, List.forall_mem_cons.mpr ⟨lw_p41, List.forall_mem_cons.mpr ⟨lw_p42, List.forall_mem_cons.mpr ⟨lw_p43, List.forall_mem_cons.mpr ⟨lw_p44, List.forall_mem_cons.mpr ⟨lw_p45, List.forall_mem_cons.mpr ⟨lw_p46, List.forall_mem_cons.mpr ⟨lw_p47, fun _ h => absurd h List.not_mem_nil⟩⟩⟩⟩⟩⟩⟩⟩⟩⟩⟩⟩⟩⟩⟩⟩
theorem lw_p48 : lw_okq (⟨"RumourCustomsModel", "has", "(II)Z"⟩, 14) := ⟨⟨by decide +kernel, by decide +kernel⟩, List.mem_of_getElem? (i := 809) (by decide +kernel), List.mem_of_getElem? (i := 965) (by decide +kernel), List.mem_of_getElem? (i := 966) (by decide +kernel)⟩
theorem lw_p49 : lw_okq (⟨"RumourCustomsModel", "owed", "(III)I"⟩, 14) := ⟨⟨by decide +kernel, by decide +kernel⟩, List.mem_of_getElem? (i := 809) (by decide +kernel), List.mem_of_getElem? (i := 981) (by decide +kernel), List.mem_of_getElem? (i := 982) (by decide +kernel)⟩
theorem lw_p50 : lw_okq (⟨"RumourCustomsModel", "dutyAt", "(III)I"⟩, 14) := ⟨⟨by decide +kernel, by decide +kernel⟩, List.mem_of_getElem? (i := 809) (by decide +kernel), List.mem_of_getElem? (i := 985) (by decide +kernel), List.mem_of_getElem? (i := 986) (by decide +kernel)⟩
theorem lw_p51 : lw_okq (⟨"RumourCustomsModel", "fine", "(III)I"⟩, 14) := ⟨⟨by decide +kernel, by decide +kernel⟩, List.mem_of_getElem? (i := 809) (by decide +kernel), List.mem_of_getElem? (i := 989) (by decide +kernel), List.mem_of_getElem? (i := 990) (by decide +kernel)⟩
theorem lw_p52 : lw_okq (⟨"RumourCustomsModel", "isSearched", "(II)Z"⟩, 14) := ⟨⟨by decide +kernel, by decide +kernel⟩, List.mem_of_getElem? (i := 809) (by decide +kernel), List.mem_of_getElem? (i := 993) (by decide +kernel), List.mem_of_getElem? (i := 994) (by decide +kernel)⟩
theorem lw_p53 : lw_okq (⟨"RumourCustomsModel", "setMan", "(III)V"⟩, 14) := ⟨⟨by decide +kernel, by decide +kernel⟩, List.mem_of_getElem? (i := 809) (by decide +kernel), List.mem_of_getElem? (i := 997) (by decide +kernel), List.mem_of_getElem? (i := 998) (by decide +kernel)⟩
theorem lw_p54 : lw_okq (⟨"RumourCustomsModel", "carrierTold", "(II)I"⟩, 14) := ⟨⟨by decide +kernel, by decide +kernel⟩, List.mem_of_getElem? (i := 809) (by decide +kernel), List.mem_of_getElem? (i := 1005) (by decide +kernel), List.mem_of_getElem? (i := 1006) (by decide +kernel)⟩
theorem lw_p55 : lw_okq (⟨"RumourCustomsModel", "counted", "(I)I"⟩, 14) := ⟨⟨by decide +kernel, by decide +kernel⟩, List.mem_of_getElem? (i := 809) (by decide +kernel), List.mem_of_getElem? (i := 1021) (by decide +kernel), List.mem_of_getElem? (i := 1022) (by decide +kernel)⟩
theorem lw_p56 : lw_okq (⟨"RumourCustomsModel", "gone", "()I"⟩, 14) := ⟨⟨by decide +kernel, by decide +kernel⟩, List.mem_of_getElem? (i := 809) (by decide +kernel), List.mem_of_getElem? (i := 1025) (by decide +kernel), List.mem_of_getElem? (i := 1026) (by decide +kernel)⟩
theorem lw_p57 : lw_okq (⟨"RumourCustomsModel", "goOn", "(III)Z"⟩, 14) := ⟨⟨by decide +kernel, by decide +kernel⟩, List.mem_of_getElem? (i := 809) (by decide +kernel), List.mem_of_getElem? (i := 1034) (by decide +kernel), List.mem_of_getElem? (i := 1035) (by decide +kernel)⟩
def lw_privs_4 : List (MethodName × Nat) := [(⟨"RumourCustomsModel", "has", "(II)Z"⟩, 14), (⟨"RumourCustomsModel", "owed", "(III)I"⟩, 14), (⟨"RumourCustomsModel", "dutyAt", "(III)I"⟩, 14), (⟨"RumourCustomsModel", "fine", "(III)I"⟩, 14), (⟨"RumourCustomsModel", "isSearched", "(II)Z"⟩, 14), (⟨"RumourCustomsModel", "setMan", "(III)V"⟩, 14), (⟨"RumourCustomsModel", "carrierTold", "(II)I"⟩, 14), (⟨"RumourCustomsModel", "counted", "(I)I"⟩, 14), (⟨"RumourCustomsModel", "gone", "()I"⟩, 14), (⟨"RumourCustomsModel", "goOn", "(III)Z"⟩, 14)]
theorem lw_r4 : ∀ q ∈ lw_privs_4, lw_okq q := List.forall_mem_cons.mpr ⟨lw_p48, List.forall_mem_cons.mpr ⟨lw_p49, List.forall_mem_cons.mpr ⟨lw_p50, List.forall_mem_cons.mpr ⟨lw_p51, List.forall_mem_cons.mpr ⟨lw_p52, List.forall_mem_cons.mpr ⟨lw_p53, List.forall_mem_cons.mpr ⟨lw_p54, List.forall_mem_cons.mpr ⟨lw_p55, List.forall_mem_cons.mpr ⟨lw_p56, List.forall_mem_cons.mpr ⟨lw_p57, fun _ h => absurd h List.not_mem_nil⟩⟩⟩⟩⟩⟩⟩⟩⟩⟩
def lw_privs : List (MethodName × Nat) := lw_privs_1 ++ (lw_privs_2 ++ (lw_privs_3 ++ (lw_privs_4)))
def lw_tbl : List Cond := k2_sels lw_privs ++ tables_1
theorem lw_privs_ok : ∀ q ∈ lw_privs, lw_okq q := by
  show ∀ q ∈ lw_privs_1 ++ (lw_privs_2 ++ (lw_privs_3 ++ (lw_privs_4))), lw_okq q
  exact List.forall_mem_append.mpr ⟨lw_r1, List.forall_mem_append.mpr ⟨lw_r2, List.forall_mem_append.mpr ⟨lw_r3, lw_r4⟩⟩⟩
/-- the streams that the claim lets the run draw from -/
abbrev lw_cs : List Choice := [Jvm.Choice.named "NaN.bits"]
theorem lw_bits : nanBits ∈ lw_cs := by first | decide | exact List.mem_cons_self | simp [lw_cs, nanBits]
end
section
/-! ===== BEGIN words of one list among another's, by their places ===== -/
theorem goodIn_r {big : List Cond} (ws : List Cond) (ps : List Nat) (hp : ws = ps.filterMap (fun i => big[i]?)) (h : ws.all goodWord = true) : GoodIn big ws := by
  intro w hw
  have h1 := List.all_eq_true.mp h w hw
  rw [hp] at hw
  obtain ⟨i, -, hi⟩ := List.mem_filterMap.mp hw
  have hm : w ∈ big := by first | exact List.mem_of_getElem? hi | exact List.getElem?_mem hi
  exact ⟨hm, good_of_word h1⟩
theorem goodIn_app {big a b : List Cond} (ha : GoodIn big a) (hb : GoodIn big b) : GoodIn big (a ++ b) := fun w h => (List.mem_append.mp h).elim (ha w) (hb w)
theorem goodIn_ca {big a b : List Cond} {c : Cond} (ha : GoodIn big (c :: a)) (hb : GoodIn big b) : GoodIn big (c :: (a ++ b)) := fun w h => (List.mem_cons.mp h).elim (fun e => ha w (List.mem_cons.mpr (Or.inl e))) (fun h => (List.mem_append.mp h).elim (fun h => ha w (List.mem_cons.mpr (Or.inr h))) (hb w))
theorem goodIn_sub {big ws : List Cond} (hm : ∀ w ∈ ws, w ∈ big) (h : ws.all goodWord = true) : GoodIn big ws := fun w hw => ⟨hm w hw, good_of_word (List.all_eq_true.mp h w hw)⟩
/-! ===== END ===== -/

/-! ===== BEGIN exceptions that leave a method, and their catching by the caller (launches without stack traces) ===== -/
section VXA
/-! The laws vx_back, vx_callV, vx_callS, vx_callSW, vx_throw0, vx_throwS follow proofs of the library, with one case more: JvmDerived/Free/Laws.lean (Back.of_free), Shelf42/LK1.lean (callV, callS), Shelf/KitTraced.lean (throwNew0V, throwNewS). -/
/-- where a method has thrown q: the class by its name, the cell, what was written, the world -/
def vx_T (XC : String → State → State → Prop) (st : State) (q : Addr) (t : State) (mc ms : Nat) (free : Addr → Prop) : Prop :=
  ∃ (E : String) (ce : Cell) (L : List Loc), XC E st t ∧ t.heap[q]? = some ce ∧ ce.vm = .none ∧ st.vm.findClass E = some ce.cls ∧ st.WarmedH t.vm ∧ st.sameButNew ({ t with vm := st.vm } : State) L mc ms ∧ ∀ z ∈ L, free z.base
def vx_Q (Qc : Array Value → State → Outcome → State → Prop) (XC : String → State → State → Prop) (mc ms : Nat) (free : Addr → Prop) : Array Value → State → Outcome → State → Prop := fun a st o t =>
  (Qc a st o t ∧ ∃ L, FrameEnd st o t L mc ms ∧ ∀ q ∈ L, free q.base) ∨ ∃ q, o = .threw q ∧ vx_T XC st q t mc ms free
/-- a callee that returns or throws -/
def vx_Met (l : Launch) (y : MethodName) (ws : List Cond) (rm : Room) (Pc : Array Value → State → Prop) (Qc : Array Value → State → Outcome → State → Prop) (XC : String → State → State → Prop) (mc ms : Nat) (free : Addr → Prop) : Prop :=
  MetFree l y (headSpec ws rm) Pc (fun _ _ _ _ _ => True) (vx_Q Qc XC mc ms free)
def vx_Post (XC : String → State → State → Prop) (mc ms : Nat) (free : Addr → Prop) : Pt → Array Value → Addr → Pt → Prop := fun A a q B =>
  ∃ (g : JFrame) (mk : MethodId) (t : State) (L : List Loc) (E : String) (ce : Cell), B.U.heap = t.heap ∧ B.U.vm = t.vm ∧ XC E (A.U.calling g mk a) t ∧ t.heap[q]? = some ce ∧ ce.vm = .none ∧ A.U.vm.findClass E = some ce.cls ∧ B.locs = A.locs ++ L ∧ (∀ z ∈ L, free z.base) ∧ B.cells = A.cells + mc ∧ B.slots = A.slots + ms
def vx_Back (l : Launch) (R : Room) (p : Program) (e : Env) (below : List Frame) (s : State) (sargs : Array Value) (y : MethodName) (len W9 : Nat)
    (Pre : Pt → Array Value → Prop) (Post : Pt → Array Value → Option Value → Pt → Prop) (PostX : Pt → Array Value → Addr → Pt → Prop) : Prop :=
  ∀ (m : MethodId) (meth : Method) (c : Code) (A : Pt) (g : JFrame) (ig : Instr) (mk : MethodId) (a : Array Value),
    Stand p l e R s m sargs below meth c A.U A.locs A.cells A.slots → g.method = m → g.locals.size = c.maxLocals → decode c.code g.pc = .ok (ig, len) →
    2 * g.monitorRoom + (g.stack.map fun v => v.category).sum ≤ W9 → A.U.methodNamed? y = some mk → Pre A a →
    (∃ (v : Option Value) (B : Pt), Stand p l e R s m sargs below meth c B.U B.locs B.cells B.slots ∧ Post A a v B ∧
      Steps p.tables e below (doInvoke e (A.U.setTop g) [] mk a).1 (B.U.setTop { g with pc := g.pc + len, stack := v.toList ++ g.stack })) ∨
    (∃ (q : Addr) (B : Pt), Stand p l e R s m sargs below meth c B.U B.locs B.cells B.slots ∧ PostX A a q B ∧
      Steps p.tables e below (doInvoke e (A.U.setTop g) [] mk a).1 ((B.U.setTop g).pushFrame (.throwing q)))
section Payer
variable {l : Launch} {R : Room} {p : Program} {e : Env} {below : List Frame} {s : State} {sargs : Array Value} {y : MethodName} {len W9 : Nat}
theorem vx_back {ws : List Cond} {rm : Room} {Pc : Array Value → State → Prop} {Qc : Array Value → State → Outcome → State → Prop} {XC : String → State → State → Prop} {mc ms : Nat} {free : Addr → Prop} {bytes : ByteArray} {maxL : Nat} {ret : Option FieldType}
    (hM : vx_Met l y ws rm Pc Qc XC mc ms free) (hblind : FrameBlind Pc) (hrc : rm.cells = mc) (hrs : rm.slots = ms)
    (hframes : rm.frames + 1 ≤ R.frames) (hlocals : W9 + (maxL + 11) + rm.locals ≤ R.locals)
    (hws : ∀ w ∈ ws, ∀ a' U, s.WarmedH U.vm → w.before a' U = true) (hcode : Cond.code y bytes maxL ret ∈ ws) (hinit : ∀ a' U, s.WarmedH U.vm → (Cond.initialized y.cls).before a' U = true) :
    vx_Back l R p e below s sargs y len W9 (PreOf R mc ms Pc) (PostOf Qc mc ms free) (vx_Post XC mc ms free) := by
  intro m meth c A g ig mk a X hg hsize hdg hW hn hp
  have h1 : (headSpec ws rm).pre.before a A.U = true := atoms_intro fun w hw => hws w hw _ _ X.warmed
  have h2 : (Cond.code y bytes maxL ret).before a A.U = true := hws _ hcode _ _ X.warmed
  have h3 : (Cond.initialized y.cls).before a A.U = true := hinit _ _ X.warmed
  have h4 : A.cells + (headSpec ws rm).room.cells ≤ R.cells := by rw [show (headSpec ws rm).room.cells = mc from hrc]; exact hp.1
  have h5 : A.slots + (headSpec ws rm).room.slots ≤ R.slots := by rw [show (headSpec ws rm).room.slots = ms from hrs]; exact hp.2.1
  have hPc : Pc a (A.U.calling g mk a) := hblind _ _ _ _ hp.2.2
  obtain ⟨U, Ls, c0, s0⟩ := A
  dsimp only [Pt.U, Pt.locs, Pt.cells, Pt.slots] at h1 h2 h3 h4 h5 X hn hPc ⊢
  obtain ⟨methY, cY, hmY, hcY, -, hlY, -, -, -, -⟩ := Cond.code_spec hn h2
  obtain ⟨kY, hkY, -⟩ := className_of_methodNamed hn
  have hinitY : kY.init = .initialized := Cond.initialized_spec (findClass_of_methodNamed hn) hkY h3
  have h : At U g.method c below := by rw [hg]; exact X.here
  have hlocals9 : W9 + (maxL + 11) + (headSpec ws rm).room.locals ≤ R.locals := hlocals
  have happ : (headSpec ws rm).appliesLoose y e.platform (U.calling g mk a) = true :=
    Spec.appliesLoose_calling (g := g) h hdg hn hkY hinitY
      (X.room_calling (g := g) (R' := (headSpec ws rm).room) hsize hmY hcY hframes (by rw [hlY]; omega) h4 h5) h1
  obtain ⟨mid, hmid⟩ := h.above
  have hfr : (U.setTop g).frames = (.java g :: mid) ++ below := by rw [State.frames_setTop' g h.top, hmid]; rfl
  obtain ⟨o, s₂, hsteps, -, hend, hq⟩ := Steps.callFree hM p X.admits X.cas X.clock (acts := []) hfr happ hPc trivial
  have hq' : vx_Q Qc XC mc ms free a (U.calling g mk a) o s₂ := hq
  rw [State.frames_setTop' g h.top] at hend
  obtain ⟨g₀, hg0⟩ := Option.isSome_iff_exists.mp h.top
  obtain ⟨r, hr⟩ := State.topJava?_eq_some.mp hg0
  have hr' : (({ U with heap := s₂.heap, slotsUsed := s₂.slotsUsed } : State).setVm s₂.vm).frames = .java g₀ :: r := hr
  rcases hq' with ⟨hqc, L, hfe, hL⟩ | ⟨q, rfl, E, ce, L, hx, hce, hcv, hcl, hW₂, hsm, hL⟩
  · obtain ⟨⟨v, rfl⟩, hW₂, e2, q2, q3, q4, q5, q6⟩ := id hfe
    have e3 : s₂ = ({ (U.calling g mk a).setFrames s₂.frames with heap := s₂.heap, slotsUsed := s₂.slotsUsed } : State).setVm s₂.vm := by
      have : s₂ = ({ s₂ with vm := (U.calling g mk a).vm } : State).setVm s₂.vm := rfl
      rw [e2] at this
      exact this
    obtain ⟨c₂, i₂, len₂, hc₂, hd₂, hf₂⟩ := hend
    have hW' : U.WarmedH s₂.vm := hW₂
    have hcc : c₂ = c := by
      have h1 : s₂.code? g.method = U.code? g.method := by
        rw [State.code?_eq, State.code?_eq, hW'.alike.method?]
      exact Option.some.inj (hc₂.symm.trans (h1.trans h.code))
    subst hcc
    have hlen : len₂ = len := by rw [hdg] at hd₂; cases hd₂; rfl
    subst hlen
    have hs₂ : s₂ = (({ U with heap := s₂.heap, slotsUsed := s₂.slotsUsed } : State).setVm s₂.vm).setTop { g with pc := g.pc + len₂, stack := v.toList ++ g.stack } := by
      refine e3.trans ?_
      rw [hf₂, State.calling_eq h.top, State.setFrames_setFrames, State.setTop_of_frames _ hr', hr]
      rfl
    have hsame : U.sameButNew ({ U with heap := s₂.heap, slotsUsed := s₂.slotsUsed } : State) L mc ms := by
      refine ⟨?_, q2, q3, q4, q5, q6⟩
      obtain ⟨t, ht, -⟩ := State.frames_cons hr
      show ({ U with heap := s₂.heap, slotsUsed := s₂.slotsUsed } : State) = { U.setFrames U.frames with heap := s₂.heap, slotsUsed := s₂.slotsUsed }
      rw [State.setFrames_self ht]
    subst hg
    refine Or.inl ⟨v, ⟨(({ U with heap := s₂.heap, slotsUsed := s₂.slotsUsed } : State).setVm s₂.vm), Ls ++ L, c0 + mc, s0 + ms⟩,
      ⟨X.admits, X.cas, X.clock, X.frames, X.room, X.hears, X.method, X.code, (X.here.setHeapUsed s₂.heap s₂.slotsUsed).setVm hW'.alike, X.tail, State.WarmedH.trans X.warmed hW', X.limits, X.bytes, X.same.trans (hsame.setVm s.vm)⟩,
      ⟨g, mk, s₂, L, rfl, rfl, hqc, rfl, hL, rfl, rfl⟩, ?_⟩
    show Steps p.tables e below _ ((({ U with heap := s₂.heap, slotsUsed := s₂.slotsUsed } : State).setVm s₂.vm).setTop { g with pc := g.pc + len₂, stack := v.toList ++ g.stack })
    rw [← hs₂]
    exact hsteps
  · obtain ⟨e2, q2, q3, q4, q5, q6⟩ := id hsm
    have e3 : s₂ = ({ (U.calling g mk a).setFrames s₂.frames with heap := s₂.heap, slotsUsed := s₂.slotsUsed } : State).setVm s₂.vm := by
      have : s₂ = ({ s₂ with vm := (U.calling g mk a).vm } : State).setVm s₂.vm := rfl
      rw [e2] at this
      exact this
    have hf₂ : s₂.frames = .throwing q :: .java g :: U.frames.tail := hend
    have hW' : U.WarmedH s₂.vm := hW₂
    have hs₂ : s₂ = ((({ U with heap := s₂.heap, slotsUsed := s₂.slotsUsed } : State).setVm s₂.vm).setTop g).pushFrame (.throwing q) := by
      refine e3.trans ?_
      rw [hf₂, State.calling_eq h.top, State.setFrames_setFrames, State.pushFrame, State.frames_setTop _ hr', State.setTop_of_frames _ hr', State.setFrames_setFrames, hr]
      rfl
    have hsame : U.sameButNew ({ U with heap := s₂.heap, slotsUsed := s₂.slotsUsed } : State) L mc ms := by
      refine ⟨?_, q2, q3, q4, q5, q6⟩
      obtain ⟨t, ht, -⟩ := State.frames_cons hr
      show ({ U with heap := s₂.heap, slotsUsed := s₂.slotsUsed } : State) = { U.setFrames U.frames with heap := s₂.heap, slotsUsed := s₂.slotsUsed }
      rw [State.setFrames_self ht]
    subst hg
    refine Or.inr ⟨q, ⟨(({ U with heap := s₂.heap, slotsUsed := s₂.slotsUsed } : State).setVm s₂.vm), Ls ++ L, c0 + mc, s0 + ms⟩,
      ⟨X.admits, X.cas, X.clock, X.frames, X.room, X.hears, X.method, X.code, (X.here.setHeapUsed s₂.heap s₂.slotsUsed).setVm hW'.alike, X.tail, State.WarmedH.trans X.warmed hW', X.limits, X.bytes, X.same.trans (hsame.setVm s.vm)⟩,
      ⟨g, mk, s₂, L, E, ce, rfl, rfl, hx, hce, hcv, hcl, rfl, hL, rfl, rfl⟩, ?_⟩
    show Steps p.tables e below _ (((({ U with heap := s₂.heap, slotsUsed := s₂.slotsUsed } : State).setVm s₂.vm).setTop g).pushFrame (.throwing q))
    rw [← hs₂]
    exact hsteps
end Payer
section Calls
variable {p : Program} {l : Launch} {e : Env} {R : Room} {s : State} {m : MethodId} {args : Array Value} {below : List Frame} {meth : Method} {c : Code} {T : State} {locs : List Loc} {cells slots : Nat}
theorem vx_callV (X : Stand p l e R s m args below meth c T locs cells slots) (hexec : p.tables.exec = Jvm.exec) {own C : String} {index : Nat} {y : MethodName} {bytes : ByteArray} {maxL : Nat} {ret : Option FieldType}
    (hown : s.vm.findClass own = some m.cls) (hlink : (Cond.methodLink own index y).before args s = true) (hinst : (Cond.instanceMethod y).before args s = true) (hsel : (Cond.selects C y y).before args s = true)
    (hcode : (Cond.code y bytes maxL ret).before args s = true) (hy : y.cls ≠ "java/lang/invoke/MethodHandle" ∧ y.cls ≠ "java/lang/invoke/VarHandle")
    {W9 : Nat} {Pre : Pt → Array Value → Prop} {Post : Pt → Array Value → Option Value → Pt → Prop} {PostX : Pt → Array Value → Addr → Pt → Prop} (hK : vx_Back l R p e below s args y 3 W9 Pre Post PostX)
    {b : Addr} {cellB : Cell} (hcell : T.heap[b]? = some cellB) (hobj : cellB.vm.isStatics = false) (hcls : s.vm.findClass C = some cellB.cls)
    {g : JFrame} (hg : g.method = m) (hsize : g.locals.size = c.maxLocals) {argsL rest : List Value} (hlen : ∀ sig, parseMethodDescriptor y.desc = some sig → argsL.length = sig.parameters.length)
    (hstack : g.stack = argsL.reverse ++ .ref b :: rest) (hW : 2 * g.monitorRoom + (rest.map fun v => v.category).sum ≤ W9) (hdg : decode c.code g.pc = .ok (.invokevirtual index, 3))
    (hpre : ∀ vm₁, s.WarmedH vm₁ → Pre ⟨T.setVm vm₁, locs, cells, slots⟩ (Value.ref b :: argsL).toArray) :
    (∃ (v : Option Value) (vm₁ : Vm) (B : Pt), s.WarmedH vm₁ ∧ Stand p l e R s m args below meth c B.U B.locs B.cells B.slots ∧ Post ⟨T.setVm vm₁, locs, cells, slots⟩ (Value.ref b :: argsL).toArray v B ∧
      ∀ target, Steps p.tables e below (B.U.setTop { g with pc := g.pc + 3, stack := v.toList ++ rest }) target → Steps p.tables e below (T.setTop g) target) ∨
    (∃ (q : Addr) (vm₁ : Vm) (B : Pt), s.WarmedH vm₁ ∧ Stand p l e R s m args below meth c B.U B.locs B.cells B.slots ∧ PostX ⟨T.setVm vm₁, locs, cells, slots⟩ (Value.ref b :: argsL).toArray q B ∧
      Steps p.tables e below (T.setTop g) ((B.U.setTop { g with stack := rest }).pushFrame (.throwing q))) := by
  obtain ⟨mk, methM, hnamed, hmethM, hstM, habM⟩ := Cond.instanceMethod_spec hinst
  obtain ⟨methM', cM, hmethM', -, -, -, -, -, -, hsigM⟩ := Cond.code_spec hnamed hcode
  cases hmethM.symm.trans hmethM'
  obtain ⟨c2, r2, m2, q1, q2, q3, q4, kP, hkP, hkPi⟩ := Cond.selects_spec hsel
  cases hcls.symm.trans q1
  cases (State.methodFound?_of_named hnamed hy).symm.trans q2
  cases hnamed.symm.trans q3
  have hselP : selectMethod e.platform s.vm cellB.cls mk = .method mk := by rw [Launch.admits_selectMethod X.admits]; exact q4
  obtain ⟨vm₁, X₁, hstep₁⟩ := X.invokevirtual hexec hown hlink hnamed hmethM hstM hkP hkPi hy (a := b) (cell := cellB) hcell
    (fun z h => by rw [h] at hobj; cases hobj) hselP hmethM habM hkP hkPi (g := g) hg (argsL := argsL) (rest := rest) (hlen _ hsigM) hstack hdg
  rcases hK m meth c ⟨T.setVm vm₁, locs, cells, slots⟩ { g with stack := rest } (.invokevirtual index) mk (Value.ref b :: argsL).toArray X₁ hg hsize hdg hW (X₁.named hnamed) (hpre vm₁ X₁.warmed) with ⟨v, B, X', hpost, hsteps⟩ | ⟨q, B, X', hpost, hsteps⟩
  · exact Or.inl ⟨v, vm₁, B, X₁.warmed, X', hpost, fun target h => hstep₁ _ fun acts => by rw [doInvoke_state]; exact hsteps.trans h⟩
  · exact Or.inr ⟨q, vm₁, B, X₁.warmed, X', hpost, hstep₁ _ fun acts => by rw [doInvoke_state]; exact hsteps⟩
theorem vx_callS (X : Stand p l e R s m args below meth c T locs cells slots) (hexec : p.tables.exec = Jvm.exec) {own : String} {index : Nat} {y : MethodName} {bytes : ByteArray} {maxL : Nat} {ret : Option FieldType}
    (hown : s.vm.findClass own = some m.cls) (hlink : (Cond.methodLink own index y).before args s = true) (hstat : (Cond.static y).before args s = true) (hinit : (Cond.initialized y.cls).before args s = true)
    (hcode : (Cond.code y bytes maxL ret).before args s = true) (hy : y.cls ≠ "java/lang/invoke/MethodHandle" ∧ y.cls ≠ "java/lang/invoke/VarHandle")
    {W9 : Nat} {Pre : Pt → Array Value → Prop} {Post : Pt → Array Value → Option Value → Pt → Prop} {PostX : Pt → Array Value → Addr → Pt → Prop} (hK : vx_Back l R p e below s args y 3 W9 Pre Post PostX)
    {g : JFrame} (hg : g.method = m) (hsize : g.locals.size = c.maxLocals) {argsL rest : List Value} (hlen : ∀ sig, parseMethodDescriptor y.desc = some sig → argsL.length = sig.parameters.length)
    (hstack : g.stack = argsL.reverse ++ rest) (hW : 2 * g.monitorRoom + (rest.map fun v => v.category).sum ≤ W9) (hdg : decode c.code g.pc = .ok (.invokestatic index, 3))
    (hpre : ∀ vm₁, s.WarmedH vm₁ → Pre ⟨T.setVm vm₁, locs, cells, slots⟩ argsL.toArray) :
    (∃ (v : Option Value) (vm₁ : Vm) (B : Pt), s.WarmedH vm₁ ∧ Stand p l e R s m args below meth c B.U B.locs B.cells B.slots ∧ Post ⟨T.setVm vm₁, locs, cells, slots⟩ argsL.toArray v B ∧
      ∀ target, Steps p.tables e below (B.U.setTop { g with pc := g.pc + 3, stack := v.toList ++ rest }) target → Steps p.tables e below (T.setTop g) target) ∨
    (∃ (q : Addr) (vm₁ : Vm) (B : Pt), s.WarmedH vm₁ ∧ Stand p l e R s m args below meth c B.U B.locs B.cells B.slots ∧ PostX ⟨T.setVm vm₁, locs, cells, slots⟩ argsL.toArray q B ∧
      Steps p.tables e below (T.setTop g) ((B.U.setTop { g with stack := rest }).pushFrame (.throwing q))) := by
  obtain ⟨mk, hnamed⟩ := Cond.code_named hcode
  obtain ⟨methM, cM, hmethM, -, -, -, -, -, -, hsigM⟩ := Cond.code_spec hnamed hcode
  have hstatic : methM.isStatic = true := Cond.static_spec hnamed hmethM hstat
  obtain ⟨kP, hkP, -⟩ := className_of_methodNamed hnamed
  have hinitP : kP.init = .initialized := Cond.initialized_spec (findClass_of_methodNamed hnamed) hkP hinit
  obtain ⟨vm₁, X₁, hstep₁⟩ := X.invokestatic hexec hown hlink hnamed hmethM hstatic hkP hinitP hy (g := g) hg (argsL := argsL) (rest := rest) (hlen _ hsigM) hstack hdg
  rcases hK m meth c ⟨T.setVm vm₁, locs, cells, slots⟩ { g with stack := rest } (.invokestatic index) mk argsL.toArray X₁ hg hsize hdg hW (X₁.named hnamed) (hpre vm₁ X₁.warmed) with ⟨v, B, X', hpost, hsteps⟩ | ⟨q, B, X', hpost, hsteps⟩
  · exact Or.inl ⟨v, vm₁, B, X₁.warmed, X', hpost, fun target h => hstep₁ _ fun acts => by rw [doInvoke_state]; exact hsteps.trans h⟩
  · exact Or.inr ⟨q, vm₁, B, X₁.warmed, X', hpost, hstep₁ _ fun acts => by rw [doInvoke_state]; exact hsteps⟩
end Calls
theorem vx_cls {s : State} {T : State} {vm₁ : Vm} {E : String} {k : ClassId} (hW : s.WarmedH vm₁) (h : (T.setVm vm₁).vm.findClass E = some k) : s.vm.findClass E = some k := by
  have h1 : vm₁.findClass E = some k := h
  rw [hW.alike.findClass] at h1
  exact h1
/-- the method's frame g, with q thrown over it -/
def vx_W (p : Program) (l : Launch) (e : Env) (R : Room) (s : State) (m : MethodId) (args : Array Value) (below : List Frame) (meth : Method) (c : Code) (H : Heap) (locs : List Loc) (cells slots : Nat) (Q : State → Prop) (g : JFrame) (q : Addr) : Prop :=
  ∀ T : State, T.heap = H → Stand p l e R s m args below meth c T locs cells slots → ∃ t, Steps p.tables e below ((T.setTop g).pushFrame (.throwing q)) t ∧ Q t
def vx_Run (p : Program) (l : Launch) (e : Env) (R : Room) (s : State) (m : MethodId) (args : Array Value) (below : List Frame) (meth : Method) (c : Code) (H : Heap) (locs : List Loc) (cells slots mc ms : Nat) (g : JFrame) (rest : List Value) (Qa : State → Outcome → State → Prop) (XC : String → State → State → Prop) (free : Addr → Prop) : Prop :=
  ∀ T : State, T.heap = H → Stand p l e R s m args below meth c T locs cells slots →
    (∃ (v : Option Value) (st₀ t T' : State) (L : List Loc), st₀.heap = H ∧ Stand p l e R s m args below meth c T' (locs ++ L) (cells + mc) (slots + ms) ∧ (∀ q ∈ L, free q.base) ∧ T'.heap = t.heap ∧ T'.vm = t.vm ∧ Qa st₀ (.returned v) t ∧
      Goes p e below T g T' { g with pc := g.pc + 3, stack := v.toList ++ rest }) ∨
    (∃ (q : Addr) (st₀ t T' : State) (L : List Loc) (E : String) (ce : Cell), st₀.heap = H ∧ Stand p l e R s m args below meth c T' (locs ++ L) (cells + mc) (slots + ms) ∧ (∀ z ∈ L, free z.base) ∧ T'.heap = t.heap ∧ T'.vm = t.vm ∧ XC E st₀ t ∧ t.heap[q]? = some ce ∧ ce.vm = .none ∧ s.vm.findClass E = some ce.cls ∧
      Steps p.tables e below (T.setTop g) ((T'.setTop { g with stack := rest }).pushFrame (.throwing q)))
def vx_X {S : Type} (px : S → Prop) (B : String → S → State → Prop) (A : Nat → Prop) : String → State → State → Prop := fun E st t => ∃ u : S, px u ∧ B E u t ∧ va_F A st t
section Runs
variable {p : Program} {l : Launch} {e : Env} {R : Room} {s : State} {m : MethodId} {args : Array Value} {below : List Frame} {meth : Method} {c : Code} {H : Heap} {locs : List Loc} {cells slots : Nat}
variable {y : MethodName} {bytes cc : ByteArray} {maxL nL mc ms n index : Nat} {ret : Option FieldType} {ws : List Cond} {rm : Room} {Pc : Array Value → State → Prop} {Qc : Array Value → State → Outcome → State → Prop} {XC : String → State → State → Prop} {free : Addr → Prop} {Ts : List Cond} {own C : String} {b : Addr} {As rest : List Value} {g : JFrame}
theorem vx_callBack (cb : CallB R s args own index y bytes maxL ret ws rm mc ms n) (hM : vx_Met l y ws rm Pc Qc XC mc ms free) (hbl : FrameBlind Pc) : vx_Back l R p e below s args y 3 8 (PreOf R mc ms Pc) (PostOf Qc mc ms free) (vx_Post XC mc ms free) := by
  obtain ⟨hrc, hrs, hfr, hlo, hws, hcw, -, hini, -⟩ := cb
  exact vx_back (bytes := bytes) (maxL := maxL) (ret := ret) hM hbl hrc hrs hfr hlo hws hcw (fun a' U hW => word_at hW (Or.inl (by first | rfl | simp [Cond.onTables, Cond.keeps, Cond.steady])) hini)
theorem vx_runV (S : CallFix p m c cc nL s args Ts own) (hM : vx_Met l y ws rm Pc Qc XC mc ms free) (cw : CallW R s args own C index y bytes maxL ret ws rm mc ms n) (hp : PreV s H C b Pc As)
    (hg : g.method = m) (hn : As.length = n) (hsize : g.locals.size = nL) (hstack : g.stack = As.reverse ++ .ref b :: rest) (hW : 2 * g.monitorRoom + (rest.map fun v => v.category).sum ≤ 8) (hdg : decode cc g.pc = .ok (.invokevirtual index, 3)) (hf : cells + mc ≤ R.cells ∧ slots + ms ≤ R.slots) :
    vx_Run p l e R s m args below meth c H locs cells slots mc ms g rest (Qc (Value.ref b :: As).toArray) XC free := by
  have hK : vx_Back l R p e below s args y 3 8 (PreOf R mc ms Pc) (PostOf Qc mc ms free) (vx_Post XC mc ms free) := vx_callBack cw.1 hM hp.1
  obtain ⟨⟨-, -, -, -, -, -, hcode, -, hy, hlen, hl⟩, hin, hse⟩ := cw
  obtain ⟨hx, hb, hml, ho, -⟩ := S
  obtain ⟨-, ⟨cellB, hcB, hoB, hclB⟩, hPc⟩ := hp
  intro T hT X
  rcases vx_callV X hx (C := C) (bytes := bytes) (maxL := maxL) (ret := ret) ho hl hin hse hcode hy hK (by rw [hT]; exact hcB) hoB hclB hg (hsize.trans hml.symm) (argsL := As) (rest := rest) (fun sig h => hn.trans (hlen sig h)) hstack hW (by rw [hb]; exact hdg)
    (fun vm₁ hW₁ => ⟨hf.1, hf.2, hPc (T.setVm vm₁) hT hW₁⟩) with ⟨v, vm₁, ⟨U', l2, c2, s2⟩, hW₁, X', ⟨g', mk, t, L, e1, e2, hq, h1, hL, h2, h3⟩, st⟩ | ⟨q, vm₁, ⟨U', l2, c2, s2⟩, hW₁, X', ⟨g', mk, t, L, E, ce, e1, e2, hq, hce, hcv, hcl, h1, hL, h2, h3⟩, st⟩
  · dsimp only [Pt.U, Pt.locs, Pt.cells, Pt.slots] at X' e1 e2 h1 h2 h3 st
    subst h1; subst h2; subst h3
    exact Or.inl ⟨v, (T.setVm vm₁).calling g' mk (Value.ref b :: As).toArray, t, U', L, hT, X', hL, e1, e2, hq, st⟩
  · dsimp only [Pt.U, Pt.locs, Pt.cells, Pt.slots] at X' e1 e2 h1 h2 h3 st hcl
    subst h1; subst h2; subst h3
    exact Or.inr ⟨q, (T.setVm vm₁).calling g' mk (Value.ref b :: As).toArray, t, U', L, E, ce, hT, X', hL, e1, e2, hq, hce, hcv, vx_cls hW₁ hcl, st⟩
theorem vx_runS (S : CallFix p m c cc nL s args Ts own) (hM : vx_Met l y ws rm Pc Qc XC mc ms free) (cw : CallB R s args own index y bytes maxL ret ws rm mc ms n ∧ (Cond.static y).before args s = true) (hp : PreS s H Pc As)
    (hg : g.method = m) (hn : As.length = n) (hsize : g.locals.size = nL) (hstack : g.stack = As.reverse ++ rest) (hW : 2 * g.monitorRoom + (rest.map fun v => v.category).sum ≤ 8) (hdg : decode cc g.pc = .ok (.invokestatic index, 3)) (hf : cells + mc ≤ R.cells ∧ slots + ms ≤ R.slots) :
    vx_Run p l e R s m args below meth c H locs cells slots mc ms g rest (Qc As.toArray) XC free := by
  have hK : vx_Back l R p e below s args y 3 8 (PreOf R mc ms Pc) (PostOf Qc mc ms free) (vx_Post XC mc ms free) := vx_callBack cw.1 hM hp.1
  obtain ⟨⟨-, -, -, -, -, -, hcode, hini, hy, hlen, hl⟩, hstt⟩ := cw
  obtain ⟨hx, hb, hml, ho, -⟩ := S
  intro T hT X
  rcases vx_callS X hx (bytes := bytes) (maxL := maxL) (ret := ret) ho hl hstt hini hcode hy hK hg (hsize.trans hml.symm) (argsL := As) (rest := rest) (fun sig h => hn.trans (hlen sig h)) hstack hW (by rw [hb]; exact hdg)
    (fun vm₁ hW₁ => ⟨hf.1, hf.2, hp.2 (T.setVm vm₁) hT hW₁⟩) with ⟨v, vm₁, ⟨U', l2, c2, s2⟩, hW₁, X', ⟨g', mk, t, L, e1, e2, hq, h1, hL, h2, h3⟩, st⟩ | ⟨q, vm₁, ⟨U', l2, c2, s2⟩, hW₁, X', ⟨g', mk, t, L, E, ce, e1, e2, hq, hce, hcv, hcl, h1, hL, h2, h3⟩, st⟩
  · dsimp only [Pt.U, Pt.locs, Pt.cells, Pt.slots] at X' e1 e2 h1 h2 h3 st
    subst h1; subst h2; subst h3
    exact Or.inl ⟨v, (T.setVm vm₁).calling g' mk As.toArray, t, U', L, hT, X', hL, e1, e2, hq, st⟩
  · dsimp only [Pt.U, Pt.locs, Pt.cells, Pt.slots] at X' e1 e2 h1 h2 h3 st hcl
    subst h1; subst h2; subst h3
    exact Or.inr ⟨q, (T.setVm vm₁).calling g' mk As.toArray, t, U', L, E, ce, hT, X', hL, e1, e2, hq, hce, hcv, vx_cls hW₁ hcl, st⟩
end Runs
section Rows
variable {p : Program} {l : Launch} {e : Env} {R : Room} {s : State} {m : MethodId} {args : Array Value} {below : List Frame} {meth : Method} {c : Code} {H : Heap} {locs : List Loc} {cells slots : Nat} {Q : State → Prop}
variable {mc ms : Nat} {free : Addr → Prop} {A0 A1 : Nat → Prop} {H0 : Heap} {a : Array Value} {pc : Nat} {ls : Array Slot} {st0 rest : List Value}
theorem vx_keep {st₀ t T' : State} {L : List Loc} (h0 : st₀.heap = H) (e1 : T'.heap = t.heap) (hS : va_S A0 H0 H locs) (hA : ∀ q, q < H.size → A1 q → A0 q) (hf : ∀ q, free q → A0 q) (hL : ∀ q ∈ L, free q.base) (hF : va_F A1 st₀ t) :
    H.size ≤ T'.heap.size ∧ (∀ q : Nat, q < H.size → ¬ A1 q → T'.heap[q]? = H[q]?) ∧ va_S A0 H0 T'.heap (locs ++ L) := by
  obtain ⟨hz, hk⟩ := hF
  rw [h0] at hz hk
  exact ⟨by rw [e1]; exact hz, fun q h1 h2 => by rw [e1]; exact hk q h1 h2,
    ⟨Nat.le_trans hS.1 (by rw [e1]; exact hz), fun q h1 h2 => by rw [e1, hk q (Nat.lt_of_lt_of_le h1 hS.1) (fun z => h2 (hA q (Nat.lt_of_lt_of_le h1 hS.1) z))]; exact hS.2.1 q h1 h2, fun q hq => by
      rcases List.mem_append.mp hq with h | h
      · exact hS.2.2 q h
      · exact hf _ (hL q h)⟩⟩
theorem vx_calli {S SX : Type} {post : Int32 → S → Prop} {px : SX → Prop} {B : S → State → Prop} {BX : String → SX → State → Prop} {AX : Nat → Prop} (hr : vx_Run p l e R s m args below meth c H locs cells slots mc ms (F0 m pc ls st0) rest (va_Qi post B A1 a) (vx_X px BX AX) free) (hS : va_S A0 H0 H locs) (hA : ∀ q, q < H.size → A1 q → A0 q) (hf : ∀ q, free q → A0 q) (hAX : ∀ q, q < H.size → AX q → A0 q)
    (kx : ∀ (E : String) (ce : Cell) (q9 : Addr) (u : SX) (t : State) (H1 : Heap) (locs1 : List Loc), t.heap = H1 → s.vm.Alike t.vm → px u → BX E u t → H.size ≤ H1.size → (∀ q : Nat, q < H.size → ¬ AX q → H1[q]? = H[q]?) → va_S A0 H0 H1 locs1 → H1[q9]? = some ce → ce.vm = .none → s.vm.findClass E = some ce.cls → vx_W p l e R s m args below meth c H1 locs1 (cells + mc) (slots + ms) Q (F0 m pc ls rest) q9)
    (kk : ∀ (r : Int32) (u : S) (t : State) (H1 : Heap) (locs1 : List Loc), t.heap = H1 → s.vm.Alike t.vm → post r u → B u t → H.size ≤ H1.size → (∀ q : Nat, q < H.size → ¬ A1 q → H1[q]? = H[q]?) → va_S A0 H0 H1 locs1 → W p l e R s m args below meth c H1 locs1 (cells + mc) (slots + ms) Q (F0 m (pc + 3) ls (.int r :: rest))) : W p l e R s m args below meth c H locs cells slots Q (F0 m pc ls st0) := by
  intro T hT X
  rcases hr T hT X with ⟨v, st₀, t, T', L, h0, X', hL, e1, e2, ⟨⟨r, u, hv, hp, hb⟩, hF⟩, st⟩ | ⟨q, st₀, t, T', L, E, ce, h0, X', hL, e1, e2, ⟨u, hp, hb, hF⟩, hce, hcv, hcl, st⟩
  · cases hv
    obtain ⟨k1, k2, k3⟩ := vx_keep h0 e1 hS hA hf hL hF
    obtain ⟨t2, a1, b1⟩ := kk r u t T'.heap (locs ++ L) e1.symm (by rw [← e2]; exact X'.warmed.alike) hp hb k1 k2 k3 T' rfl X'
    exact ⟨t2, st t2 a1, b1⟩
  · obtain ⟨k1, k2, k3⟩ := vx_keep h0 e1 hS hAX hf hL hF
    obtain ⟨t2, a1, b1⟩ := kx E ce q u t T'.heap (locs ++ L) e1.symm (by rw [← e2]; exact X'.warmed.alike) hp hb k1 k2 k3 (by rw [e1]; exact hce) hcv hcl T' rfl X'
    exact ⟨t2, st.trans a1, b1⟩
theorem vx_calll {S SX : Type} {post : Int64 → S → Prop} {px : SX → Prop} {B : S → State → Prop} {BX : String → SX → State → Prop} {AX : Nat → Prop} (hr : vx_Run p l e R s m args below meth c H locs cells slots mc ms (F0 m pc ls st0) rest (va_Ql post B A1 a) (vx_X px BX AX) free) (hS : va_S A0 H0 H locs) (hA : ∀ q, q < H.size → A1 q → A0 q) (hf : ∀ q, free q → A0 q) (hAX : ∀ q, q < H.size → AX q → A0 q)
    (kx : ∀ (E : String) (ce : Cell) (q9 : Addr) (u : SX) (t : State) (H1 : Heap) (locs1 : List Loc), t.heap = H1 → s.vm.Alike t.vm → px u → BX E u t → H.size ≤ H1.size → (∀ q : Nat, q < H.size → ¬ AX q → H1[q]? = H[q]?) → va_S A0 H0 H1 locs1 → H1[q9]? = some ce → ce.vm = .none → s.vm.findClass E = some ce.cls → vx_W p l e R s m args below meth c H1 locs1 (cells + mc) (slots + ms) Q (F0 m pc ls rest) q9)
    (kk : ∀ (r : Int64) (u : S) (t : State) (H1 : Heap) (locs1 : List Loc), t.heap = H1 → s.vm.Alike t.vm → post r u → B u t → H.size ≤ H1.size → (∀ q : Nat, q < H.size → ¬ A1 q → H1[q]? = H[q]?) → va_S A0 H0 H1 locs1 → W p l e R s m args below meth c H1 locs1 (cells + mc) (slots + ms) Q (F0 m (pc + 3) ls (.long r :: rest))) : W p l e R s m args below meth c H locs cells slots Q (F0 m pc ls st0) := by
  intro T hT X
  rcases hr T hT X with ⟨v, st₀, t, T', L, h0, X', hL, e1, e2, ⟨⟨r, u, hv, hp, hb⟩, hF⟩, st⟩ | ⟨q, st₀, t, T', L, E, ce, h0, X', hL, e1, e2, ⟨u, hp, hb, hF⟩, hce, hcv, hcl, st⟩
  · cases hv
    obtain ⟨k1, k2, k3⟩ := vx_keep h0 e1 hS hA hf hL hF
    obtain ⟨t2, a1, b1⟩ := kk r u t T'.heap (locs ++ L) e1.symm (by rw [← e2]; exact X'.warmed.alike) hp hb k1 k2 k3 T' rfl X'
    exact ⟨t2, st t2 a1, b1⟩
  · obtain ⟨k1, k2, k3⟩ := vx_keep h0 e1 hS hAX hf hL hF
    obtain ⟨t2, a1, b1⟩ := kx E ce q u t T'.heap (locs ++ L) e1.symm (by rw [← e2]; exact X'.warmed.alike) hp hb k1 k2 k3 (by rw [e1]; exact hce) hcv hcl T' rfl X'
    exact ⟨t2, st.trans a1, b1⟩
theorem vx_callf {S SX : Type} {post : UInt32 → S → Prop} {px : SX → Prop} {B : S → State → Prop} {BX : String → SX → State → Prop} {AX : Nat → Prop} (hr : vx_Run p l e R s m args below meth c H locs cells slots mc ms (F0 m pc ls st0) rest (va_Qf post B A1 a) (vx_X px BX AX) free) (hS : va_S A0 H0 H locs) (hA : ∀ q, q < H.size → A1 q → A0 q) (hf : ∀ q, free q → A0 q) (hAX : ∀ q, q < H.size → AX q → A0 q)
    (kx : ∀ (E : String) (ce : Cell) (q9 : Addr) (u : SX) (t : State) (H1 : Heap) (locs1 : List Loc), t.heap = H1 → s.vm.Alike t.vm → px u → BX E u t → H.size ≤ H1.size → (∀ q : Nat, q < H.size → ¬ AX q → H1[q]? = H[q]?) → va_S A0 H0 H1 locs1 → H1[q9]? = some ce → ce.vm = .none → s.vm.findClass E = some ce.cls → vx_W p l e R s m args below meth c H1 locs1 (cells + mc) (slots + ms) Q (F0 m pc ls rest) q9)
    (kk : ∀ (r : UInt32) (u : S) (t : State) (H1 : Heap) (locs1 : List Loc), t.heap = H1 → s.vm.Alike t.vm → post r u → B u t → H.size ≤ H1.size → (∀ q : Nat, q < H.size → ¬ A1 q → H1[q]? = H[q]?) → va_S A0 H0 H1 locs1 → W p l e R s m args below meth c H1 locs1 (cells + mc) (slots + ms) Q (F0 m (pc + 3) ls (.float r :: rest))) : W p l e R s m args below meth c H locs cells slots Q (F0 m pc ls st0) := by
  intro T hT X
  rcases hr T hT X with ⟨v, st₀, t, T', L, h0, X', hL, e1, e2, ⟨⟨r, u, hv, hp, hb⟩, hF⟩, st⟩ | ⟨q, st₀, t, T', L, E, ce, h0, X', hL, e1, e2, ⟨u, hp, hb, hF⟩, hce, hcv, hcl, st⟩
  · cases hv
    obtain ⟨k1, k2, k3⟩ := vx_keep h0 e1 hS hA hf hL hF
    obtain ⟨t2, a1, b1⟩ := kk r u t T'.heap (locs ++ L) e1.symm (by rw [← e2]; exact X'.warmed.alike) hp hb k1 k2 k3 T' rfl X'
    exact ⟨t2, st t2 a1, b1⟩
  · obtain ⟨k1, k2, k3⟩ := vx_keep h0 e1 hS hAX hf hL hF
    obtain ⟨t2, a1, b1⟩ := kx E ce q u t T'.heap (locs ++ L) e1.symm (by rw [← e2]; exact X'.warmed.alike) hp hb k1 k2 k3 (by rw [e1]; exact hce) hcv hcl T' rfl X'
    exact ⟨t2, st.trans a1, b1⟩
theorem vx_calld {S SX : Type} {post : UInt64 → S → Prop} {px : SX → Prop} {B : S → State → Prop} {BX : String → SX → State → Prop} {AX : Nat → Prop} (hr : vx_Run p l e R s m args below meth c H locs cells slots mc ms (F0 m pc ls st0) rest (va_Qd post B A1 a) (vx_X px BX AX) free) (hS : va_S A0 H0 H locs) (hA : ∀ q, q < H.size → A1 q → A0 q) (hf : ∀ q, free q → A0 q) (hAX : ∀ q, q < H.size → AX q → A0 q)
    (kx : ∀ (E : String) (ce : Cell) (q9 : Addr) (u : SX) (t : State) (H1 : Heap) (locs1 : List Loc), t.heap = H1 → s.vm.Alike t.vm → px u → BX E u t → H.size ≤ H1.size → (∀ q : Nat, q < H.size → ¬ AX q → H1[q]? = H[q]?) → va_S A0 H0 H1 locs1 → H1[q9]? = some ce → ce.vm = .none → s.vm.findClass E = some ce.cls → vx_W p l e R s m args below meth c H1 locs1 (cells + mc) (slots + ms) Q (F0 m pc ls rest) q9)
    (kk : ∀ (r : UInt64) (u : S) (t : State) (H1 : Heap) (locs1 : List Loc), t.heap = H1 → s.vm.Alike t.vm → post r u → B u t → H.size ≤ H1.size → (∀ q : Nat, q < H.size → ¬ A1 q → H1[q]? = H[q]?) → va_S A0 H0 H1 locs1 → W p l e R s m args below meth c H1 locs1 (cells + mc) (slots + ms) Q (F0 m (pc + 3) ls (.double r :: rest))) : W p l e R s m args below meth c H locs cells slots Q (F0 m pc ls st0) := by
  intro T hT X
  rcases hr T hT X with ⟨v, st₀, t, T', L, h0, X', hL, e1, e2, ⟨⟨r, u, hv, hp, hb⟩, hF⟩, st⟩ | ⟨q, st₀, t, T', L, E, ce, h0, X', hL, e1, e2, ⟨u, hp, hb, hF⟩, hce, hcv, hcl, st⟩
  · cases hv
    obtain ⟨k1, k2, k3⟩ := vx_keep h0 e1 hS hA hf hL hF
    obtain ⟨t2, a1, b1⟩ := kk r u t T'.heap (locs ++ L) e1.symm (by rw [← e2]; exact X'.warmed.alike) hp hb k1 k2 k3 T' rfl X'
    exact ⟨t2, st t2 a1, b1⟩
  · obtain ⟨k1, k2, k3⟩ := vx_keep h0 e1 hS hAX hf hL hF
    obtain ⟨t2, a1, b1⟩ := kx E ce q u t T'.heap (locs ++ L) e1.symm (by rw [← e2]; exact X'.warmed.alike) hp hb k1 k2 k3 (by rw [e1]; exact hce) hcv hcl T' rfl X'
    exact ⟨t2, st.trans a1, b1⟩
theorem vx_callv {S SX : Type} {post : S → Prop} {px : SX → Prop} {B : S → State → Prop} {BX : String → SX → State → Prop} {AX : Nat → Prop} (hr : vx_Run p l e R s m args below meth c H locs cells slots mc ms (F0 m pc ls st0) rest (va_Qv post B A1 a) (vx_X px BX AX) free) (hS : va_S A0 H0 H locs) (hA : ∀ q, q < H.size → A1 q → A0 q) (hf : ∀ q, free q → A0 q) (hAX : ∀ q, q < H.size → AX q → A0 q)
    (kx : ∀ (E : String) (ce : Cell) (q9 : Addr) (u : SX) (t : State) (H1 : Heap) (locs1 : List Loc), t.heap = H1 → s.vm.Alike t.vm → px u → BX E u t → H.size ≤ H1.size → (∀ q : Nat, q < H.size → ¬ AX q → H1[q]? = H[q]?) → va_S A0 H0 H1 locs1 → H1[q9]? = some ce → ce.vm = .none → s.vm.findClass E = some ce.cls → vx_W p l e R s m args below meth c H1 locs1 (cells + mc) (slots + ms) Q (F0 m pc ls rest) q9)
    (kk : ∀ (u : S) (t : State) (H1 : Heap) (locs1 : List Loc), t.heap = H1 → s.vm.Alike t.vm → post u → B u t → H.size ≤ H1.size → (∀ q : Nat, q < H.size → ¬ A1 q → H1[q]? = H[q]?) → va_S A0 H0 H1 locs1 → W p l e R s m args below meth c H1 locs1 (cells + mc) (slots + ms) Q (F0 m (pc + 3) ls (rest))) : W p l e R s m args below meth c H locs cells slots Q (F0 m pc ls st0) := by
  intro T hT X
  rcases hr T hT X with ⟨v, st₀, t, T', L, h0, X', hL, e1, e2, ⟨⟨u, hv, hp, hb⟩, hF⟩, st⟩ | ⟨q, st₀, t, T', L, E, ce, h0, X', hL, e1, e2, ⟨u, hp, hb, hF⟩, hce, hcv, hcl, st⟩
  · cases hv
    obtain ⟨k1, k2, k3⟩ := vx_keep h0 e1 hS hA hf hL hF
    obtain ⟨t2, a1, b1⟩ := kk u t T'.heap (locs ++ L) e1.symm (by rw [← e2]; exact X'.warmed.alike) hp hb k1 k2 k3 T' rfl X'
    exact ⟨t2, st t2 a1, b1⟩
  · obtain ⟨k1, k2, k3⟩ := vx_keep h0 e1 hS hAX hf hL hF
    obtain ⟨t2, a1, b1⟩ := kx E ce q u t T'.heap (locs ++ L) e1.symm (by rw [← e2]; exact X'.warmed.alike) hp hb k1 k2 k3 (by rw [e1]; exact hce) hcv hcl T' rfl X'
    exact ⟨t2, st.trans a1, b1⟩
/-- caught by the row x of this method's table; the rows ahead don't take it -/
theorem vx_catch {own name : String} {E : String} {ce : Cell} {q : Addr} (hown : s.vm.findClass own = some m.cls) (pre : List ExceptionTableEntry) (x : ExceptionTableEntry) (suf : List ExceptionTableEntry) (hsplit : c.exceptionTable.toList = pre ++ x :: suf)
    (hpass : ∀ z ∈ pre, covers z pc = false ∨ (z.catchType ≠ 0 ∧ ∃ nm : String, (Cond.classLink own z.catchType nm).before args s = true ∧ va_Nc E nm s)) (hx : covers x pc = true) (h0 : x.catchType ≠ 0)
    (hlink : (Cond.classLink own x.catchType name).before args s = true) (hcast : (Cond.castable E name).before args s = true) (hcell : H[q]? = some ce) (hv : ce.vm = .none) (hcl : s.vm.findClass E = some ce.cls)
    (kk : W p l e R s m args below meth c H locs cells slots Q (F0 m x.handlerPc ls [.ref q])) : vx_W p l e R s m args below meth c H locs cells slots Q (F0 m pc ls rest) q := by
  intro T hT X
  have hpl : e.platform.magicAccessors = ({} : Platform).magicAccessors := by rw [X.admits.platform]
  obtain ⟨c3, c4, hc3, hc4, hasg⟩ := Cond.castable_spec hcast
  cases Option.some.inj (hc3.symm.trans hcl)
  obtain ⟨c5, hc5, hcl5⟩ := Cond.classLink_spec hown hlink e.platform hpl
  cases Option.some.inj (hc4.symm.trans hc5)
  obtain ⟨vm', X', st⟩ := X.thenCaughtThrough q (g := F0 m pc ls rest) rfl (Steps.refl _) (by rw [hT]; exact hcell) (by rw [hv]; rfl) (by obtain ⟨k9, h9, -⟩ := Vm.findClass_spec hcl; exact ⟨k9, h9⟩) pre x suf hsplit
    (fun z hz => by
      rcases hpass z hz with h | ⟨hz0, nm, hl1, hn1⟩
      · exact Or.inl h
      · obtain ⟨c6, hc6, hcl6⟩ := Cond.classLink_spec hown hl1 e.platform hpl
        obtain ⟨a8, b8, h1, h2, h3⟩ := hn1
        cases Option.some.inj (h1.symm.trans hcl)
        cases Option.some.inj (h2.symm.trans hc6)
        exact Or.inr ⟨hz0, _, hcl6, h3⟩) hx (Or.inr ⟨h0, c4, hcl5, hasg⟩)
  obtain ⟨t, a1, b1⟩ := kk (T.setVm vm') hT X'
  exact ⟨t, st.trans a1, b1⟩
end Rows
section Ends
variable {p : Program} {l : Launch} {e : Env} {R : Room} {s : State} {m : MethodId} {args : Array Value} {below : List Frame} {meth : Method} {c : Code} {H : Heap} {locs : List Loc} {cells slots : Nat} {Q : State → Prop}
variable {mc ms : Nat} {free : Addr → Prop} {A0 A1 : Nat → Prop} {H0 : Heap} {a : Array Value} {ls : Array Slot} {st0 rest : List Value}
variable {Qc : Array Value → State → Outcome → State → Prop} {XC : String → State → State → Prop}
/-- what a body that may throw owes at its end -/
def vx_MQ (below : List Frame) (Qc : Array Value → State → Outcome → State → Prop) (XC : String → State → State → Prop) (a : Array Value) (s : State) (mc ms : Nat) (free : Addr → Prop) : State → Prop := fun t =>
  ∃ o, t.status = .running ∧ Ended t below o ∧ vx_Q Qc XC mc ms free a s o t
theorem vx_ret {g : JFrame} {mc ms : Nat} (k : W p l e R s m args below meth c H locs cells slots (MQ below Qc args s mc ms free) g) : W p l e R s m args below meth c H locs cells slots (vx_MQ below Qc XC args s mc ms free) g := by
  intro T hT X
  obtain ⟨t, a1, o, b1, b2, b3, b4⟩ := k T hT X
  exact ⟨t, a1, o, b1, b2, Or.inl ⟨b3, b4⟩⟩
/-- not caught here: it goes on to the caller -/
theorem vx_widen {g : JFrame} {q : Addr} {k n : Nat} (h1 : cells ≤ k) (h2 : slots ≤ n) (kk : vx_W p l e R s m args below meth c H locs k n Q g q) : vx_W p l e R s m args below meth c H locs cells slots Q g q := fun T hT X => kk T hT (stand_widen X h1 h2)
theorem vx_out {pc : Nat} {E : String} {ce : Cell} {q : Addr} {mc ms : Nat} (hout : ∀ x ∈ c.exceptionTable.toList, covers x pc = false) (hlocks : meth.locks = false) (hcell : H[q]? = some ce) (hv : ce.vm = .none) (hcl : s.vm.findClass E = some ce.cls)
    (hx : ∀ t : State, t.heap = H → s.vm.Alike t.vm → XC E s t) (hf : ∀ z ∈ locs, free z.base) (hc : cells ≤ mc) (hs : slots ≤ ms) :
    vx_W p l e R s m args below meth c H locs cells slots (vx_MQ below Qc XC args s mc ms free) (F0 m pc ls rest) q := by
  intro T hT X
  obtain ⟨st1, hrun, hend, hW, hsm⟩ := X.leaveThrown q (g := F0 m pc ls rest) rfl rfl rfl hout hlocks
  have hcell9 : (T.setFrames (.throwing q :: below)).heap[q]? = some ce := by
    show T.heap[q]? = some ce
    rw [hT]; exact hcell
  exact ⟨_, st1, .threw q, hrun, hend, Or.inr ⟨q, rfl, E, ce, locs, hx _ hT hW.alike, hcell9, hv, hcl, hW, hsm.mono hc hs, hf⟩⟩
theorem vx_frame {U : State} {k n : Nat} (h : s.sameButNew ({ U with vm := s.vm } : State) locs k n) : s.heap.size ≤ U.heap.size ∧ ∀ q : Nat, q < s.heap.size → (∀ z ∈ locs, z.base ≠ q) → U.heap[q]? = s.heap[q]? := by
  obtain ⟨-, h2, -, -, -, h6⟩ := h
  refine ⟨h2, fun q hq hz => ?_⟩
  obtain ⟨c9, e1, e2, e3, e4⟩ := h6 q _ (Array.getElem?_eq_getElem hq)
  have hs : c9.slots = (s.heap[q]).slots := Array.ext_getElem? fun i => e4 i fun hm => hz _ hm rfl
  have h9 : c9 = s.heap[q] := by
    rw [hs] at e2
    exact e2
  have e5 : U.heap[q]? = some c9 := e1
  rw [e5, h9, Array.getElem?_eq_getElem hq]
/-- the words of a throw but the four that speak of the heap -/
def vx_no (w : Cond) : Bool := decide (w ≠ .isRef (.static Bundle.tN "UNASSIGNED_STACK" Bundle.steD)) && decide (w ≠ .isRef (.static Bundle.tN "SUPPRESSED_SENTINEL" Bundle.listD)) && decide (w ≠ .laysStatic Bundle.tN "UNASSIGNED_STACK" Bundle.steD) && decide (w ≠ .laysStatic Bundle.tN "SUPPRESSED_SENTINEL" Bundle.listD)
def vx_at0 (own : String) (ic : Nat) (X : String) (names : List String) : List Cond := (Bundle.ownAtoms0 own ic X names).filter vx_no
def vx_atS (own : String) (ic : Nat) (X : String) (names : List String) : List Cond := (Bundle.ownAtoms own ic X names).filter vx_no
/-- a word that the tables alone decide, or a good one -/
def vx_ot (w : Cond) : Bool := w.onTables || goodWord w
theorem vx_ot_at {args a' : Array Value} {s U : State} {w : Cond} (hW : s.WarmedH U.vm) (hvm : s.vm = U.vm) (hg : vx_ot w = true) (h : w.before args s = true) : w.before a' U = true := by
  simp only [vx_ot, Bool.or_eq_true] at hg
  rcases hg with hg | hg
  · exact va_tabs hg hvm h
  · exact word_at hW (good_of_word hg) h
/-- a list's words: the good ones out of the method's own list, the others by premises of their own -/
theorem vx_hat {args : Array Value} {s : State} {L B : List Cond} (h1 : ∀ w ∈ L.filter goodWord, w.before args s = true) (h2 : ∀ w ∈ L.filter (fun w => !goodWord w), w ∈ B) (h3 : ∀ w ∈ B, w.before args s = true) : ∀ w ∈ L, w.before args s = true := by
  intro w hw
  by_cases g : goodWord w = true
  · exact h1 w (List.mem_filter.mpr ⟨hw, g⟩)
  · refine h3 w (h2 w (List.mem_filter.mpr ⟨hw, ?_⟩))
    show (!goodWord w) = true
    cases hgw : goodWord w
    · rfl
    · exact absurd hgw g
theorem vx_c {args : Array Value} {s : State} {w : Cond} {B : List Cond} (h : w.before args s = true) (t : ∀ w ∈ B, w.before args s = true) : ∀ w' ∈ w :: B, w'.before args s = true := fun w' h' => (List.mem_cons.mp h').elim (fun e => by rw [e]; exact h) (t w')
theorem vx_n {args : Array Value} {s : State} : ∀ w ∈ ([] : List Cond), w.before args s = true := fun _ h => nomatch h
theorem vx_own {args : Array Value} {s : State} {L : List Cond} (h1 : ∀ w ∈ L.filter vx_no, w.before args s = true)
    (hU : (Cond.isRef (.static Bundle.tN "UNASSIGNED_STACK" Bundle.steD)).before args s = true) (hN : (Cond.isRef (.static Bundle.tN "SUPPRESSED_SENTINEL" Bundle.listD)).before args s = true)
    (lU : (Cond.laysStatic Bundle.tN "UNASSIGNED_STACK" Bundle.steD).before args s = true) (lN : (Cond.laysStatic Bundle.tN "SUPPRESSED_SENTINEL" Bundle.listD).before args s = true) : ∀ w ∈ L, w.before args s = true := by
  intro w hw
  by_cases e1 : w = .isRef (.static Bundle.tN "UNASSIGNED_STACK" Bundle.steD)
  · rw [e1]; exact hU
  · by_cases e2 : w = .isRef (.static Bundle.tN "SUPPRESSED_SENTINEL" Bundle.listD)
    · rw [e2]; exact hN
    · by_cases e3 : w = .laysStatic Bundle.tN "UNASSIGNED_STACK" Bundle.steD
      · rw [e3]; exact lU
      · by_cases e4 : w = .laysStatic Bundle.tN "SUPPRESSED_SENTINEL" Bundle.listD
        · rw [e4]; exact lN
        · exact h1 w (List.mem_filter.mpr ⟨hw, by unfold vx_no; rw [decide_eq_true e1, decide_eq_true e2, decide_eq_true e3, decide_eq_true e4]; rfl⟩)
/-- where a static field lies, its class's statics cell in H -/
def vx_L (C n d : String) (A : Nat → Prop) (U : State) (H : Heap) : Prop := ∃ (c : ClassId) (k : Class) (i : Nat) (f : Field) (a : Nat) (cell : Cell), U.vm.findClass C = some c ∧ U.fieldFound? C n d = some (c, k, i, f) ∧ f.isStatic = true ∧ k.statics = some a ∧ H[a]? = some cell ∧ cell.vm.isStatics = true ∧ cell.cls = c ∧ f.slot < cell.slots.size ∧ k.staticTypes[f.slot]? = some f.type ∧ ¬ A a
theorem vx_L.moved {C n d : String} {A : Nat → Prop} {u U : State} {H : Heap} (hvm : u.vm.Alike U.vm) (h : vx_L C n d A u H) : vx_L C n d A U H := by
  obtain ⟨c, k, i, f, a, cell, h1, h2, h3, h4, h5, h6, h7, h8, h9, h10⟩ := h
  obtain ⟨k', hi', he⟩ := State.fieldFound?_setVm hvm h2
  exact ⟨c, k', i, f, a, cell, by rw [hvm.findClass]; exact h1, hi', h3, by rw [he]; exact h4, h5, h6, h7, h8, by rw [he]; exact h9, h10⟩
theorem vx_L.kept {C n d : String} {A : Nat → Prop} {U : State} {H H1 : Heap} (h : vx_L C n d A U H) (hq : ∀ a : Nat, a < H.size → ¬ A a → H1[a]? = H[a]?) : vx_L C n d A U H1 := by
  obtain ⟨c, k, i, f, a, cell, h1, h2, h3, h4, h5, h6, h7, h8, h9, h10⟩ := h
  exact ⟨c, k, i, f, a, cell, h1, h2, h3, h4, by rw [hq a (Array.getElem?_eq_some_iff.mp h5).1 h10]; exact h5, h6, h7, h8, h9, h10⟩
theorem vx_L.narrow {C n d : String} {A B : Nat → Prop} {U : State} {H : Heap} (h : vx_L C n d A U H) (hAB : ∀ q, B q → A q) : vx_L C n d B U H := by
  obtain ⟨c, k, i, f, a, cell, h1, h2, h3, h4, h5, h6, h7, h8, h9, h10⟩ := h
  exact ⟨c, k, i, f, a, cell, h1, h2, h3, h4, h5, h6, h7, h8, h9, fun z => h10 (hAB _ z)⟩
theorem vx_L.word {C n d : String} {A : Nat → Prop} {s : State} {args : Array Value} (h : vx_L C n d A s s.heap) : (Cond.laysStatic C n d).before args s = true := by
  obtain ⟨c, k, i, f, a, cell, h1, h2, h3, h4, h5, h6, h7, h8, h9, -⟩ := h
  show (Cond.laysStatic C n d).holds args s none s [] = true
  exact Cond.laysStatic_of h1 h2 h3 h4 h5 h6 h7 h8 h9
/-- .. and what it holds: null or some reference -/
def vx_Zq (C n d : String) (A : Nat → Prop) (U : State) (H : Heap) : Prop := va_Zq C n d A U H ∧ vx_L C n d A U H
theorem vx_Zq.moved {C n d : String} {A : Nat → Prop} {u U : State} {H : Heap} (hvm : u.vm.Alike U.vm) (h : vx_Zq C n d A u H) : vx_Zq C n d A U H := ⟨va_Zq.moved hvm h.1, vx_L.moved hvm h.2⟩
theorem vx_Zq.kept {C n d : String} {A : Nat → Prop} {U : State} {H H1 : Heap} (h : vx_Zq C n d A U H) (hq : ∀ a : Nat, a < H.size → ¬ A a → H1[a]? = H[a]?) : vx_Zq C n d A U H1 := ⟨va_Zq.kept h.1 hq, vx_L.kept h.2 hq⟩
theorem vx_Zq.narrow {C n d : String} {A B : Nat → Prop} {U : State} {H : Heap} (h : vx_Zq C n d A U H) (hAB : ∀ q, B q → A q) : vx_Zq C n d B U H := ⟨va_Zq.narrow h.1 hAB, vx_L.narrow h.2 hAB⟩
theorem vx_Zqof {args : Array Value} {s : State} {C n d : String} {A : Nat → Prop} (hl : (Cond.laysStatic C n d).before args s = true) (hini : (Cond.initialized C).before args s = true) (h : (Cond.isRef (.static C n d)).before args s = true) (hA : ∀ a : Nat, a < s.heap.size → ¬ A a) : vx_Zq C n d A s s.heap := by
  refine ⟨va_Zqof hl hini h hA, ?_⟩
  obtain ⟨c, k, i, f, a, cell, h1, h2, h3, h4, h5, h6, h7, h8, h9⟩ := Cond.laysStatic_spec hl
  exact ⟨c, k, i, f, a, cell, h1, h2, h3, h4, h5, h6, h7, h8, h9, hA a (Array.getElem?_eq_some_iff.mp h5).1⟩
theorem vx_isRef {C n d : String} {v : Value} {A : Nat → Prop} {s : State} {args : Array Value} (h : va_Z C n d v A s s.heap) (hv : v.isRef = true) : (Cond.isRef (.static C n d)).before args s = true := by
  obtain ⟨cf, kf, fi, f, a, cell, h1, h2, h3, h4, h5, h6, h7, -⟩ := h
  have he : (Term.static C n d).eval args s none [] s = some v := by
    simp [Term.eval, State.fieldNamed?, h1, h2, h4, h5, h6, h7]
  simp only [Cond.before, Cond.holds, Cond.value, he]
  cases v <;> simp_all [Value.isRef]
theorem vx_isRefq {C n d : String} {A : Nat → Prop} {s : State} {args : Array Value} (h : va_Zq C n d A s s.heap) : (Cond.isRef (.static C n d)).before args s = true := by
  rcases h with h | ⟨t, h⟩
  · exact vx_isRef h rfl
  · exact vx_isRef h rfl
/-- the same frame, seen from here: as if the method were called anew in this heap -/
theorem vx_rebase {T : State} (X : Stand p l e R s m args below meth c T locs cells slots) {R' : Room} (hf : R'.frames ≤ R.frames) (hl : R'.locals ≤ R.locals) (hc : cells + R'.cells ≤ R.cells) (hs : slots + R'.slots ≤ R.slots) :
    Stand p l e R' ((T.setVm s.vm).setFrames (.invoking m args :: below)) m args below meth c T [] 0 0 := by
  have htop : (T.setVm s.vm).topJava?.isSome := X.here.top
  have hF : ((T.setVm s.vm).setFrames (.invoking m args :: below)).frames = .invoking m args :: below := State.frames_setFrames _ (State.cur_lt_of_top htop)
  obtain ⟨g₀, hg0⟩ := Option.isSome_iff_exists.mp htop
  obtain ⟨r, hr⟩ := State.topJava?_eq_some.mp hg0
  have hl9 : e.platform.stackLimits (T.setVm s.vm).me = e.platform.stackLimits s.me := X.limits
  have hb9 : (T.setVm s.vm).me.stackBytes = s.me.stackBytes := X.bytes
  refine ⟨X.admits, X.cas, X.clock, hF, ?_, X.hears, X.method, X.code, X.here, X.tail, X.warmed, ?_, ?_, ?_⟩
  · have h := X.room
    have hU : ((T.setVm s.vm).setFrames (.invoking m args :: below)).localsInUse = s.localsInUse := by
      rw [State.localsInUse_invoking hF (meth := meth) (c := c) X.method X.code, State.localsInUse_invoking X.frames X.method X.code]
    simp only [State.hasRoom, Bool.and_eq_true, decide_eq_true_eq] at h ⊢
    obtain ⟨⟨⟨⟨h1, h2, h3, h4, h5, h6⟩, h7⟩, h8⟩, h9⟩ := h
    rw [X.frames, List.length_cons] at h2 h3
    have q1 := X.heapSize
    have q2 := X.used
    simp only [hF, hU, List.length_cons, State.stackLimits_setFrames, State.stackBytes_setFrames, hl9, hb9]
    refine ⟨⟨⟨⟨by omega, by omega, by omega, by omega, by omega, h6⟩, ?_⟩, ?_⟩, X.book⟩
    · show T.heap.size + R'.cells ≤ e.platform.maxCells
      omega
    · show T.slotsUsed + R'.slots ≤ e.platform.maxSlots
      omega
  · rw [State.stackLimits_setFrames]; rfl
  · rw [State.stackBytes_setFrames]; rfl
  · refine ⟨?_, Nat.le_refl _, Nat.le_refl _, ?_, ?_, fun a c9 h9 => ⟨c9, h9, rfl, rfl, fun _ _ => rfl⟩⟩
    · obtain ⟨t, ht, -⟩ := State.frames_cons hr
      show T.setVm s.vm = { ((T.setVm s.vm).setFrames (.invoking m args :: below)).setFrames (T.setVm s.vm).frames with heap := T.heap, slotsUsed := T.slotsUsed }
      rw [State.setFrames_setFrames, State.setFrames_self ht]
      rfl
    · show T.slotsUsed = T.slotsUsed + ((T.heap.toList.drop T.heap.size).map (·.slots.size)).sum
      rw [List.drop_eq_nil_of_le (Nat.le_of_eq Array.length_toList)]
      rfl
    · show ((T.heap.toList.drop T.heap.size).map (·.slots.size)).sum ≤ 0
      rw [List.drop_eq_nil_of_le (Nat.le_of_eq Array.length_toList)]
      exact Nat.le_refl _
/-- 'throw new E()': new; dup; invokespecial; athrow -/
theorem vx_throw0 {cc : ByteArray} {pc : Nat} (hexec : p.tables.exec = Jvm.exec) (hb : c.code = cc) (hl : l.stackTraces = false) {own cls : String} {names : List String} {ik ic mc ms : Nat} {A : Nat → Prop}
    (hown : s.vm.findClass own = some m.cls) (hcls : Bundle.fit cls = true) (hnames : ∀ n ∈ names, Bundle.fit n = true)
    (hk : (Cond.classLink own ik cls).before args s = true) (hini : (Cond.initialized cls).before args s = true) (hat : ∀ w ∈ vx_at0 own ic cls names, w.before args s = true)
    (hgood : ∀ w ∈ Cond.classLink own ik cls :: Cond.initialized cls :: vx_at0 own ic cls names, vx_ot w = true)
    (hU : vx_Zq Bundle.tN "UNASSIGNED_STACK" Bundle.steD A s s.heap) (hN : vx_Zq Bundle.tN "SUPPRESSED_SENTINEL" Bundle.listD A s s.heap) (hS : va_S A s.heap H locs) (hsize : ls.size = c.maxLocals)
    (d0 : decode cc pc = .ok (.new ik, 3)) (d3 : decode cc (pc + 3) = .ok (.dup, 1)) (d4 : decode cc (pc + 4) = .ok (.invokespecial ic, 3)) (d7 : decode cc (pc + 7) = .ok (.athrow, 1))
    (hout : ∀ x ∈ c.exceptionTable.toList, covers x (pc + 7) = false)
    (hRframes : names.length + 3 < R.frames) (hRlocals : (rest.map fun v => v.category).sum + (13 * (names.length + 1) + 42) ≤ R.locals) (hRcells : cells + 1 ≤ R.cells) (hRslots : slots + 6 ≤ R.slots) (hlocks : meth.locks = false)
    (hx : ∀ t : State, s.vm.Alike t.vm → H.size ≤ t.heap.size → (∀ q : Nat, q < H.size → t.heap[q]? = H[q]?) → XC cls s t)
    (hf : ∀ z ∈ locs, free z.base) (hc : cells + 1 ≤ mc) (hs : slots + 6 ≤ ms) :
    W p l e R s m args below meth c H locs cells slots (vx_MQ below Qc XC args s mc ms free) (F0 m pc ls rest) := by
  intro T hT X
  have htr : e.platform.stackTraces = false := (show e.platform.stackTraces = l.stackTraces by rw [X.admits.platform]).trans hl
  have Y := vx_rebase X (R' := { frames := R.frames, locals := R.locals, cells := 1, slots := 6 }) (Nat.le_refl _) (Nat.le_refl _) hRcells hRslots
  obtain ⟨s', hA⟩ : ∃ z, z = (T.setVm s.vm).setFrames (.invoking m args :: below) := ⟨_, rfl⟩
  rw [← hA] at Y
  have hvm : s'.vm = s.vm := by rw [hA]; rfl
  have hhp : s'.heap = H := by rw [hA]; exact hT
  have hW0 : s.WarmedH s'.vm := by rw [hvm]; exact State.WarmedH.refl s
  have hat' : ∀ w ∈ vx_at0 own ic cls names, w.before args s' = true := fun w hw => vx_ot_at hW0 hvm.symm (hgood w (List.mem_cons_of_mem _ (List.mem_cons_of_mem _ hw))) (hat w hw)
  have hk' : (Cond.classLink own ik cls).before args s' = true := vx_ot_at hW0 hvm.symm (hgood _ List.mem_cons_self) hk
  have hini' : (Cond.initialized cls).before args s' = true := vx_ot_at hW0 hvm.symm (hgood _ (List.mem_cons_of_mem _ List.mem_cons_self)) hini
  have hU' : vx_Zq Bundle.tN "UNASSIGNED_STACK" Bundle.steD A s' s'.heap := by rw [hhp]; exact vx_Zq.moved hW0.alike (hU.kept hS.2.1)
  have hN' : vx_Zq Bundle.tN "SUPPRESSED_SENTINEL" Bundle.listD A s' s'.heap := by rw [hhp]; exact vx_Zq.moved hW0.alike (hN.kept hS.2.1)
  have h : ∀ w ∈ Bundle.ownAtoms0 own ic cls names, w.before args s' = true := vx_own hat' (vx_isRefq hU'.1) (vx_isRefq hN'.1) hU'.2.word hN'.2.word
  have hown' : s'.vm.findClass own = some m.cls := by rw [hvm]; exact hown
  have hins : (Cond.instantiable cls 6).before args s' = true := h _ (by simp [Bundle.ownAtoms0])
  obtain ⟨vm₁, cX, kX, hfX, hkX, -, -, X₁, st1⟩ := Y.newCold hexec (own := own) (C := cls) (index := ik) (n := 6) hown' hk' hins hini'
    (g := F0 m pc ls rest) rfl (by rw [hb]; exact d0) (Nat.le_refl _) (Nat.le_refl _)
  generalize hT1 : (T.setVm vm₁).pushCell { cls := cX, slots := kX.instanceTypes.map defaultValue, vm := .none } = T1 at X₁ st1
  have hcat : (Value.ref T.heap.size).category = 1 := rfl
  have hcellA : T1.heap[T.heap.size]? = some (freshCell cX kX) := by rw [← hT1]; exact State.heap_pushCell_size _ _
  have d3' : decode c.code (pc + 3) = .ok (.dup, 1) := by rw [hb]; exact d3
  obtain ⟨U, hsteps, hrun, hend, hW, hsame, ce, hce, hO⟩ := X₁.ctorThrow0 hexec htr (own := own) (cls := cls) (names := names) (ic := ic) hown' hcls hnames h (fun x hx => nomatch hx) hfX hkX hcellA (by rw [hhp, hT]; exact Nat.le_refl _)
    (g := { method := m, pc := pc + 4, locals := ls, stack := .ref T.heap.size :: .ref T.heap.size :: rest, locked := none }) rfl hsize rfl rfl (rest := rest) rfl
    (by rw [hb]; exact d4) (by rw [hb]; exact d7) hout hRframes (by simp only [List.map_cons, List.sum_cons, hcat]; omega) hlocks
  obtain ⟨f1, f2⟩ := vx_frame hsame
  rw [hhp] at f1 f2
  have hWs : s.WarmedH U.vm := State.WarmedH.trans hW0 hW
  have hcl : s.vm.findClass cls = some ce.cls := by
    have h9 := hO.cls
    rw [hvm] at h9
    exact h9
  have hall : s.sameButNew ({ U with vm := s.vm } : State) locs mc ms := by
    subst hA
    obtain ⟨e1, e2⟩ := hsame
    rw [State.setFrames_setFrames] at e1
    have h2 : (T.setVm s.vm).sameButNew ({ U with vm := s.vm } : State) [] (0 + 1) (0 + 6) := ⟨e1, e2⟩
    have h3 := X.same.trans h2
    rw [List.append_nil] at h3
    exact h3.mono hc hs
  refine ⟨U, ?_, .threw T.heap.size, hrun, hend, Or.inr ⟨T.heap.size, rfl, cls, ce, locs, hx U hWs.alike f1 (fun q hq => f2 q hq (fun z hz => nomatch hz)), hce, hO.vm, hcl, hWs, hall, hf⟩⟩
  refine st1 _ ?_
  show Steps p.tables e below (T1.setTop { method := m, pc := pc + 3, locals := ls, stack := .ref T.heap.size :: rest, locked := none }) _
  jvm_step X₁.here [X₁.here.top, hexec, d3', Value.category]
  exact hsteps
/-- 'throw new E("text")': new; dup; ldc; invokespecial; athrow -/
theorem vx_throwS {cc : ByteArray} {pc : Nat} (hexec : p.tables.exec = Jvm.exec) (hb : c.code = cc) (hl : l.stackTraces = false) {own cls text : String} {names : List String} {ik is ic mc ms sa : Nat} {A : Nat → Prop}
    (hown : s.vm.findClass own = some m.cls) (hcls : Bundle.fit cls = true) (hnames : ∀ n ∈ names, Bundle.fit n = true)
    (hk : (Cond.classLink own ik cls).before args s = true) (hini : (Cond.initialized cls).before args s = true) (hstr : vk_R own is text sa s) (hat : ∀ w ∈ vx_atS own ic cls names, w.before args s = true)
    (hgood : ∀ w ∈ Cond.classLink own ik cls :: Cond.initialized cls :: vx_atS own ic cls names, vx_ot w = true)
    (hU : vx_Zq Bundle.tN "UNASSIGNED_STACK" Bundle.steD A s s.heap) (hN : vx_Zq Bundle.tN "SUPPRESSED_SENTINEL" Bundle.listD A s s.heap) (hS : va_S A s.heap H locs) (hsize : ls.size = c.maxLocals)
    (d0 : decode cc pc = .ok (.new ik, 3)) (d3 : decode cc (pc + 3) = .ok (.dup, 1)) (d4 : decode cc (pc + 4) = .ok (.ldc is, 2)) (d6 : decode cc (pc + 6) = .ok (.invokespecial ic, 3)) (d9 : decode cc (pc + 9) = .ok (.athrow, 1))
    (hout : ∀ x ∈ c.exceptionTable.toList, covers x (pc + 9) = false)
    (hRframes : names.length + 3 < R.frames) (hRlocals : (rest.map fun v => v.category).sum + (13 * (names.length + 1) + 43) ≤ R.locals) (hRcells : cells + 1 ≤ R.cells) (hRslots : slots + 6 ≤ R.slots) (hlocks : meth.locks = false)
    (hx : ∀ t : State, s.vm.Alike t.vm → H.size ≤ t.heap.size → (∀ q : Nat, q < H.size → t.heap[q]? = H[q]?) → XC cls s t)
    (hf : ∀ z ∈ locs, free z.base) (hc : cells + 1 ≤ mc) (hs : slots + 6 ≤ ms) :
    W p l e R s m args below meth c H locs cells slots (vx_MQ below Qc XC args s mc ms free) (F0 m pc ls rest) := by
  intro T hT X
  have htr : e.platform.stackTraces = false := (show e.platform.stackTraces = l.stackTraces by rw [X.admits.platform]).trans hl
  have Y := vx_rebase X (R' := { frames := R.frames, locals := R.locals, cells := 1, slots := 6 }) (Nat.le_refl _) (Nat.le_refl _) hRcells hRslots
  obtain ⟨s', hA⟩ : ∃ z, z = (T.setVm s.vm).setFrames (.invoking m args :: below) := ⟨_, rfl⟩
  rw [← hA] at Y
  have hvm : s'.vm = s.vm := by rw [hA]; rfl
  have hhp : s'.heap = H := by rw [hA]; exact hT
  have hW0 : s.WarmedH s'.vm := by rw [hvm]; exact State.WarmedH.refl s
  have hat' : ∀ w ∈ vx_atS own ic cls names, w.before args s' = true := fun w hw => vx_ot_at hW0 hvm.symm (hgood w (List.mem_cons_of_mem _ (List.mem_cons_of_mem _ hw))) (hat w hw)
  have hk' : (Cond.classLink own ik cls).before args s' = true := vx_ot_at hW0 hvm.symm (hgood _ List.mem_cons_self) hk
  have hini' : (Cond.initialized cls).before args s' = true := vx_ot_at hW0 hvm.symm (hgood _ (List.mem_cons_of_mem _ List.mem_cons_self)) hini
  have hU' : vx_Zq Bundle.tN "UNASSIGNED_STACK" Bundle.steD A s' s'.heap := by rw [hhp]; exact vx_Zq.moved hW0.alike (hU.kept hS.2.1)
  have hN' : vx_Zq Bundle.tN "SUPPRESSED_SENTINEL" Bundle.listD A s' s'.heap := by rw [hhp]; exact vx_Zq.moved hW0.alike (hN.kept hS.2.1)
  have h : ∀ w ∈ Bundle.ownAtoms own ic cls names, w.before args s' = true := vx_own hat' (vx_isRefq hU'.1) (vx_isRefq hN'.1) hU'.2.word hN'.2.word
  have hown' : s'.vm.findClass own = some m.cls := by rw [hvm]; exact hown
  have hins : (Cond.instantiable cls 6).before args s' = true := h _ (by simp [Bundle.ownAtoms])
  obtain ⟨vm₁, cX, kX, hfX, hkX, -, -, X₁, st1⟩ := Y.newCold hexec (own := own) (C := cls) (index := ik) (n := 6) hown' hk' hins hini'
    (g := F0 m pc ls rest) rfl (by rw [hb]; exact d0) (Nat.le_refl _) (Nat.le_refl _)
  generalize hT1 : (T.setVm vm₁).pushCell { cls := cX, slots := kX.instanceTypes.map defaultValue, vm := .none } = T1 at X₁ st1
  have hcat : (Value.ref T.heap.size).category = 1 := rfl
  have hcellA : T1.heap[T.heap.size]? = some (freshCell cX kX) := by rw [← hT1]; exact State.heap_pushCell_size _ _
  have d3' : decode c.code (pc + 3) = .ok (.dup, 1) := by rw [hb]; exact d3
  have d4' : decode c.code (pc + 4) = .ok (.ldc is, 2) := by rw [hb]; exact d4
  have hstr' : vk_R own is text sa s' := vk_R.warm hW0 hstr
  obtain ⟨U, hsteps, hrun, hend, hW, hsame, ce, hce, hO⟩ := X₁.ctorThrowS hexec htr (own := own) (cls := cls) (names := names) (ic := ic) hown' hcls hnames h (fun x hx => nomatch hx) hfX hkX hcellA (by rw [hhp, hT]; exact Nat.le_refl _) (msg := .ref sa) rfl
    (g := { method := m, pc := pc + 6, locals := ls, stack := .ref sa :: .ref T.heap.size :: .ref T.heap.size :: rest, locked := none }) rfl hsize rfl rfl (rest := rest) rfl
    (by rw [hb]; exact d6) (by rw [hb]; exact d9) hout hRframes (by simp only [List.map_cons, List.sum_cons, hcat]; omega) hlocks
  obtain ⟨f1, f2⟩ := vx_frame hsame
  rw [hhp] at f1 f2
  have hWs : s.WarmedH U.vm := State.WarmedH.trans hW0 hW
  have hcl : s.vm.findClass cls = some ce.cls := by
    have h9 := hO.cls
    rw [hvm] at h9
    exact h9
  have hall : s.sameButNew ({ U with vm := s.vm } : State) locs mc ms := by
    subst hA
    obtain ⟨e1, e2⟩ := hsame
    rw [State.setFrames_setFrames] at e1
    have h2 : (T.setVm s.vm).sameButNew ({ U with vm := s.vm } : State) [] (0 + 1) (0 + 6) := ⟨e1, e2⟩
    have h3 := X.same.trans h2
    rw [List.append_nil] at h3
    exact h3.mono hc hs
  refine ⟨U, ?_, .threw T.heap.size, hrun, hend, Or.inr ⟨T.heap.size, rfl, cls, ce, locs, hx U hWs.alike f1 (fun q hq => f2 q hq (fun z hz => nomatch hz)), hce, hO.vm, hcl, hWs, hall, hf⟩⟩
  refine st1 _ ?_
  show Steps p.tables e below (T1.setTop { method := m, pc := pc + 3, locals := ls, stack := .ref T.heap.size :: rest, locked := none }) _
  jvm_step X₁.here [X₁.here.top, hexec, d3', Value.category]
  exact X₁.ldcString hexec (own := own) (text := text) (index := is) (a := sa) hown' hstr'.1 hstr'.2
    (g := { method := m, pc := pc + 4, locals := ls, stack := .ref T.heap.size :: .ref T.heap.size :: rest, locked := none }) rfl d4' _ hsteps
/-- 'throw new E("text")', the text by a wide index -/
theorem vx_throwSW {cc : ByteArray} {pc : Nat} (hexec : p.tables.exec = Jvm.exec) (hb : c.code = cc) (hl : l.stackTraces = false) {own cls text : String} {names : List String} {ik is ic mc ms sa : Nat} {A : Nat → Prop}
    (hown : s.vm.findClass own = some m.cls) (hcls : Bundle.fit cls = true) (hnames : ∀ n ∈ names, Bundle.fit n = true)
    (hk : (Cond.classLink own ik cls).before args s = true) (hini : (Cond.initialized cls).before args s = true) (hstr : vk_R own is text sa s) (hat : ∀ w ∈ vx_atS own ic cls names, w.before args s = true)
    (hgood : ∀ w ∈ Cond.classLink own ik cls :: Cond.initialized cls :: vx_atS own ic cls names, vx_ot w = true)
    (hU : vx_Zq Bundle.tN "UNASSIGNED_STACK" Bundle.steD A s s.heap) (hN : vx_Zq Bundle.tN "SUPPRESSED_SENTINEL" Bundle.listD A s s.heap) (hS : va_S A s.heap H locs) (hsize : ls.size = c.maxLocals)
    (d0 : decode cc pc = .ok (.new ik, 3)) (d3 : decode cc (pc + 3) = .ok (.dup, 1)) (d4 : decode cc (pc + 4) = .ok (.ldc_w is, 3)) (d7 : decode cc (pc + 7) = .ok (.invokespecial ic, 3)) (d10 : decode cc (pc + 10) = .ok (.athrow, 1))
    (hout : ∀ x ∈ c.exceptionTable.toList, covers x (pc + 10) = false)
    (hRframes : names.length + 3 < R.frames) (hRlocals : (rest.map fun v => v.category).sum + (13 * (names.length + 1) + 43) ≤ R.locals) (hRcells : cells + 1 ≤ R.cells) (hRslots : slots + 6 ≤ R.slots) (hlocks : meth.locks = false)
    (hx : ∀ t : State, s.vm.Alike t.vm → H.size ≤ t.heap.size → (∀ q : Nat, q < H.size → t.heap[q]? = H[q]?) → XC cls s t)
    (hf : ∀ z ∈ locs, free z.base) (hc : cells + 1 ≤ mc) (hs : slots + 6 ≤ ms) :
    W p l e R s m args below meth c H locs cells slots (vx_MQ below Qc XC args s mc ms free) (F0 m pc ls rest) := by
  intro T hT X
  have htr : e.platform.stackTraces = false := (show e.platform.stackTraces = l.stackTraces by rw [X.admits.platform]).trans hl
  have Y := vx_rebase X (R' := { frames := R.frames, locals := R.locals, cells := 1, slots := 6 }) (Nat.le_refl _) (Nat.le_refl _) hRcells hRslots
  obtain ⟨s', hA⟩ : ∃ z, z = (T.setVm s.vm).setFrames (.invoking m args :: below) := ⟨_, rfl⟩
  rw [← hA] at Y
  have hvm : s'.vm = s.vm := by rw [hA]; rfl
  have hhp : s'.heap = H := by rw [hA]; exact hT
  have hW0 : s.WarmedH s'.vm := by rw [hvm]; exact State.WarmedH.refl s
  have hat' : ∀ w ∈ vx_atS own ic cls names, w.before args s' = true := fun w hw => vx_ot_at hW0 hvm.symm (hgood w (List.mem_cons_of_mem _ (List.mem_cons_of_mem _ hw))) (hat w hw)
  have hk' : (Cond.classLink own ik cls).before args s' = true := vx_ot_at hW0 hvm.symm (hgood _ List.mem_cons_self) hk
  have hini' : (Cond.initialized cls).before args s' = true := vx_ot_at hW0 hvm.symm (hgood _ (List.mem_cons_of_mem _ List.mem_cons_self)) hini
  have hU' : vx_Zq Bundle.tN "UNASSIGNED_STACK" Bundle.steD A s' s'.heap := by rw [hhp]; exact vx_Zq.moved hW0.alike (hU.kept hS.2.1)
  have hN' : vx_Zq Bundle.tN "SUPPRESSED_SENTINEL" Bundle.listD A s' s'.heap := by rw [hhp]; exact vx_Zq.moved hW0.alike (hN.kept hS.2.1)
  have h : ∀ w ∈ Bundle.ownAtoms own ic cls names, w.before args s' = true := vx_own hat' (vx_isRefq hU'.1) (vx_isRefq hN'.1) hU'.2.word hN'.2.word
  have hown' : s'.vm.findClass own = some m.cls := by rw [hvm]; exact hown
  have hins : (Cond.instantiable cls 6).before args s' = true := h _ (by simp [Bundle.ownAtoms])
  obtain ⟨vm₁, cX, kX, hfX, hkX, -, -, X₁, st1⟩ := Y.newCold hexec (own := own) (C := cls) (index := ik) (n := 6) hown' hk' hins hini'
    (g := F0 m pc ls rest) rfl (by rw [hb]; exact d0) (Nat.le_refl _) (Nat.le_refl _)
  generalize hT1 : (T.setVm vm₁).pushCell { cls := cX, slots := kX.instanceTypes.map defaultValue, vm := .none } = T1 at X₁ st1
  have hcat : (Value.ref T.heap.size).category = 1 := rfl
  have hcellA : T1.heap[T.heap.size]? = some (freshCell cX kX) := by rw [← hT1]; exact State.heap_pushCell_size _ _
  have d3' : decode c.code (pc + 3) = .ok (.dup, 1) := by rw [hb]; exact d3
  have d4' : decode c.code (pc + 4) = .ok (.ldc_w is, 3) := by rw [hb]; exact d4
  have hstr' : vk_R own is text sa s' := vk_R.warm hW0 hstr
  obtain ⟨U, hsteps, hrun, hend, hW, hsame, ce, hce, hO⟩ := X₁.ctorThrowS hexec htr (own := own) (cls := cls) (names := names) (ic := ic) hown' hcls hnames h (fun x hx => nomatch hx) hfX hkX hcellA (by rw [hhp, hT]; exact Nat.le_refl _) (msg := .ref sa) rfl
    (g := { method := m, pc := pc + 7, locals := ls, stack := .ref sa :: .ref T.heap.size :: .ref T.heap.size :: rest, locked := none }) rfl hsize rfl rfl (rest := rest) rfl
    (by rw [hb]; exact d7) (by rw [hb]; exact d10) hout hRframes (by simp only [List.map_cons, List.sum_cons, hcat]; omega) hlocks
  obtain ⟨f1, f2⟩ := vx_frame hsame
  rw [hhp] at f1 f2
  have hWs : s.WarmedH U.vm := State.WarmedH.trans hW0 hW
  have hcl : s.vm.findClass cls = some ce.cls := by
    have h9 := hO.cls
    rw [hvm] at h9
    exact h9
  have hall : s.sameButNew ({ U with vm := s.vm } : State) locs mc ms := by
    subst hA
    obtain ⟨e1, e2⟩ := hsame
    rw [State.setFrames_setFrames] at e1
    have h2 : (T.setVm s.vm).sameButNew ({ U with vm := s.vm } : State) [] (0 + 1) (0 + 6) := ⟨e1, e2⟩
    have h3 := X.same.trans h2
    rw [List.append_nil] at h3
    exact h3.mono hc hs
  refine ⟨U, ?_, .threw T.heap.size, hrun, hend, Or.inr ⟨T.heap.size, rfl, cls, ce, locs, hx U hWs.alike f1 (fun q hq => f2 q hq (fun z hz => nomatch hz)), hce, hO.vm, hcl, hWs, hall, hf⟩⟩
  refine st1 _ ?_
  show Steps p.tables e below (T1.setTop { method := m, pc := pc + 3, locals := ls, stack := .ref T.heap.size :: rest, locked := none }) _
  jvm_step X₁.here [X₁.here.top, hexec, d3', Value.category]
  exact X₁.ldcStringW hexec (own := own) (text := text) (index := is) (a := sa) hown' hstr'.1 hstr'.2
    (g := { method := m, pc := pc + 4, locals := ls, stack := .ref T.heap.size :: .ref T.heap.size :: rest, locked := none }) rfl d4' _ hsteps
end Ends
section Bodies
variable {l : Launch}
theorem vx_ofW {y : MethodName} {ws ws' : List Cond} {rm : Room} {Pc : Array Value → State → Prop} {Qc : Array Value → State → Outcome → State → Prop} {XC : String → State → State → Prop} {mc ms : Nat} {free : Addr → Prop} {cc : ByteArray} {maxL : Nat} {ret : Option FieldType}
    (hy : plainName y.cls = true) (hw : ws = Cond.code y cc maxL ret :: ws')
    (body : ∀ p e s m args below meth c s₁, BodyLoose p l y (headSpec ws rm) cc maxL ret e s m args below meth c s₁ → c.maxLocals = maxL → (∀ x ∈ c.exceptionTable.toList, False) → Pc args s →
      W p l e (headSpec ws rm).room s m args below meth c s.heap [] 0 0 (vx_MQ below Qc XC args s mc ms free) (entryFrame m args maxL)) : vx_Met l y ws rm Pc Qc XC mc ms free := by
  refine MetFree.of_bodyS (code := cc) (maxLocals := maxL) (ret := ret) hy ?_ ?_
  · intro args s m h hn
    obtain ⟨meth, c, h1, h2, h3, h4, h5, h6, -, -⟩ := Cond.code_spec hn (atoms_spec (ws := ws) h _ (by rw [hw]; exact List.mem_cons_self))
    exact ⟨meth, c, h1, h2, h3, h4, h5, h6⟩
  · intro p e s m args below meth c s₁ B hml hP _
    have hh0 : s₁.heap = s.heap := by rw [B.state]; rfl
    have ht : ∀ x ∈ c.exceptionTable.toList, False := by
      obtain ⟨meth9, c9, h1, h2, -, -, -, -, h7, -⟩ := Cond.code_spec B.named (atoms_spec (ws := ws) B.pre _ (by rw [hw]; exact List.mem_cons_self))
      cases Option.some.inj (h1.symm.trans B.method)
      cases Option.some.inj (h2.symm.trans (Stand.of_body B).code)
      intro x hx
      rw [Array.isEmpty_iff.mp h7] at hx
      cases hx
    obtain ⟨t, a1, o, b1, b2, b3⟩ := body p e s m args below meth c s₁ B hml ht hP s₁ hh0 (Stand.of_body B)
    exact ⟨t, o, a1, b1, b2, b3⟩
/-- the table of a body with handlers -/
theorem vx_table {p : Program} {x y : MethodName} {S : Spec} {cc bytes : ByteArray} {maxL maxL' : Nat} {ret ret' : Option FieldType} {e : Env} {s s₁ : State} {m : MethodId} {args : Array Value} {below : List Frame} {meth : Method} {c : Code} {hh : List (Nat × Nat × Nat × Nat)}
    (B : BodyLoose p l y S cc maxL ret e s m args below meth c s₁) (h : (Cond.codeWith y bytes maxL' ret' hh).before args s = true) : c.exceptionTable.toList = tableOf hh := by
  obtain ⟨m9, meth9, c9, hn9, h1, h2, -, -, h6, -⟩ := Cond.codeWith_spec h
  cases Option.some.inj (hn9.symm.trans B.named)
  cases Option.some.inj (h1.symm.trans B.method)
  cases Option.some.inj (h2.symm.trans (Stand.of_body B).code)
  rw [← h6, table_eq]
end Bodies
end VXA
/-! ===== END ===== -/
/-! ===== BEGIN a static call of a method with an exception table ===== -/
section VXS
variable {p : Program} {l : Launch} {e : Env} {R : Room} {s : State} {m : MethodId} {args : Array Value} {below : List Frame} {meth : Method} {c : Code} {T : State} {H : Heap} {locs : List Loc} {cells slots : Nat}
abbrev vx_CSW (R : Room) (s : State) (args : Array Value) (own : String) (index : Nat) (y : MethodName) (bytes : ByteArray) (maxL : Nat) (ret : Option FieldType) (hh : List (Nat × Nat × Nat × Nat)) (ws : List Cond) (rm : Room) (mc ms n : Nat) : Prop :=
  (rm.cells = mc ∧ rm.slots = ms ∧ rm.frames + 1 ≤ R.frames ∧ 8 + (maxL + 11) + rm.locals ≤ R.locals ∧ (∀ w ∈ ws, ∀ (a' : Array Value) (U : State), s.WarmedH U.vm → w.before a' U = true) ∧ Cond.codeWith y bytes maxL ret hh ∈ ws) ∧
  (Cond.codeWith y bytes maxL ret hh).before args s = true ∧ (Cond.initialized y.cls).before args s = true ∧ (y.cls ≠ "java/lang/invoke/MethodHandle" ∧ y.cls ≠ "java/lang/invoke/VarHandle") ∧
  (∀ sig, parseMethodDescriptor y.desc = some sig → n = sig.parameters.length) ∧ (Cond.methodLink own index y).before args s = true ∧ (Cond.static y).before args s = true
theorem vx_cwSW {own : String} {index maxL mc ms : Nat} {y : MethodName} {bytes : ByteArray} {ret : Option FieldType} {hh : List (Nat × Nat × Nat × Nat)} {Ts ws ws' : List Cond} {rm : Room} (n : Nat) (ht : ∀ w ∈ Ts, w.before args s = true) (hT : GoodIn Ts (va_wsS own index y ws)) (hw : ws = Cond.codeWith y bytes maxL ret hh :: ws') (hrc : rm.cells = mc) (hrs : rm.slots = ms)
    (hd : y.cls ≠ "java/lang/invoke/MethodHandle" ∧ y.cls ≠ "java/lang/invoke/VarHandle" ∧ (parseMethodDescriptor y.desc).map (fun d => d.parameters.length) = some n) (hR : rm.frames + 1 ≤ R.frames ∧ 8 + (maxL + 11) + rm.locals ≤ R.locals) :
    vx_CSW R s args own index y bytes maxL ret hh ws rm mc ms n := by
  have ok : ∀ w ∈ va_wsS own index y ws, w.before args s = true := fun w h => ht w (hT w h).1
  have hG : GoodIn Ts ws := fun w h => hT w (by unfold va_wsS; exact List.mem_append_right _ h)
  have hc : Cond.codeWith y bytes maxL ret hh ∈ ws := by rw [hw]; exact List.mem_cons_self
  refine ⟨⟨hrc, hrs, hR.1, hR.2, pay_in ht hG, hc⟩, ht _ (hG _ hc).1, ok _ (by simp [va_wsS]), ⟨hd.1, hd.2.1⟩, fun sig h => ?_, ok _ (by simp [va_wsS]), ok _ (by simp [va_wsS])⟩
  have h2 := hd.2.2
  rw [h] at h2
  exact (Option.some.inj h2).symm
theorem vx_callSW (X : Stand p l e R s m args below meth c T locs cells slots) (hexec : p.tables.exec = Jvm.exec) {own : String} {index : Nat} {y : MethodName} {bytes : ByteArray} {maxL : Nat} {ret : Option FieldType} {hh : List (Nat × Nat × Nat × Nat)}
    (hown : s.vm.findClass own = some m.cls) (hlink : (Cond.methodLink own index y).before args s = true) (hstat : (Cond.static y).before args s = true) (hinit : (Cond.initialized y.cls).before args s = true)
    (hcode : (Cond.codeWith y bytes maxL ret hh).before args s = true) (hy : y.cls ≠ "java/lang/invoke/MethodHandle" ∧ y.cls ≠ "java/lang/invoke/VarHandle")
    {W9 : Nat} {Pre : Pt → Array Value → Prop} {Post : Pt → Array Value → Option Value → Pt → Prop} (hK : Back l R p e below s args y 3 W9 Pre Post)
    {g : JFrame} (hg : g.method = m) (hsize : g.locals.size = c.maxLocals) {argsL rest : List Value} (hlen : ∀ sig, parseMethodDescriptor y.desc = some sig → argsL.length = sig.parameters.length)
    (hstack : g.stack = argsL.reverse ++ rest) (hW : 2 * g.monitorRoom + (rest.map fun v => v.category).sum ≤ W9) (hdg : decode c.code g.pc = .ok (.invokestatic index, 3))
    (hpre : ∀ vm₁, s.WarmedH vm₁ → Pre ⟨T.setVm vm₁, locs, cells, slots⟩ argsL.toArray) :
    ∃ (v : Option Value) (vm₁ : Vm) (B : Pt), s.WarmedH vm₁ ∧ Stand p l e R s m args below meth c B.U B.locs B.cells B.slots ∧ Post ⟨T.setVm vm₁, locs, cells, slots⟩ argsL.toArray v B ∧
      ∀ target, Steps p.tables e below (B.U.setTop { g with pc := g.pc + 3, stack := v.toList ++ rest }) target → Steps p.tables e below (T.setTop g) target := by
  obtain ⟨mk, methM, cM, hnamed, hmethM, -, -, -, -, -, -, hsigM⟩ := Cond.codeWith_spec hcode
  have hstatic : methM.isStatic = true := Cond.static_spec hnamed hmethM hstat
  obtain ⟨kP, hkP, -⟩ := className_of_methodNamed hnamed
  have hinitP : kP.init = .initialized := Cond.initialized_spec (findClass_of_methodNamed hnamed) hkP hinit
  obtain ⟨vm₁, X₁, hstep₁⟩ := X.invokestatic hexec hown hlink hnamed hmethM hstatic hkP hinitP hy (g := g) hg (argsL := argsL) (rest := rest) (hlen _ hsigM) hstack hdg
  obtain ⟨v, B, X', hpost, hsteps⟩ := hK m meth c ⟨T.setVm vm₁, locs, cells, slots⟩ { g with stack := rest } (.invokestatic index) mk argsL.toArray X₁ hg hsize hdg hW (X₁.named hnamed) (hpre vm₁ X₁.warmed)
  exact ⟨v, vm₁, B, X₁.warmed, X', hpost, fun target h => hstep₁ _ fun acts => by rw [doInvoke_state]; exact hsteps.trans h⟩
theorem vx_runSW {y : MethodName} {bytes cc : ByteArray} {maxL nL mc ms n index : Nat} {ret : Option FieldType} {hh : List (Nat × Nat × Nat × Nat)} {ws : List Cond} {rm : Room} {Pc : Array Value → State → Prop} {Qc : Array Value → State → Outcome → State → Prop} {free : Addr → Prop} {Ts : List Cond} {own : String} {As rest : List Value} {g : JFrame}
    (S : CallFix p m c cc nL s args Ts own) (hM : Met l y ws rm Pc Qc mc ms free) (cw : vx_CSW R s args own index y bytes maxL ret hh ws rm mc ms n) (hp : PreS s H Pc As)
    (hg : g.method = m) (hn : As.length = n) (hsize : g.locals.size = nL) (hstack : g.stack = As.reverse ++ rest) (hW : 2 * g.monitorRoom + (rest.map fun v => v.category).sum ≤ 8) (hdg : decode cc g.pc = .ok (.invokestatic index, 3)) (hf : cells + mc ≤ R.cells ∧ slots + ms ≤ R.slots) :
    va_Run p l e R s m args below meth c H locs cells slots mc ms g rest (Qc As.toArray) (free) := by
  obtain ⟨⟨hrc, hrs, hfr, hlo, hws, hcw⟩, hcode, hini, hy, hlen, hl, hstt⟩ := cw
  have hK : Back l R p e below s args y 3 8 (PreOf R mc ms Pc) (PostOf Qc mc ms free) := va_backW (hh := hh) (bytes := bytes) (maxL := maxL) (ret := ret) hM hp.1 hrc hrs hfr hlo hws hcw (fun a' U hW => word_at hW (Or.inl (by first | rfl | simp [Cond.onTables, Cond.keeps, Cond.steady])) hini)
  obtain ⟨hx, hb, hml, ho, -⟩ := S
  intro T hT X
  obtain ⟨v, vm₁, ⟨U', l2, c2, s2⟩, hW₁, X', ⟨g', mk, t, L, e1, e2, hq, h1, hL, h2, h3⟩, st⟩ := vx_callSW X hx (hh := hh) (bytes := bytes) (maxL := maxL) (ret := ret) ho hl hstt hini hcode hy hK hg (hsize.trans hml.symm) (argsL := As) (rest := rest) (fun sig h => hn.trans (hlen sig h)) hstack hW (by rw [hb]; exact hdg)
    (fun vm₁ hW₁ => ⟨hf.1, hf.2, hp.2 (T.setVm vm₁) hT hW₁⟩)
  dsimp only [Pt.U, Pt.locs, Pt.cells, Pt.slots] at X' e1 e2 h1 h2 h3 st
  subst h1; subst h2; subst h3
  exact ⟨v, (T.setVm vm₁).calling g' mk As.toArray, t, U', L, hT, X', hL, e1, e2, hq, st⟩
/-- not caught here, past rows that name other classes: it goes on to the caller -/
theorem vx_outP {p : Program} {l : Launch} {e : Env} {R : Room} {s : State} {m : MethodId} {args : Array Value} {below : List Frame} {meth : Method} {c : Code} {H : Heap} {locs : List Loc} {cells slots : Nat} {free : Addr → Prop} {ls : Array Slot} {rest : List Value} {Qc : Array Value → State → Outcome → State → Prop} {XC : String → State → State → Prop}
    {pc : Nat} {own E : String} {ce : Cell} {q : Addr} {mc ms : Nat} (hown : s.vm.findClass own = some m.cls) (hlocks : meth.locks = false)
    (hpass : ∀ z ∈ c.exceptionTable.toList, covers z pc = false ∨ (z.catchType ≠ 0 ∧ ∃ nm : String, (Cond.classLink own z.catchType nm).before args s = true ∧ va_Nc E nm s)) (hcell : H[q]? = some ce) (hv : ce.vm = .none) (hcl : s.vm.findClass E = some ce.cls)
    (hx : ∀ t : State, t.heap = H → s.vm.Alike t.vm → XC E s t) (hf : ∀ z ∈ locs, free z.base) (hc : cells ≤ mc) (hs : slots ≤ ms) :
    vx_W p l e R s m args below meth c H locs cells slots (vx_MQ below Qc XC args s mc ms free) (F0 m pc ls rest) q := by
  intro T hT X
  have hpl : e.platform.magicAccessors = ({} : Platform).magicAccessors := by rw [X.admits.platform]
  obtain ⟨vm', hW', X', st⟩ := X.outThrough hlocks q (g := F0 m pc ls rest) rfl rfl rfl (cell := ce) (by rw [hT]; exact hcell) (by rw [hv]; rfl)
    (by obtain ⟨k9, h9, -⟩ := Vm.findClass_spec hcl; exact ⟨k9, h9⟩) (fun z hz => by
      rcases hpass z hz with h | ⟨hz0, nm, hl1, hn1⟩
      · exact Or.inl h
      · obtain ⟨c6, hc6, hcl6⟩ := Cond.classLink_spec hown hl1 e.platform hpl
        obtain ⟨a8, b8, h1, h2, h3⟩ := hn1
        cases Option.some.inj (h1.symm.trans hcl)
        cases Option.some.inj (h2.symm.trans hc6)
        exact Or.inr ⟨hz0, _, hcl6, h3⟩)
  obtain ⟨g₀, hfr⟩ := X'.frames_eq
  have hcell9 : ((T.setVm vm').setFrames (.throwing q :: below)).heap[q]? = some ce := by
    show T.heap[q]? = some ce
    rw [hT]; exact hcell
  have hend : Ended ((T.setVm vm').setFrames (.throwing q :: below)) below (.threw q) := State.frames_setFrames _ (State.cur_lt_of_frames hfr)
  refine ⟨(T.setVm vm').setFrames (.throwing q :: below), ?_, .threw q, X'.here.running, hend, Or.inr ⟨q, rfl, E, ce, locs, hx _ hT (X'.ends _).1.alike, hcell9, hv, hcl, (X'.ends _).1, (X'.ends _).2.mono hc hs, hf⟩⟩
  rw [X.pushThrowing_eq]
  exact st
/-- a thing of a world lies in the heap -/
theorem vx_lt {D : va_G} {cl : List vw_C} {ws : va_W} {H1 : Heap} (h : va_P D cl ws H1) {k : Nat} {q : Nat × va_E} (hk : ws[k]? = some q) : q.1 < H1.size := (h k q hk).lt
end VXS
/-! ===== END ===== -/
/-! ===== BEGIN methods with a table of their own: called by a name, returning or throwing ===== -/
section VXH
/-! vx_backW, vx_callVX, vx_callSX, vx_callVW, vx_runVW, vx_runVX, vx_runSX, vx_ofWH follow the same proofs as their sisters above (Free/Laws.lean, Shelf42/LK1.lean); vx_outP calls Shelf42/NT130.lean (outThrough). -/
section
variable {l : Launch} {R : Room} {p : Program} {e : Env} {below : List Frame} {s : State} {sargs : Array Value} {y : MethodName} {len W9 : Nat}
theorem vx_backW {ws : List Cond} {rm : Room} {Pc : Array Value → State → Prop} {Qc : Array Value → State → Outcome → State → Prop} {XC : String → State → State → Prop} {mc ms : Nat} {free : Addr → Prop} {bytes : ByteArray} {maxL : Nat} {ret : Option FieldType} {hh : List (Nat × Nat × Nat × Nat)}
    (hM : vx_Met l y ws rm Pc Qc XC mc ms free) (hblind : FrameBlind Pc) (hrc : rm.cells = mc) (hrs : rm.slots = ms)
    (hframes : rm.frames + 1 ≤ R.frames) (hlocals : W9 + (maxL + 11) + rm.locals ≤ R.locals)
    (hws : ∀ w ∈ ws, ∀ a' U, s.WarmedH U.vm → w.before a' U = true) (hcode : Cond.codeWith y bytes maxL ret hh ∈ ws) (hinit : ∀ a' U, s.WarmedH U.vm → (Cond.initialized y.cls).before a' U = true) :
    vx_Back l R p e below s sargs y len W9 (PreOf R mc ms Pc) (PostOf Qc mc ms free) (vx_Post XC mc ms free) := by
  intro m meth c A g ig mk a X hg hsize hdg hW hn hp
  have h1 : (headSpec ws rm).pre.before a A.U = true := atoms_intro fun w hw => hws w hw _ _ X.warmed
  have h2 : (Cond.codeWith y bytes maxL ret hh).before a A.U = true := hws _ hcode _ _ X.warmed
  have h3 : (Cond.initialized y.cls).before a A.U = true := hinit _ _ X.warmed
  have h4 : A.cells + (headSpec ws rm).room.cells ≤ R.cells := by rw [show (headSpec ws rm).room.cells = mc from hrc]; exact hp.1
  have h5 : A.slots + (headSpec ws rm).room.slots ≤ R.slots := by rw [show (headSpec ws rm).room.slots = ms from hrs]; exact hp.2.1
  have hPc : Pc a (A.U.calling g mk a) := hblind _ _ _ _ hp.2.2
  obtain ⟨U, Ls, c0, s0⟩ := A
  dsimp only [Pt.U, Pt.locs, Pt.cells, Pt.slots] at h1 h2 h3 h4 h5 X hn hPc ⊢
  obtain ⟨m9, methY, cY, hn9, hmY, hcY, -, hlY, -⟩ := Cond.codeWith_spec h2
  cases Option.some.inj (hn9.symm.trans hn)
  obtain ⟨kY, hkY, -⟩ := className_of_methodNamed hn
  have hinitY : kY.init = .initialized := Cond.initialized_spec (findClass_of_methodNamed hn) hkY h3
  have h : At U g.method c below := by rw [hg]; exact X.here
  have hlocals9 : W9 + (maxL + 11) + (headSpec ws rm).room.locals ≤ R.locals := hlocals
  have happ : (headSpec ws rm).appliesLoose y e.platform (U.calling g mk a) = true :=
    Spec.appliesLoose_calling (g := g) h hdg hn hkY hinitY
      (X.room_calling (g := g) (R' := (headSpec ws rm).room) hsize hmY hcY hframes (by rw [hlY]; omega) h4 h5) h1
  obtain ⟨mid, hmid⟩ := h.above
  have hfr : (U.setTop g).frames = (.java g :: mid) ++ below := by rw [State.frames_setTop' g h.top, hmid]; rfl
  obtain ⟨o, s₂, hsteps, -, hend, hq⟩ := Steps.callFree hM p X.admits X.cas X.clock (acts := []) hfr happ hPc trivial
  have hq' : vx_Q Qc XC mc ms free a (U.calling g mk a) o s₂ := hq
  rw [State.frames_setTop' g h.top] at hend
  obtain ⟨g₀, hg0⟩ := Option.isSome_iff_exists.mp h.top
  obtain ⟨r, hr⟩ := State.topJava?_eq_some.mp hg0
  have hr' : (({ U with heap := s₂.heap, slotsUsed := s₂.slotsUsed } : State).setVm s₂.vm).frames = .java g₀ :: r := hr
  rcases hq' with ⟨hqc, L, hfe, hL⟩ | ⟨q, rfl, E, ce, L, hx, hce, hcv, hcl, hW₂, hsm, hL⟩
  · obtain ⟨⟨v, rfl⟩, hW₂, e2, q2, q3, q4, q5, q6⟩ := id hfe
    have e3 : s₂ = ({ (U.calling g mk a).setFrames s₂.frames with heap := s₂.heap, slotsUsed := s₂.slotsUsed } : State).setVm s₂.vm := by
      have : s₂ = ({ s₂ with vm := (U.calling g mk a).vm } : State).setVm s₂.vm := rfl
      rw [e2] at this
      exact this
    obtain ⟨c₂, i₂, len₂, hc₂, hd₂, hf₂⟩ := hend
    have hW' : U.WarmedH s₂.vm := hW₂
    have hcc : c₂ = c := by
      have h1 : s₂.code? g.method = U.code? g.method := by
        rw [State.code?_eq, State.code?_eq, hW'.alike.method?]
      exact Option.some.inj (hc₂.symm.trans (h1.trans h.code))
    subst hcc
    have hlen : len₂ = len := by rw [hdg] at hd₂; cases hd₂; rfl
    subst hlen
    have hs₂ : s₂ = (({ U with heap := s₂.heap, slotsUsed := s₂.slotsUsed } : State).setVm s₂.vm).setTop { g with pc := g.pc + len₂, stack := v.toList ++ g.stack } := by
      refine e3.trans ?_
      rw [hf₂, State.calling_eq h.top, State.setFrames_setFrames, State.setTop_of_frames _ hr', hr]
      rfl
    have hsame : U.sameButNew ({ U with heap := s₂.heap, slotsUsed := s₂.slotsUsed } : State) L mc ms := by
      refine ⟨?_, q2, q3, q4, q5, q6⟩
      obtain ⟨t, ht, -⟩ := State.frames_cons hr
      show ({ U with heap := s₂.heap, slotsUsed := s₂.slotsUsed } : State) = { U.setFrames U.frames with heap := s₂.heap, slotsUsed := s₂.slotsUsed }
      rw [State.setFrames_self ht]
    subst hg
    refine Or.inl ⟨v, ⟨(({ U with heap := s₂.heap, slotsUsed := s₂.slotsUsed } : State).setVm s₂.vm), Ls ++ L, c0 + mc, s0 + ms⟩,
      ⟨X.admits, X.cas, X.clock, X.frames, X.room, X.hears, X.method, X.code, (X.here.setHeapUsed s₂.heap s₂.slotsUsed).setVm hW'.alike, X.tail, State.WarmedH.trans X.warmed hW', X.limits, X.bytes, X.same.trans (hsame.setVm s.vm)⟩,
      ⟨g, mk, s₂, L, rfl, rfl, hqc, rfl, hL, rfl, rfl⟩, ?_⟩
    show Steps p.tables e below _ ((({ U with heap := s₂.heap, slotsUsed := s₂.slotsUsed } : State).setVm s₂.vm).setTop { g with pc := g.pc + len₂, stack := v.toList ++ g.stack })
    rw [← hs₂]
    exact hsteps
  · obtain ⟨e2, q2, q3, q4, q5, q6⟩ := id hsm
    have e3 : s₂ = ({ (U.calling g mk a).setFrames s₂.frames with heap := s₂.heap, slotsUsed := s₂.slotsUsed } : State).setVm s₂.vm := by
      have : s₂ = ({ s₂ with vm := (U.calling g mk a).vm } : State).setVm s₂.vm := rfl
      rw [e2] at this
      exact this
    have hf₂ : s₂.frames = .throwing q :: .java g :: U.frames.tail := hend
    have hW' : U.WarmedH s₂.vm := hW₂
    have hs₂ : s₂ = ((({ U with heap := s₂.heap, slotsUsed := s₂.slotsUsed } : State).setVm s₂.vm).setTop g).pushFrame (.throwing q) := by
      refine e3.trans ?_
      rw [hf₂, State.calling_eq h.top, State.setFrames_setFrames, State.pushFrame, State.frames_setTop _ hr', State.setTop_of_frames _ hr', State.setFrames_setFrames, hr]
      rfl
    have hsame : U.sameButNew ({ U with heap := s₂.heap, slotsUsed := s₂.slotsUsed } : State) L mc ms := by
      refine ⟨?_, q2, q3, q4, q5, q6⟩
      obtain ⟨t, ht, -⟩ := State.frames_cons hr
      show ({ U with heap := s₂.heap, slotsUsed := s₂.slotsUsed } : State) = { U.setFrames U.frames with heap := s₂.heap, slotsUsed := s₂.slotsUsed }
      rw [State.setFrames_self ht]
    subst hg
    refine Or.inr ⟨q, ⟨(({ U with heap := s₂.heap, slotsUsed := s₂.slotsUsed } : State).setVm s₂.vm), Ls ++ L, c0 + mc, s0 + ms⟩,
      ⟨X.admits, X.cas, X.clock, X.frames, X.room, X.hears, X.method, X.code, (X.here.setHeapUsed s₂.heap s₂.slotsUsed).setVm hW'.alike, X.tail, State.WarmedH.trans X.warmed hW', X.limits, X.bytes, X.same.trans (hsame.setVm s.vm)⟩,
      ⟨g, mk, s₂, L, E, ce, rfl, rfl, hx, hce, hcv, hcl, rfl, hL, rfl, rfl⟩, ?_⟩
    show Steps p.tables e below _ (((({ U with heap := s₂.heap, slotsUsed := s₂.slotsUsed } : State).setVm s₂.vm).setTop g).pushFrame (.throwing q))
    rw [← hs₂]
    exact hsteps
end
variable {p : Program} {l : Launch} {e : Env} {R : Room} {s : State} {m : MethodId} {args : Array Value} {below : List Frame} {meth : Method} {c : Code} {T : State} {H : Heap} {locs : List Loc} {cells slots : Nat}
theorem vx_callVX (X : Stand p l e R s m args below meth c T locs cells slots) (hexec : p.tables.exec = Jvm.exec) {own C : String} {index : Nat} {y : MethodName} {bytes : ByteArray} {maxL : Nat} {ret : Option FieldType} {hh : List (Nat × Nat × Nat × Nat)}
    (hown : s.vm.findClass own = some m.cls) (hlink : (Cond.methodLink own index y).before args s = true) (hinst : (Cond.instanceMethod y).before args s = true) (hsel : (Cond.selects C y y).before args s = true)
    (hcode : (Cond.codeWith y bytes maxL ret hh).before args s = true) (hy : y.cls ≠ "java/lang/invoke/MethodHandle" ∧ y.cls ≠ "java/lang/invoke/VarHandle")
    {W9 : Nat} {Pre : Pt → Array Value → Prop} {Post : Pt → Array Value → Option Value → Pt → Prop} {PostX : Pt → Array Value → Addr → Pt → Prop} (hK : vx_Back l R p e below s args y 3 W9 Pre Post PostX)
    {b : Addr} {cellB : Cell} (hcell : T.heap[b]? = some cellB) (hobj : cellB.vm.isStatics = false) (hcls : s.vm.findClass C = some cellB.cls)
    {g : JFrame} (hg : g.method = m) (hsize : g.locals.size = c.maxLocals) {argsL rest : List Value} (hlen : ∀ sig, parseMethodDescriptor y.desc = some sig → argsL.length = sig.parameters.length)
    (hstack : g.stack = argsL.reverse ++ .ref b :: rest) (hW : 2 * g.monitorRoom + (rest.map fun v => v.category).sum ≤ W9) (hdg : decode c.code g.pc = .ok (.invokevirtual index, 3))
    (hpre : ∀ vm₁, s.WarmedH vm₁ → Pre ⟨T.setVm vm₁, locs, cells, slots⟩ (Value.ref b :: argsL).toArray) :
    (∃ (v : Option Value) (vm₁ : Vm) (B : Pt), s.WarmedH vm₁ ∧ Stand p l e R s m args below meth c B.U B.locs B.cells B.slots ∧ Post ⟨T.setVm vm₁, locs, cells, slots⟩ (Value.ref b :: argsL).toArray v B ∧
      ∀ target, Steps p.tables e below (B.U.setTop { g with pc := g.pc + 3, stack := v.toList ++ rest }) target → Steps p.tables e below (T.setTop g) target) ∨
    (∃ (q : Addr) (vm₁ : Vm) (B : Pt), s.WarmedH vm₁ ∧ Stand p l e R s m args below meth c B.U B.locs B.cells B.slots ∧ PostX ⟨T.setVm vm₁, locs, cells, slots⟩ (Value.ref b :: argsL).toArray q B ∧
      Steps p.tables e below (T.setTop g) ((B.U.setTop { g with stack := rest }).pushFrame (.throwing q))) := by
  obtain ⟨mk, methM, hnamed, hmethM, hstM, habM⟩ := Cond.instanceMethod_spec hinst
  obtain ⟨m8, methM', cM, hn8, hmethM', -, -, -, -, -, -, hsigM⟩ := Cond.codeWith_spec hcode
  cases Option.some.inj (hn8.symm.trans hnamed)
  cases hmethM.symm.trans hmethM'
  obtain ⟨c2, r2, m2, q1, q2, q3, q4, kP, hkP, hkPi⟩ := Cond.selects_spec hsel
  cases hcls.symm.trans q1
  cases (State.methodFound?_of_named hnamed hy).symm.trans q2
  cases hnamed.symm.trans q3
  have hselP : selectMethod e.platform s.vm cellB.cls mk = .method mk := by rw [Launch.admits_selectMethod X.admits]; exact q4
  obtain ⟨vm₁, X₁, hstep₁⟩ := X.invokevirtual hexec hown hlink hnamed hmethM hstM hkP hkPi hy (a := b) (cell := cellB) hcell
    (fun z h => by rw [h] at hobj; cases hobj) hselP hmethM habM hkP hkPi (g := g) hg (argsL := argsL) (rest := rest) (hlen _ hsigM) hstack hdg
  rcases hK m meth c ⟨T.setVm vm₁, locs, cells, slots⟩ { g with stack := rest } (.invokevirtual index) mk (Value.ref b :: argsL).toArray X₁ hg hsize hdg hW (X₁.named hnamed) (hpre vm₁ X₁.warmed) with ⟨v, B, X', hpost, hsteps⟩ | ⟨q, B, X', hpost, hsteps⟩
  · exact Or.inl ⟨v, vm₁, B, X₁.warmed, X', hpost, fun target h => hstep₁ _ fun acts => by rw [doInvoke_state]; exact hsteps.trans h⟩
  · exact Or.inr ⟨q, vm₁, B, X₁.warmed, X', hpost, hstep₁ _ fun acts => by rw [doInvoke_state]; exact hsteps⟩
theorem vx_callSX (X : Stand p l e R s m args below meth c T locs cells slots) (hexec : p.tables.exec = Jvm.exec) {own : String} {index : Nat} {y : MethodName} {bytes : ByteArray} {maxL : Nat} {ret : Option FieldType} {hh : List (Nat × Nat × Nat × Nat)}
    (hown : s.vm.findClass own = some m.cls) (hlink : (Cond.methodLink own index y).before args s = true) (hstat : (Cond.static y).before args s = true) (hinit : (Cond.initialized y.cls).before args s = true)
    (hcode : (Cond.codeWith y bytes maxL ret hh).before args s = true) (hy : y.cls ≠ "java/lang/invoke/MethodHandle" ∧ y.cls ≠ "java/lang/invoke/VarHandle")
    {W9 : Nat} {Pre : Pt → Array Value → Prop} {Post : Pt → Array Value → Option Value → Pt → Prop} {PostX : Pt → Array Value → Addr → Pt → Prop} (hK : vx_Back l R p e below s args y 3 W9 Pre Post PostX)
    {g : JFrame} (hg : g.method = m) (hsize : g.locals.size = c.maxLocals) {argsL rest : List Value} (hlen : ∀ sig, parseMethodDescriptor y.desc = some sig → argsL.length = sig.parameters.length)
    (hstack : g.stack = argsL.reverse ++ rest) (hW : 2 * g.monitorRoom + (rest.map fun v => v.category).sum ≤ W9) (hdg : decode c.code g.pc = .ok (.invokestatic index, 3))
    (hpre : ∀ vm₁, s.WarmedH vm₁ → Pre ⟨T.setVm vm₁, locs, cells, slots⟩ argsL.toArray) :
    (∃ (v : Option Value) (vm₁ : Vm) (B : Pt), s.WarmedH vm₁ ∧ Stand p l e R s m args below meth c B.U B.locs B.cells B.slots ∧ Post ⟨T.setVm vm₁, locs, cells, slots⟩ argsL.toArray v B ∧
      ∀ target, Steps p.tables e below (B.U.setTop { g with pc := g.pc + 3, stack := v.toList ++ rest }) target → Steps p.tables e below (T.setTop g) target) ∨
    (∃ (q : Addr) (vm₁ : Vm) (B : Pt), s.WarmedH vm₁ ∧ Stand p l e R s m args below meth c B.U B.locs B.cells B.slots ∧ PostX ⟨T.setVm vm₁, locs, cells, slots⟩ argsL.toArray q B ∧
      Steps p.tables e below (T.setTop g) ((B.U.setTop { g with stack := rest }).pushFrame (.throwing q))) := by
  obtain ⟨mk, methM, cM, hnamed, hmethM, -, -, -, -, -, -, hsigM⟩ := Cond.codeWith_spec hcode
  have hstatic : methM.isStatic = true := Cond.static_spec hnamed hmethM hstat
  obtain ⟨kP, hkP, -⟩ := className_of_methodNamed hnamed
  have hinitP : kP.init = .initialized := Cond.initialized_spec (findClass_of_methodNamed hnamed) hkP hinit
  obtain ⟨vm₁, X₁, hstep₁⟩ := X.invokestatic hexec hown hlink hnamed hmethM hstatic hkP hinitP hy (g := g) hg (argsL := argsL) (rest := rest) (hlen _ hsigM) hstack hdg
  rcases hK m meth c ⟨T.setVm vm₁, locs, cells, slots⟩ { g with stack := rest } (.invokestatic index) mk argsL.toArray X₁ hg hsize hdg hW (X₁.named hnamed) (hpre vm₁ X₁.warmed) with ⟨v, B, X', hpost, hsteps⟩ | ⟨q, B, X', hpost, hsteps⟩
  · exact Or.inl ⟨v, vm₁, B, X₁.warmed, X', hpost, fun target h => hstep₁ _ fun acts => by rw [doInvoke_state]; exact hsteps.trans h⟩
  · exact Or.inr ⟨q, vm₁, B, X₁.warmed, X', hpost, hstep₁ _ fun acts => by rw [doInvoke_state]; exact hsteps⟩
theorem vx_callVW (X : Stand p l e R s m args below meth c T locs cells slots) (hexec : p.tables.exec = Jvm.exec) {own C : String} {index : Nat} {y : MethodName} {bytes : ByteArray} {maxL : Nat} {ret : Option FieldType} {hh : List (Nat × Nat × Nat × Nat)}
    (hown : s.vm.findClass own = some m.cls) (hlink : (Cond.methodLink own index y).before args s = true) (hinst : (Cond.instanceMethod y).before args s = true) (hsel : (Cond.selects C y y).before args s = true)
    (hcode : (Cond.codeWith y bytes maxL ret hh).before args s = true) (hy : y.cls ≠ "java/lang/invoke/MethodHandle" ∧ y.cls ≠ "java/lang/invoke/VarHandle")
    {W9 : Nat} {Pre : Pt → Array Value → Prop} {Post : Pt → Array Value → Option Value → Pt → Prop} (hK : Back l R p e below s args y 3 W9 Pre Post)
    {b : Addr} {cellB : Cell} (hcell : T.heap[b]? = some cellB) (hobj : cellB.vm.isStatics = false) (hcls : s.vm.findClass C = some cellB.cls)
    {g : JFrame} (hg : g.method = m) (hsize : g.locals.size = c.maxLocals) {argsL rest : List Value} (hlen : ∀ sig, parseMethodDescriptor y.desc = some sig → argsL.length = sig.parameters.length)
    (hstack : g.stack = argsL.reverse ++ .ref b :: rest) (hW : 2 * g.monitorRoom + (rest.map fun v => v.category).sum ≤ W9) (hdg : decode c.code g.pc = .ok (.invokevirtual index, 3))
    (hpre : ∀ vm₁, s.WarmedH vm₁ → Pre ⟨T.setVm vm₁, locs, cells, slots⟩ (Value.ref b :: argsL).toArray) :
    ∃ (v : Option Value) (vm₁ : Vm) (B : Pt), s.WarmedH vm₁ ∧ Stand p l e R s m args below meth c B.U B.locs B.cells B.slots ∧ Post ⟨T.setVm vm₁, locs, cells, slots⟩ (Value.ref b :: argsL).toArray v B ∧
      ∀ target, Steps p.tables e below (B.U.setTop { g with pc := g.pc + 3, stack := v.toList ++ rest }) target → Steps p.tables e below (T.setTop g) target := by
  obtain ⟨mk, methM, hnamed, hmethM, hstM, habM⟩ := Cond.instanceMethod_spec hinst
  obtain ⟨m8, methM', cM, hn8, hmethM', -, -, -, -, -, -, hsigM⟩ := Cond.codeWith_spec hcode
  cases Option.some.inj (hn8.symm.trans hnamed)
  cases hmethM.symm.trans hmethM'
  obtain ⟨c2, r2, m2, q1, q2, q3, q4, kP, hkP, hkPi⟩ := Cond.selects_spec hsel
  cases hcls.symm.trans q1
  cases (State.methodFound?_of_named hnamed hy).symm.trans q2
  cases hnamed.symm.trans q3
  have hselP : selectMethod e.platform s.vm cellB.cls mk = .method mk := by rw [Launch.admits_selectMethod X.admits]; exact q4
  obtain ⟨vm₁, X₁, hstep₁⟩ := X.invokevirtual hexec hown hlink hnamed hmethM hstM hkP hkPi hy (a := b) (cell := cellB) hcell
    (fun z h => by rw [h] at hobj; cases hobj) hselP hmethM habM hkP hkPi (g := g) hg (argsL := argsL) (rest := rest) (hlen _ hsigM) hstack hdg
  obtain ⟨v, B, X', hpost, hsteps⟩ := hK m meth c ⟨T.setVm vm₁, locs, cells, slots⟩ { g with stack := rest } (.invokevirtual index) mk (Value.ref b :: argsL).toArray X₁ hg hsize hdg hW (X₁.named hnamed) (hpre vm₁ X₁.warmed)
  exact ⟨v, vm₁, B, X₁.warmed, X', hpost, fun target h => hstep₁ _ fun acts => by rw [doInvoke_state]; exact hsteps.trans h⟩
abbrev vx_CVW (R : Room) (s : State) (args : Array Value) (own C : String) (index : Nat) (y : MethodName) (bytes : ByteArray) (maxL : Nat) (ret : Option FieldType) (hh : List (Nat × Nat × Nat × Nat)) (ws : List Cond) (rm : Room) (mc ms n : Nat) : Prop :=
  (rm.cells = mc ∧ rm.slots = ms ∧ rm.frames + 1 ≤ R.frames ∧ 8 + (maxL + 11) + rm.locals ≤ R.locals ∧ (∀ w ∈ ws, ∀ (a' : Array Value) (U : State), s.WarmedH U.vm → w.before a' U = true) ∧ Cond.codeWith y bytes maxL ret hh ∈ ws) ∧
  (Cond.codeWith y bytes maxL ret hh).before args s = true ∧ (Cond.initialized y.cls).before args s = true ∧ (y.cls ≠ "java/lang/invoke/MethodHandle" ∧ y.cls ≠ "java/lang/invoke/VarHandle") ∧
  (∀ sig, parseMethodDescriptor y.desc = some sig → n = sig.parameters.length) ∧ (Cond.methodLink own index y).before args s = true ∧ (Cond.instanceMethod y).before args s = true ∧ (Cond.selects C y y).before args s = true
theorem vx_cwVW {own C : String} {index maxL mc ms : Nat} {y : MethodName} {bytes : ByteArray} {ret : Option FieldType} {hh : List (Nat × Nat × Nat × Nat)} {Ts ws ws' : List Cond} {rm : Room} (n : Nat) (ht : ∀ w ∈ Ts, w.before args s = true) (hT : GoodIn Ts (wsV own index C y ws)) (hw : ws = Cond.codeWith y bytes maxL ret hh :: ws') (hrc : rm.cells = mc) (hrs : rm.slots = ms)
    (hd : y.cls = C ∧ y.cls ≠ "java/lang/invoke/MethodHandle" ∧ y.cls ≠ "java/lang/invoke/VarHandle" ∧ (parseMethodDescriptor y.desc).map (fun d => d.parameters.length) = some n) (hR : rm.frames + 1 ≤ R.frames ∧ 8 + (maxL + 11) + rm.locals ≤ R.locals) :
    vx_CVW R s args own C index y bytes maxL ret hh ws rm mc ms n := by
  obtain ⟨hC, hd⟩ := hd
  subst hC
  have ok : ∀ w ∈ wsV own index y.cls y ws, w.before args s = true := fun w h => ht w (hT w h).1
  have hG : GoodIn Ts ws := fun w h => hT w (by unfold wsV; exact List.mem_append_right _ h)
  have hc : Cond.codeWith y bytes maxL ret hh ∈ ws := by rw [hw]; exact List.mem_cons_self
  refine ⟨⟨hrc, hrs, hR.1, hR.2, pay_in ht hG, hc⟩, ht _ (hG _ hc).1, ok _ (by simp [wsV]), ⟨hd.1, hd.2.1⟩, fun sig h => ?_, ok _ (by simp [wsV]), ok _ (by simp [wsV]), ok _ (by simp [wsV])⟩
  have h2 := hd.2.2
  rw [h] at h2
  exact (Option.some.inj h2).symm
theorem vx_runVW {y : MethodName} {bytes cc : ByteArray} {maxL nL mc ms n index : Nat} {ret : Option FieldType} {hh : List (Nat × Nat × Nat × Nat)} {ws : List Cond} {rm : Room} {Pc : Array Value → State → Prop} {Qc : Array Value → State → Outcome → State → Prop} {free : Addr → Prop} {Ts : List Cond} {own C : String} {b : Addr} {As rest : List Value} {g : JFrame}
    (S : CallFix p m c cc nL s args Ts own) (hM : Met l y ws rm Pc Qc mc ms free) (cw : vx_CVW R s args own C index y bytes maxL ret hh ws rm mc ms n) (hp : PreV s H C b Pc As)
    (hg : g.method = m) (hn : As.length = n) (hsize : g.locals.size = nL) (hstack : g.stack = As.reverse ++ .ref b :: rest) (hW : 2 * g.monitorRoom + (rest.map fun v => v.category).sum ≤ 8) (hdg : decode cc g.pc = .ok (.invokevirtual index, 3)) (hf : cells + mc ≤ R.cells ∧ slots + ms ≤ R.slots) :
    va_Run p l e R s m args below meth c H locs cells slots mc ms g rest (Qc (Value.ref b :: As).toArray) free := by
  obtain ⟨⟨hrc, hrs, hfr, hlo, hws, hcw⟩, hcode, hini, hy, hlen, hl, hin, hse⟩ := cw
  have hK : Back l R p e below s args y 3 8 (PreOf R mc ms Pc) (PostOf Qc mc ms free) := va_backW (hh := hh) (bytes := bytes) (maxL := maxL) (ret := ret) hM hp.1 hrc hrs hfr hlo hws hcw (fun a' U hW => word_at hW (Or.inl (by first | rfl | simp [Cond.onTables, Cond.keeps, Cond.steady])) hini)
  obtain ⟨hx, hb, hml, ho, -⟩ := S
  obtain ⟨-, ⟨cellB, hcB, hoB, hclB⟩, hPc⟩ := hp
  intro T hT X
  obtain ⟨v, vm₁, ⟨U', l2, c2, s2⟩, hW₁, X', ⟨g', mk, t, L, e1, e2, hq, h1, hL, h2, h3⟩, st⟩ := vx_callVW X hx (C := C) (hh := hh) (bytes := bytes) (maxL := maxL) (ret := ret) ho hl hin hse hcode hy hK (by rw [hT]; exact hcB) hoB hclB hg (hsize.trans hml.symm) (argsL := As) (rest := rest) (fun sig h => hn.trans (hlen sig h)) hstack hW (by rw [hb]; exact hdg)
    (fun vm₁ hW₁ => ⟨hf.1, hf.2, hPc (T.setVm vm₁) hT hW₁⟩)
  dsimp only [Pt.U, Pt.locs, Pt.cells, Pt.slots] at X' e1 e2 h1 h2 h3 st
  subst h1; subst h2; subst h3
  exact ⟨v, (T.setVm vm₁).calling g' mk (Value.ref b :: As).toArray, t, U', L, hT, X', hL, e1, e2, hq, st⟩
section
variable {y : MethodName} {bytes cc : ByteArray} {maxL nL mc ms n index : Nat} {ret : Option FieldType} {ws : List Cond} {rm : Room} {Pc : Array Value → State → Prop} {Qc : Array Value → State → Outcome → State → Prop} {XC : String → State → State → Prop} {free : Addr → Prop} {Ts : List Cond} {own C : String} {b : Addr} {As rest : List Value} {g : JFrame}
theorem vx_runVX {hh : List (Nat × Nat × Nat × Nat)} (S : CallFix p m c cc nL s args Ts own) (hM : vx_Met l y ws rm Pc Qc XC mc ms free) (cw : vx_CVW R s args own C index y bytes maxL ret hh ws rm mc ms n) (hp : PreV s H C b Pc As)
    (hg : g.method = m) (hn : As.length = n) (hsize : g.locals.size = nL) (hstack : g.stack = As.reverse ++ .ref b :: rest) (hW : 2 * g.monitorRoom + (rest.map fun v => v.category).sum ≤ 8) (hdg : decode cc g.pc = .ok (.invokevirtual index, 3)) (hf : cells + mc ≤ R.cells ∧ slots + ms ≤ R.slots) :
    vx_Run p l e R s m args below meth c H locs cells slots mc ms g rest (Qc (Value.ref b :: As).toArray) XC free := by
  obtain ⟨⟨hrc, hrs, hfr, hlo, hws, hcw⟩, hcode, hini, hy, hlen, hl, hin, hse⟩ := cw
  have hK : vx_Back l R p e below s args y 3 8 (PreOf R mc ms Pc) (PostOf Qc mc ms free) (vx_Post XC mc ms free) := vx_backW (hh := hh) (bytes := bytes) (maxL := maxL) (ret := ret) hM hp.1 hrc hrs hfr hlo hws hcw (fun a' U hW => word_at hW (Or.inl (by first | rfl | simp [Cond.onTables, Cond.keeps, Cond.steady])) hini)
  obtain ⟨hx, hb, hml, ho, -⟩ := S
  obtain ⟨-, ⟨cellB, hcB, hoB, hclB⟩, hPc⟩ := hp
  intro T hT X
  rcases vx_callVX X hx (C := C) (hh := hh) (bytes := bytes) (maxL := maxL) (ret := ret) ho hl hin hse hcode hy hK (by rw [hT]; exact hcB) hoB hclB hg (hsize.trans hml.symm) (argsL := As) (rest := rest) (fun sig h => hn.trans (hlen sig h)) hstack hW (by rw [hb]; exact hdg)
    (fun vm₁ hW₁ => ⟨hf.1, hf.2, hPc (T.setVm vm₁) hT hW₁⟩) with ⟨v, vm₁, ⟨U', l2, c2, s2⟩, hW₁, X', ⟨g', mk, t, L, e1, e2, hq, h1, hL, h2, h3⟩, st⟩ | ⟨q, vm₁, ⟨U', l2, c2, s2⟩, hW₁, X', ⟨g', mk, t, L, E, ce, e1, e2, hq, hce, hcv, hcl, h1, hL, h2, h3⟩, st⟩
  · dsimp only [Pt.U, Pt.locs, Pt.cells, Pt.slots] at X' e1 e2 h1 h2 h3 st
    subst h1; subst h2; subst h3
    exact Or.inl ⟨v, (T.setVm vm₁).calling g' mk (Value.ref b :: As).toArray, t, U', L, hT, X', hL, e1, e2, hq, st⟩
  · dsimp only [Pt.U, Pt.locs, Pt.cells, Pt.slots] at X' e1 e2 h1 h2 h3 st hcl
    subst h1; subst h2; subst h3
    exact Or.inr ⟨q, (T.setVm vm₁).calling g' mk (Value.ref b :: As).toArray, t, U', L, E, ce, hT, X', hL, e1, e2, hq, hce, hcv, vx_cls hW₁ hcl, st⟩
theorem vx_runSX {hh : List (Nat × Nat × Nat × Nat)} (S : CallFix p m c cc nL s args Ts own) (hM : vx_Met l y ws rm Pc Qc XC mc ms free) (cw : vx_CSW R s args own index y bytes maxL ret hh ws rm mc ms n) (hp : PreS s H Pc As)
    (hg : g.method = m) (hn : As.length = n) (hsize : g.locals.size = nL) (hstack : g.stack = As.reverse ++ rest) (hW : 2 * g.monitorRoom + (rest.map fun v => v.category).sum ≤ 8) (hdg : decode cc g.pc = .ok (.invokestatic index, 3)) (hf : cells + mc ≤ R.cells ∧ slots + ms ≤ R.slots) :
    vx_Run p l e R s m args below meth c H locs cells slots mc ms g rest (Qc As.toArray) XC free := by
  obtain ⟨⟨hrc, hrs, hfr, hlo, hws, hcw⟩, hcode, hini, hy, hlen, hl, hstt⟩ := cw
  have hK : vx_Back l R p e below s args y 3 8 (PreOf R mc ms Pc) (PostOf Qc mc ms free) (vx_Post XC mc ms free) := vx_backW (hh := hh) (bytes := bytes) (maxL := maxL) (ret := ret) hM hp.1 hrc hrs hfr hlo hws hcw (fun a' U hW => word_at hW (Or.inl (by first | rfl | simp [Cond.onTables, Cond.keeps, Cond.steady])) hini)
  obtain ⟨hx, hb, hml, ho, -⟩ := S
  intro T hT X
  rcases vx_callSX X hx (hh := hh) (bytes := bytes) (maxL := maxL) (ret := ret) ho hl hstt hini hcode hy hK hg (hsize.trans hml.symm) (argsL := As) (rest := rest) (fun sig h => hn.trans (hlen sig h)) hstack hW (by rw [hb]; exact hdg)
    (fun vm₁ hW₁ => ⟨hf.1, hf.2, hp.2 (T.setVm vm₁) hT hW₁⟩) with ⟨v, vm₁, ⟨U', l2, c2, s2⟩, hW₁, X', ⟨g', mk, t, L, e1, e2, hq, h1, hL, h2, h3⟩, st⟩ | ⟨q, vm₁, ⟨U', l2, c2, s2⟩, hW₁, X', ⟨g', mk, t, L, E, ce, e1, e2, hq, hce, hcv, hcl, h1, hL, h2, h3⟩, st⟩
  · dsimp only [Pt.U, Pt.locs, Pt.cells, Pt.slots] at X' e1 e2 h1 h2 h3 st
    subst h1; subst h2; subst h3
    exact Or.inl ⟨v, (T.setVm vm₁).calling g' mk As.toArray, t, U', L, hT, X', hL, e1, e2, hq, st⟩
  · dsimp only [Pt.U, Pt.locs, Pt.cells, Pt.slots] at X' e1 e2 h1 h2 h3 st hcl
    subst h1; subst h2; subst h3
    exact Or.inr ⟨q, (T.setVm vm₁).calling g' mk As.toArray, t, U', L, E, ce, hT, X', hL, e1, e2, hq, hce, hcv, vx_cls hW₁ hcl, st⟩
end
end VXH
theorem vx_ofWH {l : Launch} {y : MethodName} {ws ws' : List Cond} {rm : Room} {Pc : Array Value → State → Prop} {Qc : Array Value → State → Outcome → State → Prop} {XC : String → State → State → Prop} {mc ms : Nat} {free : Addr → Prop} {cc : ByteArray} {maxL : Nat} {ret : Option FieldType} {hh : List (Nat × Nat × Nat × Nat)}
    (hy : plainName y.cls = true) (hw : ws = Cond.codeWith y cc maxL ret hh :: ws')
    (body : ∀ p e s m args below meth c s₁, BodyLoose p l y (headSpec ws rm) cc maxL ret e s m args below meth c s₁ → c.maxLocals = maxL → Pc args s →
      W p l e (headSpec ws rm).room s m args below meth c s.heap [] 0 0 (vx_MQ below Qc XC args s mc ms free) (entryFrame m args maxL)) : vx_Met l y ws rm Pc Qc XC mc ms free := by
  refine MetFree.of_bodyS (code := cc) (maxLocals := maxL) (ret := ret) hy ?_ ?_
  · intro args s m h hn
    obtain ⟨m9, meth, c, hn9, h1, h2, h3, h4, -, h5, h6, -⟩ := Cond.codeWith_spec (atoms_spec (ws := ws) h _ (by rw [hw]; exact List.mem_cons_self))
    cases hn.symm.trans hn9
    exact ⟨meth, c, h1, h2, h3, h4, h5, h6⟩
  · intro p e s m args below meth c s₁ B hml hP _
    have hh0 : s₁.heap = s.heap := by rw [B.state]; rfl
    obtain ⟨t, a1, o, b1, b2, b3⟩ := body p e s m args below meth c s₁ B hml hP s₁ hh0 (Stand.of_body B)
    exact ⟨t, o, a1, b1, b2, b3⟩
/-! ===== END ===== -/
end
section
/-! ===== BEGIN printed: names, fields, word lists, decode rows ===== -/
def RX0 : String := "RumourCustoms$Carrier"
def TX0 : u_T := fun k => match k with
  | 0 => ("RumourCustoms$Carrier", "number", "I", true)
  | 1 => ("RumourCustoms$Carrier", "town", "I", false)
  | 2 => ("RumourCustoms$Carrier", "hoursLeft", "I", false)
  | 3 => ("RumourCustoms$Carrier", "purse", "I", false)
  | _ => ("RumourCustoms$Carrier", "paid", "I", false)
def tyX0 : Nat → FieldType := fun k => match k with
  | 0 => .int
  | 1 => .int
  | 2 => .int
  | 3 => .int
  | _ => .int
abbrev wsX00 : List Cond := u_ws RX0 TX0 5
theorem nmX0 : ∀ a, a < 5 → ∀ b, b < 5 → a ≠ b → (TX0 a).2.1 ≠ (TX0 b).2.1 := by decide +kernel
theorem tyX0_ok : ∀ k, k < 5 → parseFieldDescriptor (TX0 k).2.2.1 = some (tyX0 k) := by decide +kernel
abbrev cX0_init : ByteArray := prog_2_method_1_code
def yX0_init : MethodName := ⟨RX0, "<init>", "(III)V"⟩
abbrev cX0_isOnTheWay : ByteArray := prog_2_method_2_code
def yX0_isOnTheWay : MethodName := ⟨RX0, "isOnTheWay", "()Z"⟩
abbrev cX0_pay : ByteArray := prog_2_method_3_code
def yX0_pay : MethodName := ⟨RX0, "pay", "(I)V"⟩
abbrev cX0_setOut : ByteArray := prog_2_method_4_code
def yX0_setOut : MethodName := ⟨RX0, "setOut", "(II)V"⟩
abbrev cX0_comesWithin : ByteArray := prog_2_method_5_code
def yX0_comesWithin : MethodName := ⟨RX0, "comesWithin", "(I)Z"⟩
def RX1 : String := "RumourCustoms$Road"
def TX1 : u_T := fun k => match k with
  | 0 => ("RumourCustoms$Road", "hours", "I", true)
  | 1 => ("RumourCustoms$Road", "tariff", "I", true)
  | 2 => ("RumourCustoms$Road", "surcharge", "I", true)
  | 3 => ("RumourCustoms$Road", "strictness", "I", true)
  | 4 => ("RumourCustoms$Road", "attention", "I", false)
  | _ => ("RumourCustoms$Road", "paid", "I", false)
def tyX1 : Nat → FieldType := fun k => match k with
  | 0 => .int
  | 1 => .int
  | 2 => .int
  | 3 => .int
  | 4 => .int
  | _ => .int
abbrev wsX10 : List Cond := u_ws RX1 TX1 6
theorem nmX1 : ∀ a, a < 6 → ∀ b, b < 6 → a ≠ b → (TX1 a).2.1 ≠ (TX1 b).2.1 := by decide +kernel
theorem tyX1_ok : ∀ k, k < 6 → parseFieldDescriptor (TX1 k).2.2.1 = some (tyX1 k) := by decide +kernel
abbrev cX1_init : ByteArray := prog_3_method_1_code
def yX1_init : MethodName := ⟨RX1, "<init>", "(IIII)V"⟩
abbrev cX1_dutyOf : ByteArray := prog_3_method_2_code
def yX1_dutyOf : MethodName := ⟨RX1, "dutyOf", "(LRumourCustoms$Rumour;I)I"⟩
abbrev cX1_attentionBehind : ByteArray := prog_3_method_3_code
def yX1_attentionBehind : MethodName := ⟨RX1, "attentionBehind", "(I)I"⟩
abbrev cX1_figure : ByteArray := prog_3_method_4_code
def yX1_figure : MethodName := ⟨RX1, "figure", "(I)I"⟩
def RX2 : String := "RumourCustoms$RoadMap"
def TX2 : u_T := fun k => match k with
  | _ => ("RumourCustoms$RoadMap", "roads", "[LRumourCustoms$Road;", true)
def tyX2 : Nat → FieldType := fun k => match k with
  | _ => .array (.object "RumourCustoms$Road")
abbrev wsX20 : List Cond := u_ws RX2 TX2 1
theorem nmX2 : ∀ a, a < 1 → ∀ b, b < 1 → a ≠ b → (TX2 a).2.1 ≠ (TX2 b).2.1 := by decide +kernel
theorem tyX2_ok : ∀ k, k < 1 → parseFieldDescriptor (TX2 k).2.2.1 = some (tyX2 k) := by decide +kernel
abbrev cX2_init : ByteArray := prog_4_method_1_code
def yX2_init : MethodName := ⟨RX2, "<init>", "()V"⟩
abbrev cX2_put : ByteArray := prog_4_method_2_code
def yX2_put : MethodName := ⟨RX2, "put", "(IILRumourCustoms$Road;)V"⟩
abbrev cX2_between : ByteArray := prog_4_method_3_code
def yX2_between : MethodName := ⟨RX2, "between", "(II)LRumourCustoms$Road;"⟩
abbrev cX2_isOnMap : ByteArray := prog_4_method_4_code
def yX2_isOnMap : MethodName := ⟨RX2, "isOnMap", "(I)Z"⟩
def RX3 : String := "RumourCustoms$Rumour"
def TX3 : u_T := fun k => match k with
  | 0 => ("RumourCustoms$Rumour", "number", "I", true)
  | 1 => ("RumourCustoms$Rumour", "family", "I", true)
  | 2 => ("RumourCustoms$Rumour", "length", "I", true)
  | 3 => ("RumourCustoms$Rumour", "depth", "I", true)
  | 4 => ("RumourCustoms$Rumour", "proofs", "I", false)
  | 5 => ("RumourCustoms$Rumour", "town", "I", false)
  | 6 => ("RumourCustoms$Rumour", "bagOf", "I", false)
  | _ => ("RumourCustoms$Rumour", "isHidden", "Z", false)
def tyX3 : Nat → FieldType := fun k => match k with
  | 0 => .int
  | 1 => .int
  | 2 => .int
  | 3 => .int
  | 4 => .int
  | 5 => .int
  | 6 => .int
  | _ => .boolean
abbrev wsX30 : List Cond := u_ws RX3 TX3 8
theorem nmX3 : ∀ a, a < 8 → ∀ b, b < 8 → a ≠ b → (TX3 a).2.1 ≠ (TX3 b).2.1 := by decide +kernel
theorem tyX3_ok : ∀ k, k < 8 → parseFieldDescriptor (TX3 k).2.2.1 = some (tyX3 k) := by decide +kernel
abbrev cX3_init : ByteArray := prog_5_method_1_code
def yX3_init : MethodName := ⟨RX3, "<init>", "(IIIIII)V"⟩
abbrev cX3_putIntoBag : ByteArray := prog_5_method_2_code
def yX3_putIntoBag : MethodName := ⟨RX3, "putIntoBag", "(LRumourCustoms$Carrier;)V"⟩
abbrev cX3_putIntoTown : ByteArray := prog_5_method_3_code
def yX3_putIntoTown : MethodName := ⟨RX3, "putIntoTown", "(I)V"⟩
abbrev cX3_vanish : ByteArray := prog_5_method_4_code
def yX3_vanish : MethodName := ⟨RX3, "vanish", "()V"⟩
abbrev cX3_move : ByteArray := prog_5_method_5_code
def yX3_move : MethodName := ⟨RX3, "move", "(II)V"⟩
abbrev cX3_isGone : ByteArray := prog_5_method_6_code
def yX3_isGone : MethodName := ⟨RX3, "isGone", "()Z"⟩
abbrev cX3_isInBagOf : ByteArray := prog_5_method_7_code
def yX3_isInBagOf : MethodName := ⟨RX3, "isInBagOf", "(LRumourCustoms$Carrier;)Z"⟩
abbrev cX3_isHiddenBy : ByteArray := prog_5_method_8_code
def yX3_isHiddenBy : MethodName := ⟨RX3, "isHiddenBy", "(LRumourCustoms$Carrier;)Z"⟩
abbrev cX3_isShownBy : ByteArray := prog_5_method_9_code
def yX3_isShownBy : MethodName := ⟨RX3, "isShownBy", "(LRumourCustoms$Carrier;)Z"⟩
abbrev cX3_burnable : ByteArray := prog_5_method_10_code
def yX3_burnable : MethodName := ⟨RX3, "burnable", "(I)I"⟩
abbrev cX3_figure : ByteArray := prog_5_method_11_code
def yX3_figure : MethodName := ⟨RX3, "figure", "(I)I"⟩
def RX4 : String := "RumourCustoms$WaySearch"
def TX4 : u_T := fun k => match k with
  | 0 => ("RumourCustoms$WaySearch", "map", "LRumourCustoms$RoadMap;", true)
  | 1 => ("RumourCustoms$WaySearch", "prices", "[I", true)
  | _ => ("RumourCustoms$WaySearch", "areSettled", "[Z", true)
def tyX4 : Nat → FieldType := fun k => match k with
  | 0 => .object "RumourCustoms$RoadMap"
  | 1 => .array .int
  | _ => .array .boolean
abbrev wsX40 : List Cond := u_ws RX4 TX4 3
theorem nmX4 : ∀ a, a < 3 → ∀ b, b < 3 → a ≠ b → (TX4 a).2.1 ≠ (TX4 b).2.1 := by decide +kernel
theorem tyX4_ok : ∀ k, k < 3 → parseFieldDescriptor (TX4 k).2.2.1 = some (tyX4 k) := by decide +kernel
abbrev cX4_init : ByteArray := prog_6_method_1_code
def yX4_init : MethodName := ⟨RX4, "<init>", "(LRumourCustoms$RoadMap;)V"⟩
abbrev cX4_dutiesOf : ByteArray := prog_6_method_2_code
def yX4_dutiesOf : MethodName := ⟨RX4, "dutiesOf", "(I)I"⟩
abbrev cX4_hoursOf : ByteArray := prog_6_method_3_code
def yX4_hoursOf : MethodName := ⟨RX4, "hoursOf", "(I)I"⟩
abbrev cX4_leastPrice : ByteArray := prog_6_method_4_code
def yX4_leastPrice : MethodName := ⟨RX4, "leastPrice", "(LRumourCustoms$Rumour;II)I"⟩
abbrev cX4_startIn : ByteArray := prog_6_method_5_code
def yX4_startIn : MethodName := ⟨RX4, "startIn", "(I)V"⟩
abbrev cX4_nextStage : ByteArray := prog_6_method_6_code
def yX4_nextStage : MethodName := ⟨RX4, "nextStage", "()I"⟩
abbrev cX4_goOnFrom : ByteArray := prog_6_method_7_code
def yX4_goOnFrom : MethodName := ⟨RX4, "goOnFrom", "(ILRumourCustoms$Rumour;)V"⟩
abbrev cX4_goBy : ByteArray := prog_6_method_8_code
def yX4_goBy : MethodName := ⟨RX4, "goBy", "(LRumourCustoms$Road;IILRumourCustoms$Rumour;)V"⟩
abbrev cX4_townOf : ByteArray := prog_6_method_9_code
def yX4_townOf : MethodName := ⟨RX4, "townOf", "(I)I"⟩
abbrev cX4_burntAt : ByteArray := prog_6_method_10_code
def yX4_burntAt : MethodName := ⟨RX4, "burntAt", "(I)I"⟩
def RX5 : String := "RumourCustoms"
def TX5 : u_T := fun k => match k with
  | 0 => ("RumourCustoms", "map", "LRumourCustoms$RoadMap;", true)
  | 1 => ("RumourCustoms", "ways", "LRumourCustoms$WaySearch;", true)
  | 2 => ("RumourCustoms", "rumours", "Ljava/util/ArrayList;", true)
  | 3 => ("RumourCustoms", "carriers", "Ljava/util/ArrayList;", true)
  | 4 => ("RumourCustoms", "townCount", "I", false)
  | 5 => ("RumourCustoms", "roadCount", "I", false)
  | 6 => ("RumourCustoms", "hour", "I", false)
  | 7 => ("RumourCustoms", "proofsBurnt", "I", false)
  | 8 => ("RumourCustoms", "dutiesPaid", "I", false)
  | 9 => ("RumourCustoms", "finesPaid", "I", false)
  | _ => ("RumourCustoms", "searches", "I", false)
def tyX5 : Nat → FieldType := fun k => match k with
  | 0 => .object "RumourCustoms$RoadMap"
  | 1 => .object "RumourCustoms$WaySearch"
  | 2 => .object "java/util/ArrayList"
  | 3 => .object "java/util/ArrayList"
  | 4 => .int
  | 5 => .int
  | 6 => .int
  | 7 => .int
  | 8 => .int
  | 9 => .int
  | _ => .int
abbrev wsX50 : List Cond := u_ws RX5 TX5 11
theorem nmX5 : ∀ a, a < 11 → ∀ b, b < 11 → a ≠ b → (TX5 a).2.1 ≠ (TX5 b).2.1 := by decide +kernel
theorem tyX5_ok : ∀ k, k < 11 → parseFieldDescriptor (TX5 k).2.2.1 = some (tyX5 k) := by decide +kernel
abbrev cX5_init : ByteArray := prog_1_method_1_code
def yX5_init : MethodName := ⟨RX5, "<init>", "()V"⟩
abbrev cX5_addTown : ByteArray := prog_1_method_2_code
def yX5_addTown : MethodName := ⟨RX5, "addTown", "()I"⟩
abbrev cX5_build : ByteArray := prog_1_method_3_code
def yX5_build : MethodName := ⟨RX5, "build", "(IIIIII)I"⟩
abbrev cX5_road : ByteArray := prog_1_method_4_code
def yX5_road : MethodName := ⟨RX5, "road", "(III)I"⟩
abbrev cX5_makeUp : ByteArray := prog_1_method_5_code
def yX5_makeUp : MethodName := ⟨RX5, "makeUp", "(III)I"⟩
abbrev cX5_rumour : ByteArray := prog_1_method_6_code
def yX5_rumour : MethodName := ⟨RX5, "rumour", "(II)I"⟩
abbrev cX5_town : ByteArray := prog_1_method_7_code
def yX5_town : MethodName := ⟨RX5, "town", "(II)I"⟩
abbrev cX5_heard : ByteArray := prog_1_method_8_code
def yX5_heard : MethodName := ⟨RX5, "heard", "(II)I"⟩
abbrev cX5_addCarrier : ByteArray := prog_1_method_9_code
def yX5_addCarrier : MethodName := ⟨RX5, "addCarrier", "(II)I"⟩
abbrev cX5_take : ByteArray := prog_1_method_10_code
def yX5_take : MethodName := ⟨RX5, "take", "(II)I"⟩
abbrev cX5_leave : ByteArray := prog_1_method_11_code
def yX5_leave : MethodName := ⟨RX5, "leave", "(II)I"⟩
abbrev cX5_hide : ByteArray := prog_1_method_12_code
def yX5_hide : MethodName := ⟨RX5, "hide", "(IIZ)I"⟩
abbrev cX5_tell : ByteArray := prog_1_method_13_code
def yX5_tell : MethodName := ⟨RX5, "tell", "(II)I"⟩
abbrev cX5_go : ByteArray := prog_1_method_14_code
def yX5_go : MethodName := ⟨RX5, "go", "(III)I"⟩
abbrev cX5_carrier : ByteArray := prog_1_method_15_code
def yX5_carrier : MethodName := ⟨RX5, "carrier", "(II)I"⟩
abbrev cX5_wouldPay : ByteArray := prog_1_method_16_code
def yX5_wouldPay : MethodName := ⟨RX5, "wouldPay", "(III)I"⟩
abbrev cX5_pass : ByteArray := prog_1_method_17_code
def yX5_pass : MethodName := ⟨RX5, "pass", "(I)I"⟩
abbrev cX5_count : ByteArray := prog_1_method_18_code
def yX5_count : MethodName := ⟨RX5, "count", "(I)I"⟩
abbrev cX5_cheapest : ByteArray := prog_1_method_19_code
def yX5_cheapest : MethodName := ⟨RX5, "cheapest", "(IIII)I"⟩
abbrev cX5_spread : ByteArray := prog_1_method_20_code
def yX5_spread : MethodName := ⟨RX5, "spread", "(II)I"⟩
abbrev cX5_hearsay : ByteArray := prog_1_method_21_code
def yX5_hearsay : MethodName := ⟨RX5, "hearsay", "()D"⟩
abbrev cX5_digest : ByteArray := prog_1_method_22_code
def yX5_digest : MethodName := ⟨RX5, "digest", "()J"⟩
abbrev cX5_requireWithin : ByteArray := prog_1_method_23_code
def yX5_requireWithin : MethodName := ⟨RX5, "requireWithin", "(III)V"⟩
abbrev cX5_requireWhat : ByteArray := prog_1_method_24_code
def yX5_requireWhat : MethodName := ⟨RX5, "requireWhat", "(II)V"⟩
abbrev cX5_requireTown : ByteArray := prog_1_method_25_code
def yX5_requireTown : MethodName := ⟨RX5, "requireTown", "(I)V"⟩
abbrev cX5_rumourAt : ByteArray := prog_1_method_26_code
def yX5_rumourAt : MethodName := ⟨RX5, "rumourAt", "(I)LRumourCustoms$Rumour;"⟩
abbrev cX5_carrierAt : ByteArray := prog_1_method_27_code
def yX5_carrierAt : MethodName := ⟨RX5, "carrierAt", "(I)LRumourCustoms$Carrier;"⟩
abbrev cX5_requireInTown : ByteArray := prog_1_method_28_code
def yX5_requireInTown : MethodName := ⟨RX5, "requireInTown", "(LRumourCustoms$Carrier;)V"⟩
abbrev cX5_requireHas : ByteArray := prog_1_method_29_code
def yX5_requireHas : MethodName := ⟨RX5, "requireHas", "(LRumourCustoms$Carrier;LRumourCustoms$Rumour;)V"⟩
abbrev cX5_rumoursIn : ByteArray := prog_1_method_30_code
def yX5_rumoursIn : MethodName := ⟨RX5, "rumoursIn", "(I)I"⟩
abbrev cX5_familiesIn : ByteArray := prog_1_method_31_code
def yX5_familiesIn : MethodName := ⟨RX5, "familiesIn", "(I)I"⟩
abbrev cX5_deepestIn : ByteArray := prog_1_method_32_code
def yX5_deepestIn : MethodName := ⟨RX5, "deepestIn", "(I)I"⟩
abbrev cX5_carriersIn : ByteArray := prog_1_method_33_code
def yX5_carriersIn : MethodName := ⟨RX5, "carriersIn", "(I)I"⟩
abbrev cX5_leastDeepIn : ByteArray := prog_1_method_34_code
def yX5_leastDeepIn : MethodName := ⟨RX5, "leastDeepIn", "(II)LRumourCustoms$Rumour;"⟩
abbrev cX5_inBag : ByteArray := prog_1_method_35_code
def yX5_inBag : MethodName := ⟨RX5, "inBag", "(LRumourCustoms$Carrier;)I"⟩
abbrev cX5_hiddenInBag : ByteArray := prog_1_method_36_code
def yX5_hiddenInBag : MethodName := ⟨RX5, "hiddenInBag", "(LRumourCustoms$Carrier;)I"⟩
abbrev cX5_owedBy : ByteArray := prog_1_method_37_code
def yX5_owedBy : MethodName := ⟨RX5, "owedBy", "(LRumourCustoms$Carrier;LRumourCustoms$Road;I)I"⟩
abbrev cX5_fineOf : ByteArray := prog_1_method_38_code
def yX5_fineOf : MethodName := ⟨RX5, "fineOf", "(LRumourCustoms$Carrier;LRumourCustoms$Road;I)I"⟩
abbrev cX5_burnProofs : ByteArray := prog_1_method_39_code
def yX5_burnProofs : MethodName := ⟨RX5, "burnProofs", "(LRumourCustoms$Carrier;I)V"⟩
abbrev cX5_inspect : ByteArray := prog_1_method_40_code
def yX5_inspect : MethodName := ⟨RX5, "inspect", "(LRumourCustoms$Carrier;LRumourCustoms$Road;)V"⟩
abbrev cX5_takeHidden : ByteArray := prog_1_method_41_code
def yX5_takeHidden : MethodName := ⟨RX5, "takeHidden", "(LRumourCustoms$Carrier;)V"⟩
abbrev cX5_pay : ByteArray := prog_1_method_42_code
def yX5_pay : MethodName := ⟨RX5, "pay", "(LRumourCustoms$Carrier;LRumourCustoms$Road;II)V"⟩
abbrev cX5_townsThatKnow : ByteArray := prog_1_method_43_code
def yX5_townsThatKnow : MethodName := ⟨RX5, "townsThatKnow", "(I)I"⟩
abbrev cX5_greatestDepthInTowns : ByteArray := prog_1_method_44_code
def yX5_greatestDepthInTowns : MethodName := ⟨RX5, "greatestDepthInTowns", "(I)I"⟩
abbrev cX5_notGoneOf : ByteArray := prog_1_method_45_code
def yX5_notGoneOf : MethodName := ⟨RX5, "notGoneOf", "(I)I"⟩
abbrev cX5_figureOf : ByteArray := prog_1_method_46_code
def yX5_figureOf : MethodName := ⟨RX5, "figureOf", "(LRumourCustoms$Carrier;I)I"⟩
abbrev cX5_figureOfLand : ByteArray := prog_1_method_47_code
def yX5_figureOfLand : MethodName := ⟨RX5, "figureOfLand", "(I)I"⟩
abbrev cX5_goneRumours : ByteArray := prog_1_method_48_code
def yX5_goneRumours : MethodName := ⟨RX5, "goneRumours", "()I"⟩
abbrev cX5_carriersOnTheWay : ByteArray := prog_1_method_49_code
def yX5_carriersOnTheWay : MethodName := ⟨RX5, "carriersOnTheWay", "()I"⟩
abbrev cX5_digestRoads : ByteArray := prog_1_method_50_code
def yX5_digestRoads : MethodName := ⟨RX5, "digestRoads", "(J)J"⟩
abbrev cX5_digestRoad : ByteArray := prog_1_method_51_code
def yX5_digestRoad : MethodName := ⟨RX5, "digestRoad", "(JLRumourCustoms$Road;)J"⟩
abbrev cX5_digestRumours : ByteArray := prog_1_method_52_code
def yX5_digestRumours : MethodName := ⟨RX5, "digestRumours", "(J)J"⟩
abbrev cX5_digestCarriers : ByteArray := prog_1_method_53_code
def yX5_digestCarriers : MethodName := ⟨RX5, "digestCarriers", "(J)J"⟩
def RX6 : String := "RumourCustomsModel"
def TX6 : u_T := fun k => match k with
  | 0 => ("RumourCustomsModel", "thrown", "I", false)
  | 1 => ("RumourCustomsModel", "hour", "I", false)
  | 2 => ("RumourCustomsModel", "towns", "I", false)
  | 3 => ("RumourCustomsModel", "roads", "I", false)
  | 4 => ("RumourCustomsModel", "rumours", "I", false)
  | 5 => ("RumourCustomsModel", "carriers", "I", false)
  | 6 => ("RumourCustomsModel", "burnt", "I", false)
  | 7 => ("RumourCustomsModel", "duties", "I", false)
  | 8 => ("RumourCustomsModel", "fines", "I", false)
  | 9 => ("RumourCustomsModel", "searches", "I", false)
  | 10 => ("RumourCustomsModel", "roadTable", "[I", true)
  | 11 => ("RumourCustomsModel", "table", "[I", true)
  | 12 => ("RumourCustomsModel", "people", "[I", true)
  | _ => ("RumourCustomsModel", "best", "[J", true)
def tyX6 : Nat → FieldType := fun k => match k with
  | 0 => .int
  | 1 => .int
  | 2 => .int
  | 3 => .int
  | 4 => .int
  | 5 => .int
  | 6 => .int
  | 7 => .int
  | 8 => .int
  | 9 => .int
  | 10 => .array .int
  | 11 => .array .int
  | 12 => .array .int
  | _ => .array .long
abbrev wsX60 : List Cond := u_ws RX6 TX6 14
theorem nmX6 : ∀ a, a < 14 → ∀ b, b < 14 → a ≠ b → (TX6 a).2.1 ≠ (TX6 b).2.1 := by decide +kernel
theorem tyX6_ok : ∀ k, k < 14 → parseFieldDescriptor (TX6 k).2.2.1 = some (tyX6 k) := by decide +kernel
abbrev cX6_init : ByteArray := prog_8_method_1_code
def yX6_init : MethodName := ⟨RX6, "<init>", "()V"⟩
abbrev cX6_thrown : ByteArray := prog_8_method_2_code
def yX6_thrown : MethodName := ⟨RX6, "thrown", "()I"⟩
abbrev cX6_fail : ByteArray := prog_8_method_3_code
def yX6_fail : MethodName := ⟨RX6, "fail", "(I)I"⟩
abbrev cX6_isIn : ByteArray := prog_8_method_4_code
def yX6_isIn : MethodName := ⟨RX6, "isIn", "(III)Z"⟩
abbrev cX6_isTown : ByteArray := prog_8_method_5_code
def yX6_isTown : MethodName := ⟨RX6, "isTown", "(I)Z"⟩
abbrev cX6_isRumour : ByteArray := prog_8_method_6_code
def yX6_isRumour : MethodName := ⟨RX6, "isRumour", "(I)Z"⟩
abbrev cX6_isCarrier : ByteArray := prog_8_method_7_code
def yX6_isCarrier : MethodName := ⟨RX6, "isCarrier", "(I)Z"⟩
abbrev cX6_get : ByteArray := prog_8_method_8_code
def yX6_get : MethodName := ⟨RX6, "get", "(II)I"⟩
abbrev cX6_set : ByteArray := prog_8_method_9_code
def yX6_set : MethodName := ⟨RX6, "set", "(III)V"⟩
abbrev cX6_man : ByteArray := prog_8_method_10_code
def yX6_man : MethodName := ⟨RX6, "man", "(II)I"⟩
abbrev cX6_setMan : ByteArray := prog_8_method_11_code
def yX6_setMan : MethodName := ⟨RX6, "setMan", "(III)V"⟩
abbrev cX6_base : ByteArray := prog_8_method_12_code
def yX6_base : MethodName := ⟨RX6, "base", "(II)I"⟩
abbrev cX6_addTown : ByteArray := prog_8_method_13_code
def yX6_addTown : MethodName := ⟨RX6, "addTown", "()I"⟩
abbrev cX6_build : ByteArray := prog_8_method_14_code
def yX6_build : MethodName := ⟨RX6, "build", "(IIIIII)I"⟩
abbrev cX6_road : ByteArray := prog_8_method_15_code
def yX6_road : MethodName := ⟨RX6, "road", "(III)I"⟩
abbrev cX6_add : ByteArray := prog_8_method_16_code
def yX6_add : MethodName := ⟨RX6, "add", "(IIIII)I"⟩
abbrev cX6_makeUp : ByteArray := prog_8_method_17_code
def yX6_makeUp : MethodName := ⟨RX6, "makeUp", "(III)I"⟩
abbrev cX6_rumour : ByteArray := prog_8_method_18_code
def yX6_rumour : MethodName := ⟨RX6, "rumour", "(II)I"⟩
abbrev cX6_knows : ByteArray := prog_8_method_19_code
def yX6_knows : MethodName := ⟨RX6, "knows", "(II)Z"⟩
abbrev cX6_heardOf : ByteArray := prog_8_method_20_code
def yX6_heardOf : MethodName := ⟨RX6, "heardOf", "(II)I"⟩
abbrev cX6_townTold : ByteArray := prog_8_method_21_code
def yX6_townTold : MethodName := ⟨RX6, "townTold", "(II)I"⟩
abbrev cX6_town : ByteArray := prog_8_method_22_code
def yX6_town : MethodName := ⟨RX6, "town", "(II)I"⟩
abbrev cX6_heard : ByteArray := prog_8_method_23_code
def yX6_heard : MethodName := ⟨RX6, "heard", "(II)I"⟩
abbrev cX6_addCarrier : ByteArray := prog_8_method_24_code
def yX6_addCarrier : MethodName := ⟨RX6, "addCarrier", "(II)I"⟩
abbrev cX6_inBag : ByteArray := prog_8_method_25_code
def yX6_inBag : MethodName := ⟨RX6, "inBag", "(IZ)I"⟩
abbrev cX6_lay : ByteArray := prog_8_method_26_code
def yX6_lay : MethodName := ⟨RX6, "lay", "(III)V"⟩
abbrev cX6_take : ByteArray := prog_8_method_27_code
def yX6_take : MethodName := ⟨RX6, "take", "(II)I"⟩
abbrev cX6_has : ByteArray := prog_8_method_28_code
def yX6_has : MethodName := ⟨RX6, "has", "(II)Z"⟩
abbrev cX6_leave : ByteArray := prog_8_method_29_code
def yX6_leave : MethodName := ⟨RX6, "leave", "(II)I"⟩
abbrev cX6_hide : ByteArray := prog_8_method_30_code
def yX6_hide : MethodName := ⟨RX6, "hide", "(IIZ)I"⟩
abbrev cX6_tell : ByteArray := prog_8_method_31_code
def yX6_tell : MethodName := ⟨RX6, "tell", "(II)I"⟩
abbrev cX6_dutyAt : ByteArray := prog_8_method_32_code
def yX6_dutyAt : MethodName := ⟨RX6, "dutyAt", "(III)I"⟩
abbrev cX6_owed : ByteArray := prog_8_method_33_code
def yX6_owed : MethodName := ⟨RX6, "owed", "(III)I"⟩
abbrev cX6_isSearched : ByteArray := prog_8_method_34_code
def yX6_isSearched : MethodName := ⟨RX6, "isSearched", "(II)Z"⟩
abbrev cX6_fine : ByteArray := prog_8_method_35_code
def yX6_fine : MethodName := ⟨RX6, "fine", "(III)I"⟩
abbrev cX6_go : ByteArray := prog_8_method_36_code
def yX6_go : MethodName := ⟨RX6, "go", "(III)I"⟩
abbrev cX6_carrierTold : ByteArray := prog_8_method_37_code
def yX6_carrierTold : MethodName := ⟨RX6, "carrierTold", "(II)I"⟩
abbrev cX6_carrier : ByteArray := prog_8_method_38_code
def yX6_carrier : MethodName := ⟨RX6, "carrier", "(II)I"⟩
abbrev cX6_wouldPay : ByteArray := prog_8_method_39_code
def yX6_wouldPay : MethodName := ⟨RX6, "wouldPay", "(III)I"⟩
abbrev cX6_pass : ByteArray := prog_8_method_40_code
def yX6_pass : MethodName := ⟨RX6, "pass", "(I)I"⟩
abbrev cX6_gone : ByteArray := prog_8_method_41_code
def yX6_gone : MethodName := ⟨RX6, "gone", "()I"⟩
abbrev cX6_counted : ByteArray := prog_8_method_42_code
def yX6_counted : MethodName := ⟨RX6, "counted", "(I)I"⟩
abbrev cX6_count : ByteArray := prog_8_method_43_code
def yX6_count : MethodName := ⟨RX6, "count", "(I)I"⟩
abbrev cX6_cheapest : ByteArray := prog_8_method_44_code
def yX6_cheapest : MethodName := ⟨RX6, "cheapest", "(IIII)I"⟩
abbrev cX6_goOn : ByteArray := prog_8_method_45_code
def yX6_goOn : MethodName := ⟨RX6, "goOn", "(III)Z"⟩
abbrev cX6_spread : ByteArray := prog_8_method_46_code
def yX6_spread : MethodName := ⟨RX6, "spread", "(II)I"⟩
abbrev cX6_hearsay : ByteArray := prog_8_method_47_code
def yX6_hearsay : MethodName := ⟨RX6, "hearsay", "()D"⟩
abbrev cX6_digest : ByteArray := prog_8_method_48_code
def yX6_digest : MethodName := ⟨RX6, "digest", "()J"⟩
def RJx145de : String := "java/io/Serializable"
def TJx145de : u_T := fun k => match k with
  | _ => ("", "", "", false)
def tyJx145de : Nat → FieldType := fun k => match k with
  | _ => .int
abbrev wsJx145de0 : List Cond := u_ws RJx145de TJx145de 0
theorem nmJx145de : ∀ a, a < 0 → ∀ b, b < 0 → a ≠ b → (TJx145de a).2.1 ≠ (TJx145de b).2.1 := by decide +kernel
theorem tyJx145de_ok : ∀ k, k < 0 → parseFieldDescriptor (TJx145de k).2.2.1 = some (tyJx145de k) := by decide +kernel
def RJx8e188 : String := "java/lang/Cloneable"
def TJx8e188 : u_T := fun k => match k with
  | _ => ("", "", "", false)
def tyJx8e188 : Nat → FieldType := fun k => match k with
  | _ => .int
abbrev wsJx8e1880 : List Cond := u_ws RJx8e188 TJx8e188 0
theorem nmJx8e188 : ∀ a, a < 0 → ∀ b, b < 0 → a ≠ b → (TJx8e188 a).2.1 ≠ (TJx8e188 b).2.1 := by decide +kernel
theorem tyJx8e188_ok : ∀ k, k < 0 → parseFieldDescriptor (TJx8e188 k).2.2.1 = some (tyJx8e188 k) := by decide +kernel
def RJ6 : String := "java/lang/Integer"
def TJ6 : u_T := fun k => match k with
  | _ => ("", "", "", false)
def tyJ6 : Nat → FieldType := fun k => match k with
  | _ => .int
abbrev wsJ60 : List Cond := u_ws RJ6 TJ6 0
theorem nmJ6 : ∀ a, a < 0 → ∀ b, b < 0 → a ≠ b → (TJ6 a).2.1 ≠ (TJ6 b).2.1 := by decide +kernel
theorem tyJ6_ok : ∀ k, k < 0 → parseFieldDescriptor (TJ6 k).2.2.1 = some (tyJ6 k) := by decide +kernel
abbrev cJ6_bitCount_0f7a4 : ByteArray := prog_15_method_49_code
def yJ6_bitCount_0f7a4 : MethodName := ⟨RJ6, "bitCount", "(I)I"⟩
def RJxab1ab : String := "java/lang/Iterable"
def TJxab1ab : u_T := fun k => match k with
  | _ => ("", "", "", false)
def tyJxab1ab : Nat → FieldType := fun k => match k with
  | _ => .int
abbrev wsJxab1ab0 : List Cond := u_ws RJxab1ab TJxab1ab 0
theorem nmJxab1ab : ∀ a, a < 0 → ∀ b, b < 0 → a ≠ b → (TJxab1ab a).2.1 ≠ (TJxab1ab b).2.1 := by decide +kernel
theorem tyJxab1ab_ok : ∀ k, k < 0 → parseFieldDescriptor (TJxab1ab k).2.2.1 = some (tyJxab1ab k) := by decide +kernel
def RJ13 : String := "java/lang/Long"
def TJ13 : u_T := fun k => match k with
  | _ => ("", "", "", false)
def tyJ13 : Nat → FieldType := fun k => match k with
  | _ => .int
abbrev wsJ130 : List Cond := u_ws RJ13 TJ13 0
theorem nmJ13 : ∀ a, a < 0 → ∀ b, b < 0 → a ≠ b → (TJ13 a).2.1 ≠ (TJ13 b).2.1 := by decide +kernel
theorem tyJ13_ok : ∀ k, k < 0 → parseFieldDescriptor (TJ13 k).2.2.1 = some (tyJ13 k) := by decide +kernel
abbrev cJ13_bitCount_95d88 : ByteArray := prog_17_method_50_code
def yJ13_bitCount_95d88 : MethodName := ⟨RJ13, "bitCount", "(J)I"⟩
def RJ9 : String := "java/lang/Math"
def TJ9 : u_T := fun k => match k with
  | _ => ("", "", "", false)
def tyJ9 : Nat → FieldType := fun k => match k with
  | _ => .int
abbrev wsJ90 : List Cond := u_ws RJ9 TJ9 0
theorem nmJ9 : ∀ a, a < 0 → ∀ b, b < 0 → a ≠ b → (TJ9 a).2.1 ≠ (TJ9 b).2.1 := by decide +kernel
theorem tyJ9_ok : ∀ k, k < 0 → parseFieldDescriptor (TJ9 k).2.2.1 = some (tyJ9 k) := by decide +kernel
abbrev cJ9_max_7cf53 : ByteArray := prog_18_method_65_code
def yJ9_max_7cf53 : MethodName := ⟨RJ9, "max", "(II)I"⟩
abbrev cJ9_min_7cf53 : ByteArray := prog_18_method_69_code
def yJ9_min_7cf53 : MethodName := ⟨RJ9, "min", "(II)I"⟩
def RJ0 : String := "java/lang/String"
def TJ0 : u_T := fun k => match k with
  | _ => ("", "", "", false)
def tyJ0 : Nat → FieldType := fun k => match k with
  | _ => .int
abbrev wsJ00 : List Cond := u_ws RJ0 TJ0 0
theorem nmJ0 : ∀ a, a < 0 → ∀ b, b < 0 → a ≠ b → (TJ0 a).2.1 ≠ (TJ0 b).2.1 := by decide +kernel
theorem tyJ0_ok : ∀ k, k < 0 → parseFieldDescriptor (TJ0 k).2.2.1 = some (tyJ0 k) := by decide +kernel
def RJ10 : String := "java/lang/System"
def TJ10 : u_T := fun k => match k with
  | _ => ("", "", "", false)
def tyJ10 : Nat → FieldType := fun k => match k with
  | _ => .int
abbrev wsJ100 : List Cond := u_ws RJ10 TJ10 0
theorem nmJ10 : ∀ a, a < 0 → ∀ b, b < 0 → a ≠ b → (TJ10 a).2.1 ≠ (TJ10 b).2.1 := by decide +kernel
theorem tyJ10_ok : ∀ k, k < 0 → parseFieldDescriptor (TJ10 k).2.2.1 = some (tyJ10 k) := by decide +kernel
def RJxa1e45 : String := "java/util/AbstractCollection"
def TJxa1e45 : u_T := fun k => match k with
  | _ => ("", "", "", false)
def tyJxa1e45 : Nat → FieldType := fun k => match k with
  | _ => .int
abbrev wsJxa1e450 : List Cond := u_ws RJxa1e45 TJxa1e45 0
theorem nmJxa1e45 : ∀ a, a < 0 → ∀ b, b < 0 → a ≠ b → (TJxa1e45 a).2.1 ≠ (TJxa1e45 b).2.1 := by decide +kernel
theorem tyJxa1e45_ok : ∀ k, k < 0 → parseFieldDescriptor (TJxa1e45 k).2.2.1 = some (tyJxa1e45 k) := by decide +kernel
abbrev cJxa1e45_init_da8c8 : ByteArray := prog_23_method_1_code
def yJxa1e45_init_da8c8 : MethodName := ⟨RJxa1e45, "<init>", "()V"⟩
def RJxc12de : String := "java/util/AbstractList"
def TJxc12de : u_T := fun k => match k with
  | _ => ("", "", "", false)
def tyJxc12de : Nat → FieldType := fun k => match k with
  | _ => .int
abbrev wsJxc12de0 : List Cond := u_ws RJxc12de TJxc12de 0
theorem nmJxc12de : ∀ a, a < 0 → ∀ b, b < 0 → a ≠ b → (TJxc12de a).2.1 ≠ (TJxc12de b).2.1 := by decide +kernel
theorem tyJxc12de_ok : ∀ k, k < 0 → parseFieldDescriptor (TJxc12de k).2.2.1 = some (tyJxc12de k) := by decide +kernel
abbrev cJxc12de_init_da8c8 : ByteArray := prog_24_method_1_code
def yJxc12de_init_da8c8 : MethodName := ⟨RJxc12de, "<init>", "()V"⟩
def RJx4a65c : String := "java/util/ArrayList"
def TJx4a65c : u_T := fun k => match k with
  | 0 => ("java/util/AbstractList", "modCount", "I", false)
  | 1 => ("java/util/ArrayList", "elementData", "[Ljava/lang/Object;", false)
  | _ => ("java/util/ArrayList", "size", "I", false)
def tyJx4a65c : Nat → FieldType := fun k => match k with
  | 0 => .int
  | 1 => .array (.object "java/lang/Object")
  | _ => .int
abbrev wsJx4a65c0 : List Cond := u_ws RJx4a65c TJx4a65c 3
theorem nmJx4a65c : ∀ a, a < 3 → ∀ b, b < 3 → a ≠ b → (TJx4a65c a).2.1 ≠ (TJx4a65c b).2.1 := by decide +kernel
theorem tyJx4a65c_ok : ∀ k, k < 3 → parseFieldDescriptor (TJx4a65c k).2.2.1 = some (tyJx4a65c k) := by decide +kernel
abbrev cJx4a65c_init_da8c8 : ByteArray := prog_25_method_2_code
def yJx4a65c_init_da8c8 : MethodName := ⟨RJx4a65c, "<init>", "()V"⟩
abbrev cJx4a65c_grow_92f84 : ByteArray := prog_25_method_6_code
def yJx4a65c_grow_92f84 : MethodName := ⟨RJx4a65c, "grow", "(I)[Ljava/lang/Object;"⟩
abbrev cJx4a65c_grow_d5877 : ByteArray := prog_25_method_7_code
def yJx4a65c_grow_d5877 : MethodName := ⟨RJx4a65c, "grow", "()[Ljava/lang/Object;"⟩
abbrev cJx4a65c_size_8abf5 : ByteArray := prog_25_method_8_code
def yJx4a65c_size_8abf5 : MethodName := ⟨RJx4a65c, "size", "()I"⟩
abbrev cJx4a65c_elementData_915e3 : ByteArray := prog_25_method_18_code
def yJx4a65c_elementData_915e3 : MethodName := ⟨RJx4a65c, "elementData", "(I)Ljava/lang/Object;"⟩
abbrev cJx4a65c_get_915e3 : ByteArray := prog_25_method_20_code
def yJx4a65c_get_915e3 : MethodName := ⟨RJx4a65c, "get", "(I)Ljava/lang/Object;"⟩
abbrev cJx4a65c_add_72be8 : ByteArray := prog_25_method_24_code
def yJx4a65c_add_72be8 : MethodName := ⟨RJx4a65c, "add", "(Ljava/lang/Object;[Ljava/lang/Object;I)V"⟩
abbrev cJx4a65c_add_9ea2d : ByteArray := prog_25_method_25_code
def yJx4a65c_add_9ea2d : MethodName := ⟨RJx4a65c, "add", "(Ljava/lang/Object;)Z"⟩
def RJ7 : String := "java/util/Arrays"
def TJ7 : u_T := fun k => match k with
  | _ => ("", "", "", false)
def tyJ7 : Nat → FieldType := fun k => match k with
  | _ => .int
abbrev wsJ70 : List Cond := u_ws RJ7 TJ7 0
theorem nmJ7 : ∀ a, a < 0 → ∀ b, b < 0 → a ≠ b → (TJ7 a).2.1 ≠ (TJ7 b).2.1 := by decide +kernel
theorem tyJ7_ok : ∀ k, k < 0 → parseFieldDescriptor (TJ7 k).2.2.1 = some (tyJ7 k) := by decide +kernel
abbrev cJ7_copyOf_1904c : ByteArray := prog_26_method_119_code
def yJ7_copyOf_1904c : MethodName := ⟨RJ7, "copyOf", "([Ljava/lang/Object;I)[Ljava/lang/Object;"⟩
abbrev cJ7_copyOf_6403c : ByteArray := prog_26_method_120_code
def yJ7_copyOf_6403c : MethodName := ⟨RJ7, "copyOf", "([Ljava/lang/Object;ILjava/lang/Class;)[Ljava/lang/Object;"⟩
def RJx5ef63 : String := "java/util/Collection"
def TJx5ef63 : u_T := fun k => match k with
  | _ => ("", "", "", false)
def tyJx5ef63 : Nat → FieldType := fun k => match k with
  | _ => .int
abbrev wsJx5ef630 : List Cond := u_ws RJx5ef63 TJx5ef63 0
theorem nmJx5ef63 : ∀ a, a < 0 → ∀ b, b < 0 → a ≠ b → (TJx5ef63 a).2.1 ≠ (TJx5ef63 b).2.1 := by decide +kernel
theorem tyJx5ef63_ok : ∀ k, k < 0 → parseFieldDescriptor (TJx5ef63 k).2.2.1 = some (tyJx5ef63 k) := by decide +kernel
def RJxbd725 : String := "java/util/List"
def TJxbd725 : u_T := fun k => match k with
  | _ => ("", "", "", false)
def tyJxbd725 : Nat → FieldType := fun k => match k with
  | _ => .int
abbrev wsJxbd7250 : List Cond := u_ws RJxbd725 TJxbd725 0
theorem nmJxbd725 : ∀ a, a < 0 → ∀ b, b < 0 → a ≠ b → (TJxbd725 a).2.1 ≠ (TJxbd725 b).2.1 := by decide +kernel
theorem tyJxbd725_ok : ∀ k, k < 0 → parseFieldDescriptor (TJxbd725 k).2.2.1 = some (tyJxbd725 k) := by decide +kernel
def RJ15 : String := "java/util/Objects"
def TJ15 : u_T := fun k => match k with
  | _ => ("", "", "", false)
def tyJ15 : Nat → FieldType := fun k => match k with
  | _ => .int
abbrev wsJ150 : List Cond := u_ws RJ15 TJ15 0
theorem nmJ15 : ∀ a, a < 0 → ∀ b, b < 0 → a ≠ b → (TJ15 a).2.1 ≠ (TJ15 b).2.1 := by decide +kernel
theorem tyJ15_ok : ∀ k, k < 0 → parseFieldDescriptor (TJ15 k).2.2.1 = some (tyJ15 k) := by decide +kernel
abbrev cJ15_checkIndex_7cf53 : ByteArray := prog_29_method_17_code
def yJ15_checkIndex_7cf53 : MethodName := ⟨RJ15, "checkIndex", "(II)I"⟩
def RJxf0a74 : String := "java/util/RandomAccess"
def TJxf0a74 : u_T := fun k => match k with
  | _ => ("", "", "", false)
def tyJxf0a74 : Nat → FieldType := fun k => match k with
  | _ => .int
abbrev wsJxf0a740 : List Cond := u_ws RJxf0a74 TJxf0a74 0
theorem nmJxf0a74 : ∀ a, a < 0 → ∀ b, b < 0 → a ≠ b → (TJxf0a74 a).2.1 ≠ (TJxf0a74 b).2.1 := by decide +kernel
theorem tyJxf0a74_ok : ∀ k, k < 0 → parseFieldDescriptor (TJxf0a74 k).2.2.1 = some (tyJxf0a74 k) := by decide +kernel
def RJxa66e6 : String := "java/util/SequencedCollection"
def TJxa66e6 : u_T := fun k => match k with
  | _ => ("", "", "", false)
def tyJxa66e6 : Nat → FieldType := fun k => match k with
  | _ => .int
abbrev wsJxa66e60 : List Cond := u_ws RJxa66e6 TJxa66e6 0
theorem nmJxa66e6 : ∀ a, a < 0 → ∀ b, b < 0 → a ≠ b → (TJxa66e6 a).2.1 ≠ (TJxa66e6 b).2.1 := by decide +kernel
theorem tyJxa66e6_ok : ∀ k, k < 0 → parseFieldDescriptor (TJxa66e6 k).2.2.1 = some (tyJxa66e6 k) := by decide +kernel
def RJ8 : String := "jdk/internal/util/ArraysSupport"
def TJ8 : u_T := fun k => match k with
  | _ => ("", "", "", false)
def tyJ8 : Nat → FieldType := fun k => match k with
  | _ => .int
abbrev wsJ80 : List Cond := u_ws RJ8 TJ8 0
theorem nmJ8 : ∀ a, a < 0 → ∀ b, b < 0 → a ≠ b → (TJ8 a).2.1 ≠ (TJ8 b).2.1 := by decide +kernel
theorem tyJ8_ok : ∀ k, k < 0 → parseFieldDescriptor (TJ8 k).2.2.1 = some (tyJ8 k) := by decide +kernel
abbrev cJ8_newLength_cabcc : ByteArray := prog_32_method_27_code
def yJ8_newLength_cabcc : MethodName := ⟨RJ8, "newLength", "(III)I"⟩
abbrev cJ8_hugeLength_7cf53 : ByteArray := prog_32_method_28_code
def yJ8_hugeLength_7cf53 : MethodName := ⟨RJ8, "hugeLength", "(II)I"⟩
def RJ3 : String := "jdk/internal/util/Preconditions"
def TJ3 : u_T := fun k => match k with
  | _ => ("", "", "", false)
def tyJ3 : Nat → FieldType := fun k => match k with
  | _ => .int
abbrev wsJ30 : List Cond := u_ws RJ3 TJ3 0
theorem nmJ3 : ∀ a, a < 0 → ∀ b, b < 0 → a ≠ b → (TJ3 a).2.1 ≠ (TJ3 b).2.1 := by decide +kernel
theorem tyJ3_ok : ∀ k, k < 0 → parseFieldDescriptor (TJ3 k).2.2.1 = some (tyJ3 k) := by decide +kernel
abbrev cJ3_checkIndex_8e157 : ByteArray := prog_33_method_11_code
def yJ3_checkIndex_8e157 : MethodName := ⟨RJ3, "checkIndex", "(IILjava/util/function/BiFunction;)I"⟩
def RL : String := "RumourCustomsLaw"
abbrev cL_addTown : ByteArray := method_3_code
def yL_addTown : MethodName := ⟨RL, "addTown", "(LRumourCustoms;[J)I"⟩
abbrev cL_build : ByteArray := method_4_code
def yL_build : MethodName := ⟨RL, "build", "(LRumourCustoms;IIIIII[J)I"⟩
abbrev cL_road : ByteArray := method_5_code
def yL_road : MethodName := ⟨RL, "road", "(LRumourCustoms;III[J)I"⟩
abbrev cL_makeUp : ByteArray := method_6_code
def yL_makeUp : MethodName := ⟨RL, "makeUp", "(LRumourCustoms;III[J)I"⟩
abbrev cL_rumour : ByteArray := method_7_code
def yL_rumour : MethodName := ⟨RL, "rumour", "(LRumourCustoms;II[J)I"⟩
abbrev cL_town : ByteArray := method_8_code
def yL_town : MethodName := ⟨RL, "town", "(LRumourCustoms;II[J)I"⟩
abbrev cL_heard : ByteArray := method_9_code
def yL_heard : MethodName := ⟨RL, "heard", "(LRumourCustoms;II[J)I"⟩
abbrev cL_addCarrier : ByteArray := method_10_code
def yL_addCarrier : MethodName := ⟨RL, "addCarrier", "(LRumourCustoms;II[J)I"⟩
abbrev cL_take : ByteArray := method_11_code
def yL_take : MethodName := ⟨RL, "take", "(LRumourCustoms;II[J)I"⟩
abbrev cL_leave : ByteArray := method_12_code
def yL_leave : MethodName := ⟨RL, "leave", "(LRumourCustoms;II[J)I"⟩
abbrev cL_hide : ByteArray := method_13_code
def yL_hide : MethodName := ⟨RL, "hide", "(LRumourCustoms;IIZ[J)I"⟩
abbrev cL_tell : ByteArray := method_14_code
def yL_tell : MethodName := ⟨RL, "tell", "(LRumourCustoms;II[J)I"⟩
abbrev cL_go : ByteArray := method_15_code
def yL_go : MethodName := ⟨RL, "go", "(LRumourCustoms;III[J)I"⟩
abbrev cL_carrier : ByteArray := method_16_code
def yL_carrier : MethodName := ⟨RL, "carrier", "(LRumourCustoms;II[J)I"⟩
abbrev cL_wouldPay : ByteArray := method_17_code
def yL_wouldPay : MethodName := ⟨RL, "wouldPay", "(LRumourCustoms;III[J)I"⟩
abbrev cL_pass : ByteArray := method_18_code
def yL_pass : MethodName := ⟨RL, "pass", "(LRumourCustoms;I[J)I"⟩
abbrev cL_count : ByteArray := method_19_code
def yL_count : MethodName := ⟨RL, "count", "(LRumourCustoms;I[J)I"⟩
abbrev cL_cheapest : ByteArray := method_20_code
def yL_cheapest : MethodName := ⟨RL, "cheapest", "(LRumourCustoms;IIII[J)I"⟩
abbrev cL_spread : ByteArray := method_21_code
def yL_spread : MethodName := ⟨RL, "spread", "(LRumourCustoms;II[J)I"⟩
abbrev cL_law : ByteArray := code
def yL_law : MethodName := ⟨RL, "law", "([I)Z"⟩
abbrev vwCl : List vw_C := [(RJx4a65c, TJx4a65c, 3), (RX0, TX0, 5), (RX1, TX1, 6), (RX2, TX2, 1), (RX3, TX3, 8), (RX4, TX4, 3), (RX5, TX5, 11), (RX6, TX6, 14)]
end
section
theorem dX0_init_0 : decode cX0_init 0 = .ok (.aload_n 0, 1) := by decide +kernel
theorem dX0_init_1 : decode cX0_init 1 = .ok (.invokespecial 1, 3) := by decide +kernel
theorem dX0_init_4 : decode cX0_init 4 = .ok (.aload_n 0, 1) := by decide +kernel
theorem dX0_init_5 : decode cX0_init 5 = .ok (.iload_n 1, 1) := by decide +kernel
theorem dX0_init_6 : decode cX0_init 6 = .ok (.putfield 7, 3) := by decide +kernel
theorem dX0_init_9 : decode cX0_init 9 = .ok (.aload_n 0, 1) := by decide +kernel
theorem dX0_init_10 : decode cX0_init 10 = .ok (.iload_n 2, 1) := by decide +kernel
theorem dX0_init_11 : decode cX0_init 11 = .ok (.putfield 13, 3) := by decide +kernel
theorem dX0_init_14 : decode cX0_init 14 = .ok (.aload_n 0, 1) := by decide +kernel
theorem dX0_init_15 : decode cX0_init 15 = .ok (.iload_n 3, 1) := by decide +kernel
theorem dX0_init_16 : decode cX0_init 16 = .ok (.putfield 16, 3) := by decide +kernel
theorem dX0_init_19 : decode cX0_init 19 = .ok (.return_, 1) := by decide +kernel
theorem dX0_isOnTheWay_0 : decode cX0_isOnTheWay 0 = .ok (.aload_n 0, 1) := by decide +kernel
theorem dX0_isOnTheWay_1 : decode cX0_isOnTheWay 1 = .ok (.getfield 19, 3) := by decide +kernel
theorem dX0_isOnTheWay_4 : decode cX0_isOnTheWay 4 = .ok (.ifCond .le 7, 3) := by decide +kernel
theorem dX0_isOnTheWay_7 : decode cX0_isOnTheWay 7 = .ok (.iconst 1, 1) := by decide +kernel
theorem dX0_isOnTheWay_8 : decode cX0_isOnTheWay 8 = .ok (.goto 4, 3) := by decide +kernel
theorem dX0_isOnTheWay_11 : decode cX0_isOnTheWay 11 = .ok (.iconst 0, 1) := by decide +kernel
theorem dX0_isOnTheWay_12 : decode cX0_isOnTheWay 12 = .ok (.ireturn, 1) := by decide +kernel
theorem dX0_pay_0 : decode cX0_pay 0 = .ok (.aload_n 0, 1) := by decide +kernel
theorem dX0_pay_1 : decode cX0_pay 1 = .ok (.dup, 1) := by decide +kernel
theorem dX0_pay_2 : decode cX0_pay 2 = .ok (.getfield 16, 3) := by decide +kernel
theorem dX0_pay_5 : decode cX0_pay 5 = .ok (.iload_n 1, 1) := by decide +kernel
theorem dX0_pay_6 : decode cX0_pay 6 = .ok (.isub, 1) := by decide +kernel
theorem dX0_pay_7 : decode cX0_pay 7 = .ok (.putfield 16, 3) := by decide +kernel
theorem dX0_pay_10 : decode cX0_pay 10 = .ok (.aload_n 0, 1) := by decide +kernel
theorem dX0_pay_11 : decode cX0_pay 11 = .ok (.dup, 1) := by decide +kernel
theorem dX0_pay_12 : decode cX0_pay 12 = .ok (.getfield 22, 3) := by decide +kernel
theorem dX0_pay_15 : decode cX0_pay 15 = .ok (.iload_n 1, 1) := by decide +kernel
theorem dX0_pay_16 : decode cX0_pay 16 = .ok (.iadd, 1) := by decide +kernel
theorem dX0_pay_17 : decode cX0_pay 17 = .ok (.putfield 22, 3) := by decide +kernel
theorem dX0_pay_20 : decode cX0_pay 20 = .ok (.return_, 1) := by decide +kernel
theorem dX0_setOut_0 : decode cX0_setOut 0 = .ok (.aload_n 0, 1) := by decide +kernel
theorem dX0_setOut_1 : decode cX0_setOut 1 = .ok (.iload_n 1, 1) := by decide +kernel
theorem dX0_setOut_2 : decode cX0_setOut 2 = .ok (.putfield 13, 3) := by decide +kernel
theorem dX0_setOut_5 : decode cX0_setOut 5 = .ok (.aload_n 0, 1) := by decide +kernel
theorem dX0_setOut_6 : decode cX0_setOut 6 = .ok (.iload_n 2, 1) := by decide +kernel
theorem dX0_setOut_7 : decode cX0_setOut 7 = .ok (.putfield 19, 3) := by decide +kernel
theorem dX0_setOut_10 : decode cX0_setOut 10 = .ok (.return_, 1) := by decide +kernel
theorem dX0_comesWithin_0 : decode cX0_comesWithin 0 = .ok (.aload_n 0, 1) := by decide +kernel
theorem dX0_comesWithin_1 : decode cX0_comesWithin 1 = .ok (.invokevirtual 25, 3) := by decide +kernel
theorem dX0_comesWithin_4 : decode cX0_comesWithin 4 = .ok (.ifCond .ne 5, 3) := by decide +kernel
theorem dX0_comesWithin_7 : decode cX0_comesWithin 7 = .ok (.iconst 0, 1) := by decide +kernel
theorem dX0_comesWithin_8 : decode cX0_comesWithin 8 = .ok (.ireturn, 1) := by decide +kernel
theorem dX0_comesWithin_9 : decode cX0_comesWithin 9 = .ok (.aload_n 0, 1) := by decide +kernel
theorem dX0_comesWithin_10 : decode cX0_comesWithin 10 = .ok (.iconst 0, 1) := by decide +kernel
theorem dX0_comesWithin_11 : decode cX0_comesWithin 11 = .ok (.aload_n 0, 1) := by decide +kernel
theorem dX0_comesWithin_12 : decode cX0_comesWithin 12 = .ok (.getfield 19, 3) := by decide +kernel
theorem dX0_comesWithin_15 : decode cX0_comesWithin 15 = .ok (.iload_n 1, 1) := by decide +kernel
theorem dX0_comesWithin_16 : decode cX0_comesWithin 16 = .ok (.isub, 1) := by decide +kernel
theorem dX0_comesWithin_17 : decode cX0_comesWithin 17 = .ok (.invokestatic 29, 3) := by decide +kernel
theorem dX0_comesWithin_20 : decode cX0_comesWithin 20 = .ok (.putfield 19, 3) := by decide +kernel
theorem dX0_comesWithin_23 : decode cX0_comesWithin 23 = .ok (.aload_n 0, 1) := by decide +kernel
theorem dX0_comesWithin_24 : decode cX0_comesWithin 24 = .ok (.getfield 19, 3) := by decide +kernel
theorem dX0_comesWithin_27 : decode cX0_comesWithin 27 = .ok (.ifCond .ne 7, 3) := by decide +kernel
theorem dX0_comesWithin_30 : decode cX0_comesWithin 30 = .ok (.iconst 1, 1) := by decide +kernel
theorem dX0_comesWithin_31 : decode cX0_comesWithin 31 = .ok (.goto 4, 3) := by decide +kernel
theorem dX0_comesWithin_34 : decode cX0_comesWithin 34 = .ok (.iconst 0, 1) := by decide +kernel
theorem dX0_comesWithin_35 : decode cX0_comesWithin 35 = .ok (.ireturn, 1) := by decide +kernel
theorem dX1_init_0 : decode cX1_init 0 = .ok (.aload_n 0, 1) := by decide +kernel
theorem dX1_init_1 : decode cX1_init 1 = .ok (.invokespecial 1, 3) := by decide +kernel
theorem dX1_init_4 : decode cX1_init 4 = .ok (.aload_n 0, 1) := by decide +kernel
theorem dX1_init_5 : decode cX1_init 5 = .ok (.iload_n 1, 1) := by decide +kernel
theorem dX1_init_6 : decode cX1_init 6 = .ok (.putfield 7, 3) := by decide +kernel
theorem dX1_init_9 : decode cX1_init 9 = .ok (.aload_n 0, 1) := by decide +kernel
theorem dX1_init_10 : decode cX1_init 10 = .ok (.iload_n 2, 1) := by decide +kernel
theorem dX1_init_11 : decode cX1_init 11 = .ok (.putfield 13, 3) := by decide +kernel
theorem dX1_init_14 : decode cX1_init 14 = .ok (.aload_n 0, 1) := by decide +kernel
theorem dX1_init_15 : decode cX1_init 15 = .ok (.iload_n 3, 1) := by decide +kernel
theorem dX1_init_16 : decode cX1_init 16 = .ok (.putfield 16, 3) := by decide +kernel
theorem dX1_init_19 : decode cX1_init 19 = .ok (.aload_n 0, 1) := by decide +kernel
theorem dX1_init_20 : decode cX1_init 20 = .ok (.iload 4, 2) := by decide +kernel
theorem dX1_init_22 : decode cX1_init 22 = .ok (.putfield 19, 3) := by decide +kernel
theorem dX1_init_25 : decode cX1_init 25 = .ok (.return_, 1) := by decide +kernel
theorem dX1_dutyOf_0 : decode cX1_dutyOf 0 = .ok (.aload_n 0, 1) := by decide +kernel
theorem dX1_dutyOf_1 : decode cX1_dutyOf 1 = .ok (.getfield 13, 3) := by decide +kernel
theorem dX1_dutyOf_4 : decode cX1_dutyOf 4 = .ok (.aload_n 1, 1) := by decide +kernel
theorem dX1_dutyOf_5 : decode cX1_dutyOf 5 = .ok (.getfield 22, 3) := by decide +kernel
theorem dX1_dutyOf_8 : decode cX1_dutyOf 8 = .ok (.imul, 1) := by decide +kernel
theorem dX1_dutyOf_9 : decode cX1_dutyOf 9 = .ok (.aload_n 0, 1) := by decide +kernel
theorem dX1_dutyOf_10 : decode cX1_dutyOf 10 = .ok (.getfield 16, 3) := by decide +kernel
theorem dX1_dutyOf_13 : decode cX1_dutyOf 13 = .ok (.aload_n 1, 1) := by decide +kernel
theorem dX1_dutyOf_14 : decode cX1_dutyOf 14 = .ok (.getfield 27, 3) := by decide +kernel
theorem dX1_dutyOf_17 : decode cX1_dutyOf 17 = .ok (.imul, 1) := by decide +kernel
theorem dX1_dutyOf_18 : decode cX1_dutyOf 18 = .ok (.iadd, 1) := by decide +kernel
theorem dX1_dutyOf_19 : decode cX1_dutyOf 19 = .ok (.iload_n 2, 1) := by decide +kernel
theorem dX1_dutyOf_20 : decode cX1_dutyOf 20 = .ok (.ishr, 1) := by decide +kernel
theorem dX1_dutyOf_21 : decode cX1_dutyOf 21 = .ok (.ireturn, 1) := by decide +kernel
theorem dX1_attentionBehind_0 : decode cX1_attentionBehind 0 = .ok (.aload_n 0, 1) := by decide +kernel
theorem dX1_attentionBehind_1 : decode cX1_attentionBehind 1 = .ok (.getfield 30, 3) := by decide +kernel
theorem dX1_attentionBehind_4 : decode cX1_attentionBehind 4 = .ok (.aload_n 0, 1) := by decide +kernel
theorem dX1_attentionBehind_5 : decode cX1_attentionBehind 5 = .ok (.getfield 19, 3) := by decide +kernel
theorem dX1_attentionBehind_8 : decode cX1_attentionBehind 8 = .ok (.iadd, 1) := by decide +kernel
theorem dX1_attentionBehind_9 : decode cX1_attentionBehind 9 = .ok (.iload_n 1, 1) := by decide +kernel
theorem dX1_attentionBehind_10 : decode cX1_attentionBehind 10 = .ok (.iadd, 1) := by decide +kernel
theorem dX1_attentionBehind_11 : decode cX1_attentionBehind 11 = .ok (.ireturn, 1) := by decide +kernel
theorem dX1_figure_0 : decode cX1_figure 0 = .ok (.iload_n 1, 1) := by decide +kernel
theorem dX1_figure_1 : decode cX1_figure 1 = .ok (.tableswitch 66 0 5 #[39, 41, 46, 51, 56, 61], 39) := by decide +kernel
theorem dX1_figure_40 : decode cX1_figure 40 = .ok (.iconst 1, 1) := by decide +kernel
theorem dX1_figure_41 : decode cX1_figure 41 = .ok (.ireturn, 1) := by decide +kernel
theorem dX1_figure_42 : decode cX1_figure 42 = .ok (.aload_n 0, 1) := by decide +kernel
theorem dX1_figure_43 : decode cX1_figure 43 = .ok (.getfield 7, 3) := by decide +kernel
theorem dX1_figure_46 : decode cX1_figure 46 = .ok (.ireturn, 1) := by decide +kernel
theorem dX1_figure_47 : decode cX1_figure 47 = .ok (.aload_n 0, 1) := by decide +kernel
theorem dX1_figure_48 : decode cX1_figure 48 = .ok (.getfield 13, 3) := by decide +kernel
theorem dX1_figure_51 : decode cX1_figure 51 = .ok (.ireturn, 1) := by decide +kernel
theorem dX1_figure_52 : decode cX1_figure 52 = .ok (.aload_n 0, 1) := by decide +kernel
theorem dX1_figure_53 : decode cX1_figure 53 = .ok (.getfield 16, 3) := by decide +kernel
theorem dX1_figure_56 : decode cX1_figure 56 = .ok (.ireturn, 1) := by decide +kernel
theorem dX1_figure_57 : decode cX1_figure 57 = .ok (.aload_n 0, 1) := by decide +kernel
theorem dX1_figure_58 : decode cX1_figure 58 = .ok (.getfield 19, 3) := by decide +kernel
theorem dX1_figure_61 : decode cX1_figure 61 = .ok (.ireturn, 1) := by decide +kernel
theorem dX1_figure_62 : decode cX1_figure 62 = .ok (.aload_n 0, 1) := by decide +kernel
theorem dX1_figure_63 : decode cX1_figure 63 = .ok (.getfield 30, 3) := by decide +kernel
theorem dX1_figure_66 : decode cX1_figure 66 = .ok (.ireturn, 1) := by decide +kernel
theorem dX1_figure_67 : decode cX1_figure 67 = .ok (.aload_n 0, 1) := by decide +kernel
theorem dX1_figure_68 : decode cX1_figure 68 = .ok (.getfield 33, 3) := by decide +kernel
theorem dX1_figure_71 : decode cX1_figure 71 = .ok (.ireturn, 1) := by decide +kernel
theorem dX2_init_0 : decode cX2_init 0 = .ok (.aload_n 0, 1) := by decide +kernel
theorem dX2_init_1 : decode cX2_init 1 = .ok (.invokespecial 3, 3) := by decide +kernel
theorem dX2_init_4 : decode cX2_init 4 = .ok (.aload_n 0, 1) := by decide +kernel
theorem dX2_init_5 : decode cX2_init 5 = .ok (.bipush 100, 2) := by decide +kernel
theorem dX2_init_7 : decode cX2_init 7 = .ok (.anewarray 9, 3) := by decide +kernel
theorem dX2_init_10 : decode cX2_init 10 = .ok (.putfield 11, 3) := by decide +kernel
theorem dX2_init_13 : decode cX2_init 13 = .ok (.return_, 1) := by decide +kernel
theorem dX2_put_0 : decode cX2_put 0 = .ok (.iload_n 1, 1) := by decide +kernel
theorem dX2_put_1 : decode cX2_put 1 = .ok (.invokestatic 17, 3) := by decide +kernel
theorem dX2_put_4 : decode cX2_put 4 = .ok (.ifCond .eq 34, 3) := by decide +kernel
theorem dX2_put_7 : decode cX2_put 7 = .ok (.iload_n 2, 1) := by decide +kernel
theorem dX2_put_8 : decode cX2_put 8 = .ok (.invokestatic 17, 3) := by decide +kernel
theorem dX2_put_11 : decode cX2_put 11 = .ok (.ifCond .eq 27, 3) := by decide +kernel
theorem dX2_put_14 : decode cX2_put 14 = .ok (.aload_n 0, 1) := by decide +kernel
theorem dX2_put_15 : decode cX2_put 15 = .ok (.getfield 11, 3) := by decide +kernel
theorem dX2_put_18 : decode cX2_put 18 = .ok (.iload_n 1, 1) := by decide +kernel
theorem dX2_put_19 : decode cX2_put 19 = .ok (.bipush 10, 2) := by decide +kernel
theorem dX2_put_21 : decode cX2_put 21 = .ok (.imul, 1) := by decide +kernel
theorem dX2_put_22 : decode cX2_put 22 = .ok (.iload_n 2, 1) := by decide +kernel
theorem dX2_put_23 : decode cX2_put 23 = .ok (.iadd, 1) := by decide +kernel
theorem dX2_put_24 : decode cX2_put 24 = .ok (.aload_n 3, 1) := by decide +kernel
theorem dX2_put_25 : decode cX2_put 25 = .ok (.aastore, 1) := by decide +kernel
theorem dX2_put_26 : decode cX2_put 26 = .ok (.aload_n 0, 1) := by decide +kernel
theorem dX2_put_27 : decode cX2_put 27 = .ok (.getfield 11, 3) := by decide +kernel
theorem dX2_put_30 : decode cX2_put 30 = .ok (.iload_n 2, 1) := by decide +kernel
theorem dX2_put_31 : decode cX2_put 31 = .ok (.bipush 10, 2) := by decide +kernel
theorem dX2_put_33 : decode cX2_put 33 = .ok (.imul, 1) := by decide +kernel
theorem dX2_put_34 : decode cX2_put 34 = .ok (.iload_n 1, 1) := by decide +kernel
theorem dX2_put_35 : decode cX2_put 35 = .ok (.iadd, 1) := by decide +kernel
theorem dX2_put_36 : decode cX2_put 36 = .ok (.aload_n 3, 1) := by decide +kernel
theorem dX2_put_37 : decode cX2_put 37 = .ok (.aastore, 1) := by decide +kernel
theorem dX2_put_38 : decode cX2_put 38 = .ok (.return_, 1) := by decide +kernel
theorem dX2_between_0 : decode cX2_between 0 = .ok (.iload_n 1, 1) := by decide +kernel
theorem dX2_between_1 : decode cX2_between 1 = .ok (.invokestatic 17, 3) := by decide +kernel
theorem dX2_between_4 : decode cX2_between 4 = .ok (.ifCond .eq 24, 3) := by decide +kernel
theorem dX2_between_7 : decode cX2_between 7 = .ok (.iload_n 2, 1) := by decide +kernel
theorem dX2_between_8 : decode cX2_between 8 = .ok (.invokestatic 17, 3) := by decide +kernel
theorem dX2_between_11 : decode cX2_between 11 = .ok (.ifCond .eq 17, 3) := by decide +kernel
theorem dX2_between_14 : decode cX2_between 14 = .ok (.aload_n 0, 1) := by decide +kernel
theorem dX2_between_15 : decode cX2_between 15 = .ok (.getfield 11, 3) := by decide +kernel
theorem dX2_between_18 : decode cX2_between 18 = .ok (.iload_n 1, 1) := by decide +kernel
theorem dX2_between_19 : decode cX2_between 19 = .ok (.bipush 10, 2) := by decide +kernel
theorem dX2_between_21 : decode cX2_between 21 = .ok (.imul, 1) := by decide +kernel
theorem dX2_between_22 : decode cX2_between 22 = .ok (.iload_n 2, 1) := by decide +kernel
theorem dX2_between_23 : decode cX2_between 23 = .ok (.iadd, 1) := by decide +kernel
theorem dX2_between_24 : decode cX2_between 24 = .ok (.aaload, 1) := by decide +kernel
theorem dX2_between_25 : decode cX2_between 25 = .ok (.goto 4, 3) := by decide +kernel
theorem dX2_between_28 : decode cX2_between 28 = .ok (.aconst_null, 1) := by decide +kernel
theorem dX2_between_29 : decode cX2_between 29 = .ok (.areturn, 1) := by decide +kernel
theorem dX2_isOnMap_0 : decode cX2_isOnMap 0 = .ok (.iload_n 0, 1) := by decide +kernel
theorem dX2_isOnMap_1 : decode cX2_isOnMap 1 = .ok (.ifCond .lt 13, 3) := by decide +kernel
theorem dX2_isOnMap_4 : decode cX2_isOnMap 4 = .ok (.iload_n 0, 1) := by decide +kernel
theorem dX2_isOnMap_5 : decode cX2_isOnMap 5 = .ok (.bipush 10, 2) := by decide +kernel
theorem dX2_isOnMap_7 : decode cX2_isOnMap 7 = .ok (.if_icmp .ge 7, 3) := by decide +kernel
theorem dX2_isOnMap_10 : decode cX2_isOnMap 10 = .ok (.iconst 1, 1) := by decide +kernel
theorem dX2_isOnMap_11 : decode cX2_isOnMap 11 = .ok (.goto 4, 3) := by decide +kernel
theorem dX2_isOnMap_14 : decode cX2_isOnMap 14 = .ok (.iconst 0, 1) := by decide +kernel
theorem dX2_isOnMap_15 : decode cX2_isOnMap 15 = .ok (.ireturn, 1) := by decide +kernel
theorem dX3_init_0 : decode cX3_init 0 = .ok (.aload_n 0, 1) := by decide +kernel
theorem dX3_init_1 : decode cX3_init 1 = .ok (.invokespecial 3, 3) := by decide +kernel
theorem dX3_init_4 : decode cX3_init 4 = .ok (.aload_n 0, 1) := by decide +kernel
theorem dX3_init_5 : decode cX3_init 5 = .ok (.iload_n 1, 1) := by decide +kernel
theorem dX3_init_6 : decode cX3_init 6 = .ok (.putfield 9, 3) := by decide +kernel
theorem dX3_init_9 : decode cX3_init 9 = .ok (.aload_n 0, 1) := by decide +kernel
theorem dX3_init_10 : decode cX3_init 10 = .ok (.iload_n 2, 1) := by decide +kernel
theorem dX3_init_11 : decode cX3_init 11 = .ok (.putfield 15, 3) := by decide +kernel
theorem dX3_init_14 : decode cX3_init 14 = .ok (.aload_n 0, 1) := by decide +kernel
theorem dX3_init_15 : decode cX3_init 15 = .ok (.iload_n 3, 1) := by decide +kernel
theorem dX3_init_16 : decode cX3_init 16 = .ok (.putfield 18, 3) := by decide +kernel
theorem dX3_init_19 : decode cX3_init 19 = .ok (.aload_n 0, 1) := by decide +kernel
theorem dX3_init_20 : decode cX3_init 20 = .ok (.iload 4, 2) := by decide +kernel
theorem dX3_init_22 : decode cX3_init 22 = .ok (.putfield 21, 3) := by decide +kernel
theorem dX3_init_25 : decode cX3_init 25 = .ok (.aload_n 0, 1) := by decide +kernel
theorem dX3_init_26 : decode cX3_init 26 = .ok (.iload 5, 2) := by decide +kernel
theorem dX3_init_28 : decode cX3_init 28 = .ok (.putfield 24, 3) := by decide +kernel
theorem dX3_init_31 : decode cX3_init 31 = .ok (.aload_n 0, 1) := by decide +kernel
theorem dX3_init_32 : decode cX3_init 32 = .ok (.iload 6, 2) := by decide +kernel
theorem dX3_init_34 : decode cX3_init 34 = .ok (.putfield 27, 3) := by decide +kernel
theorem dX3_init_37 : decode cX3_init 37 = .ok (.aload_n 0, 1) := by decide +kernel
theorem dX3_init_38 : decode cX3_init 38 = .ok (.iconst (-1), 1) := by decide +kernel
theorem dX3_init_39 : decode cX3_init 39 = .ok (.putfield 30, 3) := by decide +kernel
theorem dX3_init_42 : decode cX3_init 42 = .ok (.return_, 1) := by decide +kernel
theorem dX3_putIntoBag_0 : decode cX3_putIntoBag 0 = .ok (.aload_n 0, 1) := by decide +kernel
theorem dX3_putIntoBag_1 : decode cX3_putIntoBag 1 = .ok (.iconst (-1), 1) := by decide +kernel
theorem dX3_putIntoBag_2 : decode cX3_putIntoBag 2 = .ok (.aload_n 1, 1) := by decide +kernel
theorem dX3_putIntoBag_3 : decode cX3_putIntoBag 3 = .ok (.getfield 33, 3) := by decide +kernel
theorem dX3_putIntoBag_6 : decode cX3_putIntoBag 6 = .ok (.invokevirtual 36, 3) := by decide +kernel
theorem dX3_putIntoBag_9 : decode cX3_putIntoBag 9 = .ok (.return_, 1) := by decide +kernel
theorem dX3_putIntoTown_0 : decode cX3_putIntoTown 0 = .ok (.aload_n 0, 1) := by decide +kernel
theorem dX3_putIntoTown_1 : decode cX3_putIntoTown 1 = .ok (.iload_n 1, 1) := by decide +kernel
theorem dX3_putIntoTown_2 : decode cX3_putIntoTown 2 = .ok (.iconst (-1), 1) := by decide +kernel
theorem dX3_putIntoTown_3 : decode cX3_putIntoTown 3 = .ok (.invokevirtual 36, 3) := by decide +kernel
theorem dX3_putIntoTown_6 : decode cX3_putIntoTown 6 = .ok (.return_, 1) := by decide +kernel
theorem dX3_vanish_0 : decode cX3_vanish 0 = .ok (.aload_n 0, 1) := by decide +kernel
theorem dX3_vanish_1 : decode cX3_vanish 1 = .ok (.iconst (-1), 1) := by decide +kernel
theorem dX3_vanish_2 : decode cX3_vanish 2 = .ok (.iconst (-1), 1) := by decide +kernel
theorem dX3_vanish_3 : decode cX3_vanish 3 = .ok (.invokevirtual 36, 3) := by decide +kernel
theorem dX3_vanish_6 : decode cX3_vanish 6 = .ok (.return_, 1) := by decide +kernel
theorem dX3_move_0 : decode cX3_move 0 = .ok (.aload_n 0, 1) := by decide +kernel
theorem dX3_move_1 : decode cX3_move 1 = .ok (.iload_n 1, 1) := by decide +kernel
theorem dX3_move_2 : decode cX3_move 2 = .ok (.putfield 27, 3) := by decide +kernel
theorem dX3_move_5 : decode cX3_move 5 = .ok (.aload_n 0, 1) := by decide +kernel
theorem dX3_move_6 : decode cX3_move 6 = .ok (.iload_n 2, 1) := by decide +kernel
theorem dX3_move_7 : decode cX3_move 7 = .ok (.putfield 30, 3) := by decide +kernel
theorem dX3_move_10 : decode cX3_move 10 = .ok (.aload_n 0, 1) := by decide +kernel
theorem dX3_move_11 : decode cX3_move 11 = .ok (.iconst 0, 1) := by decide +kernel
theorem dX3_move_12 : decode cX3_move 12 = .ok (.putfield 40, 3) := by decide +kernel
theorem dX3_move_15 : decode cX3_move 15 = .ok (.return_, 1) := by decide +kernel
theorem dX3_isGone_0 : decode cX3_isGone 0 = .ok (.aload_n 0, 1) := by decide +kernel
theorem dX3_isGone_1 : decode cX3_isGone 1 = .ok (.getfield 27, 3) := by decide +kernel
theorem dX3_isGone_4 : decode cX3_isGone 4 = .ok (.iconst (-1), 1) := by decide +kernel
theorem dX3_isGone_5 : decode cX3_isGone 5 = .ok (.if_icmp .ne 15, 3) := by decide +kernel
theorem dX3_isGone_8 : decode cX3_isGone 8 = .ok (.aload_n 0, 1) := by decide +kernel
theorem dX3_isGone_9 : decode cX3_isGone 9 = .ok (.getfield 30, 3) := by decide +kernel
theorem dX3_isGone_12 : decode cX3_isGone 12 = .ok (.iconst (-1), 1) := by decide +kernel
theorem dX3_isGone_13 : decode cX3_isGone 13 = .ok (.if_icmp .ne 7, 3) := by decide +kernel
theorem dX3_isGone_16 : decode cX3_isGone 16 = .ok (.iconst 1, 1) := by decide +kernel
theorem dX3_isGone_17 : decode cX3_isGone 17 = .ok (.goto 4, 3) := by decide +kernel
theorem dX3_isGone_20 : decode cX3_isGone 20 = .ok (.iconst 0, 1) := by decide +kernel
theorem dX3_isGone_21 : decode cX3_isGone 21 = .ok (.ireturn, 1) := by decide +kernel
theorem dX3_isInBagOf_0 : decode cX3_isInBagOf 0 = .ok (.aload_n 0, 1) := by decide +kernel
theorem dX3_isInBagOf_1 : decode cX3_isInBagOf 1 = .ok (.getfield 30, 3) := by decide +kernel
theorem dX3_isInBagOf_4 : decode cX3_isInBagOf 4 = .ok (.aload_n 1, 1) := by decide +kernel
theorem dX3_isInBagOf_5 : decode cX3_isInBagOf 5 = .ok (.getfield 33, 3) := by decide +kernel
theorem dX3_isInBagOf_8 : decode cX3_isInBagOf 8 = .ok (.if_icmp .ne 7, 3) := by decide +kernel
theorem dX3_isInBagOf_11 : decode cX3_isInBagOf 11 = .ok (.iconst 1, 1) := by decide +kernel
theorem dX3_isInBagOf_12 : decode cX3_isInBagOf 12 = .ok (.goto 4, 3) := by decide +kernel
theorem dX3_isInBagOf_15 : decode cX3_isInBagOf 15 = .ok (.iconst 0, 1) := by decide +kernel
theorem dX3_isInBagOf_16 : decode cX3_isInBagOf 16 = .ok (.ireturn, 1) := by decide +kernel
theorem dX3_isHiddenBy_0 : decode cX3_isHiddenBy 0 = .ok (.aload_n 0, 1) := by decide +kernel
theorem dX3_isHiddenBy_1 : decode cX3_isHiddenBy 1 = .ok (.getfield 40, 3) := by decide +kernel
theorem dX3_isHiddenBy_4 : decode cX3_isHiddenBy 4 = .ok (.ifCond .eq 15, 3) := by decide +kernel
theorem dX3_isHiddenBy_7 : decode cX3_isHiddenBy 7 = .ok (.aload_n 0, 1) := by decide +kernel
theorem dX3_isHiddenBy_8 : decode cX3_isHiddenBy 8 = .ok (.aload_n 1, 1) := by decide +kernel
theorem dX3_isHiddenBy_9 : decode cX3_isHiddenBy 9 = .ok (.invokevirtual 44, 3) := by decide +kernel
theorem dX3_isHiddenBy_12 : decode cX3_isHiddenBy 12 = .ok (.ifCond .eq 7, 3) := by decide +kernel
theorem dX3_isHiddenBy_15 : decode cX3_isHiddenBy 15 = .ok (.iconst 1, 1) := by decide +kernel
theorem dX3_isHiddenBy_16 : decode cX3_isHiddenBy 16 = .ok (.goto 4, 3) := by decide +kernel
theorem dX3_isHiddenBy_19 : decode cX3_isHiddenBy 19 = .ok (.iconst 0, 1) := by decide +kernel
theorem dX3_isHiddenBy_20 : decode cX3_isHiddenBy 20 = .ok (.ireturn, 1) := by decide +kernel
theorem dX3_isShownBy_0 : decode cX3_isShownBy 0 = .ok (.aload_n 0, 1) := by decide +kernel
theorem dX3_isShownBy_1 : decode cX3_isShownBy 1 = .ok (.getfield 40, 3) := by decide +kernel
theorem dX3_isShownBy_4 : decode cX3_isShownBy 4 = .ok (.ifCond .ne 15, 3) := by decide +kernel
theorem dX3_isShownBy_7 : decode cX3_isShownBy 7 = .ok (.aload_n 0, 1) := by decide +kernel
theorem dX3_isShownBy_8 : decode cX3_isShownBy 8 = .ok (.aload_n 1, 1) := by decide +kernel
theorem dX3_isShownBy_9 : decode cX3_isShownBy 9 = .ok (.invokevirtual 44, 3) := by decide +kernel
theorem dX3_isShownBy_12 : decode cX3_isShownBy 12 = .ok (.ifCond .eq 7, 3) := by decide +kernel
theorem dX3_isShownBy_15 : decode cX3_isShownBy 15 = .ok (.iconst 1, 1) := by decide +kernel
theorem dX3_isShownBy_16 : decode cX3_isShownBy 16 = .ok (.goto 4, 3) := by decide +kernel
theorem dX3_isShownBy_19 : decode cX3_isShownBy 19 = .ok (.iconst 0, 1) := by decide +kernel
theorem dX3_isShownBy_20 : decode cX3_isShownBy 20 = .ok (.ireturn, 1) := by decide +kernel
theorem dX3_burnable_0 : decode cX3_burnable 0 = .ok (.iload_n 1, 1) := by decide +kernel
theorem dX3_burnable_1 : decode cX3_burnable 1 = .ok (.aload_n 0, 1) := by decide +kernel
theorem dX3_burnable_2 : decode cX3_burnable 2 = .ok (.getfield 24, 3) := by decide +kernel
theorem dX3_burnable_5 : decode cX3_burnable 5 = .ok (.invokestatic 48, 3) := by decide +kernel
theorem dX3_burnable_8 : decode cX3_burnable 8 = .ok (.ireturn, 1) := by decide +kernel
theorem dX3_figure_0 : decode cX3_figure 0 = .ok (.iload_n 1, 1) := by decide +kernel
theorem dX3_figure_1 : decode cX3_figure 1 = .ok (.tableswitch 69 0 5 #[39, 44, 49, 54, 59, 64], 39) := by decide +kernel
theorem dX3_figure_40 : decode cX3_figure 40 = .ok (.aload_n 0, 1) := by decide +kernel
theorem dX3_figure_41 : decode cX3_figure 41 = .ok (.getfield 18, 3) := by decide +kernel
theorem dX3_figure_44 : decode cX3_figure 44 = .ok (.ireturn, 1) := by decide +kernel
theorem dX3_figure_45 : decode cX3_figure 45 = .ok (.aload_n 0, 1) := by decide +kernel
theorem dX3_figure_46 : decode cX3_figure 46 = .ok (.getfield 21, 3) := by decide +kernel
theorem dX3_figure_49 : decode cX3_figure 49 = .ok (.ireturn, 1) := by decide +kernel
theorem dX3_figure_50 : decode cX3_figure 50 = .ok (.aload_n 0, 1) := by decide +kernel
theorem dX3_figure_51 : decode cX3_figure 51 = .ok (.getfield 24, 3) := by decide +kernel
theorem dX3_figure_54 : decode cX3_figure 54 = .ok (.ireturn, 1) := by decide +kernel
theorem dX3_figure_55 : decode cX3_figure 55 = .ok (.aload_n 0, 1) := by decide +kernel
theorem dX3_figure_56 : decode cX3_figure 56 = .ok (.getfield 15, 3) := by decide +kernel
theorem dX3_figure_59 : decode cX3_figure 59 = .ok (.ireturn, 1) := by decide +kernel
theorem dX3_figure_60 : decode cX3_figure 60 = .ok (.aload_n 0, 1) := by decide +kernel
theorem dX3_figure_61 : decode cX3_figure 61 = .ok (.getfield 27, 3) := by decide +kernel
theorem dX3_figure_64 : decode cX3_figure 64 = .ok (.ireturn, 1) := by decide +kernel
theorem dX3_figure_65 : decode cX3_figure 65 = .ok (.aload_n 0, 1) := by decide +kernel
theorem dX3_figure_66 : decode cX3_figure 66 = .ok (.getfield 30, 3) := by decide +kernel
theorem dX3_figure_69 : decode cX3_figure 69 = .ok (.ireturn, 1) := by decide +kernel
theorem dX3_figure_70 : decode cX3_figure 70 = .ok (.aload_n 0, 1) := by decide +kernel
theorem dX3_figure_71 : decode cX3_figure 71 = .ok (.getfield 40, 3) := by decide +kernel
theorem dX3_figure_74 : decode cX3_figure 74 = .ok (.ifCond .eq 7, 3) := by decide +kernel
theorem dX3_figure_77 : decode cX3_figure 77 = .ok (.iconst 1, 1) := by decide +kernel
theorem dX3_figure_78 : decode cX3_figure 78 = .ok (.goto 4, 3) := by decide +kernel
theorem dX3_figure_81 : decode cX3_figure 81 = .ok (.iconst 0, 1) := by decide +kernel
theorem dX3_figure_82 : decode cX3_figure 82 = .ok (.ireturn, 1) := by decide +kernel
theorem dX4_init_0 : decode cX4_init 0 = .ok (.aload_n 0, 1) := by decide +kernel
theorem dX4_init_1 : decode cX4_init 1 = .ok (.invokespecial 3, 3) := by decide +kernel
theorem dX4_init_4 : decode cX4_init 4 = .ok (.aload_n 0, 1) := by decide +kernel
theorem dX4_init_5 : decode cX4_init 5 = .ok (.aload_n 1, 1) := by decide +kernel
theorem dX4_init_6 : decode cX4_init 6 = .ok (.putfield 9, 3) := by decide +kernel
theorem dX4_init_9 : decode cX4_init 9 = .ok (.aload_n 0, 1) := by decide +kernel
theorem dX4_init_10 : decode cX4_init 10 = .ok (.bipush 60, 2) := by decide +kernel
theorem dX4_init_12 : decode cX4_init 12 = .ok (.newarray .int, 2) := by decide +kernel
theorem dX4_init_14 : decode cX4_init 14 = .ok (.putfield 15, 3) := by decide +kernel
theorem dX4_init_17 : decode cX4_init 17 = .ok (.aload_n 0, 1) := by decide +kernel
theorem dX4_init_18 : decode cX4_init 18 = .ok (.bipush 60, 2) := by decide +kernel
theorem dX4_init_20 : decode cX4_init 20 = .ok (.newarray .boolean, 2) := by decide +kernel
theorem dX4_init_22 : decode cX4_init 22 = .ok (.putfield 19, 3) := by decide +kernel
theorem dX4_init_25 : decode cX4_init 25 = .ok (.return_, 1) := by decide +kernel
theorem dX4_dutiesOf_0 : decode cX4_dutiesOf 0 = .ok (.iload_n 0, 1) := by decide +kernel
theorem dX4_dutiesOf_1 : decode cX4_dutiesOf 1 = .ok (.sipush 1000, 3) := by decide +kernel
theorem dX4_dutiesOf_4 : decode cX4_dutiesOf 4 = .ok (.idiv, 1) := by decide +kernel
theorem dX4_dutiesOf_5 : decode cX4_dutiesOf 5 = .ok (.ireturn, 1) := by decide +kernel
theorem dX4_hoursOf_0 : decode cX4_hoursOf 0 = .ok (.iload_n 0, 1) := by decide +kernel
theorem dX4_hoursOf_1 : decode cX4_hoursOf 1 = .ok (.sipush 1000, 3) := by decide +kernel
theorem dX4_hoursOf_4 : decode cX4_hoursOf 4 = .ok (.irem, 1) := by decide +kernel
theorem dX4_hoursOf_5 : decode cX4_hoursOf 5 = .ok (.ireturn, 1) := by decide +kernel
theorem dX4_leastPrice_0 : decode cX4_leastPrice 0 = .ok (.aload_n 0, 1) := by decide +kernel
theorem dX4_leastPrice_1 : decode cX4_leastPrice 1 = .ok (.iload_n 2, 1) := by decide +kernel
theorem dX4_leastPrice_2 : decode cX4_leastPrice 2 = .ok (.invokevirtual 23, 3) := by decide +kernel
theorem dX4_leastPrice_5 : decode cX4_leastPrice 5 = .ok (.iconst 0, 1) := by decide +kernel
theorem dX4_leastPrice_6 : decode cX4_leastPrice 6 = .ok (.istore 4, 2) := by decide +kernel
theorem dX4_leastPrice_8 : decode cX4_leastPrice 8 = .ok (.iload 4, 2) := by decide +kernel
theorem dX4_leastPrice_10 : decode cX4_leastPrice 10 = .ok (.bipush 60, 2) := by decide +kernel
theorem dX4_leastPrice_12 : decode cX4_leastPrice 12 = .ok (.if_icmp .ge 55, 3) := by decide +kernel
theorem dX4_leastPrice_15 : decode cX4_leastPrice 15 = .ok (.aload_n 0, 1) := by decide +kernel
theorem dX4_leastPrice_16 : decode cX4_leastPrice 16 = .ok (.invokevirtual 27, 3) := by decide +kernel
theorem dX4_leastPrice_19 : decode cX4_leastPrice 19 = .ok (.istore 5, 2) := by decide +kernel
theorem dX4_leastPrice_21 : decode cX4_leastPrice 21 = .ok (.iload 5, 2) := by decide +kernel
theorem dX4_leastPrice_23 : decode cX4_leastPrice 23 = .ok (.iconst (-1), 1) := by decide +kernel
theorem dX4_leastPrice_24 : decode cX4_leastPrice 24 = .ok (.if_icmp .ne 5, 3) := by decide +kernel
theorem dX4_leastPrice_27 : decode cX4_leastPrice 27 = .ok (.iconst (-1), 1) := by decide +kernel
theorem dX4_leastPrice_28 : decode cX4_leastPrice 28 = .ok (.ireturn, 1) := by decide +kernel
theorem dX4_leastPrice_29 : decode cX4_leastPrice 29 = .ok (.iload 5, 2) := by decide +kernel
theorem dX4_leastPrice_31 : decode cX4_leastPrice 31 = .ok (.invokestatic 31, 3) := by decide +kernel
theorem dX4_leastPrice_34 : decode cX4_leastPrice 34 = .ok (.iload_n 3, 1) := by decide +kernel
theorem dX4_leastPrice_35 : decode cX4_leastPrice 35 = .ok (.if_icmp .ne 11, 3) := by decide +kernel
theorem dX4_leastPrice_38 : decode cX4_leastPrice 38 = .ok (.aload_n 0, 1) := by decide +kernel
theorem dX4_leastPrice_39 : decode cX4_leastPrice 39 = .ok (.getfield 15, 3) := by decide +kernel
theorem dX4_leastPrice_42 : decode cX4_leastPrice 42 = .ok (.iload 5, 2) := by decide +kernel
theorem dX4_leastPrice_44 : decode cX4_leastPrice 44 = .ok (.iaload, 1) := by decide +kernel
theorem dX4_leastPrice_45 : decode cX4_leastPrice 45 = .ok (.ireturn, 1) := by decide +kernel
theorem dX4_leastPrice_46 : decode cX4_leastPrice 46 = .ok (.aload_n 0, 1) := by decide +kernel
theorem dX4_leastPrice_47 : decode cX4_leastPrice 47 = .ok (.getfield 19, 3) := by decide +kernel
theorem dX4_leastPrice_50 : decode cX4_leastPrice 50 = .ok (.iload 5, 2) := by decide +kernel
theorem dX4_leastPrice_52 : decode cX4_leastPrice 52 = .ok (.iconst 1, 1) := by decide +kernel
theorem dX4_leastPrice_53 : decode cX4_leastPrice 53 = .ok (.bastore, 1) := by decide +kernel
theorem dX4_leastPrice_54 : decode cX4_leastPrice 54 = .ok (.aload_n 0, 1) := by decide +kernel
theorem dX4_leastPrice_55 : decode cX4_leastPrice 55 = .ok (.iload 5, 2) := by decide +kernel
theorem dX4_leastPrice_57 : decode cX4_leastPrice 57 = .ok (.aload_n 1, 1) := by decide +kernel
theorem dX4_leastPrice_58 : decode cX4_leastPrice 58 = .ok (.invokevirtual 35, 3) := by decide +kernel
theorem dX4_leastPrice_61 : decode cX4_leastPrice 61 = .ok (.iinc 4 1, 3) := by decide +kernel
theorem dX4_leastPrice_64 : decode cX4_leastPrice 64 = .ok (.goto (-56), 3) := by decide +kernel
theorem dX4_leastPrice_67 : decode cX4_leastPrice 67 = .ok (.iconst (-1), 1) := by decide +kernel
theorem dX4_leastPrice_68 : decode cX4_leastPrice 68 = .ok (.ireturn, 1) := by decide +kernel
theorem dX4_startIn_0 : decode cX4_startIn 0 = .ok (.iconst 0, 1) := by decide +kernel
theorem dX4_startIn_1 : decode cX4_startIn 1 = .ok (.istore_n 2, 1) := by decide +kernel
theorem dX4_startIn_2 : decode cX4_startIn 2 = .ok (.iload_n 2, 1) := by decide +kernel
theorem dX4_startIn_3 : decode cX4_startIn 3 = .ok (.bipush 60, 2) := by decide +kernel
theorem dX4_startIn_5 : decode cX4_startIn 5 = .ok (.if_icmp .ge 33, 3) := by decide +kernel
theorem dX4_startIn_8 : decode cX4_startIn 8 = .ok (.aload_n 0, 1) := by decide +kernel
theorem dX4_startIn_9 : decode cX4_startIn 9 = .ok (.getfield 15, 3) := by decide +kernel
theorem dX4_startIn_12 : decode cX4_startIn 12 = .ok (.iload_n 2, 1) := by decide +kernel
theorem dX4_startIn_13 : decode cX4_startIn 13 = .ok (.iload_n 2, 1) := by decide +kernel
theorem dX4_startIn_14 : decode cX4_startIn 14 = .ok (.iload_n 1, 1) := by decide +kernel
theorem dX4_startIn_15 : decode cX4_startIn 15 = .ok (.if_icmp .ne 7, 3) := by decide +kernel
theorem dX4_startIn_18 : decode cX4_startIn 18 = .ok (.iconst 0, 1) := by decide +kernel
theorem dX4_startIn_19 : decode cX4_startIn 19 = .ok (.goto 5, 3) := by decide +kernel
theorem dX4_startIn_22 : decode cX4_startIn 22 = .ok (.ldc 39, 2) := by decide +kernel
theorem dX4_startIn_24 : decode cX4_startIn 24 = .ok (.iastore, 1) := by decide +kernel
theorem dX4_startIn_25 : decode cX4_startIn 25 = .ok (.aload_n 0, 1) := by decide +kernel
theorem dX4_startIn_26 : decode cX4_startIn 26 = .ok (.getfield 19, 3) := by decide +kernel
theorem dX4_startIn_29 : decode cX4_startIn 29 = .ok (.iload_n 2, 1) := by decide +kernel
theorem dX4_startIn_30 : decode cX4_startIn 30 = .ok (.iconst 0, 1) := by decide +kernel
theorem dX4_startIn_31 : decode cX4_startIn 31 = .ok (.bastore, 1) := by decide +kernel
theorem dX4_startIn_32 : decode cX4_startIn 32 = .ok (.iinc 2 1, 3) := by decide +kernel
theorem dX4_startIn_35 : decode cX4_startIn 35 = .ok (.goto (-33), 3) := by decide +kernel
theorem dX4_startIn_38 : decode cX4_startIn 38 = .ok (.return_, 1) := by decide +kernel
theorem dX4_nextStage_0 : decode cX4_nextStage 0 = .ok (.iconst (-1), 1) := by decide +kernel
theorem dX4_nextStage_1 : decode cX4_nextStage 1 = .ok (.istore_n 1, 1) := by decide +kernel
theorem dX4_nextStage_2 : decode cX4_nextStage 2 = .ok (.ldc 39, 2) := by decide +kernel
theorem dX4_nextStage_4 : decode cX4_nextStage 4 = .ok (.istore_n 2, 1) := by decide +kernel
theorem dX4_nextStage_5 : decode cX4_nextStage 5 = .ok (.iconst 0, 1) := by decide +kernel
theorem dX4_nextStage_6 : decode cX4_nextStage 6 = .ok (.istore_n 3, 1) := by decide +kernel
theorem dX4_nextStage_7 : decode cX4_nextStage 7 = .ok (.iload_n 3, 1) := by decide +kernel
theorem dX4_nextStage_8 : decode cX4_nextStage 8 = .ok (.bipush 60, 2) := by decide +kernel
theorem dX4_nextStage_10 : decode cX4_nextStage 10 = .ok (.if_icmp .ge 37, 3) := by decide +kernel
theorem dX4_nextStage_13 : decode cX4_nextStage 13 = .ok (.aload_n 0, 1) := by decide +kernel
theorem dX4_nextStage_14 : decode cX4_nextStage 14 = .ok (.getfield 19, 3) := by decide +kernel
theorem dX4_nextStage_17 : decode cX4_nextStage 17 = .ok (.iload_n 3, 1) := by decide +kernel
theorem dX4_nextStage_18 : decode cX4_nextStage 18 = .ok (.baload, 1) := by decide +kernel
theorem dX4_nextStage_19 : decode cX4_nextStage 19 = .ok (.ifCond .ne 22, 3) := by decide +kernel
theorem dX4_nextStage_22 : decode cX4_nextStage 22 = .ok (.aload_n 0, 1) := by decide +kernel
theorem dX4_nextStage_23 : decode cX4_nextStage 23 = .ok (.getfield 15, 3) := by decide +kernel
theorem dX4_nextStage_26 : decode cX4_nextStage 26 = .ok (.iload_n 3, 1) := by decide +kernel
theorem dX4_nextStage_27 : decode cX4_nextStage 27 = .ok (.iaload, 1) := by decide +kernel
theorem dX4_nextStage_28 : decode cX4_nextStage 28 = .ok (.iload_n 2, 1) := by decide +kernel
theorem dX4_nextStage_29 : decode cX4_nextStage 29 = .ok (.if_icmp .ge 12, 3) := by decide +kernel
theorem dX4_nextStage_32 : decode cX4_nextStage 32 = .ok (.iload_n 3, 1) := by decide +kernel
theorem dX4_nextStage_33 : decode cX4_nextStage 33 = .ok (.istore_n 1, 1) := by decide +kernel
theorem dX4_nextStage_34 : decode cX4_nextStage 34 = .ok (.aload_n 0, 1) := by decide +kernel
theorem dX4_nextStage_35 : decode cX4_nextStage 35 = .ok (.getfield 15, 3) := by decide +kernel
theorem dX4_nextStage_38 : decode cX4_nextStage 38 = .ok (.iload_n 3, 1) := by decide +kernel
theorem dX4_nextStage_39 : decode cX4_nextStage 39 = .ok (.iaload, 1) := by decide +kernel
theorem dX4_nextStage_40 : decode cX4_nextStage 40 = .ok (.istore_n 2, 1) := by decide +kernel
theorem dX4_nextStage_41 : decode cX4_nextStage 41 = .ok (.iinc 3 1, 3) := by decide +kernel
theorem dX4_nextStage_44 : decode cX4_nextStage 44 = .ok (.goto (-37), 3) := by decide +kernel
theorem dX4_nextStage_47 : decode cX4_nextStage 47 = .ok (.iload_n 1, 1) := by decide +kernel
theorem dX4_nextStage_48 : decode cX4_nextStage 48 = .ok (.ireturn, 1) := by decide +kernel
theorem dX4_goOnFrom_0 : decode cX4_goOnFrom 0 = .ok (.iconst 0, 1) := by decide +kernel
theorem dX4_goOnFrom_1 : decode cX4_goOnFrom 1 = .ok (.istore_n 3, 1) := by decide +kernel
theorem dX4_goOnFrom_2 : decode cX4_goOnFrom 2 = .ok (.iload_n 3, 1) := by decide +kernel
theorem dX4_goOnFrom_3 : decode cX4_goOnFrom 3 = .ok (.bipush 10, 2) := by decide +kernel
theorem dX4_goOnFrom_5 : decode cX4_goOnFrom 5 = .ok (.if_icmp .ge 37, 3) := by decide +kernel
theorem dX4_goOnFrom_8 : decode cX4_goOnFrom 8 = .ok (.aload_n 0, 1) := by decide +kernel
theorem dX4_goOnFrom_9 : decode cX4_goOnFrom 9 = .ok (.getfield 9, 3) := by decide +kernel
theorem dX4_goOnFrom_12 : decode cX4_goOnFrom 12 = .ok (.iload_n 1, 1) := by decide +kernel
theorem dX4_goOnFrom_13 : decode cX4_goOnFrom 13 = .ok (.invokestatic 31, 3) := by decide +kernel
theorem dX4_goOnFrom_16 : decode cX4_goOnFrom 16 = .ok (.iload_n 3, 1) := by decide +kernel
theorem dX4_goOnFrom_17 : decode cX4_goOnFrom 17 = .ok (.invokevirtual 40, 3) := by decide +kernel
theorem dX4_goOnFrom_20 : decode cX4_goOnFrom 20 = .ok (.astore 4, 2) := by decide +kernel
theorem dX4_goOnFrom_22 : decode cX4_goOnFrom 22 = .ok (.aload 4, 2) := by decide +kernel
theorem dX4_goOnFrom_24 : decode cX4_goOnFrom 24 = .ok (.ifnull 12, 3) := by decide +kernel
theorem dX4_goOnFrom_27 : decode cX4_goOnFrom 27 = .ok (.aload_n 0, 1) := by decide +kernel
theorem dX4_goOnFrom_28 : decode cX4_goOnFrom 28 = .ok (.aload 4, 2) := by decide +kernel
theorem dX4_goOnFrom_30 : decode cX4_goOnFrom 30 = .ok (.iload_n 3, 1) := by decide +kernel
theorem dX4_goOnFrom_31 : decode cX4_goOnFrom 31 = .ok (.iload_n 1, 1) := by decide +kernel
theorem dX4_goOnFrom_32 : decode cX4_goOnFrom 32 = .ok (.aload_n 2, 1) := by decide +kernel
theorem dX4_goOnFrom_33 : decode cX4_goOnFrom 33 = .ok (.invokevirtual 46, 3) := by decide +kernel
theorem dX4_goOnFrom_36 : decode cX4_goOnFrom 36 = .ok (.iinc 3 1, 3) := by decide +kernel
theorem dX4_goOnFrom_39 : decode cX4_goOnFrom 39 = .ok (.goto (-37), 3) := by decide +kernel
theorem dX4_goOnFrom_42 : decode cX4_goOnFrom 42 = .ok (.return_, 1) := by decide +kernel
theorem dX4_goBy_0 : decode cX4_goBy 0 = .ok (.iload_n 3, 1) := by decide +kernel
theorem dX4_goBy_1 : decode cX4_goBy 1 = .ok (.invokestatic 50, 3) := by decide +kernel
theorem dX4_goBy_4 : decode cX4_goBy 4 = .ok (.istore 5, 2) := by decide +kernel
theorem dX4_goBy_6 : decode cX4_goBy 6 = .ok (.iconst 0, 1) := by decide +kernel
theorem dX4_goBy_7 : decode cX4_goBy 7 = .ok (.istore 6, 2) := by decide +kernel
theorem dX4_goBy_9 : decode cX4_goBy 9 = .ok (.iload 6, 2) := by decide +kernel
theorem dX4_goBy_11 : decode cX4_goBy 11 = .ok (.aload 4, 2) := by decide +kernel
theorem dX4_goBy_13 : decode cX4_goBy 13 = .ok (.getfield 53, 3) := by decide +kernel
theorem dX4_goBy_16 : decode cX4_goBy 16 = .ok (.iload 5, 2) := by decide +kernel
theorem dX4_goBy_18 : decode cX4_goBy 18 = .ok (.isub, 1) := by decide +kernel
theorem dX4_goBy_19 : decode cX4_goBy 19 = .ok (.if_icmp .gt 75, 3) := by decide +kernel
theorem dX4_goBy_22 : decode cX4_goBy 22 = .ok (.iload 5, 2) := by decide +kernel
theorem dX4_goBy_24 : decode cX4_goBy 24 = .ok (.iload 6, 2) := by decide +kernel
theorem dX4_goBy_26 : decode cX4_goBy 26 = .ok (.iadd, 1) := by decide +kernel
theorem dX4_goBy_27 : decode cX4_goBy 27 = .ok (.bipush 10, 2) := by decide +kernel
theorem dX4_goBy_29 : decode cX4_goBy 29 = .ok (.imul, 1) := by decide +kernel
theorem dX4_goBy_30 : decode cX4_goBy 30 = .ok (.iload_n 2, 1) := by decide +kernel
theorem dX4_goBy_31 : decode cX4_goBy 31 = .ok (.iadd, 1) := by decide +kernel
theorem dX4_goBy_32 : decode cX4_goBy 32 = .ok (.istore 7, 2) := by decide +kernel
theorem dX4_goBy_34 : decode cX4_goBy 34 = .ok (.aload_n 0, 1) := by decide +kernel
theorem dX4_goBy_35 : decode cX4_goBy 35 = .ok (.getfield 15, 3) := by decide +kernel
theorem dX4_goBy_38 : decode cX4_goBy 38 = .ok (.iload_n 3, 1) := by decide +kernel
theorem dX4_goBy_39 : decode cX4_goBy 39 = .ok (.iaload, 1) := by decide +kernel
theorem dX4_goBy_40 : decode cX4_goBy 40 = .ok (.aload_n 1, 1) := by decide +kernel
theorem dX4_goBy_41 : decode cX4_goBy 41 = .ok (.aload 4, 2) := by decide +kernel
theorem dX4_goBy_43 : decode cX4_goBy 43 = .ok (.iload 6, 2) := by decide +kernel
theorem dX4_goBy_45 : decode cX4_goBy 45 = .ok (.invokevirtual 59, 3) := by decide +kernel
theorem dX4_goBy_48 : decode cX4_goBy 48 = .ok (.sipush 1000, 3) := by decide +kernel
theorem dX4_goBy_51 : decode cX4_goBy 51 = .ok (.imul, 1) := by decide +kernel
theorem dX4_goBy_52 : decode cX4_goBy 52 = .ok (.iadd, 1) := by decide +kernel
theorem dX4_goBy_53 : decode cX4_goBy 53 = .ok (.aload_n 1, 1) := by decide +kernel
theorem dX4_goBy_54 : decode cX4_goBy 54 = .ok (.getfield 65, 3) := by decide +kernel
theorem dX4_goBy_57 : decode cX4_goBy 57 = .ok (.iadd, 1) := by decide +kernel
theorem dX4_goBy_58 : decode cX4_goBy 58 = .ok (.istore 8, 2) := by decide +kernel
theorem dX4_goBy_60 : decode cX4_goBy 60 = .ok (.iload 7, 2) := by decide +kernel
theorem dX4_goBy_62 : decode cX4_goBy 62 = .ok (.bipush 60, 2) := by decide +kernel
theorem dX4_goBy_64 : decode cX4_goBy 64 = .ok (.if_icmp .ge 24, 3) := by decide +kernel
theorem dX4_goBy_67 : decode cX4_goBy 67 = .ok (.iload 8, 2) := by decide +kernel
theorem dX4_goBy_69 : decode cX4_goBy 69 = .ok (.aload_n 0, 1) := by decide +kernel
theorem dX4_goBy_70 : decode cX4_goBy 70 = .ok (.getfield 15, 3) := by decide +kernel
theorem dX4_goBy_73 : decode cX4_goBy 73 = .ok (.iload 7, 2) := by decide +kernel
theorem dX4_goBy_75 : decode cX4_goBy 75 = .ok (.iaload, 1) := by decide +kernel
theorem dX4_goBy_76 : decode cX4_goBy 76 = .ok (.if_icmp .ge 12, 3) := by decide +kernel
theorem dX4_goBy_79 : decode cX4_goBy 79 = .ok (.aload_n 0, 1) := by decide +kernel
theorem dX4_goBy_80 : decode cX4_goBy 80 = .ok (.getfield 15, 3) := by decide +kernel
theorem dX4_goBy_83 : decode cX4_goBy 83 = .ok (.iload 7, 2) := by decide +kernel
theorem dX4_goBy_85 : decode cX4_goBy 85 = .ok (.iload 8, 2) := by decide +kernel
theorem dX4_goBy_87 : decode cX4_goBy 87 = .ok (.iastore, 1) := by decide +kernel
theorem dX4_goBy_88 : decode cX4_goBy 88 = .ok (.iinc 6 1, 3) := by decide +kernel
theorem dX4_goBy_91 : decode cX4_goBy 91 = .ok (.goto (-82), 3) := by decide +kernel
theorem dX4_goBy_94 : decode cX4_goBy 94 = .ok (.return_, 1) := by decide +kernel
theorem dX4_townOf_0 : decode cX4_townOf 0 = .ok (.iload_n 0, 1) := by decide +kernel
theorem dX4_townOf_1 : decode cX4_townOf 1 = .ok (.bipush 10, 2) := by decide +kernel
theorem dX4_townOf_3 : decode cX4_townOf 3 = .ok (.irem, 1) := by decide +kernel
theorem dX4_townOf_4 : decode cX4_townOf 4 = .ok (.ireturn, 1) := by decide +kernel
theorem dX4_burntAt_0 : decode cX4_burntAt 0 = .ok (.iload_n 0, 1) := by decide +kernel
theorem dX4_burntAt_1 : decode cX4_burntAt 1 = .ok (.bipush 10, 2) := by decide +kernel
theorem dX4_burntAt_3 : decode cX4_burntAt 3 = .ok (.idiv, 1) := by decide +kernel
theorem dX4_burntAt_4 : decode cX4_burntAt 4 = .ok (.ireturn, 1) := by decide +kernel
theorem dX5_init_0 : decode cX5_init 0 = .ok (.aload_n 0, 1) := by decide +kernel
theorem dX5_init_1 : decode cX5_init 1 = .ok (.invokespecial 1, 3) := by decide +kernel
theorem dX5_init_4 : decode cX5_init 4 = .ok (.aload_n 0, 1) := by decide +kernel
theorem dX5_init_5 : decode cX5_init 5 = .ok (.new 7, 3) := by decide +kernel
theorem dX5_init_8 : decode cX5_init 8 = .ok (.dup, 1) := by decide +kernel
theorem dX5_init_9 : decode cX5_init 9 = .ok (.invokespecial 9, 3) := by decide +kernel
theorem dX5_init_12 : decode cX5_init 12 = .ok (.putfield 10, 3) := by decide +kernel
theorem dX5_init_15 : decode cX5_init 15 = .ok (.aload_n 0, 1) := by decide +kernel
theorem dX5_init_16 : decode cX5_init 16 = .ok (.new 16, 3) := by decide +kernel
theorem dX5_init_19 : decode cX5_init 19 = .ok (.dup, 1) := by decide +kernel
theorem dX5_init_20 : decode cX5_init 20 = .ok (.aload_n 0, 1) := by decide +kernel
theorem dX5_init_21 : decode cX5_init 21 = .ok (.getfield 10, 3) := by decide +kernel
theorem dX5_init_24 : decode cX5_init 24 = .ok (.invokespecial 18, 3) := by decide +kernel
theorem dX5_init_27 : decode cX5_init 27 = .ok (.putfield 21, 3) := by decide +kernel
theorem dX5_init_30 : decode cX5_init 30 = .ok (.aload_n 0, 1) := by decide +kernel
theorem dX5_init_31 : decode cX5_init 31 = .ok (.new 25, 3) := by decide +kernel
theorem dX5_init_34 : decode cX5_init 34 = .ok (.dup, 1) := by decide +kernel
theorem dX5_init_35 : decode cX5_init 35 = .ok (.invokespecial 27, 3) := by decide +kernel
theorem dX5_init_38 : decode cX5_init 38 = .ok (.putfield 28, 3) := by decide +kernel
theorem dX5_init_41 : decode cX5_init 41 = .ok (.aload_n 0, 1) := by decide +kernel
theorem dX5_init_42 : decode cX5_init 42 = .ok (.new 25, 3) := by decide +kernel
theorem dX5_init_45 : decode cX5_init 45 = .ok (.dup, 1) := by decide +kernel
theorem dX5_init_46 : decode cX5_init 46 = .ok (.invokespecial 27, 3) := by decide +kernel
theorem dX5_init_49 : decode cX5_init 49 = .ok (.putfield 32, 3) := by decide +kernel
theorem dX5_init_52 : decode cX5_init 52 = .ok (.return_, 1) := by decide +kernel
theorem dX5_addTown_0 : decode cX5_addTown 0 = .ok (.aload_n 0, 1) := by decide +kernel
theorem dX5_addTown_1 : decode cX5_addTown 1 = .ok (.getfield 35, 3) := by decide +kernel
theorem dX5_addTown_4 : decode cX5_addTown 4 = .ok (.bipush 10, 2) := by decide +kernel
theorem dX5_addTown_6 : decode cX5_addTown 6 = .ok (.if_icmp .lt 13, 3) := by decide +kernel
theorem dX5_addTown_9 : decode cX5_addTown 9 = .ok (.new 39, 3) := by decide +kernel
theorem dX5_addTown_12 : decode cX5_addTown 12 = .ok (.dup, 1) := by decide +kernel
theorem dX5_addTown_13 : decode cX5_addTown 13 = .ok (.ldc 41, 2) := by decide +kernel
theorem dX5_addTown_15 : decode cX5_addTown 15 = .ok (.invokespecial 43, 3) := by decide +kernel
theorem dX5_addTown_18 : decode cX5_addTown 18 = .ok (.athrow, 1) := by decide +kernel
theorem dX5_addTown_19 : decode cX5_addTown 19 = .ok (.aload_n 0, 1) := by decide +kernel
theorem dX5_addTown_20 : decode cX5_addTown 20 = .ok (.dup, 1) := by decide +kernel
theorem dX5_addTown_21 : decode cX5_addTown 21 = .ok (.getfield 35, 3) := by decide +kernel
theorem dX5_addTown_24 : decode cX5_addTown 24 = .ok (.iconst 1, 1) := by decide +kernel
theorem dX5_addTown_25 : decode cX5_addTown 25 = .ok (.iadd, 1) := by decide +kernel
theorem dX5_addTown_26 : decode cX5_addTown 26 = .ok (.putfield 35, 3) := by decide +kernel
theorem dX5_addTown_29 : decode cX5_addTown 29 = .ok (.aload_n 0, 1) := by decide +kernel
theorem dX5_addTown_30 : decode cX5_addTown 30 = .ok (.getfield 35, 3) := by decide +kernel
theorem dX5_addTown_33 : decode cX5_addTown 33 = .ok (.iconst 1, 1) := by decide +kernel
theorem dX5_addTown_34 : decode cX5_addTown 34 = .ok (.isub, 1) := by decide +kernel
theorem dX5_addTown_35 : decode cX5_addTown 35 = .ok (.ireturn, 1) := by decide +kernel
theorem dX5_build_0 : decode cX5_build 0 = .ok (.aload_n 0, 1) := by decide +kernel
theorem dX5_build_1 : decode cX5_build 1 = .ok (.iload_n 1, 1) := by decide +kernel
theorem dX5_build_2 : decode cX5_build 2 = .ok (.invokevirtual 46, 3) := by decide +kernel
theorem dX5_build_5 : decode cX5_build 5 = .ok (.aload_n 0, 1) := by decide +kernel
theorem dX5_build_6 : decode cX5_build 6 = .ok (.iload_n 2, 1) := by decide +kernel
theorem dX5_build_7 : decode cX5_build 7 = .ok (.invokevirtual 46, 3) := by decide +kernel
theorem dX5_build_10 : decode cX5_build 10 = .ok (.iload_n 1, 1) := by decide +kernel
theorem dX5_build_11 : decode cX5_build 11 = .ok (.iload_n 2, 1) := by decide +kernel
theorem dX5_build_12 : decode cX5_build 12 = .ok (.if_icmp .ne 13, 3) := by decide +kernel
theorem dX5_build_15 : decode cX5_build 15 = .ok (.new 50, 3) := by decide +kernel
theorem dX5_build_18 : decode cX5_build 18 = .ok (.dup, 1) := by decide +kernel
theorem dX5_build_19 : decode cX5_build 19 = .ok (.ldc 52, 2) := by decide +kernel
theorem dX5_build_21 : decode cX5_build 21 = .ok (.invokespecial 54, 3) := by decide +kernel
theorem dX5_build_24 : decode cX5_build 24 = .ok (.athrow, 1) := by decide +kernel
theorem dX5_build_25 : decode cX5_build 25 = .ok (.iload_n 3, 1) := by decide +kernel
theorem dX5_build_26 : decode cX5_build 26 = .ok (.iconst 1, 1) := by decide +kernel
theorem dX5_build_27 : decode cX5_build 27 = .ok (.bipush 9, 2) := by decide +kernel
theorem dX5_build_29 : decode cX5_build 29 = .ok (.invokestatic 55, 3) := by decide +kernel
theorem dX5_build_32 : decode cX5_build 32 = .ok (.iload 4, 2) := by decide +kernel
theorem dX5_build_34 : decode cX5_build 34 = .ok (.iconst 0, 1) := by decide +kernel
theorem dX5_build_35 : decode cX5_build 35 = .ok (.bipush 20, 2) := by decide +kernel
theorem dX5_build_37 : decode cX5_build 37 = .ok (.invokestatic 55, 3) := by decide +kernel
theorem dX5_build_40 : decode cX5_build 40 = .ok (.iload 5, 2) := by decide +kernel
theorem dX5_build_42 : decode cX5_build 42 = .ok (.iconst 0, 1) := by decide +kernel
theorem dX5_build_43 : decode cX5_build 43 = .ok (.bipush 30, 2) := by decide +kernel
theorem dX5_build_45 : decode cX5_build 45 = .ok (.invokestatic 55, 3) := by decide +kernel
theorem dX5_build_48 : decode cX5_build 48 = .ok (.iload 6, 2) := by decide +kernel
theorem dX5_build_50 : decode cX5_build 50 = .ok (.iconst 0, 1) := by decide +kernel
theorem dX5_build_51 : decode cX5_build 51 = .ok (.bipush 9, 2) := by decide +kernel
theorem dX5_build_53 : decode cX5_build 53 = .ok (.invokestatic 55, 3) := by decide +kernel
theorem dX5_build_56 : decode cX5_build 56 = .ok (.aload_n 0, 1) := by decide +kernel
theorem dX5_build_57 : decode cX5_build 57 = .ok (.getfield 10, 3) := by decide +kernel
theorem dX5_build_60 : decode cX5_build 60 = .ok (.iload_n 1, 1) := by decide +kernel
theorem dX5_build_61 : decode cX5_build 61 = .ok (.iload_n 2, 1) := by decide +kernel
theorem dX5_build_62 : decode cX5_build 62 = .ok (.invokevirtual 59, 3) := by decide +kernel
theorem dX5_build_65 : decode cX5_build 65 = .ok (.ifnull 13, 3) := by decide +kernel
theorem dX5_build_68 : decode cX5_build 68 = .ok (.new 39, 3) := by decide +kernel
theorem dX5_build_71 : decode cX5_build 71 = .ok (.dup, 1) := by decide +kernel
theorem dX5_build_72 : decode cX5_build 72 = .ok (.ldc 63, 2) := by decide +kernel
theorem dX5_build_74 : decode cX5_build 74 = .ok (.invokespecial 43, 3) := by decide +kernel
theorem dX5_build_77 : decode cX5_build 77 = .ok (.athrow, 1) := by decide +kernel
theorem dX5_build_78 : decode cX5_build 78 = .ok (.aload_n 0, 1) := by decide +kernel
theorem dX5_build_79 : decode cX5_build 79 = .ok (.getfield 10, 3) := by decide +kernel
theorem dX5_build_82 : decode cX5_build 82 = .ok (.iload_n 1, 1) := by decide +kernel
theorem dX5_build_83 : decode cX5_build 83 = .ok (.iload_n 2, 1) := by decide +kernel
theorem dX5_build_84 : decode cX5_build 84 = .ok (.new 65, 3) := by decide +kernel
theorem dX5_build_87 : decode cX5_build 87 = .ok (.dup, 1) := by decide +kernel
theorem dX5_build_88 : decode cX5_build 88 = .ok (.iload_n 3, 1) := by decide +kernel
theorem dX5_build_89 : decode cX5_build 89 = .ok (.iload 4, 2) := by decide +kernel
theorem dX5_build_91 : decode cX5_build 91 = .ok (.iload 5, 2) := by decide +kernel
theorem dX5_build_93 : decode cX5_build 93 = .ok (.iload 6, 2) := by decide +kernel
theorem dX5_build_95 : decode cX5_build 95 = .ok (.invokespecial 67, 3) := by decide +kernel
theorem dX5_build_98 : decode cX5_build 98 = .ok (.invokevirtual 70, 3) := by decide +kernel
theorem dX5_build_101 : decode cX5_build 101 = .ok (.aload_n 0, 1) := by decide +kernel
theorem dX5_build_102 : decode cX5_build 102 = .ok (.dup, 1) := by decide +kernel
theorem dX5_build_103 : decode cX5_build 103 = .ok (.getfield 74, 3) := by decide +kernel
theorem dX5_build_106 : decode cX5_build 106 = .ok (.iconst 1, 1) := by decide +kernel
theorem dX5_build_107 : decode cX5_build 107 = .ok (.iadd, 1) := by decide +kernel
theorem dX5_build_108 : decode cX5_build 108 = .ok (.putfield 74, 3) := by decide +kernel
theorem dX5_build_111 : decode cX5_build 111 = .ok (.aload_n 0, 1) := by decide +kernel
theorem dX5_build_112 : decode cX5_build 112 = .ok (.getfield 74, 3) := by decide +kernel
theorem dX5_build_115 : decode cX5_build 115 = .ok (.ireturn, 1) := by decide +kernel
theorem dX5_road_0 : decode cX5_road 0 = .ok (.aload_n 0, 1) := by decide +kernel
theorem dX5_road_1 : decode cX5_road 1 = .ok (.iload_n 1, 1) := by decide +kernel
theorem dX5_road_2 : decode cX5_road 2 = .ok (.invokevirtual 46, 3) := by decide +kernel
theorem dX5_road_5 : decode cX5_road 5 = .ok (.aload_n 0, 1) := by decide +kernel
theorem dX5_road_6 : decode cX5_road 6 = .ok (.iload_n 2, 1) := by decide +kernel
theorem dX5_road_7 : decode cX5_road 7 = .ok (.invokevirtual 46, 3) := by decide +kernel
theorem dX5_road_10 : decode cX5_road 10 = .ok (.iload_n 3, 1) := by decide +kernel
theorem dX5_road_11 : decode cX5_road 11 = .ok (.bipush 6, 2) := by decide +kernel
theorem dX5_road_13 : decode cX5_road 13 = .ok (.invokestatic 77, 3) := by decide +kernel
theorem dX5_road_16 : decode cX5_road 16 = .ok (.aload_n 0, 1) := by decide +kernel
theorem dX5_road_17 : decode cX5_road 17 = .ok (.getfield 10, 3) := by decide +kernel
theorem dX5_road_20 : decode cX5_road 20 = .ok (.iload_n 1, 1) := by decide +kernel
theorem dX5_road_21 : decode cX5_road 21 = .ok (.iload_n 2, 1) := by decide +kernel
theorem dX5_road_22 : decode cX5_road 22 = .ok (.invokevirtual 59, 3) := by decide +kernel
theorem dX5_road_25 : decode cX5_road 25 = .ok (.astore 4, 2) := by decide +kernel
theorem dX5_road_27 : decode cX5_road 27 = .ok (.aload 4, 2) := by decide +kernel
theorem dX5_road_29 : decode cX5_road 29 = .ok (.ifnonnull 7, 3) := by decide +kernel
theorem dX5_road_32 : decode cX5_road 32 = .ok (.iconst 0, 1) := by decide +kernel
theorem dX5_road_33 : decode cX5_road 33 = .ok (.goto 9, 3) := by decide +kernel
theorem dX5_road_36 : decode cX5_road 36 = .ok (.aload 4, 2) := by decide +kernel
theorem dX5_road_38 : decode cX5_road 38 = .ok (.iload_n 3, 1) := by decide +kernel
theorem dX5_road_39 : decode cX5_road 39 = .ok (.invokevirtual 81, 3) := by decide +kernel
theorem dX5_road_42 : decode cX5_road 42 = .ok (.ireturn, 1) := by decide +kernel
theorem dX5_makeUp_0 : decode cX5_makeUp 0 = .ok (.aload_n 0, 1) := by decide +kernel
theorem dX5_makeUp_1 : decode cX5_makeUp 1 = .ok (.iload_n 1, 1) := by decide +kernel
theorem dX5_makeUp_2 : decode cX5_makeUp 2 = .ok (.invokevirtual 46, 3) := by decide +kernel
theorem dX5_makeUp_5 : decode cX5_makeUp 5 = .ok (.iload_n 2, 1) := by decide +kernel
theorem dX5_makeUp_6 : decode cX5_makeUp 6 = .ok (.iconst 1, 1) := by decide +kernel
theorem dX5_makeUp_7 : decode cX5_makeUp 7 = .ok (.bipush 30, 2) := by decide +kernel
theorem dX5_makeUp_9 : decode cX5_makeUp 9 = .ok (.invokestatic 55, 3) := by decide +kernel
theorem dX5_makeUp_12 : decode cX5_makeUp 12 = .ok (.iload_n 3, 1) := by decide +kernel
theorem dX5_makeUp_13 : decode cX5_makeUp 13 = .ok (.iconst 0, 1) := by decide +kernel
theorem dX5_makeUp_14 : decode cX5_makeUp 14 = .ok (.iconst 5, 1) := by decide +kernel
theorem dX5_makeUp_15 : decode cX5_makeUp 15 = .ok (.invokestatic 55, 3) := by decide +kernel
theorem dX5_makeUp_18 : decode cX5_makeUp 18 = .ok (.aload_n 0, 1) := by decide +kernel
theorem dX5_makeUp_19 : decode cX5_makeUp 19 = .ok (.getfield 28, 3) := by decide +kernel
theorem dX5_makeUp_22 : decode cX5_makeUp 22 = .ok (.invokevirtual 85, 3) := by decide +kernel
theorem dX5_makeUp_25 : decode cX5_makeUp 25 = .ok (.bipush 60, 2) := by decide +kernel
theorem dX5_makeUp_27 : decode cX5_makeUp 27 = .ok (.if_icmp .lt 13, 3) := by decide +kernel
theorem dX5_makeUp_30 : decode cX5_makeUp 30 = .ok (.new 39, 3) := by decide +kernel
theorem dX5_makeUp_33 : decode cX5_makeUp 33 = .ok (.dup, 1) := by decide +kernel
theorem dX5_makeUp_34 : decode cX5_makeUp 34 = .ok (.ldc 89, 2) := by decide +kernel
theorem dX5_makeUp_36 : decode cX5_makeUp 36 = .ok (.invokespecial 43, 3) := by decide +kernel
theorem dX5_makeUp_39 : decode cX5_makeUp 39 = .ok (.athrow, 1) := by decide +kernel
theorem dX5_makeUp_40 : decode cX5_makeUp 40 = .ok (.aload_n 0, 1) := by decide +kernel
theorem dX5_makeUp_41 : decode cX5_makeUp 41 = .ok (.getfield 28, 3) := by decide +kernel
theorem dX5_makeUp_44 : decode cX5_makeUp 44 = .ok (.invokevirtual 85, 3) := by decide +kernel
theorem dX5_makeUp_47 : decode cX5_makeUp 47 = .ok (.istore 4, 2) := by decide +kernel
theorem dX5_makeUp_49 : decode cX5_makeUp 49 = .ok (.aload_n 0, 1) := by decide +kernel
theorem dX5_makeUp_50 : decode cX5_makeUp 50 = .ok (.getfield 28, 3) := by decide +kernel
theorem dX5_makeUp_53 : decode cX5_makeUp 53 = .ok (.new 91, 3) := by decide +kernel
theorem dX5_makeUp_56 : decode cX5_makeUp 56 = .ok (.dup, 1) := by decide +kernel
theorem dX5_makeUp_57 : decode cX5_makeUp 57 = .ok (.iload 4, 2) := by decide +kernel
theorem dX5_makeUp_59 : decode cX5_makeUp 59 = .ok (.iload 4, 2) := by decide +kernel
theorem dX5_makeUp_61 : decode cX5_makeUp 61 = .ok (.iload_n 2, 1) := by decide +kernel
theorem dX5_makeUp_62 : decode cX5_makeUp 62 = .ok (.iconst 0, 1) := by decide +kernel
theorem dX5_makeUp_63 : decode cX5_makeUp 63 = .ok (.iload_n 3, 1) := by decide +kernel
theorem dX5_makeUp_64 : decode cX5_makeUp 64 = .ok (.iload_n 1, 1) := by decide +kernel
theorem dX5_makeUp_65 : decode cX5_makeUp 65 = .ok (.invokespecial 93, 3) := by decide +kernel
theorem dX5_makeUp_68 : decode cX5_makeUp 68 = .ok (.invokevirtual 96, 3) := by decide +kernel
theorem dX5_makeUp_71 : decode cX5_makeUp 71 = .ok (.pop, 1) := by decide +kernel
theorem dX5_makeUp_72 : decode cX5_makeUp 72 = .ok (.iload 4, 2) := by decide +kernel
theorem dX5_makeUp_74 : decode cX5_makeUp 74 = .ok (.ireturn, 1) := by decide +kernel
theorem dX5_rumour_0 : decode cX5_rumour 0 = .ok (.aload_n 0, 1) := by decide +kernel
theorem dX5_rumour_1 : decode cX5_rumour 1 = .ok (.iload_n 1, 1) := by decide +kernel
theorem dX5_rumour_2 : decode cX5_rumour 2 = .ok (.invokevirtual 100, 3) := by decide +kernel
theorem dX5_rumour_5 : decode cX5_rumour 5 = .ok (.astore_n 3, 1) := by decide +kernel
theorem dX5_rumour_6 : decode cX5_rumour 6 = .ok (.iload_n 2, 1) := by decide +kernel
theorem dX5_rumour_7 : decode cX5_rumour 7 = .ok (.bipush 6, 2) := by decide +kernel
theorem dX5_rumour_9 : decode cX5_rumour 9 = .ok (.invokestatic 77, 3) := by decide +kernel
theorem dX5_rumour_12 : decode cX5_rumour 12 = .ok (.aload_n 3, 1) := by decide +kernel
theorem dX5_rumour_13 : decode cX5_rumour 13 = .ok (.iload_n 2, 1) := by decide +kernel
theorem dX5_rumour_14 : decode cX5_rumour 14 = .ok (.invokevirtual 104, 3) := by decide +kernel
theorem dX5_rumour_17 : decode cX5_rumour 17 = .ok (.ireturn, 1) := by decide +kernel
theorem dX5_town_0 : decode cX5_town 0 = .ok (.aload_n 0, 1) := by decide +kernel
theorem dX5_town_1 : decode cX5_town 1 = .ok (.iload_n 1, 1) := by decide +kernel
theorem dX5_town_2 : decode cX5_town 2 = .ok (.invokevirtual 46, 3) := by decide +kernel
theorem dX5_town_5 : decode cX5_town 5 = .ok (.iload_n 2, 1) := by decide +kernel
theorem dX5_town_6 : decode cX5_town 6 = .ok (.iconst 3, 1) := by decide +kernel
theorem dX5_town_7 : decode cX5_town 7 = .ok (.invokestatic 77, 3) := by decide +kernel
theorem dX5_town_10 : decode cX5_town 10 = .ok (.iload_n 2, 1) := by decide +kernel
theorem dX5_town_11 : decode cX5_town 11 = .ok (.tableswitch 43 0 2 #[25, 31, 37], 25) := by decide +kernel
theorem dX5_town_36 : decode cX5_town 36 = .ok (.aload_n 0, 1) := by decide +kernel
theorem dX5_town_37 : decode cX5_town 37 = .ok (.iload_n 1, 1) := by decide +kernel
theorem dX5_town_38 : decode cX5_town 38 = .ok (.invokevirtual 105, 3) := by decide +kernel
theorem dX5_town_41 : decode cX5_town 41 = .ok (.ireturn, 1) := by decide +kernel
theorem dX5_town_42 : decode cX5_town 42 = .ok (.aload_n 0, 1) := by decide +kernel
theorem dX5_town_43 : decode cX5_town 43 = .ok (.iload_n 1, 1) := by decide +kernel
theorem dX5_town_44 : decode cX5_town 44 = .ok (.invokevirtual 108, 3) := by decide +kernel
theorem dX5_town_47 : decode cX5_town 47 = .ok (.ireturn, 1) := by decide +kernel
theorem dX5_town_48 : decode cX5_town 48 = .ok (.aload_n 0, 1) := by decide +kernel
theorem dX5_town_49 : decode cX5_town 49 = .ok (.iload_n 1, 1) := by decide +kernel
theorem dX5_town_50 : decode cX5_town 50 = .ok (.invokevirtual 111, 3) := by decide +kernel
theorem dX5_town_53 : decode cX5_town 53 = .ok (.ireturn, 1) := by decide +kernel
theorem dX5_town_54 : decode cX5_town 54 = .ok (.aload_n 0, 1) := by decide +kernel
theorem dX5_town_55 : decode cX5_town 55 = .ok (.iload_n 1, 1) := by decide +kernel
theorem dX5_town_56 : decode cX5_town 56 = .ok (.invokevirtual 114, 3) := by decide +kernel
theorem dX5_town_59 : decode cX5_town 59 = .ok (.ireturn, 1) := by decide +kernel
theorem dX5_heard_0 : decode cX5_heard 0 = .ok (.aload_n 0, 1) := by decide +kernel
theorem dX5_heard_1 : decode cX5_heard 1 = .ok (.iload_n 1, 1) := by decide +kernel
theorem dX5_heard_2 : decode cX5_heard 2 = .ok (.invokevirtual 46, 3) := by decide +kernel
theorem dX5_heard_5 : decode cX5_heard 5 = .ok (.aload_n 0, 1) := by decide +kernel
theorem dX5_heard_6 : decode cX5_heard 6 = .ok (.iload_n 1, 1) := by decide +kernel
theorem dX5_heard_7 : decode cX5_heard 7 = .ok (.aload_n 0, 1) := by decide +kernel
theorem dX5_heard_8 : decode cX5_heard 8 = .ok (.iload_n 2, 1) := by decide +kernel
theorem dX5_heard_9 : decode cX5_heard 9 = .ok (.invokevirtual 100, 3) := by decide +kernel
theorem dX5_heard_12 : decode cX5_heard 12 = .ok (.getfield 117, 3) := by decide +kernel
theorem dX5_heard_15 : decode cX5_heard 15 = .ok (.invokevirtual 120, 3) := by decide +kernel
theorem dX5_heard_18 : decode cX5_heard 18 = .ok (.astore_n 3, 1) := by decide +kernel
theorem dX5_heard_19 : decode cX5_heard 19 = .ok (.aload_n 3, 1) := by decide +kernel
theorem dX5_heard_20 : decode cX5_heard 20 = .ok (.ifnonnull 7, 3) := by decide +kernel
theorem dX5_heard_23 : decode cX5_heard 23 = .ok (.iconst (-1), 1) := by decide +kernel
theorem dX5_heard_24 : decode cX5_heard 24 = .ok (.goto 7, 3) := by decide +kernel
theorem dX5_heard_27 : decode cX5_heard 27 = .ok (.aload_n 3, 1) := by decide +kernel
theorem dX5_heard_28 : decode cX5_heard 28 = .ok (.getfield 124, 3) := by decide +kernel
theorem dX5_heard_31 : decode cX5_heard 31 = .ok (.ireturn, 1) := by decide +kernel
theorem dX5_addCarrier_0 : decode cX5_addCarrier 0 = .ok (.aload_n 0, 1) := by decide +kernel
theorem dX5_addCarrier_1 : decode cX5_addCarrier 1 = .ok (.iload_n 1, 1) := by decide +kernel
theorem dX5_addCarrier_2 : decode cX5_addCarrier 2 = .ok (.invokevirtual 46, 3) := by decide +kernel
theorem dX5_addCarrier_5 : decode cX5_addCarrier 5 = .ok (.iload_n 2, 1) := by decide +kernel
theorem dX5_addCarrier_6 : decode cX5_addCarrier 6 = .ok (.iconst 0, 1) := by decide +kernel
theorem dX5_addCarrier_7 : decode cX5_addCarrier 7 = .ok (.ldc 127, 2) := by decide +kernel
theorem dX5_addCarrier_9 : decode cX5_addCarrier 9 = .ok (.invokestatic 55, 3) := by decide +kernel
theorem dX5_addCarrier_12 : decode cX5_addCarrier 12 = .ok (.aload_n 0, 1) := by decide +kernel
theorem dX5_addCarrier_13 : decode cX5_addCarrier 13 = .ok (.getfield 32, 3) := by decide +kernel
theorem dX5_addCarrier_16 : decode cX5_addCarrier 16 = .ok (.invokevirtual 85, 3) := by decide +kernel
theorem dX5_addCarrier_19 : decode cX5_addCarrier 19 = .ok (.bipush 8, 2) := by decide +kernel
theorem dX5_addCarrier_21 : decode cX5_addCarrier 21 = .ok (.if_icmp .lt 13, 3) := by decide +kernel
theorem dX5_addCarrier_24 : decode cX5_addCarrier 24 = .ok (.new 39, 3) := by decide +kernel
theorem dX5_addCarrier_27 : decode cX5_addCarrier 27 = .ok (.dup, 1) := by decide +kernel
theorem dX5_addCarrier_28 : decode cX5_addCarrier 28 = .ok (.ldc 128, 2) := by decide +kernel
theorem dX5_addCarrier_30 : decode cX5_addCarrier 30 = .ok (.invokespecial 43, 3) := by decide +kernel
theorem dX5_addCarrier_33 : decode cX5_addCarrier 33 = .ok (.athrow, 1) := by decide +kernel
theorem dX5_addCarrier_34 : decode cX5_addCarrier 34 = .ok (.aload_n 0, 1) := by decide +kernel
theorem dX5_addCarrier_35 : decode cX5_addCarrier 35 = .ok (.getfield 32, 3) := by decide +kernel
theorem dX5_addCarrier_38 : decode cX5_addCarrier 38 = .ok (.invokevirtual 85, 3) := by decide +kernel
theorem dX5_addCarrier_41 : decode cX5_addCarrier 41 = .ok (.istore_n 3, 1) := by decide +kernel
theorem dX5_addCarrier_42 : decode cX5_addCarrier 42 = .ok (.aload_n 0, 1) := by decide +kernel
theorem dX5_addCarrier_43 : decode cX5_addCarrier 43 = .ok (.getfield 32, 3) := by decide +kernel
theorem dX5_addCarrier_46 : decode cX5_addCarrier 46 = .ok (.new 130, 3) := by decide +kernel
theorem dX5_addCarrier_49 : decode cX5_addCarrier 49 = .ok (.dup, 1) := by decide +kernel
theorem dX5_addCarrier_50 : decode cX5_addCarrier 50 = .ok (.iload_n 3, 1) := by decide +kernel
theorem dX5_addCarrier_51 : decode cX5_addCarrier 51 = .ok (.iload_n 1, 1) := by decide +kernel
theorem dX5_addCarrier_52 : decode cX5_addCarrier 52 = .ok (.iload_n 2, 1) := by decide +kernel
theorem dX5_addCarrier_53 : decode cX5_addCarrier 53 = .ok (.invokespecial 132, 3) := by decide +kernel
theorem dX5_addCarrier_56 : decode cX5_addCarrier 56 = .ok (.invokevirtual 96, 3) := by decide +kernel
theorem dX5_addCarrier_59 : decode cX5_addCarrier 59 = .ok (.pop, 1) := by decide +kernel
theorem dX5_addCarrier_60 : decode cX5_addCarrier 60 = .ok (.iload_n 3, 1) := by decide +kernel
theorem dX5_addCarrier_61 : decode cX5_addCarrier 61 = .ok (.ireturn, 1) := by decide +kernel
theorem dX5_take_0 : decode cX5_take 0 = .ok (.aload_n 0, 1) := by decide +kernel
theorem dX5_take_1 : decode cX5_take 1 = .ok (.iload_n 1, 1) := by decide +kernel
theorem dX5_take_2 : decode cX5_take 2 = .ok (.invokevirtual 134, 3) := by decide +kernel
theorem dX5_take_5 : decode cX5_take 5 = .ok (.astore_n 3, 1) := by decide +kernel
theorem dX5_take_6 : decode cX5_take 6 = .ok (.aload_n 0, 1) := by decide +kernel
theorem dX5_take_7 : decode cX5_take 7 = .ok (.iload_n 2, 1) := by decide +kernel
theorem dX5_take_8 : decode cX5_take 8 = .ok (.invokevirtual 100, 3) := by decide +kernel
theorem dX5_take_11 : decode cX5_take 11 = .ok (.astore 4, 2) := by decide +kernel
theorem dX5_take_13 : decode cX5_take 13 = .ok (.aload_n 3, 1) := by decide +kernel
theorem dX5_take_14 : decode cX5_take 14 = .ok (.invokestatic 138, 3) := by decide +kernel
theorem dX5_take_17 : decode cX5_take 17 = .ok (.aload 4, 2) := by decide +kernel
theorem dX5_take_19 : decode cX5_take 19 = .ok (.getfield 142, 3) := by decide +kernel
theorem dX5_take_22 : decode cX5_take 22 = .ok (.aload_n 3, 1) := by decide +kernel
theorem dX5_take_23 : decode cX5_take 23 = .ok (.getfield 145, 3) := by decide +kernel
theorem dX5_take_26 : decode cX5_take 26 = .ok (.if_icmp .eq 13, 3) := by decide +kernel
theorem dX5_take_29 : decode cX5_take 29 = .ok (.new 39, 3) := by decide +kernel
theorem dX5_take_32 : decode cX5_take 32 = .ok (.dup, 1) := by decide +kernel
theorem dX5_take_33 : decode cX5_take 33 = .ok (.ldc 146, 2) := by decide +kernel
theorem dX5_take_35 : decode cX5_take 35 = .ok (.invokespecial 43, 3) := by decide +kernel
theorem dX5_take_38 : decode cX5_take 38 = .ok (.athrow, 1) := by decide +kernel
theorem dX5_take_39 : decode cX5_take 39 = .ok (.aload_n 0, 1) := by decide +kernel
theorem dX5_take_40 : decode cX5_take 40 = .ok (.aload_n 3, 1) := by decide +kernel
theorem dX5_take_41 : decode cX5_take 41 = .ok (.invokevirtual 148, 3) := by decide +kernel
theorem dX5_take_44 : decode cX5_take 44 = .ok (.bipush 6, 2) := by decide +kernel
theorem dX5_take_46 : decode cX5_take 46 = .ok (.if_icmp .lt 13, 3) := by decide +kernel
theorem dX5_take_49 : decode cX5_take 49 = .ok (.new 39, 3) := by decide +kernel
theorem dX5_take_52 : decode cX5_take 52 = .ok (.dup, 1) := by decide +kernel
theorem dX5_take_53 : decode cX5_take 53 = .ok (.ldc 152, 2) := by decide +kernel
theorem dX5_take_55 : decode cX5_take 55 = .ok (.invokespecial 43, 3) := by decide +kernel
theorem dX5_take_58 : decode cX5_take 58 = .ok (.athrow, 1) := by decide +kernel
theorem dX5_take_59 : decode cX5_take 59 = .ok (.aload 4, 2) := by decide +kernel
theorem dX5_take_61 : decode cX5_take 61 = .ok (.aload_n 3, 1) := by decide +kernel
theorem dX5_take_62 : decode cX5_take 62 = .ok (.invokevirtual 154, 3) := by decide +kernel
theorem dX5_take_65 : decode cX5_take 65 = .ok (.aload_n 0, 1) := by decide +kernel
theorem dX5_take_66 : decode cX5_take 66 = .ok (.aload_n 3, 1) := by decide +kernel
theorem dX5_take_67 : decode cX5_take 67 = .ok (.invokevirtual 148, 3) := by decide +kernel
theorem dX5_take_70 : decode cX5_take 70 = .ok (.ireturn, 1) := by decide +kernel
theorem dX5_leave_0 : decode cX5_leave 0 = .ok (.aload_n 0, 1) := by decide +kernel
theorem dX5_leave_1 : decode cX5_leave 1 = .ok (.iload_n 1, 1) := by decide +kernel
theorem dX5_leave_2 : decode cX5_leave 2 = .ok (.invokevirtual 134, 3) := by decide +kernel
theorem dX5_leave_5 : decode cX5_leave 5 = .ok (.astore_n 3, 1) := by decide +kernel
theorem dX5_leave_6 : decode cX5_leave 6 = .ok (.aload_n 0, 1) := by decide +kernel
theorem dX5_leave_7 : decode cX5_leave 7 = .ok (.iload_n 2, 1) := by decide +kernel
theorem dX5_leave_8 : decode cX5_leave 8 = .ok (.invokevirtual 100, 3) := by decide +kernel
theorem dX5_leave_11 : decode cX5_leave 11 = .ok (.astore 4, 2) := by decide +kernel
theorem dX5_leave_13 : decode cX5_leave 13 = .ok (.aload_n 3, 1) := by decide +kernel
theorem dX5_leave_14 : decode cX5_leave 14 = .ok (.invokestatic 138, 3) := by decide +kernel
theorem dX5_leave_17 : decode cX5_leave 17 = .ok (.aload_n 3, 1) := by decide +kernel
theorem dX5_leave_18 : decode cX5_leave 18 = .ok (.aload 4, 2) := by decide +kernel
theorem dX5_leave_20 : decode cX5_leave 20 = .ok (.invokestatic 157, 3) := by decide +kernel
theorem dX5_leave_23 : decode cX5_leave 23 = .ok (.aload 4, 2) := by decide +kernel
theorem dX5_leave_25 : decode cX5_leave 25 = .ok (.aload_n 3, 1) := by decide +kernel
theorem dX5_leave_26 : decode cX5_leave 26 = .ok (.getfield 145, 3) := by decide +kernel
theorem dX5_leave_29 : decode cX5_leave 29 = .ok (.invokevirtual 161, 3) := by decide +kernel
theorem dX5_leave_32 : decode cX5_leave 32 = .ok (.aload_n 0, 1) := by decide +kernel
theorem dX5_leave_33 : decode cX5_leave 33 = .ok (.aload_n 3, 1) := by decide +kernel
theorem dX5_leave_34 : decode cX5_leave 34 = .ok (.invokevirtual 148, 3) := by decide +kernel
theorem dX5_leave_37 : decode cX5_leave 37 = .ok (.ireturn, 1) := by decide +kernel
theorem dX5_hide_0 : decode cX5_hide 0 = .ok (.aload_n 0, 1) := by decide +kernel
theorem dX5_hide_1 : decode cX5_hide 1 = .ok (.iload_n 1, 1) := by decide +kernel
theorem dX5_hide_2 : decode cX5_hide 2 = .ok (.invokevirtual 134, 3) := by decide +kernel
theorem dX5_hide_5 : decode cX5_hide 5 = .ok (.astore 4, 2) := by decide +kernel
theorem dX5_hide_7 : decode cX5_hide 7 = .ok (.aload_n 0, 1) := by decide +kernel
theorem dX5_hide_8 : decode cX5_hide 8 = .ok (.iload_n 2, 1) := by decide +kernel
theorem dX5_hide_9 : decode cX5_hide 9 = .ok (.invokevirtual 100, 3) := by decide +kernel
theorem dX5_hide_12 : decode cX5_hide 12 = .ok (.astore 5, 2) := by decide +kernel
theorem dX5_hide_14 : decode cX5_hide 14 = .ok (.aload 4, 2) := by decide +kernel
theorem dX5_hide_16 : decode cX5_hide 16 = .ok (.aload 5, 2) := by decide +kernel
theorem dX5_hide_18 : decode cX5_hide 18 = .ok (.invokestatic 157, 3) := by decide +kernel
theorem dX5_hide_21 : decode cX5_hide 21 = .ok (.aload 5, 2) := by decide +kernel
theorem dX5_hide_23 : decode cX5_hide 23 = .ok (.iload_n 3, 1) := by decide +kernel
theorem dX5_hide_24 : decode cX5_hide 24 = .ok (.putfield 164, 3) := by decide +kernel
theorem dX5_hide_27 : decode cX5_hide 27 = .ok (.aload_n 0, 1) := by decide +kernel
theorem dX5_hide_28 : decode cX5_hide 28 = .ok (.aload 4, 2) := by decide +kernel
theorem dX5_hide_30 : decode cX5_hide 30 = .ok (.invokevirtual 168, 3) := by decide +kernel
theorem dX5_hide_33 : decode cX5_hide 33 = .ok (.ireturn, 1) := by decide +kernel
theorem dX5_tell_0 : decode cX5_tell 0 = .ok (.aload_n 0, 1) := by decide +kernel
theorem dX5_tell_1 : decode cX5_tell 1 = .ok (.iload_n 1, 1) := by decide +kernel
theorem dX5_tell_2 : decode cX5_tell 2 = .ok (.invokevirtual 134, 3) := by decide +kernel
theorem dX5_tell_5 : decode cX5_tell 5 = .ok (.astore_n 3, 1) := by decide +kernel
theorem dX5_tell_6 : decode cX5_tell 6 = .ok (.aload_n 0, 1) := by decide +kernel
theorem dX5_tell_7 : decode cX5_tell 7 = .ok (.iload_n 2, 1) := by decide +kernel
theorem dX5_tell_8 : decode cX5_tell 8 = .ok (.invokevirtual 100, 3) := by decide +kernel
theorem dX5_tell_11 : decode cX5_tell 11 = .ok (.astore 4, 2) := by decide +kernel
theorem dX5_tell_13 : decode cX5_tell 13 = .ok (.aload_n 3, 1) := by decide +kernel
theorem dX5_tell_14 : decode cX5_tell 14 = .ok (.invokestatic 138, 3) := by decide +kernel
theorem dX5_tell_17 : decode cX5_tell 17 = .ok (.aload_n 3, 1) := by decide +kernel
theorem dX5_tell_18 : decode cX5_tell 18 = .ok (.aload 4, 2) := by decide +kernel
theorem dX5_tell_20 : decode cX5_tell 20 = .ok (.invokestatic 157, 3) := by decide +kernel
theorem dX5_tell_23 : decode cX5_tell 23 = .ok (.aload 4, 2) := by decide +kernel
theorem dX5_tell_25 : decode cX5_tell 25 = .ok (.getfield 171, 3) := by decide +kernel
theorem dX5_tell_28 : decode cX5_tell 28 = .ok (.iconst 1, 1) := by decide +kernel
theorem dX5_tell_29 : decode cX5_tell 29 = .ok (.iadd, 1) := by decide +kernel
theorem dX5_tell_30 : decode cX5_tell 30 = .ok (.istore 5, 2) := by decide +kernel
theorem dX5_tell_32 : decode cX5_tell 32 = .ok (.aload_n 0, 1) := by decide +kernel
theorem dX5_tell_33 : decode cX5_tell 33 = .ok (.aload_n 3, 1) := by decide +kernel
theorem dX5_tell_34 : decode cX5_tell 34 = .ok (.getfield 145, 3) := by decide +kernel
theorem dX5_tell_37 : decode cX5_tell 37 = .ok (.aload 4, 2) := by decide +kernel
theorem dX5_tell_39 : decode cX5_tell 39 = .ok (.getfield 117, 3) := by decide +kernel
theorem dX5_tell_42 : decode cX5_tell 42 = .ok (.invokevirtual 120, 3) := by decide +kernel
theorem dX5_tell_45 : decode cX5_tell 45 = .ok (.astore 6, 2) := by decide +kernel
theorem dX5_tell_47 : decode cX5_tell 47 = .ok (.aload 6, 2) := by decide +kernel
theorem dX5_tell_49 : decode cX5_tell 49 = .ok (.ifnull 15, 3) := by decide +kernel
theorem dX5_tell_52 : decode cX5_tell 52 = .ok (.aload 6, 2) := by decide +kernel
theorem dX5_tell_54 : decode cX5_tell 54 = .ok (.getfield 171, 3) := by decide +kernel
theorem dX5_tell_57 : decode cX5_tell 57 = .ok (.iload 5, 2) := by decide +kernel
theorem dX5_tell_59 : decode cX5_tell 59 = .ok (.if_icmp .gt 5, 3) := by decide +kernel
theorem dX5_tell_62 : decode cX5_tell 62 = .ok (.iconst (-1), 1) := by decide +kernel
theorem dX5_tell_63 : decode cX5_tell 63 = .ok (.ireturn, 1) := by decide +kernel
theorem dX5_tell_64 : decode cX5_tell 64 = .ok (.aload_n 0, 1) := by decide +kernel
theorem dX5_tell_65 : decode cX5_tell 65 = .ok (.getfield 28, 3) := by decide +kernel
theorem dX5_tell_68 : decode cX5_tell 68 = .ok (.invokevirtual 85, 3) := by decide +kernel
theorem dX5_tell_71 : decode cX5_tell 71 = .ok (.bipush 60, 2) := by decide +kernel
theorem dX5_tell_73 : decode cX5_tell 73 = .ok (.if_icmp .lt 13, 3) := by decide +kernel
theorem dX5_tell_76 : decode cX5_tell 76 = .ok (.new 39, 3) := by decide +kernel
theorem dX5_tell_79 : decode cX5_tell 79 = .ok (.dup, 1) := by decide +kernel
theorem dX5_tell_80 : decode cX5_tell 80 = .ok (.ldc 89, 2) := by decide +kernel
theorem dX5_tell_82 : decode cX5_tell 82 = .ok (.invokespecial 43, 3) := by decide +kernel
theorem dX5_tell_85 : decode cX5_tell 85 = .ok (.athrow, 1) := by decide +kernel
theorem dX5_tell_86 : decode cX5_tell 86 = .ok (.iload 5, 2) := by decide +kernel
theorem dX5_tell_88 : decode cX5_tell 88 = .ok (.bipush 99, 2) := by decide +kernel
theorem dX5_tell_90 : decode cX5_tell 90 = .ok (.if_icmp .le 13, 3) := by decide +kernel
theorem dX5_tell_93 : decode cX5_tell 93 = .ok (.new 39, 3) := by decide +kernel
theorem dX5_tell_96 : decode cX5_tell 96 = .ok (.dup, 1) := by decide +kernel
theorem dX5_tell_97 : decode cX5_tell 97 = .ok (.ldc 174, 2) := by decide +kernel
theorem dX5_tell_99 : decode cX5_tell 99 = .ok (.invokespecial 43, 3) := by decide +kernel
theorem dX5_tell_102 : decode cX5_tell 102 = .ok (.athrow, 1) := by decide +kernel
theorem dX5_tell_103 : decode cX5_tell 103 = .ok (.aload_n 0, 1) := by decide +kernel
theorem dX5_tell_104 : decode cX5_tell 104 = .ok (.getfield 28, 3) := by decide +kernel
theorem dX5_tell_107 : decode cX5_tell 107 = .ok (.invokevirtual 85, 3) := by decide +kernel
theorem dX5_tell_110 : decode cX5_tell 110 = .ok (.istore 7, 2) := by decide +kernel
theorem dX5_tell_112 : decode cX5_tell 112 = .ok (.aload_n 0, 1) := by decide +kernel
theorem dX5_tell_113 : decode cX5_tell 113 = .ok (.getfield 28, 3) := by decide +kernel
theorem dX5_tell_116 : decode cX5_tell 116 = .ok (.new 91, 3) := by decide +kernel
theorem dX5_tell_119 : decode cX5_tell 119 = .ok (.dup, 1) := by decide +kernel
theorem dX5_tell_120 : decode cX5_tell 120 = .ok (.iload 7, 2) := by decide +kernel
theorem dX5_tell_122 : decode cX5_tell 122 = .ok (.aload 4, 2) := by decide +kernel
theorem dX5_tell_124 : decode cX5_tell 124 = .ok (.getfield 117, 3) := by decide +kernel
theorem dX5_tell_127 : decode cX5_tell 127 = .ok (.aload 4, 2) := by decide +kernel
theorem dX5_tell_129 : decode cX5_tell 129 = .ok (.getfield 176, 3) := by decide +kernel
theorem dX5_tell_132 : decode cX5_tell 132 = .ok (.iload 5, 2) := by decide +kernel
theorem dX5_tell_134 : decode cX5_tell 134 = .ok (.aload 4, 2) := by decide +kernel
theorem dX5_tell_136 : decode cX5_tell 136 = .ok (.getfield 179, 3) := by decide +kernel
theorem dX5_tell_139 : decode cX5_tell 139 = .ok (.aload_n 3, 1) := by decide +kernel
theorem dX5_tell_140 : decode cX5_tell 140 = .ok (.getfield 145, 3) := by decide +kernel
theorem dX5_tell_143 : decode cX5_tell 143 = .ok (.invokespecial 93, 3) := by decide +kernel
theorem dX5_tell_146 : decode cX5_tell 146 = .ok (.invokevirtual 96, 3) := by decide +kernel
theorem dX5_tell_149 : decode cX5_tell 149 = .ok (.pop, 1) := by decide +kernel
theorem dX5_tell_150 : decode cX5_tell 150 = .ok (.iload 7, 2) := by decide +kernel
theorem dX5_tell_152 : decode cX5_tell 152 = .ok (.ireturn, 1) := by decide +kernel
theorem dX5_go_0 : decode cX5_go 0 = .ok (.aload_n 0, 1) := by decide +kernel
theorem dX5_go_1 : decode cX5_go 1 = .ok (.iload_n 1, 1) := by decide +kernel
theorem dX5_go_2 : decode cX5_go 2 = .ok (.invokevirtual 134, 3) := by decide +kernel
theorem dX5_go_5 : decode cX5_go 5 = .ok (.astore 4, 2) := by decide +kernel
theorem dX5_go_7 : decode cX5_go 7 = .ok (.aload_n 0, 1) := by decide +kernel
theorem dX5_go_8 : decode cX5_go 8 = .ok (.iload_n 2, 1) := by decide +kernel
theorem dX5_go_9 : decode cX5_go 9 = .ok (.invokevirtual 46, 3) := by decide +kernel
theorem dX5_go_12 : decode cX5_go 12 = .ok (.iload_n 3, 1) := by decide +kernel
theorem dX5_go_13 : decode cX5_go 13 = .ok (.iconst 0, 1) := by decide +kernel
theorem dX5_go_14 : decode cX5_go 14 = .ok (.iconst 5, 1) := by decide +kernel
theorem dX5_go_15 : decode cX5_go 15 = .ok (.invokestatic 55, 3) := by decide +kernel
theorem dX5_go_18 : decode cX5_go 18 = .ok (.aload 4, 2) := by decide +kernel
theorem dX5_go_20 : decode cX5_go 20 = .ok (.invokestatic 138, 3) := by decide +kernel
theorem dX5_go_23 : decode cX5_go 23 = .ok (.aload_n 0, 1) := by decide +kernel
theorem dX5_go_24 : decode cX5_go 24 = .ok (.getfield 10, 3) := by decide +kernel
theorem dX5_go_27 : decode cX5_go 27 = .ok (.aload 4, 2) := by decide +kernel
theorem dX5_go_29 : decode cX5_go 29 = .ok (.getfield 145, 3) := by decide +kernel
theorem dX5_go_32 : decode cX5_go 32 = .ok (.iload_n 2, 1) := by decide +kernel
theorem dX5_go_33 : decode cX5_go 33 = .ok (.invokevirtual 59, 3) := by decide +kernel
theorem dX5_go_36 : decode cX5_go 36 = .ok (.astore 5, 2) := by decide +kernel
theorem dX5_go_38 : decode cX5_go 38 = .ok (.aload 5, 2) := by decide +kernel
theorem dX5_go_40 : decode cX5_go 40 = .ok (.ifnonnull 13, 3) := by decide +kernel
theorem dX5_go_43 : decode cX5_go 43 = .ok (.new 39, 3) := by decide +kernel
theorem dX5_go_46 : decode cX5_go 46 = .ok (.dup, 1) := by decide +kernel
theorem dX5_go_47 : decode cX5_go 47 = .ok (.ldc 182, 2) := by decide +kernel
theorem dX5_go_49 : decode cX5_go 49 = .ok (.invokespecial 43, 3) := by decide +kernel
theorem dX5_go_52 : decode cX5_go 52 = .ok (.athrow, 1) := by decide +kernel
theorem dX5_go_53 : decode cX5_go 53 = .ok (.aload_n 0, 1) := by decide +kernel
theorem dX5_go_54 : decode cX5_go 54 = .ok (.aload 4, 2) := by decide +kernel
theorem dX5_go_56 : decode cX5_go 56 = .ok (.aload 5, 2) := by decide +kernel
theorem dX5_go_58 : decode cX5_go 58 = .ok (.iload_n 3, 1) := by decide +kernel
theorem dX5_go_59 : decode cX5_go 59 = .ok (.invokevirtual 184, 3) := by decide +kernel
theorem dX5_go_62 : decode cX5_go 62 = .ok (.istore 6, 2) := by decide +kernel
theorem dX5_go_64 : decode cX5_go 64 = .ok (.iload 6, 2) := by decide +kernel
theorem dX5_go_66 : decode cX5_go 66 = .ok (.aload 4, 2) := by decide +kernel
theorem dX5_go_68 : decode cX5_go 68 = .ok (.getfield 188, 3) := by decide +kernel
theorem dX5_go_71 : decode cX5_go 71 = .ok (.if_icmp .le 13, 3) := by decide +kernel
theorem dX5_go_74 : decode cX5_go 74 = .ok (.new 39, 3) := by decide +kernel
theorem dX5_go_77 : decode cX5_go 77 = .ok (.dup, 1) := by decide +kernel
theorem dX5_go_78 : decode cX5_go 78 = .ok (.ldc 191, 2) := by decide +kernel
theorem dX5_go_80 : decode cX5_go 80 = .ok (.invokespecial 43, 3) := by decide +kernel
theorem dX5_go_83 : decode cX5_go 83 = .ok (.athrow, 1) := by decide +kernel
theorem dX5_go_84 : decode cX5_go 84 = .ok (.aload_n 0, 1) := by decide +kernel
theorem dX5_go_85 : decode cX5_go 85 = .ok (.aload 4, 2) := by decide +kernel
theorem dX5_go_87 : decode cX5_go 87 = .ok (.aload 5, 2) := by decide +kernel
theorem dX5_go_89 : decode cX5_go 89 = .ok (.aload 4, 2) := by decide +kernel
theorem dX5_go_91 : decode cX5_go 91 = .ok (.getfield 188, 3) := by decide +kernel
theorem dX5_go_94 : decode cX5_go 94 = .ok (.iload 6, 2) := by decide +kernel
theorem dX5_go_96 : decode cX5_go 96 = .ok (.isub, 1) := by decide +kernel
theorem dX5_go_97 : decode cX5_go 97 = .ok (.invokevirtual 193, 3) := by decide +kernel
theorem dX5_go_100 : decode cX5_go 100 = .ok (.istore 7, 2) := by decide +kernel
theorem dX5_go_102 : decode cX5_go 102 = .ok (.aload_n 0, 1) := by decide +kernel
theorem dX5_go_103 : decode cX5_go 103 = .ok (.aload 4, 2) := by decide +kernel
theorem dX5_go_105 : decode cX5_go 105 = .ok (.iload_n 3, 1) := by decide +kernel
theorem dX5_go_106 : decode cX5_go 106 = .ok (.invokevirtual 196, 3) := by decide +kernel
theorem dX5_go_109 : decode cX5_go 109 = .ok (.aload_n 0, 1) := by decide +kernel
theorem dX5_go_110 : decode cX5_go 110 = .ok (.aload 4, 2) := by decide +kernel
theorem dX5_go_112 : decode cX5_go 112 = .ok (.aload 5, 2) := by decide +kernel
theorem dX5_go_114 : decode cX5_go 114 = .ok (.invokevirtual 200, 3) := by decide +kernel
theorem dX5_go_117 : decode cX5_go 117 = .ok (.aload_n 0, 1) := by decide +kernel
theorem dX5_go_118 : decode cX5_go 118 = .ok (.aload 4, 2) := by decide +kernel
theorem dX5_go_120 : decode cX5_go 120 = .ok (.aload 5, 2) := by decide +kernel
theorem dX5_go_122 : decode cX5_go 122 = .ok (.iload 6, 2) := by decide +kernel
theorem dX5_go_124 : decode cX5_go 124 = .ok (.iload 7, 2) := by decide +kernel
theorem dX5_go_126 : decode cX5_go 126 = .ok (.invokevirtual 204, 3) := by decide +kernel
theorem dX5_go_129 : decode cX5_go 129 = .ok (.aload 4, 2) := by decide +kernel
theorem dX5_go_131 : decode cX5_go 131 = .ok (.iload_n 2, 1) := by decide +kernel
theorem dX5_go_132 : decode cX5_go 132 = .ok (.aload 5, 2) := by decide +kernel
theorem dX5_go_134 : decode cX5_go 134 = .ok (.getfield 208, 3) := by decide +kernel
theorem dX5_go_137 : decode cX5_go 137 = .ok (.invokevirtual 211, 3) := by decide +kernel
theorem dX5_go_140 : decode cX5_go 140 = .ok (.iload 6, 2) := by decide +kernel
theorem dX5_go_142 : decode cX5_go 142 = .ok (.iload 7, 2) := by decide +kernel
theorem dX5_go_144 : decode cX5_go 144 = .ok (.iadd, 1) := by decide +kernel
theorem dX5_go_145 : decode cX5_go 145 = .ok (.ireturn, 1) := by decide +kernel
theorem dX5_carrier_0 : decode cX5_carrier 0 = .ok (.aload_n 0, 1) := by decide +kernel
theorem dX5_carrier_1 : decode cX5_carrier 1 = .ok (.iload_n 1, 1) := by decide +kernel
theorem dX5_carrier_2 : decode cX5_carrier 2 = .ok (.invokevirtual 134, 3) := by decide +kernel
theorem dX5_carrier_5 : decode cX5_carrier 5 = .ok (.astore_n 3, 1) := by decide +kernel
theorem dX5_carrier_6 : decode cX5_carrier 6 = .ok (.iload_n 2, 1) := by decide +kernel
theorem dX5_carrier_7 : decode cX5_carrier 7 = .ok (.iconst 5, 1) := by decide +kernel
theorem dX5_carrier_8 : decode cX5_carrier 8 = .ok (.invokestatic 77, 3) := by decide +kernel
theorem dX5_carrier_11 : decode cX5_carrier 11 = .ok (.aload_n 0, 1) := by decide +kernel
theorem dX5_carrier_12 : decode cX5_carrier 12 = .ok (.aload_n 3, 1) := by decide +kernel
theorem dX5_carrier_13 : decode cX5_carrier 13 = .ok (.iload_n 2, 1) := by decide +kernel
theorem dX5_carrier_14 : decode cX5_carrier 14 = .ok (.invokevirtual 214, 3) := by decide +kernel
theorem dX5_carrier_17 : decode cX5_carrier 17 = .ok (.ireturn, 1) := by decide +kernel
theorem dX5_wouldPay_0 : decode cX5_wouldPay 0 = .ok (.aload_n 0, 1) := by decide +kernel
theorem dX5_wouldPay_1 : decode cX5_wouldPay 1 = .ok (.iload_n 1, 1) := by decide +kernel
theorem dX5_wouldPay_2 : decode cX5_wouldPay 2 = .ok (.invokevirtual 134, 3) := by decide +kernel
theorem dX5_wouldPay_5 : decode cX5_wouldPay 5 = .ok (.astore 4, 2) := by decide +kernel
theorem dX5_wouldPay_7 : decode cX5_wouldPay 7 = .ok (.aload_n 0, 1) := by decide +kernel
theorem dX5_wouldPay_8 : decode cX5_wouldPay 8 = .ok (.iload_n 2, 1) := by decide +kernel
theorem dX5_wouldPay_9 : decode cX5_wouldPay 9 = .ok (.invokevirtual 46, 3) := by decide +kernel
theorem dX5_wouldPay_12 : decode cX5_wouldPay 12 = .ok (.iload_n 3, 1) := by decide +kernel
theorem dX5_wouldPay_13 : decode cX5_wouldPay 13 = .ok (.iconst 0, 1) := by decide +kernel
theorem dX5_wouldPay_14 : decode cX5_wouldPay 14 = .ok (.iconst 5, 1) := by decide +kernel
theorem dX5_wouldPay_15 : decode cX5_wouldPay 15 = .ok (.invokestatic 55, 3) := by decide +kernel
theorem dX5_wouldPay_18 : decode cX5_wouldPay 18 = .ok (.aload 4, 2) := by decide +kernel
theorem dX5_wouldPay_20 : decode cX5_wouldPay 20 = .ok (.invokestatic 138, 3) := by decide +kernel
theorem dX5_wouldPay_23 : decode cX5_wouldPay 23 = .ok (.aload_n 0, 1) := by decide +kernel
theorem dX5_wouldPay_24 : decode cX5_wouldPay 24 = .ok (.getfield 10, 3) := by decide +kernel
theorem dX5_wouldPay_27 : decode cX5_wouldPay 27 = .ok (.aload 4, 2) := by decide +kernel
theorem dX5_wouldPay_29 : decode cX5_wouldPay 29 = .ok (.getfield 145, 3) := by decide +kernel
theorem dX5_wouldPay_32 : decode cX5_wouldPay 32 = .ok (.iload_n 2, 1) := by decide +kernel
theorem dX5_wouldPay_33 : decode cX5_wouldPay 33 = .ok (.invokevirtual 59, 3) := by decide +kernel
theorem dX5_wouldPay_36 : decode cX5_wouldPay 36 = .ok (.astore 5, 2) := by decide +kernel
theorem dX5_wouldPay_38 : decode cX5_wouldPay 38 = .ok (.aload 5, 2) := by decide +kernel
theorem dX5_wouldPay_40 : decode cX5_wouldPay 40 = .ok (.ifnonnull 5, 3) := by decide +kernel
theorem dX5_wouldPay_43 : decode cX5_wouldPay 43 = .ok (.iconst (-1), 1) := by decide +kernel
theorem dX5_wouldPay_44 : decode cX5_wouldPay 44 = .ok (.ireturn, 1) := by decide +kernel
theorem dX5_wouldPay_45 : decode cX5_wouldPay 45 = .ok (.aload_n 0, 1) := by decide +kernel
theorem dX5_wouldPay_46 : decode cX5_wouldPay 46 = .ok (.aload 4, 2) := by decide +kernel
theorem dX5_wouldPay_48 : decode cX5_wouldPay 48 = .ok (.aload 5, 2) := by decide +kernel
theorem dX5_wouldPay_50 : decode cX5_wouldPay 50 = .ok (.iload_n 3, 1) := by decide +kernel
theorem dX5_wouldPay_51 : decode cX5_wouldPay 51 = .ok (.invokevirtual 184, 3) := by decide +kernel
theorem dX5_wouldPay_54 : decode cX5_wouldPay 54 = .ok (.istore 6, 2) := by decide +kernel
theorem dX5_wouldPay_56 : decode cX5_wouldPay 56 = .ok (.iload 6, 2) := by decide +kernel
theorem dX5_wouldPay_58 : decode cX5_wouldPay 58 = .ok (.aload_n 0, 1) := by decide +kernel
theorem dX5_wouldPay_59 : decode cX5_wouldPay 59 = .ok (.aload 4, 2) := by decide +kernel
theorem dX5_wouldPay_61 : decode cX5_wouldPay 61 = .ok (.aload 5, 2) := by decide +kernel
theorem dX5_wouldPay_63 : decode cX5_wouldPay 63 = .ok (.aload 4, 2) := by decide +kernel
theorem dX5_wouldPay_65 : decode cX5_wouldPay 65 = .ok (.getfield 188, 3) := by decide +kernel
theorem dX5_wouldPay_68 : decode cX5_wouldPay 68 = .ok (.iload 6, 2) := by decide +kernel
theorem dX5_wouldPay_70 : decode cX5_wouldPay 70 = .ok (.isub, 1) := by decide +kernel
theorem dX5_wouldPay_71 : decode cX5_wouldPay 71 = .ok (.invokevirtual 193, 3) := by decide +kernel
theorem dX5_wouldPay_74 : decode cX5_wouldPay 74 = .ok (.iadd, 1) := by decide +kernel
theorem dX5_wouldPay_75 : decode cX5_wouldPay 75 = .ok (.ireturn, 1) := by decide +kernel
theorem dX5_pass_0 : decode cX5_pass 0 = .ok (.iload_n 1, 1) := by decide +kernel
theorem dX5_pass_1 : decode cX5_pass 1 = .ok (.iconst 1, 1) := by decide +kernel
theorem dX5_pass_2 : decode cX5_pass 2 = .ok (.bipush 100, 2) := by decide +kernel
theorem dX5_pass_4 : decode cX5_pass 4 = .ok (.invokestatic 55, 3) := by decide +kernel
theorem dX5_pass_7 : decode cX5_pass 7 = .ok (.aload_n 0, 1) := by decide +kernel
theorem dX5_pass_8 : decode cX5_pass 8 = .ok (.dup, 1) := by decide +kernel
theorem dX5_pass_9 : decode cX5_pass 9 = .ok (.getfield 218, 3) := by decide +kernel
theorem dX5_pass_12 : decode cX5_pass 12 = .ok (.iload_n 1, 1) := by decide +kernel
theorem dX5_pass_13 : decode cX5_pass 13 = .ok (.iadd, 1) := by decide +kernel
theorem dX5_pass_14 : decode cX5_pass 14 = .ok (.putfield 218, 3) := by decide +kernel
theorem dX5_pass_17 : decode cX5_pass 17 = .ok (.iconst 0, 1) := by decide +kernel
theorem dX5_pass_18 : decode cX5_pass 18 = .ok (.istore_n 2, 1) := by decide +kernel
theorem dX5_pass_19 : decode cX5_pass 19 = .ok (.iconst 0, 1) := by decide +kernel
theorem dX5_pass_20 : decode cX5_pass 20 = .ok (.istore_n 3, 1) := by decide +kernel
theorem dX5_pass_21 : decode cX5_pass 21 = .ok (.iload_n 3, 1) := by decide +kernel
theorem dX5_pass_22 : decode cX5_pass 22 = .ok (.aload_n 0, 1) := by decide +kernel
theorem dX5_pass_23 : decode cX5_pass 23 = .ok (.getfield 32, 3) := by decide +kernel
theorem dX5_pass_26 : decode cX5_pass 26 = .ok (.invokevirtual 85, 3) := by decide +kernel
theorem dX5_pass_29 : decode cX5_pass 29 = .ok (.if_icmp .ge 30, 3) := by decide +kernel
theorem dX5_pass_32 : decode cX5_pass 32 = .ok (.aload_n 0, 1) := by decide +kernel
theorem dX5_pass_33 : decode cX5_pass 33 = .ok (.getfield 32, 3) := by decide +kernel
theorem dX5_pass_36 : decode cX5_pass 36 = .ok (.iload_n 3, 1) := by decide +kernel
theorem dX5_pass_37 : decode cX5_pass 37 = .ok (.invokevirtual 221, 3) := by decide +kernel
theorem dX5_pass_40 : decode cX5_pass 40 = .ok (.checkcast 130, 3) := by decide +kernel
theorem dX5_pass_43 : decode cX5_pass 43 = .ok (.iload_n 1, 1) := by decide +kernel
theorem dX5_pass_44 : decode cX5_pass 44 = .ok (.invokevirtual 225, 3) := by decide +kernel
theorem dX5_pass_47 : decode cX5_pass 47 = .ok (.ifCond .eq 6, 3) := by decide +kernel
theorem dX5_pass_50 : decode cX5_pass 50 = .ok (.iinc 2 1, 3) := by decide +kernel
theorem dX5_pass_53 : decode cX5_pass 53 = .ok (.iinc 3 1, 3) := by decide +kernel
theorem dX5_pass_56 : decode cX5_pass 56 = .ok (.goto (-35), 3) := by decide +kernel
theorem dX5_pass_59 : decode cX5_pass 59 = .ok (.iload_n 2, 1) := by decide +kernel
theorem dX5_pass_60 : decode cX5_pass 60 = .ok (.ireturn, 1) := by decide +kernel
theorem dX5_count_0 : decode cX5_count 0 = .ok (.iload_n 1, 1) := by decide +kernel
theorem dX5_count_1 : decode cX5_count 1 = .ok (.bipush 10, 2) := by decide +kernel
theorem dX5_count_3 : decode cX5_count 3 = .ok (.invokestatic 77, 3) := by decide +kernel
theorem dX5_count_6 : decode cX5_count 6 = .ok (.aload_n 0, 1) := by decide +kernel
theorem dX5_count_7 : decode cX5_count 7 = .ok (.iload_n 1, 1) := by decide +kernel
theorem dX5_count_8 : decode cX5_count 8 = .ok (.invokevirtual 229, 3) := by decide +kernel
theorem dX5_count_11 : decode cX5_count 11 = .ok (.ireturn, 1) := by decide +kernel
theorem dX5_cheapest_0 : decode cX5_cheapest 0 = .ok (.aload_n 0, 1) := by decide +kernel
theorem dX5_cheapest_1 : decode cX5_cheapest 1 = .ok (.iload_n 1, 1) := by decide +kernel
theorem dX5_cheapest_2 : decode cX5_cheapest 2 = .ok (.invokevirtual 100, 3) := by decide +kernel
theorem dX5_cheapest_5 : decode cX5_cheapest 5 = .ok (.astore 5, 2) := by decide +kernel
theorem dX5_cheapest_7 : decode cX5_cheapest 7 = .ok (.aload_n 0, 1) := by decide +kernel
theorem dX5_cheapest_8 : decode cX5_cheapest 8 = .ok (.iload_n 2, 1) := by decide +kernel
theorem dX5_cheapest_9 : decode cX5_cheapest 9 = .ok (.invokevirtual 46, 3) := by decide +kernel
theorem dX5_cheapest_12 : decode cX5_cheapest 12 = .ok (.aload_n 0, 1) := by decide +kernel
theorem dX5_cheapest_13 : decode cX5_cheapest 13 = .ok (.iload_n 3, 1) := by decide +kernel
theorem dX5_cheapest_14 : decode cX5_cheapest 14 = .ok (.invokevirtual 46, 3) := by decide +kernel
theorem dX5_cheapest_17 : decode cX5_cheapest 17 = .ok (.iload 4, 2) := by decide +kernel
theorem dX5_cheapest_19 : decode cX5_cheapest 19 = .ok (.iconst 1, 1) := by decide +kernel
theorem dX5_cheapest_20 : decode cX5_cheapest 20 = .ok (.invokestatic 77, 3) := by decide +kernel
theorem dX5_cheapest_23 : decode cX5_cheapest 23 = .ok (.aload_n 0, 1) := by decide +kernel
theorem dX5_cheapest_24 : decode cX5_cheapest 24 = .ok (.getfield 21, 3) := by decide +kernel
theorem dX5_cheapest_27 : decode cX5_cheapest 27 = .ok (.aload 5, 2) := by decide +kernel
theorem dX5_cheapest_29 : decode cX5_cheapest 29 = .ok (.iload_n 2, 1) := by decide +kernel
theorem dX5_cheapest_30 : decode cX5_cheapest 30 = .ok (.iload_n 3, 1) := by decide +kernel
theorem dX5_cheapest_31 : decode cX5_cheapest 31 = .ok (.invokevirtual 232, 3) := by decide +kernel
theorem dX5_cheapest_34 : decode cX5_cheapest 34 = .ok (.istore 6, 2) := by decide +kernel
theorem dX5_cheapest_36 : decode cX5_cheapest 36 = .ok (.iload 6, 2) := by decide +kernel
theorem dX5_cheapest_38 : decode cX5_cheapest 38 = .ok (.iconst (-1), 1) := by decide +kernel
theorem dX5_cheapest_39 : decode cX5_cheapest 39 = .ok (.if_icmp .ne 5, 3) := by decide +kernel
theorem dX5_cheapest_42 : decode cX5_cheapest 42 = .ok (.iconst (-1), 1) := by decide +kernel
theorem dX5_cheapest_43 : decode cX5_cheapest 43 = .ok (.ireturn, 1) := by decide +kernel
theorem dX5_cheapest_44 : decode cX5_cheapest 44 = .ok (.iload 4, 2) := by decide +kernel
theorem dX5_cheapest_46 : decode cX5_cheapest 46 = .ok (.ifCond .ne 11, 3) := by decide +kernel
theorem dX5_cheapest_49 : decode cX5_cheapest 49 = .ok (.iload 6, 2) := by decide +kernel
theorem dX5_cheapest_51 : decode cX5_cheapest 51 = .ok (.invokestatic 236, 3) := by decide +kernel
theorem dX5_cheapest_54 : decode cX5_cheapest 54 = .ok (.goto 8, 3) := by decide +kernel
theorem dX5_cheapest_57 : decode cX5_cheapest 57 = .ok (.iload 6, 2) := by decide +kernel
theorem dX5_cheapest_59 : decode cX5_cheapest 59 = .ok (.invokestatic 239, 3) := by decide +kernel
theorem dX5_cheapest_62 : decode cX5_cheapest 62 = .ok (.ireturn, 1) := by decide +kernel
theorem dX5_spread_0 : decode cX5_spread 0 = .ok (.aload_n 0, 1) := by decide +kernel
theorem dX5_spread_1 : decode cX5_spread 1 = .ok (.iload_n 1, 1) := by decide +kernel
theorem dX5_spread_2 : decode cX5_spread 2 = .ok (.invokevirtual 100, 3) := by decide +kernel
theorem dX5_spread_5 : decode cX5_spread 5 = .ok (.getfield 117, 3) := by decide +kernel
theorem dX5_spread_8 : decode cX5_spread 8 = .ok (.istore_n 3, 1) := by decide +kernel
theorem dX5_spread_9 : decode cX5_spread 9 = .ok (.iload_n 2, 1) := by decide +kernel
theorem dX5_spread_10 : decode cX5_spread 10 = .ok (.iconst 2, 1) := by decide +kernel
theorem dX5_spread_11 : decode cX5_spread 11 = .ok (.invokestatic 77, 3) := by decide +kernel
theorem dX5_spread_14 : decode cX5_spread 14 = .ok (.iload_n 2, 1) := by decide +kernel
theorem dX5_spread_15 : decode cX5_spread 15 = .ok (.lookupswitch 37 #[(0, 25), (1, 31)], 25) := by decide +kernel
theorem dX5_spread_40 : decode cX5_spread 40 = .ok (.aload_n 0, 1) := by decide +kernel
theorem dX5_spread_41 : decode cX5_spread 41 = .ok (.iload_n 3, 1) := by decide +kernel
theorem dX5_spread_42 : decode cX5_spread 42 = .ok (.invokevirtual 242, 3) := by decide +kernel
theorem dX5_spread_45 : decode cX5_spread 45 = .ok (.ireturn, 1) := by decide +kernel
theorem dX5_spread_46 : decode cX5_spread 46 = .ok (.aload_n 0, 1) := by decide +kernel
theorem dX5_spread_47 : decode cX5_spread 47 = .ok (.iload_n 3, 1) := by decide +kernel
theorem dX5_spread_48 : decode cX5_spread 48 = .ok (.invokevirtual 245, 3) := by decide +kernel
theorem dX5_spread_51 : decode cX5_spread 51 = .ok (.ireturn, 1) := by decide +kernel
theorem dX5_spread_52 : decode cX5_spread 52 = .ok (.aload_n 0, 1) := by decide +kernel
theorem dX5_spread_53 : decode cX5_spread 53 = .ok (.iload_n 3, 1) := by decide +kernel
theorem dX5_spread_54 : decode cX5_spread 54 = .ok (.invokevirtual 248, 3) := by decide +kernel
theorem dX5_spread_57 : decode cX5_spread 57 = .ok (.ireturn, 1) := by decide +kernel
theorem dX5_hearsay_0 : decode cX5_hearsay 0 = .ok (.iconst 0, 1) := by decide +kernel
theorem dX5_hearsay_1 : decode cX5_hearsay 1 = .ok (.istore_n 1, 1) := by decide +kernel
end
section
theorem dX5_hearsay_2 : decode cX5_hearsay 2 = .ok (.iconst 0, 1) := by decide +kernel
theorem dX5_hearsay_3 : decode cX5_hearsay 3 = .ok (.istore_n 2, 1) := by decide +kernel
theorem dX5_hearsay_4 : decode cX5_hearsay 4 = .ok (.iconst 0, 1) := by decide +kernel
theorem dX5_hearsay_5 : decode cX5_hearsay 5 = .ok (.istore_n 3, 1) := by decide +kernel
theorem dX5_hearsay_6 : decode cX5_hearsay 6 = .ok (.iload_n 3, 1) := by decide +kernel
theorem dX5_hearsay_7 : decode cX5_hearsay 7 = .ok (.aload_n 0, 1) := by decide +kernel
theorem dX5_hearsay_8 : decode cX5_hearsay 8 = .ok (.getfield 28, 3) := by decide +kernel
theorem dX5_hearsay_11 : decode cX5_hearsay 11 = .ok (.invokevirtual 85, 3) := by decide +kernel
theorem dX5_hearsay_14 : decode cX5_hearsay 14 = .ok (.if_icmp .ge 42, 3) := by decide +kernel
theorem dX5_hearsay_17 : decode cX5_hearsay 17 = .ok (.aload_n 0, 1) := by decide +kernel
theorem dX5_hearsay_18 : decode cX5_hearsay 18 = .ok (.getfield 28, 3) := by decide +kernel
theorem dX5_hearsay_21 : decode cX5_hearsay 21 = .ok (.iload_n 3, 1) := by decide +kernel
theorem dX5_hearsay_22 : decode cX5_hearsay 22 = .ok (.invokevirtual 221, 3) := by decide +kernel
theorem dX5_hearsay_25 : decode cX5_hearsay 25 = .ok (.checkcast 91, 3) := by decide +kernel
theorem dX5_hearsay_28 : decode cX5_hearsay 28 = .ok (.astore 4, 2) := by decide +kernel
theorem dX5_hearsay_30 : decode cX5_hearsay 30 = .ok (.aload 4, 2) := by decide +kernel
theorem dX5_hearsay_32 : decode cX5_hearsay 32 = .ok (.getfield 142, 3) := by decide +kernel
theorem dX5_hearsay_35 : decode cX5_hearsay 35 = .ok (.iconst (-1), 1) := by decide +kernel
theorem dX5_hearsay_36 : decode cX5_hearsay 36 = .ok (.if_icmp .eq 14, 3) := by decide +kernel
theorem dX5_hearsay_39 : decode cX5_hearsay 39 = .ok (.iinc 1 1, 3) := by decide +kernel
theorem dX5_hearsay_42 : decode cX5_hearsay 42 = .ok (.iload_n 2, 1) := by decide +kernel
theorem dX5_hearsay_43 : decode cX5_hearsay 43 = .ok (.aload 4, 2) := by decide +kernel
theorem dX5_hearsay_45 : decode cX5_hearsay 45 = .ok (.getfield 171, 3) := by decide +kernel
theorem dX5_hearsay_48 : decode cX5_hearsay 48 = .ok (.iadd, 1) := by decide +kernel
theorem dX5_hearsay_49 : decode cX5_hearsay 49 = .ok (.istore_n 2, 1) := by decide +kernel
theorem dX5_hearsay_50 : decode cX5_hearsay 50 = .ok (.iinc 3 1, 3) := by decide +kernel
theorem dX5_hearsay_53 : decode cX5_hearsay 53 = .ok (.goto (-47), 3) := by decide +kernel
theorem dX5_hearsay_56 : decode cX5_hearsay 56 = .ok (.iload_n 1, 1) := by decide +kernel
theorem dX5_hearsay_57 : decode cX5_hearsay 57 = .ok (.ifCond .ne 7, 3) := by decide +kernel
theorem dX5_hearsay_60 : decode cX5_hearsay 60 = .ok (.dconst 0, 1) := by decide +kernel
theorem dX5_hearsay_61 : decode cX5_hearsay 61 = .ok (.goto 8, 3) := by decide +kernel
theorem dX5_hearsay_64 : decode cX5_hearsay 64 = .ok (.iload_n 2, 1) := by decide +kernel
theorem dX5_hearsay_65 : decode cX5_hearsay 65 = .ok (.i2d, 1) := by decide +kernel
theorem dX5_hearsay_66 : decode cX5_hearsay 66 = .ok (.iload_n 1, 1) := by decide +kernel
theorem dX5_hearsay_67 : decode cX5_hearsay 67 = .ok (.i2d, 1) := by decide +kernel
theorem dX5_hearsay_68 : decode cX5_hearsay 68 = .ok (.ddiv, 1) := by decide +kernel
theorem dX5_hearsay_69 : decode cX5_hearsay 69 = .ok (.dreturn, 1) := by decide +kernel
theorem dX5_digest_0 : decode cX5_digest 0 = .ok (.ldc2_w 251, 3) := by decide +kernel
theorem dX5_digest_3 : decode cX5_digest 3 = .ok (.lstore_n 1, 1) := by decide +kernel
theorem dX5_digest_4 : decode cX5_digest 4 = .ok (.iconst 0, 1) := by decide +kernel
theorem dX5_digest_5 : decode cX5_digest 5 = .ok (.istore_n 3, 1) := by decide +kernel
theorem dX5_digest_6 : decode cX5_digest 6 = .ok (.iload_n 3, 1) := by decide +kernel
theorem dX5_digest_7 : decode cX5_digest 7 = .ok (.bipush 10, 2) := by decide +kernel
theorem dX5_digest_9 : decode cX5_digest 9 = .ok (.if_icmp .gt 22, 3) := by decide +kernel
theorem dX5_digest_12 : decode cX5_digest 12 = .ok (.lload_n 1, 1) := by decide +kernel
theorem dX5_digest_13 : decode cX5_digest 13 = .ok (.ldc2_w 253, 3) := by decide +kernel
theorem dX5_digest_16 : decode cX5_digest 16 = .ok (.lmul, 1) := by decide +kernel
theorem dX5_digest_17 : decode cX5_digest 17 = .ok (.aload_n 0, 1) := by decide +kernel
theorem dX5_digest_18 : decode cX5_digest 18 = .ok (.iload_n 3, 1) := by decide +kernel
theorem dX5_digest_19 : decode cX5_digest 19 = .ok (.invokevirtual 229, 3) := by decide +kernel
theorem dX5_digest_22 : decode cX5_digest 22 = .ok (.i2l, 1) := by decide +kernel
theorem dX5_digest_23 : decode cX5_digest 23 = .ok (.ladd, 1) := by decide +kernel
theorem dX5_digest_24 : decode cX5_digest 24 = .ok (.lstore_n 1, 1) := by decide +kernel
theorem dX5_digest_25 : decode cX5_digest 25 = .ok (.iinc 3 1, 3) := by decide +kernel
theorem dX5_digest_28 : decode cX5_digest 28 = .ok (.goto (-22), 3) := by decide +kernel
theorem dX5_digest_31 : decode cX5_digest 31 = .ok (.aload_n 0, 1) := by decide +kernel
theorem dX5_digest_32 : decode cX5_digest 32 = .ok (.lload_n 1, 1) := by decide +kernel
theorem dX5_digest_33 : decode cX5_digest 33 = .ok (.invokevirtual 255, 3) := by decide +kernel
theorem dX5_digest_36 : decode cX5_digest 36 = .ok (.lstore_n 1, 1) := by decide +kernel
theorem dX5_digest_37 : decode cX5_digest 37 = .ok (.aload_n 0, 1) := by decide +kernel
theorem dX5_digest_38 : decode cX5_digest 38 = .ok (.lload_n 1, 1) := by decide +kernel
theorem dX5_digest_39 : decode cX5_digest 39 = .ok (.invokevirtual 259, 3) := by decide +kernel
theorem dX5_digest_42 : decode cX5_digest 42 = .ok (.lstore_n 1, 1) := by decide +kernel
theorem dX5_digest_43 : decode cX5_digest 43 = .ok (.aload_n 0, 1) := by decide +kernel
theorem dX5_digest_44 : decode cX5_digest 44 = .ok (.lload_n 1, 1) := by decide +kernel
theorem dX5_digest_45 : decode cX5_digest 45 = .ok (.invokevirtual 262, 3) := by decide +kernel
theorem dX5_digest_48 : decode cX5_digest 48 = .ok (.lreturn, 1) := by decide +kernel
theorem dX5_requireWithin_0 : decode cX5_requireWithin 0 = .ok (.iload_n 0, 1) := by decide +kernel
theorem dX5_requireWithin_1 : decode cX5_requireWithin 1 = .ok (.iload_n 1, 1) := by decide +kernel
theorem dX5_requireWithin_2 : decode cX5_requireWithin 2 = .ok (.if_icmp .lt 8, 3) := by decide +kernel
theorem dX5_requireWithin_5 : decode cX5_requireWithin 5 = .ok (.iload_n 0, 1) := by decide +kernel
theorem dX5_requireWithin_6 : decode cX5_requireWithin 6 = .ok (.iload_n 2, 1) := by decide +kernel
theorem dX5_requireWithin_7 : decode cX5_requireWithin 7 = .ok (.if_icmp .le 14, 3) := by decide +kernel
theorem dX5_requireWithin_10 : decode cX5_requireWithin 10 = .ok (.new 50, 3) := by decide +kernel
theorem dX5_requireWithin_13 : decode cX5_requireWithin 13 = .ok (.dup, 1) := by decide +kernel
theorem dX5_requireWithin_14 : decode cX5_requireWithin 14 = .ok (.ldc_w 265, 3) := by decide +kernel
theorem dX5_requireWithin_17 : decode cX5_requireWithin 17 = .ok (.invokespecial 54, 3) := by decide +kernel
theorem dX5_requireWithin_20 : decode cX5_requireWithin 20 = .ok (.athrow, 1) := by decide +kernel
theorem dX5_requireWithin_21 : decode cX5_requireWithin 21 = .ok (.return_, 1) := by decide +kernel
theorem dX5_requireWhat_0 : decode cX5_requireWhat 0 = .ok (.iload_n 0, 1) := by decide +kernel
theorem dX5_requireWhat_1 : decode cX5_requireWhat 1 = .ok (.ifCond .lt 8, 3) := by decide +kernel
theorem dX5_requireWhat_4 : decode cX5_requireWhat 4 = .ok (.iload_n 0, 1) := by decide +kernel
theorem dX5_requireWhat_5 : decode cX5_requireWhat 5 = .ok (.iload_n 1, 1) := by decide +kernel
theorem dX5_requireWhat_6 : decode cX5_requireWhat 6 = .ok (.if_icmp .le 14, 3) := by decide +kernel
theorem dX5_requireWhat_9 : decode cX5_requireWhat 9 = .ok (.new 267, 3) := by decide +kernel
theorem dX5_requireWhat_12 : decode cX5_requireWhat 12 = .ok (.dup, 1) := by decide +kernel
theorem dX5_requireWhat_13 : decode cX5_requireWhat 13 = .ok (.ldc_w 269, 3) := by decide +kernel
theorem dX5_requireWhat_16 : decode cX5_requireWhat 16 = .ok (.invokespecial 271, 3) := by decide +kernel
theorem dX5_requireWhat_19 : decode cX5_requireWhat 19 = .ok (.athrow, 1) := by decide +kernel
theorem dX5_requireWhat_20 : decode cX5_requireWhat 20 = .ok (.return_, 1) := by decide +kernel
theorem dX5_requireTown_0 : decode cX5_requireTown 0 = .ok (.iload_n 1, 1) := by decide +kernel
theorem dX5_requireTown_1 : decode cX5_requireTown 1 = .ok (.ifCond .lt 11, 3) := by decide +kernel
theorem dX5_requireTown_4 : decode cX5_requireTown 4 = .ok (.iload_n 1, 1) := by decide +kernel
theorem dX5_requireTown_5 : decode cX5_requireTown 5 = .ok (.aload_n 0, 1) := by decide +kernel
theorem dX5_requireTown_6 : decode cX5_requireTown 6 = .ok (.getfield 35, 3) := by decide +kernel
theorem dX5_requireTown_9 : decode cX5_requireTown 9 = .ok (.if_icmp .lt 14, 3) := by decide +kernel
theorem dX5_requireTown_12 : decode cX5_requireTown 12 = .ok (.new 267, 3) := by decide +kernel
theorem dX5_requireTown_15 : decode cX5_requireTown 15 = .ok (.dup, 1) := by decide +kernel
theorem dX5_requireTown_16 : decode cX5_requireTown 16 = .ok (.ldc_w 272, 3) := by decide +kernel
theorem dX5_requireTown_19 : decode cX5_requireTown 19 = .ok (.invokespecial 271, 3) := by decide +kernel
theorem dX5_requireTown_22 : decode cX5_requireTown 22 = .ok (.athrow, 1) := by decide +kernel
theorem dX5_requireTown_23 : decode cX5_requireTown 23 = .ok (.return_, 1) := by decide +kernel
theorem dX5_rumourAt_0 : decode cX5_rumourAt 0 = .ok (.iload_n 1, 1) := by decide +kernel
theorem dX5_rumourAt_1 : decode cX5_rumourAt 1 = .ok (.ifCond .lt 14, 3) := by decide +kernel
theorem dX5_rumourAt_4 : decode cX5_rumourAt 4 = .ok (.iload_n 1, 1) := by decide +kernel
theorem dX5_rumourAt_5 : decode cX5_rumourAt 5 = .ok (.aload_n 0, 1) := by decide +kernel
theorem dX5_rumourAt_6 : decode cX5_rumourAt 6 = .ok (.getfield 28, 3) := by decide +kernel
theorem dX5_rumourAt_9 : decode cX5_rumourAt 9 = .ok (.invokevirtual 85, 3) := by decide +kernel
theorem dX5_rumourAt_12 : decode cX5_rumourAt 12 = .ok (.if_icmp .lt 14, 3) := by decide +kernel
theorem dX5_rumourAt_15 : decode cX5_rumourAt 15 = .ok (.new 267, 3) := by decide +kernel
theorem dX5_rumourAt_18 : decode cX5_rumourAt 18 = .ok (.dup, 1) := by decide +kernel
theorem dX5_rumourAt_19 : decode cX5_rumourAt 19 = .ok (.ldc_w 274, 3) := by decide +kernel
theorem dX5_rumourAt_22 : decode cX5_rumourAt 22 = .ok (.invokespecial 271, 3) := by decide +kernel
theorem dX5_rumourAt_25 : decode cX5_rumourAt 25 = .ok (.athrow, 1) := by decide +kernel
theorem dX5_rumourAt_26 : decode cX5_rumourAt 26 = .ok (.aload_n 0, 1) := by decide +kernel
theorem dX5_rumourAt_27 : decode cX5_rumourAt 27 = .ok (.getfield 28, 3) := by decide +kernel
theorem dX5_rumourAt_30 : decode cX5_rumourAt 30 = .ok (.iload_n 1, 1) := by decide +kernel
theorem dX5_rumourAt_31 : decode cX5_rumourAt 31 = .ok (.invokevirtual 221, 3) := by decide +kernel
theorem dX5_rumourAt_34 : decode cX5_rumourAt 34 = .ok (.checkcast 91, 3) := by decide +kernel
theorem dX5_rumourAt_37 : decode cX5_rumourAt 37 = .ok (.areturn, 1) := by decide +kernel
theorem dX5_carrierAt_0 : decode cX5_carrierAt 0 = .ok (.iload_n 1, 1) := by decide +kernel
theorem dX5_carrierAt_1 : decode cX5_carrierAt 1 = .ok (.ifCond .lt 14, 3) := by decide +kernel
theorem dX5_carrierAt_4 : decode cX5_carrierAt 4 = .ok (.iload_n 1, 1) := by decide +kernel
theorem dX5_carrierAt_5 : decode cX5_carrierAt 5 = .ok (.aload_n 0, 1) := by decide +kernel
theorem dX5_carrierAt_6 : decode cX5_carrierAt 6 = .ok (.getfield 32, 3) := by decide +kernel
theorem dX5_carrierAt_9 : decode cX5_carrierAt 9 = .ok (.invokevirtual 85, 3) := by decide +kernel
theorem dX5_carrierAt_12 : decode cX5_carrierAt 12 = .ok (.if_icmp .lt 14, 3) := by decide +kernel
theorem dX5_carrierAt_15 : decode cX5_carrierAt 15 = .ok (.new 267, 3) := by decide +kernel
theorem dX5_carrierAt_18 : decode cX5_carrierAt 18 = .ok (.dup, 1) := by decide +kernel
theorem dX5_carrierAt_19 : decode cX5_carrierAt 19 = .ok (.ldc_w 276, 3) := by decide +kernel
theorem dX5_carrierAt_22 : decode cX5_carrierAt 22 = .ok (.invokespecial 271, 3) := by decide +kernel
theorem dX5_carrierAt_25 : decode cX5_carrierAt 25 = .ok (.athrow, 1) := by decide +kernel
theorem dX5_carrierAt_26 : decode cX5_carrierAt 26 = .ok (.aload_n 0, 1) := by decide +kernel
theorem dX5_carrierAt_27 : decode cX5_carrierAt 27 = .ok (.getfield 32, 3) := by decide +kernel
theorem dX5_carrierAt_30 : decode cX5_carrierAt 30 = .ok (.iload_n 1, 1) := by decide +kernel
theorem dX5_carrierAt_31 : decode cX5_carrierAt 31 = .ok (.invokevirtual 221, 3) := by decide +kernel
theorem dX5_carrierAt_34 : decode cX5_carrierAt 34 = .ok (.checkcast 130, 3) := by decide +kernel
theorem dX5_carrierAt_37 : decode cX5_carrierAt 37 = .ok (.areturn, 1) := by decide +kernel
theorem dX5_requireInTown_0 : decode cX5_requireInTown 0 = .ok (.aload_n 0, 1) := by decide +kernel
theorem dX5_requireInTown_1 : decode cX5_requireInTown 1 = .ok (.invokevirtual 278, 3) := by decide +kernel
theorem dX5_requireInTown_4 : decode cX5_requireInTown 4 = .ok (.ifCond .eq 14, 3) := by decide +kernel
theorem dX5_requireInTown_7 : decode cX5_requireInTown 7 = .ok (.new 39, 3) := by decide +kernel
theorem dX5_requireInTown_10 : decode cX5_requireInTown 10 = .ok (.dup, 1) := by decide +kernel
theorem dX5_requireInTown_11 : decode cX5_requireInTown 11 = .ok (.ldc_w 282, 3) := by decide +kernel
theorem dX5_requireInTown_14 : decode cX5_requireInTown 14 = .ok (.invokespecial 43, 3) := by decide +kernel
theorem dX5_requireInTown_17 : decode cX5_requireInTown 17 = .ok (.athrow, 1) := by decide +kernel
theorem dX5_requireInTown_18 : decode cX5_requireInTown 18 = .ok (.return_, 1) := by decide +kernel
theorem dX5_requireHas_0 : decode cX5_requireHas 0 = .ok (.aload_n 1, 1) := by decide +kernel
theorem dX5_requireHas_1 : decode cX5_requireHas 1 = .ok (.aload_n 0, 1) := by decide +kernel
theorem dX5_requireHas_2 : decode cX5_requireHas 2 = .ok (.invokevirtual 284, 3) := by decide +kernel
theorem dX5_requireHas_5 : decode cX5_requireHas 5 = .ok (.ifCond .ne 14, 3) := by decide +kernel
theorem dX5_requireHas_8 : decode cX5_requireHas 8 = .ok (.new 39, 3) := by decide +kernel
theorem dX5_requireHas_11 : decode cX5_requireHas 11 = .ok (.dup, 1) := by decide +kernel
theorem dX5_requireHas_12 : decode cX5_requireHas 12 = .ok (.ldc_w 288, 3) := by decide +kernel
theorem dX5_requireHas_15 : decode cX5_requireHas 15 = .ok (.invokespecial 43, 3) := by decide +kernel
theorem dX5_requireHas_18 : decode cX5_requireHas 18 = .ok (.athrow, 1) := by decide +kernel
theorem dX5_requireHas_19 : decode cX5_requireHas 19 = .ok (.return_, 1) := by decide +kernel
theorem dX5_rumoursIn_0 : decode cX5_rumoursIn 0 = .ok (.iconst 0, 1) := by decide +kernel
theorem dX5_rumoursIn_1 : decode cX5_rumoursIn 1 = .ok (.istore_n 2, 1) := by decide +kernel
theorem dX5_rumoursIn_2 : decode cX5_rumoursIn 2 = .ok (.iconst 0, 1) := by decide +kernel
theorem dX5_rumoursIn_3 : decode cX5_rumoursIn 3 = .ok (.istore_n 3, 1) := by decide +kernel
theorem dX5_rumoursIn_4 : decode cX5_rumoursIn 4 = .ok (.iload_n 3, 1) := by decide +kernel
theorem dX5_rumoursIn_5 : decode cX5_rumoursIn 5 = .ok (.aload_n 0, 1) := by decide +kernel
theorem dX5_rumoursIn_6 : decode cX5_rumoursIn 6 = .ok (.getfield 28, 3) := by decide +kernel
theorem dX5_rumoursIn_9 : decode cX5_rumoursIn 9 = .ok (.invokevirtual 85, 3) := by decide +kernel
theorem dX5_rumoursIn_12 : decode cX5_rumoursIn 12 = .ok (.if_icmp .ge 30, 3) := by decide +kernel
theorem dX5_rumoursIn_15 : decode cX5_rumoursIn 15 = .ok (.aload_n 0, 1) := by decide +kernel
theorem dX5_rumoursIn_16 : decode cX5_rumoursIn 16 = .ok (.getfield 28, 3) := by decide +kernel
theorem dX5_rumoursIn_19 : decode cX5_rumoursIn 19 = .ok (.iload_n 3, 1) := by decide +kernel
theorem dX5_rumoursIn_20 : decode cX5_rumoursIn 20 = .ok (.invokevirtual 221, 3) := by decide +kernel
theorem dX5_rumoursIn_23 : decode cX5_rumoursIn 23 = .ok (.checkcast 91, 3) := by decide +kernel
theorem dX5_rumoursIn_26 : decode cX5_rumoursIn 26 = .ok (.getfield 142, 3) := by decide +kernel
theorem dX5_rumoursIn_29 : decode cX5_rumoursIn 29 = .ok (.iload_n 1, 1) := by decide +kernel
theorem dX5_rumoursIn_30 : decode cX5_rumoursIn 30 = .ok (.if_icmp .ne 6, 3) := by decide +kernel
theorem dX5_rumoursIn_33 : decode cX5_rumoursIn 33 = .ok (.iinc 2 1, 3) := by decide +kernel
theorem dX5_rumoursIn_36 : decode cX5_rumoursIn 36 = .ok (.iinc 3 1, 3) := by decide +kernel
theorem dX5_rumoursIn_39 : decode cX5_rumoursIn 39 = .ok (.goto (-35), 3) := by decide +kernel
theorem dX5_rumoursIn_42 : decode cX5_rumoursIn 42 = .ok (.iload_n 2, 1) := by decide +kernel
theorem dX5_rumoursIn_43 : decode cX5_rumoursIn 43 = .ok (.ireturn, 1) := by decide +kernel
theorem dX5_familiesIn_0 : decode cX5_familiesIn 0 = .ok (.lconst 0, 1) := by decide +kernel
theorem dX5_familiesIn_1 : decode cX5_familiesIn 1 = .ok (.lstore_n 2, 1) := by decide +kernel
theorem dX5_familiesIn_2 : decode cX5_familiesIn 2 = .ok (.iconst 0, 1) := by decide +kernel
theorem dX5_familiesIn_3 : decode cX5_familiesIn 3 = .ok (.istore 4, 2) := by decide +kernel
theorem dX5_familiesIn_5 : decode cX5_familiesIn 5 = .ok (.iload 4, 2) := by decide +kernel
theorem dX5_familiesIn_7 : decode cX5_familiesIn 7 = .ok (.aload_n 0, 1) := by decide +kernel
theorem dX5_familiesIn_8 : decode cX5_familiesIn 8 = .ok (.getfield 28, 3) := by decide +kernel
theorem dX5_familiesIn_11 : decode cX5_familiesIn 11 = .ok (.invokevirtual 85, 3) := by decide +kernel
theorem dX5_familiesIn_14 : decode cX5_familiesIn 14 = .ok (.if_icmp .ge 42, 3) := by decide +kernel
theorem dX5_familiesIn_17 : decode cX5_familiesIn 17 = .ok (.aload_n 0, 1) := by decide +kernel
theorem dX5_familiesIn_18 : decode cX5_familiesIn 18 = .ok (.getfield 28, 3) := by decide +kernel
theorem dX5_familiesIn_21 : decode cX5_familiesIn 21 = .ok (.iload 4, 2) := by decide +kernel
theorem dX5_familiesIn_23 : decode cX5_familiesIn 23 = .ok (.invokevirtual 221, 3) := by decide +kernel
theorem dX5_familiesIn_26 : decode cX5_familiesIn 26 = .ok (.checkcast 91, 3) := by decide +kernel
theorem dX5_familiesIn_29 : decode cX5_familiesIn 29 = .ok (.astore 5, 2) := by decide +kernel
theorem dX5_familiesIn_31 : decode cX5_familiesIn 31 = .ok (.aload 5, 2) := by decide +kernel
theorem dX5_familiesIn_33 : decode cX5_familiesIn 33 = .ok (.getfield 142, 3) := by decide +kernel
theorem dX5_familiesIn_36 : decode cX5_familiesIn 36 = .ok (.iload_n 1, 1) := by decide +kernel
theorem dX5_familiesIn_37 : decode cX5_familiesIn 37 = .ok (.if_icmp .ne 13, 3) := by decide +kernel
theorem dX5_familiesIn_40 : decode cX5_familiesIn 40 = .ok (.lload_n 2, 1) := by decide +kernel
theorem dX5_familiesIn_41 : decode cX5_familiesIn 41 = .ok (.lconst 1, 1) := by decide +kernel
theorem dX5_familiesIn_42 : decode cX5_familiesIn 42 = .ok (.aload 5, 2) := by decide +kernel
theorem dX5_familiesIn_44 : decode cX5_familiesIn 44 = .ok (.getfield 117, 3) := by decide +kernel
theorem dX5_familiesIn_47 : decode cX5_familiesIn 47 = .ok (.lshl, 1) := by decide +kernel
theorem dX5_familiesIn_48 : decode cX5_familiesIn 48 = .ok (.lor, 1) := by decide +kernel
theorem dX5_familiesIn_49 : decode cX5_familiesIn 49 = .ok (.lstore_n 2, 1) := by decide +kernel
theorem dX5_familiesIn_50 : decode cX5_familiesIn 50 = .ok (.iinc 4 1, 3) := by decide +kernel
theorem dX5_familiesIn_53 : decode cX5_familiesIn 53 = .ok (.goto (-48), 3) := by decide +kernel
theorem dX5_familiesIn_56 : decode cX5_familiesIn 56 = .ok (.lload_n 2, 1) := by decide +kernel
theorem dX5_familiesIn_57 : decode cX5_familiesIn 57 = .ok (.invokestatic 290, 3) := by decide +kernel
theorem dX5_familiesIn_60 : decode cX5_familiesIn 60 = .ok (.ireturn, 1) := by decide +kernel
theorem dX5_deepestIn_0 : decode cX5_deepestIn 0 = .ok (.iconst (-1), 1) := by decide +kernel
theorem dX5_deepestIn_1 : decode cX5_deepestIn 1 = .ok (.istore_n 2, 1) := by decide +kernel
theorem dX5_deepestIn_2 : decode cX5_deepestIn 2 = .ok (.iconst (-1), 1) := by decide +kernel
theorem dX5_deepestIn_3 : decode cX5_deepestIn 3 = .ok (.istore_n 3, 1) := by decide +kernel
theorem dX5_deepestIn_4 : decode cX5_deepestIn 4 = .ok (.iconst 0, 1) := by decide +kernel
theorem dX5_deepestIn_5 : decode cX5_deepestIn 5 = .ok (.istore 4, 2) := by decide +kernel
theorem dX5_deepestIn_7 : decode cX5_deepestIn 7 = .ok (.iload 4, 2) := by decide +kernel
theorem dX5_deepestIn_9 : decode cX5_deepestIn 9 = .ok (.aload_n 0, 1) := by decide +kernel
theorem dX5_deepestIn_10 : decode cX5_deepestIn 10 = .ok (.getfield 28, 3) := by decide +kernel
theorem dX5_deepestIn_13 : decode cX5_deepestIn 13 = .ok (.invokevirtual 85, 3) := by decide +kernel
theorem dX5_deepestIn_16 : decode cX5_deepestIn 16 = .ok (.if_icmp .ge 50, 3) := by decide +kernel
theorem dX5_deepestIn_19 : decode cX5_deepestIn 19 = .ok (.aload_n 0, 1) := by decide +kernel
theorem dX5_deepestIn_20 : decode cX5_deepestIn 20 = .ok (.getfield 28, 3) := by decide +kernel
theorem dX5_deepestIn_23 : decode cX5_deepestIn 23 = .ok (.iload 4, 2) := by decide +kernel
theorem dX5_deepestIn_25 : decode cX5_deepestIn 25 = .ok (.invokevirtual 221, 3) := by decide +kernel
theorem dX5_deepestIn_28 : decode cX5_deepestIn 28 = .ok (.checkcast 91, 3) := by decide +kernel
theorem dX5_deepestIn_31 : decode cX5_deepestIn 31 = .ok (.astore 5, 2) := by decide +kernel
theorem dX5_deepestIn_33 : decode cX5_deepestIn 33 = .ok (.aload 5, 2) := by decide +kernel
theorem dX5_deepestIn_35 : decode cX5_deepestIn 35 = .ok (.getfield 142, 3) := by decide +kernel
theorem dX5_deepestIn_38 : decode cX5_deepestIn 38 = .ok (.iload_n 1, 1) := by decide +kernel
theorem dX5_deepestIn_39 : decode cX5_deepestIn 39 = .ok (.if_icmp .ne 21, 3) := by decide +kernel
theorem dX5_deepestIn_42 : decode cX5_deepestIn 42 = .ok (.aload 5, 2) := by decide +kernel
theorem dX5_deepestIn_44 : decode cX5_deepestIn 44 = .ok (.getfield 171, 3) := by decide +kernel
theorem dX5_deepestIn_47 : decode cX5_deepestIn 47 = .ok (.iload_n 3, 1) := by decide +kernel
theorem dX5_deepestIn_48 : decode cX5_deepestIn 48 = .ok (.if_icmp .le 12, 3) := by decide +kernel
theorem dX5_deepestIn_51 : decode cX5_deepestIn 51 = .ok (.iload 4, 2) := by decide +kernel
theorem dX5_deepestIn_53 : decode cX5_deepestIn 53 = .ok (.istore_n 2, 1) := by decide +kernel
theorem dX5_deepestIn_54 : decode cX5_deepestIn 54 = .ok (.aload 5, 2) := by decide +kernel
theorem dX5_deepestIn_56 : decode cX5_deepestIn 56 = .ok (.getfield 171, 3) := by decide +kernel
theorem dX5_deepestIn_59 : decode cX5_deepestIn 59 = .ok (.istore_n 3, 1) := by decide +kernel
theorem dX5_deepestIn_60 : decode cX5_deepestIn 60 = .ok (.iinc 4 1, 3) := by decide +kernel
theorem dX5_deepestIn_63 : decode cX5_deepestIn 63 = .ok (.goto (-56), 3) := by decide +kernel
theorem dX5_deepestIn_66 : decode cX5_deepestIn 66 = .ok (.iload_n 2, 1) := by decide +kernel
theorem dX5_deepestIn_67 : decode cX5_deepestIn 67 = .ok (.ireturn, 1) := by decide +kernel
theorem dX5_carriersIn_0 : decode cX5_carriersIn 0 = .ok (.iconst 0, 1) := by decide +kernel
theorem dX5_carriersIn_1 : decode cX5_carriersIn 1 = .ok (.istore_n 2, 1) := by decide +kernel
theorem dX5_carriersIn_2 : decode cX5_carriersIn 2 = .ok (.iconst 0, 1) := by decide +kernel
theorem dX5_carriersIn_3 : decode cX5_carriersIn 3 = .ok (.istore_n 3, 1) := by decide +kernel
theorem dX5_carriersIn_4 : decode cX5_carriersIn 4 = .ok (.iload_n 3, 1) := by decide +kernel
theorem dX5_carriersIn_5 : decode cX5_carriersIn 5 = .ok (.aload_n 0, 1) := by decide +kernel
theorem dX5_carriersIn_6 : decode cX5_carriersIn 6 = .ok (.getfield 32, 3) := by decide +kernel
theorem dX5_carriersIn_9 : decode cX5_carriersIn 9 = .ok (.invokevirtual 85, 3) := by decide +kernel
theorem dX5_carriersIn_12 : decode cX5_carriersIn 12 = .ok (.if_icmp .ge 42, 3) := by decide +kernel
theorem dX5_carriersIn_15 : decode cX5_carriersIn 15 = .ok (.aload_n 0, 1) := by decide +kernel
theorem dX5_carriersIn_16 : decode cX5_carriersIn 16 = .ok (.getfield 32, 3) := by decide +kernel
theorem dX5_carriersIn_19 : decode cX5_carriersIn 19 = .ok (.iload_n 3, 1) := by decide +kernel
theorem dX5_carriersIn_20 : decode cX5_carriersIn 20 = .ok (.invokevirtual 221, 3) := by decide +kernel
theorem dX5_carriersIn_23 : decode cX5_carriersIn 23 = .ok (.checkcast 130, 3) := by decide +kernel
theorem dX5_carriersIn_26 : decode cX5_carriersIn 26 = .ok (.astore 4, 2) := by decide +kernel
theorem dX5_carriersIn_28 : decode cX5_carriersIn 28 = .ok (.aload 4, 2) := by decide +kernel
theorem dX5_carriersIn_30 : decode cX5_carriersIn 30 = .ok (.getfield 145, 3) := by decide +kernel
theorem dX5_carriersIn_33 : decode cX5_carriersIn 33 = .ok (.iload_n 1, 1) := by decide +kernel
theorem dX5_carriersIn_34 : decode cX5_carriersIn 34 = .ok (.if_icmp .ne 14, 3) := by decide +kernel
theorem dX5_carriersIn_37 : decode cX5_carriersIn 37 = .ok (.aload 4, 2) := by decide +kernel
theorem dX5_carriersIn_39 : decode cX5_carriersIn 39 = .ok (.invokevirtual 278, 3) := by decide +kernel
theorem dX5_carriersIn_42 : decode cX5_carriersIn 42 = .ok (.ifCond .ne 6, 3) := by decide +kernel
theorem dX5_carriersIn_45 : decode cX5_carriersIn 45 = .ok (.iinc 2 1, 3) := by decide +kernel
theorem dX5_carriersIn_48 : decode cX5_carriersIn 48 = .ok (.iinc 3 1, 3) := by decide +kernel
theorem dX5_carriersIn_51 : decode cX5_carriersIn 51 = .ok (.goto (-47), 3) := by decide +kernel
theorem dX5_carriersIn_54 : decode cX5_carriersIn 54 = .ok (.iload_n 2, 1) := by decide +kernel
theorem dX5_carriersIn_55 : decode cX5_carriersIn 55 = .ok (.ireturn, 1) := by decide +kernel
theorem dX5_leastDeepIn_0 : decode cX5_leastDeepIn 0 = .ok (.aconst_null, 1) := by decide +kernel
theorem dX5_leastDeepIn_1 : decode cX5_leastDeepIn 1 = .ok (.astore_n 3, 1) := by decide +kernel
theorem dX5_leastDeepIn_2 : decode cX5_leastDeepIn 2 = .ok (.iconst 0, 1) := by decide +kernel
theorem dX5_leastDeepIn_3 : decode cX5_leastDeepIn 3 = .ok (.istore 4, 2) := by decide +kernel
theorem dX5_leastDeepIn_5 : decode cX5_leastDeepIn 5 = .ok (.iload 4, 2) := by decide +kernel
theorem dX5_leastDeepIn_7 : decode cX5_leastDeepIn 7 = .ok (.aload_n 0, 1) := by decide +kernel
theorem dX5_leastDeepIn_8 : decode cX5_leastDeepIn 8 = .ok (.getfield 28, 3) := by decide +kernel
theorem dX5_leastDeepIn_11 : decode cX5_leastDeepIn 11 = .ok (.invokevirtual 85, 3) := by decide +kernel
theorem dX5_leastDeepIn_14 : decode cX5_leastDeepIn 14 = .ok (.if_icmp .ge 60, 3) := by decide +kernel
theorem dX5_leastDeepIn_17 : decode cX5_leastDeepIn 17 = .ok (.aload_n 0, 1) := by decide +kernel
theorem dX5_leastDeepIn_18 : decode cX5_leastDeepIn 18 = .ok (.getfield 28, 3) := by decide +kernel
theorem dX5_leastDeepIn_21 : decode cX5_leastDeepIn 21 = .ok (.iload 4, 2) := by decide +kernel
theorem dX5_leastDeepIn_23 : decode cX5_leastDeepIn 23 = .ok (.invokevirtual 221, 3) := by decide +kernel
theorem dX5_leastDeepIn_26 : decode cX5_leastDeepIn 26 = .ok (.checkcast 91, 3) := by decide +kernel
theorem dX5_leastDeepIn_29 : decode cX5_leastDeepIn 29 = .ok (.astore 5, 2) := by decide +kernel
theorem dX5_leastDeepIn_31 : decode cX5_leastDeepIn 31 = .ok (.aload 5, 2) := by decide +kernel
theorem dX5_leastDeepIn_33 : decode cX5_leastDeepIn 33 = .ok (.getfield 142, 3) := by decide +kernel
theorem dX5_leastDeepIn_36 : decode cX5_leastDeepIn 36 = .ok (.iload_n 1, 1) := by decide +kernel
theorem dX5_leastDeepIn_37 : decode cX5_leastDeepIn 37 = .ok (.if_icmp .ne 31, 3) := by decide +kernel
theorem dX5_leastDeepIn_40 : decode cX5_leastDeepIn 40 = .ok (.aload 5, 2) := by decide +kernel
theorem dX5_leastDeepIn_42 : decode cX5_leastDeepIn 42 = .ok (.getfield 117, 3) := by decide +kernel
theorem dX5_leastDeepIn_45 : decode cX5_leastDeepIn 45 = .ok (.iload_n 2, 1) := by decide +kernel
theorem dX5_leastDeepIn_46 : decode cX5_leastDeepIn 46 = .ok (.if_icmp .ne 22, 3) := by decide +kernel
theorem dX5_leastDeepIn_49 : decode cX5_leastDeepIn 49 = .ok (.aload_n 3, 1) := by decide +kernel
theorem dX5_leastDeepIn_50 : decode cX5_leastDeepIn 50 = .ok (.ifnull 15, 3) := by decide +kernel
theorem dX5_leastDeepIn_53 : decode cX5_leastDeepIn 53 = .ok (.aload 5, 2) := by decide +kernel
theorem dX5_leastDeepIn_55 : decode cX5_leastDeepIn 55 = .ok (.getfield 171, 3) := by decide +kernel
theorem dX5_leastDeepIn_58 : decode cX5_leastDeepIn 58 = .ok (.aload_n 3, 1) := by decide +kernel
theorem dX5_leastDeepIn_59 : decode cX5_leastDeepIn 59 = .ok (.getfield 171, 3) := by decide +kernel
theorem dX5_leastDeepIn_62 : decode cX5_leastDeepIn 62 = .ok (.if_icmp .ge 6, 3) := by decide +kernel
theorem dX5_leastDeepIn_65 : decode cX5_leastDeepIn 65 = .ok (.aload 5, 2) := by decide +kernel
theorem dX5_leastDeepIn_67 : decode cX5_leastDeepIn 67 = .ok (.astore_n 3, 1) := by decide +kernel
theorem dX5_leastDeepIn_68 : decode cX5_leastDeepIn 68 = .ok (.iinc 4 1, 3) := by decide +kernel
theorem dX5_leastDeepIn_71 : decode cX5_leastDeepIn 71 = .ok (.goto (-66), 3) := by decide +kernel
theorem dX5_leastDeepIn_74 : decode cX5_leastDeepIn 74 = .ok (.aload_n 3, 1) := by decide +kernel
theorem dX5_leastDeepIn_75 : decode cX5_leastDeepIn 75 = .ok (.areturn, 1) := by decide +kernel
theorem dX5_inBag_0 : decode cX5_inBag 0 = .ok (.iconst 0, 1) := by decide +kernel
theorem dX5_inBag_1 : decode cX5_inBag 1 = .ok (.istore_n 2, 1) := by decide +kernel
theorem dX5_inBag_2 : decode cX5_inBag 2 = .ok (.iconst 0, 1) := by decide +kernel
theorem dX5_inBag_3 : decode cX5_inBag 3 = .ok (.istore_n 3, 1) := by decide +kernel
theorem dX5_inBag_4 : decode cX5_inBag 4 = .ok (.iload_n 3, 1) := by decide +kernel
theorem dX5_inBag_5 : decode cX5_inBag 5 = .ok (.aload_n 0, 1) := by decide +kernel
theorem dX5_inBag_6 : decode cX5_inBag 6 = .ok (.getfield 28, 3) := by decide +kernel
theorem dX5_inBag_9 : decode cX5_inBag 9 = .ok (.invokevirtual 85, 3) := by decide +kernel
theorem dX5_inBag_12 : decode cX5_inBag 12 = .ok (.if_icmp .ge 30, 3) := by decide +kernel
theorem dX5_inBag_15 : decode cX5_inBag 15 = .ok (.aload_n 0, 1) := by decide +kernel
theorem dX5_inBag_16 : decode cX5_inBag 16 = .ok (.getfield 28, 3) := by decide +kernel
theorem dX5_inBag_19 : decode cX5_inBag 19 = .ok (.iload_n 3, 1) := by decide +kernel
theorem dX5_inBag_20 : decode cX5_inBag 20 = .ok (.invokevirtual 221, 3) := by decide +kernel
theorem dX5_inBag_23 : decode cX5_inBag 23 = .ok (.checkcast 91, 3) := by decide +kernel
theorem dX5_inBag_26 : decode cX5_inBag 26 = .ok (.aload_n 1, 1) := by decide +kernel
theorem dX5_inBag_27 : decode cX5_inBag 27 = .ok (.invokevirtual 284, 3) := by decide +kernel
theorem dX5_inBag_30 : decode cX5_inBag 30 = .ok (.ifCond .eq 6, 3) := by decide +kernel
theorem dX5_inBag_33 : decode cX5_inBag 33 = .ok (.iinc 2 1, 3) := by decide +kernel
theorem dX5_inBag_36 : decode cX5_inBag 36 = .ok (.iinc 3 1, 3) := by decide +kernel
theorem dX5_inBag_39 : decode cX5_inBag 39 = .ok (.goto (-35), 3) := by decide +kernel
theorem dX5_inBag_42 : decode cX5_inBag 42 = .ok (.iload_n 2, 1) := by decide +kernel
theorem dX5_inBag_43 : decode cX5_inBag 43 = .ok (.ireturn, 1) := by decide +kernel
theorem dX5_hiddenInBag_0 : decode cX5_hiddenInBag 0 = .ok (.iconst 0, 1) := by decide +kernel
theorem dX5_hiddenInBag_1 : decode cX5_hiddenInBag 1 = .ok (.istore_n 2, 1) := by decide +kernel
theorem dX5_hiddenInBag_2 : decode cX5_hiddenInBag 2 = .ok (.iconst 0, 1) := by decide +kernel
theorem dX5_hiddenInBag_3 : decode cX5_hiddenInBag 3 = .ok (.istore_n 3, 1) := by decide +kernel
theorem dX5_hiddenInBag_4 : decode cX5_hiddenInBag 4 = .ok (.iload_n 3, 1) := by decide +kernel
theorem dX5_hiddenInBag_5 : decode cX5_hiddenInBag 5 = .ok (.aload_n 0, 1) := by decide +kernel
theorem dX5_hiddenInBag_6 : decode cX5_hiddenInBag 6 = .ok (.getfield 28, 3) := by decide +kernel
theorem dX5_hiddenInBag_9 : decode cX5_hiddenInBag 9 = .ok (.invokevirtual 85, 3) := by decide +kernel
theorem dX5_hiddenInBag_12 : decode cX5_hiddenInBag 12 = .ok (.if_icmp .ge 30, 3) := by decide +kernel
theorem dX5_hiddenInBag_15 : decode cX5_hiddenInBag 15 = .ok (.aload_n 0, 1) := by decide +kernel
theorem dX5_hiddenInBag_16 : decode cX5_hiddenInBag 16 = .ok (.getfield 28, 3) := by decide +kernel
theorem dX5_hiddenInBag_19 : decode cX5_hiddenInBag 19 = .ok (.iload_n 3, 1) := by decide +kernel
theorem dX5_hiddenInBag_20 : decode cX5_hiddenInBag 20 = .ok (.invokevirtual 221, 3) := by decide +kernel
theorem dX5_hiddenInBag_23 : decode cX5_hiddenInBag 23 = .ok (.checkcast 91, 3) := by decide +kernel
theorem dX5_hiddenInBag_26 : decode cX5_hiddenInBag 26 = .ok (.aload_n 1, 1) := by decide +kernel
theorem dX5_hiddenInBag_27 : decode cX5_hiddenInBag 27 = .ok (.invokevirtual 296, 3) := by decide +kernel
theorem dX5_hiddenInBag_30 : decode cX5_hiddenInBag 30 = .ok (.ifCond .eq 6, 3) := by decide +kernel
theorem dX5_hiddenInBag_33 : decode cX5_hiddenInBag 33 = .ok (.iinc 2 1, 3) := by decide +kernel
theorem dX5_hiddenInBag_36 : decode cX5_hiddenInBag 36 = .ok (.iinc 3 1, 3) := by decide +kernel
theorem dX5_hiddenInBag_39 : decode cX5_hiddenInBag 39 = .ok (.goto (-35), 3) := by decide +kernel
theorem dX5_hiddenInBag_42 : decode cX5_hiddenInBag 42 = .ok (.iload_n 2, 1) := by decide +kernel
theorem dX5_hiddenInBag_43 : decode cX5_hiddenInBag 43 = .ok (.ireturn, 1) := by decide +kernel
theorem dX5_owedBy_0 : decode cX5_owedBy 0 = .ok (.iconst 0, 1) := by decide +kernel
theorem dX5_owedBy_1 : decode cX5_owedBy 1 = .ok (.istore 4, 2) := by decide +kernel
theorem dX5_owedBy_3 : decode cX5_owedBy 3 = .ok (.iconst 0, 1) := by decide +kernel
theorem dX5_owedBy_4 : decode cX5_owedBy 4 = .ok (.istore 5, 2) := by decide +kernel
theorem dX5_owedBy_6 : decode cX5_owedBy 6 = .ok (.iload 5, 2) := by decide +kernel
theorem dX5_owedBy_8 : decode cX5_owedBy 8 = .ok (.aload_n 0, 1) := by decide +kernel
theorem dX5_owedBy_9 : decode cX5_owedBy 9 = .ok (.getfield 28, 3) := by decide +kernel
theorem dX5_owedBy_12 : decode cX5_owedBy 12 = .ok (.invokevirtual 85, 3) := by decide +kernel
theorem dX5_owedBy_15 : decode cX5_owedBy 15 = .ok (.if_icmp .ge 49, 3) := by decide +kernel
theorem dX5_owedBy_18 : decode cX5_owedBy 18 = .ok (.aload_n 0, 1) := by decide +kernel
theorem dX5_owedBy_19 : decode cX5_owedBy 19 = .ok (.getfield 28, 3) := by decide +kernel
theorem dX5_owedBy_22 : decode cX5_owedBy 22 = .ok (.iload 5, 2) := by decide +kernel
theorem dX5_owedBy_24 : decode cX5_owedBy 24 = .ok (.invokevirtual 221, 3) := by decide +kernel
theorem dX5_owedBy_27 : decode cX5_owedBy 27 = .ok (.checkcast 91, 3) := by decide +kernel
theorem dX5_owedBy_30 : decode cX5_owedBy 30 = .ok (.astore 6, 2) := by decide +kernel
theorem dX5_owedBy_32 : decode cX5_owedBy 32 = .ok (.aload 6, 2) := by decide +kernel
theorem dX5_owedBy_34 : decode cX5_owedBy 34 = .ok (.aload_n 1, 1) := by decide +kernel
theorem dX5_owedBy_35 : decode cX5_owedBy 35 = .ok (.invokevirtual 299, 3) := by decide +kernel
theorem dX5_owedBy_38 : decode cX5_owedBy 38 = .ok (.ifCond .eq 20, 3) := by decide +kernel
theorem dX5_owedBy_41 : decode cX5_owedBy 41 = .ok (.iload 4, 2) := by decide +kernel
theorem dX5_owedBy_43 : decode cX5_owedBy 43 = .ok (.aload_n 2, 1) := by decide +kernel
theorem dX5_owedBy_44 : decode cX5_owedBy 44 = .ok (.aload 6, 2) := by decide +kernel
theorem dX5_owedBy_46 : decode cX5_owedBy 46 = .ok (.aload 6, 2) := by decide +kernel
theorem dX5_owedBy_48 : decode cX5_owedBy 48 = .ok (.iload_n 3, 1) := by decide +kernel
theorem dX5_owedBy_49 : decode cX5_owedBy 49 = .ok (.invokevirtual 302, 3) := by decide +kernel
theorem dX5_owedBy_52 : decode cX5_owedBy 52 = .ok (.invokevirtual 305, 3) := by decide +kernel
theorem dX5_owedBy_55 : decode cX5_owedBy 55 = .ok (.iadd, 1) := by decide +kernel
theorem dX5_owedBy_56 : decode cX5_owedBy 56 = .ok (.istore 4, 2) := by decide +kernel
theorem dX5_owedBy_58 : decode cX5_owedBy 58 = .ok (.iinc 5 1, 3) := by decide +kernel
theorem dX5_owedBy_61 : decode cX5_owedBy 61 = .ok (.goto (-55), 3) := by decide +kernel
theorem dX5_owedBy_64 : decode cX5_owedBy 64 = .ok (.iload 4, 2) := by decide +kernel
theorem dX5_owedBy_66 : decode cX5_owedBy 66 = .ok (.ireturn, 1) := by decide +kernel
theorem dX5_fineOf_0 : decode cX5_fineOf 0 = .ok (.aload_n 2, 1) := by decide +kernel
theorem dX5_fineOf_1 : decode cX5_fineOf 1 = .ok (.aload_n 0, 1) := by decide +kernel
theorem dX5_fineOf_2 : decode cX5_fineOf 2 = .ok (.aload_n 1, 1) := by decide +kernel
theorem dX5_fineOf_3 : decode cX5_fineOf 3 = .ok (.invokevirtual 168, 3) := by decide +kernel
theorem dX5_fineOf_6 : decode cX5_fineOf 6 = .ok (.invokevirtual 309, 3) := by decide +kernel
theorem dX5_fineOf_9 : decode cX5_fineOf 9 = .ok (.bipush 10, 2) := by decide +kernel
theorem dX5_fineOf_11 : decode cX5_fineOf 11 = .ok (.if_icmp .ge 5, 3) := by decide +kernel
theorem dX5_fineOf_14 : decode cX5_fineOf 14 = .ok (.iconst 0, 1) := by decide +kernel
theorem dX5_fineOf_15 : decode cX5_fineOf 15 = .ok (.ireturn, 1) := by decide +kernel
theorem dX5_fineOf_16 : decode cX5_fineOf 16 = .ok (.iconst 0, 1) := by decide +kernel
theorem dX5_fineOf_17 : decode cX5_fineOf 17 = .ok (.istore 4, 2) := by decide +kernel
theorem dX5_fineOf_19 : decode cX5_fineOf 19 = .ok (.iconst 0, 1) := by decide +kernel
theorem dX5_fineOf_20 : decode cX5_fineOf 20 = .ok (.istore 5, 2) := by decide +kernel
theorem dX5_fineOf_22 : decode cX5_fineOf 22 = .ok (.iload 5, 2) := by decide +kernel
theorem dX5_fineOf_24 : decode cX5_fineOf 24 = .ok (.aload_n 0, 1) := by decide +kernel
theorem dX5_fineOf_25 : decode cX5_fineOf 25 = .ok (.getfield 28, 3) := by decide +kernel
theorem dX5_fineOf_28 : decode cX5_fineOf 28 = .ok (.invokevirtual 85, 3) := by decide +kernel
theorem dX5_fineOf_31 : decode cX5_fineOf 31 = .ok (.if_icmp .ge 44, 3) := by decide +kernel
theorem dX5_fineOf_34 : decode cX5_fineOf 34 = .ok (.aload_n 0, 1) := by decide +kernel
theorem dX5_fineOf_35 : decode cX5_fineOf 35 = .ok (.getfield 28, 3) := by decide +kernel
theorem dX5_fineOf_38 : decode cX5_fineOf 38 = .ok (.iload 5, 2) := by decide +kernel
theorem dX5_fineOf_40 : decode cX5_fineOf 40 = .ok (.invokevirtual 221, 3) := by decide +kernel
theorem dX5_fineOf_43 : decode cX5_fineOf 43 = .ok (.checkcast 91, 3) := by decide +kernel
theorem dX5_fineOf_46 : decode cX5_fineOf 46 = .ok (.astore 6, 2) := by decide +kernel
theorem dX5_fineOf_48 : decode cX5_fineOf 48 = .ok (.aload 6, 2) := by decide +kernel
theorem dX5_fineOf_50 : decode cX5_fineOf 50 = .ok (.aload_n 1, 1) := by decide +kernel
theorem dX5_fineOf_51 : decode cX5_fineOf 51 = .ok (.invokevirtual 296, 3) := by decide +kernel
theorem dX5_fineOf_54 : decode cX5_fineOf 54 = .ok (.ifCond .eq 15, 3) := by decide +kernel
theorem dX5_fineOf_57 : decode cX5_fineOf 57 = .ok (.iload 4, 2) := by decide +kernel
theorem dX5_fineOf_59 : decode cX5_fineOf 59 = .ok (.aload_n 2, 1) := by decide +kernel
theorem dX5_fineOf_60 : decode cX5_fineOf 60 = .ok (.aload 6, 2) := by decide +kernel
theorem dX5_fineOf_62 : decode cX5_fineOf 62 = .ok (.iconst 0, 1) := by decide +kernel
theorem dX5_fineOf_63 : decode cX5_fineOf 63 = .ok (.invokevirtual 305, 3) := by decide +kernel
theorem dX5_fineOf_66 : decode cX5_fineOf 66 = .ok (.iadd, 1) := by decide +kernel
theorem dX5_fineOf_67 : decode cX5_fineOf 67 = .ok (.istore 4, 2) := by decide +kernel
theorem dX5_fineOf_69 : decode cX5_fineOf 69 = .ok (.iinc 5 1, 3) := by decide +kernel
theorem dX5_fineOf_72 : decode cX5_fineOf 72 = .ok (.goto (-50), 3) := by decide +kernel
theorem dX5_fineOf_75 : decode cX5_fineOf 75 = .ok (.iconst 0, 1) := by decide +kernel
theorem dX5_fineOf_76 : decode cX5_fineOf 76 = .ok (.iconst 3, 1) := by decide +kernel
theorem dX5_fineOf_77 : decode cX5_fineOf 77 = .ok (.iload 4, 2) := by decide +kernel
theorem dX5_fineOf_79 : decode cX5_fineOf 79 = .ok (.imul, 1) := by decide +kernel
theorem dX5_fineOf_80 : decode cX5_fineOf 80 = .ok (.iload_n 3, 1) := by decide +kernel
theorem dX5_fineOf_81 : decode cX5_fineOf 81 = .ok (.invokestatic 312, 3) := by decide +kernel
theorem dX5_fineOf_84 : decode cX5_fineOf 84 = .ok (.invokestatic 318, 3) := by decide +kernel
theorem dX5_fineOf_87 : decode cX5_fineOf 87 = .ok (.ireturn, 1) := by decide +kernel
theorem dX5_burnProofs_0 : decode cX5_burnProofs 0 = .ok (.iconst 0, 1) := by decide +kernel
theorem dX5_burnProofs_1 : decode cX5_burnProofs 1 = .ok (.istore_n 3, 1) := by decide +kernel
theorem dX5_burnProofs_2 : decode cX5_burnProofs 2 = .ok (.iload_n 3, 1) := by decide +kernel
theorem dX5_burnProofs_3 : decode cX5_burnProofs 3 = .ok (.aload_n 0, 1) := by decide +kernel
theorem dX5_burnProofs_4 : decode cX5_burnProofs 4 = .ok (.getfield 28, 3) := by decide +kernel
theorem dX5_burnProofs_7 : decode cX5_burnProofs 7 = .ok (.invokevirtual 85, 3) := by decide +kernel
theorem dX5_burnProofs_10 : decode cX5_burnProofs 10 = .ok (.if_icmp .ge 62, 3) := by decide +kernel
theorem dX5_burnProofs_13 : decode cX5_burnProofs 13 = .ok (.aload_n 0, 1) := by decide +kernel
theorem dX5_burnProofs_14 : decode cX5_burnProofs 14 = .ok (.getfield 28, 3) := by decide +kernel
theorem dX5_burnProofs_17 : decode cX5_burnProofs 17 = .ok (.iload_n 3, 1) := by decide +kernel
theorem dX5_burnProofs_18 : decode cX5_burnProofs 18 = .ok (.invokevirtual 221, 3) := by decide +kernel
theorem dX5_burnProofs_21 : decode cX5_burnProofs 21 = .ok (.checkcast 91, 3) := by decide +kernel
theorem dX5_burnProofs_24 : decode cX5_burnProofs 24 = .ok (.astore 4, 2) := by decide +kernel
theorem dX5_burnProofs_26 : decode cX5_burnProofs 26 = .ok (.aload 4, 2) := by decide +kernel
theorem dX5_burnProofs_28 : decode cX5_burnProofs 28 = .ok (.aload_n 1, 1) := by decide +kernel
theorem dX5_burnProofs_29 : decode cX5_burnProofs 29 = .ok (.invokevirtual 299, 3) := by decide +kernel
theorem dX5_burnProofs_32 : decode cX5_burnProofs 32 = .ok (.ifCond .eq 34, 3) := by decide +kernel
theorem dX5_burnProofs_35 : decode cX5_burnProofs 35 = .ok (.aload 4, 2) := by decide +kernel
theorem dX5_burnProofs_37 : decode cX5_burnProofs 37 = .ok (.iload_n 2, 1) := by decide +kernel
theorem dX5_burnProofs_38 : decode cX5_burnProofs 38 = .ok (.invokevirtual 302, 3) := by decide +kernel
theorem dX5_burnProofs_41 : decode cX5_burnProofs 41 = .ok (.istore 5, 2) := by decide +kernel
theorem dX5_burnProofs_43 : decode cX5_burnProofs 43 = .ok (.aload 4, 2) := by decide +kernel
theorem dX5_burnProofs_45 : decode cX5_burnProofs 45 = .ok (.dup, 1) := by decide +kernel
theorem dX5_burnProofs_46 : decode cX5_burnProofs 46 = .ok (.getfield 179, 3) := by decide +kernel
theorem dX5_burnProofs_49 : decode cX5_burnProofs 49 = .ok (.iload 5, 2) := by decide +kernel
theorem dX5_burnProofs_51 : decode cX5_burnProofs 51 = .ok (.isub, 1) := by decide +kernel
theorem dX5_burnProofs_52 : decode cX5_burnProofs 52 = .ok (.putfield 179, 3) := by decide +kernel
theorem dX5_burnProofs_55 : decode cX5_burnProofs 55 = .ok (.aload_n 0, 1) := by decide +kernel
theorem dX5_burnProofs_56 : decode cX5_burnProofs 56 = .ok (.dup, 1) := by decide +kernel
theorem dX5_burnProofs_57 : decode cX5_burnProofs 57 = .ok (.getfield 321, 3) := by decide +kernel
theorem dX5_burnProofs_60 : decode cX5_burnProofs 60 = .ok (.iload 5, 2) := by decide +kernel
theorem dX5_burnProofs_62 : decode cX5_burnProofs 62 = .ok (.iadd, 1) := by decide +kernel
theorem dX5_burnProofs_63 : decode cX5_burnProofs 63 = .ok (.putfield 321, 3) := by decide +kernel
theorem dX5_burnProofs_66 : decode cX5_burnProofs 66 = .ok (.iinc 3 1, 3) := by decide +kernel
theorem dX5_burnProofs_69 : decode cX5_burnProofs 69 = .ok (.goto (-67), 3) := by decide +kernel
theorem dX5_burnProofs_72 : decode cX5_burnProofs 72 = .ok (.return_, 1) := by decide +kernel
theorem dX5_inspect_0 : decode cX5_inspect 0 = .ok (.aload_n 2, 1) := by decide +kernel
theorem dX5_inspect_1 : decode cX5_inspect 1 = .ok (.aload_n 2, 1) := by decide +kernel
theorem dX5_inspect_2 : decode cX5_inspect 2 = .ok (.aload_n 0, 1) := by decide +kernel
theorem dX5_inspect_3 : decode cX5_inspect 3 = .ok (.aload_n 1, 1) := by decide +kernel
theorem dX5_inspect_4 : decode cX5_inspect 4 = .ok (.invokevirtual 168, 3) := by decide +kernel
theorem dX5_inspect_7 : decode cX5_inspect 7 = .ok (.invokevirtual 309, 3) := by decide +kernel
theorem dX5_inspect_10 : decode cX5_inspect 10 = .ok (.putfield 324, 3) := by decide +kernel
theorem dX5_inspect_13 : decode cX5_inspect 13 = .ok (.aload_n 2, 1) := by decide +kernel
theorem dX5_inspect_14 : decode cX5_inspect 14 = .ok (.getfield 324, 3) := by decide +kernel
theorem dX5_inspect_17 : decode cX5_inspect 17 = .ok (.bipush 10, 2) := by decide +kernel
theorem dX5_inspect_19 : decode cX5_inspect 19 = .ok (.if_icmp .lt 29, 3) := by decide +kernel
theorem dX5_inspect_22 : decode cX5_inspect 22 = .ok (.aload_n 2, 1) := by decide +kernel
theorem dX5_inspect_23 : decode cX5_inspect 23 = .ok (.dup, 1) := by decide +kernel
theorem dX5_inspect_24 : decode cX5_inspect 24 = .ok (.getfield 324, 3) := by decide +kernel
theorem dX5_inspect_27 : decode cX5_inspect 27 = .ok (.bipush 10, 2) := by decide +kernel
theorem dX5_inspect_29 : decode cX5_inspect 29 = .ok (.isub, 1) := by decide +kernel
theorem dX5_inspect_30 : decode cX5_inspect 30 = .ok (.putfield 324, 3) := by decide +kernel
theorem dX5_inspect_33 : decode cX5_inspect 33 = .ok (.aload_n 0, 1) := by decide +kernel
theorem dX5_inspect_34 : decode cX5_inspect 34 = .ok (.dup, 1) := by decide +kernel
theorem dX5_inspect_35 : decode cX5_inspect 35 = .ok (.getfield 327, 3) := by decide +kernel
theorem dX5_inspect_38 : decode cX5_inspect 38 = .ok (.iconst 1, 1) := by decide +kernel
theorem dX5_inspect_39 : decode cX5_inspect 39 = .ok (.iadd, 1) := by decide +kernel
theorem dX5_inspect_40 : decode cX5_inspect 40 = .ok (.putfield 327, 3) := by decide +kernel
theorem dX5_inspect_43 : decode cX5_inspect 43 = .ok (.aload_n 0, 1) := by decide +kernel
theorem dX5_inspect_44 : decode cX5_inspect 44 = .ok (.aload_n 1, 1) := by decide +kernel
theorem dX5_inspect_45 : decode cX5_inspect 45 = .ok (.invokevirtual 330, 3) := by decide +kernel
theorem dX5_inspect_48 : decode cX5_inspect 48 = .ok (.return_, 1) := by decide +kernel
theorem dX5_takeHidden_0 : decode cX5_takeHidden 0 = .ok (.iconst 0, 1) := by decide +kernel
theorem dX5_takeHidden_1 : decode cX5_takeHidden 1 = .ok (.istore_n 2, 1) := by decide +kernel
theorem dX5_takeHidden_2 : decode cX5_takeHidden 2 = .ok (.iload_n 2, 1) := by decide +kernel
theorem dX5_takeHidden_3 : decode cX5_takeHidden 3 = .ok (.aload_n 0, 1) := by decide +kernel
theorem dX5_takeHidden_4 : decode cX5_takeHidden 4 = .ok (.getfield 28, 3) := by decide +kernel
theorem dX5_takeHidden_7 : decode cX5_takeHidden 7 = .ok (.invokevirtual 85, 3) := by decide +kernel
theorem dX5_takeHidden_10 : decode cX5_takeHidden 10 = .ok (.if_icmp .ge 33, 3) := by decide +kernel
theorem dX5_takeHidden_13 : decode cX5_takeHidden 13 = .ok (.aload_n 0, 1) := by decide +kernel
theorem dX5_takeHidden_14 : decode cX5_takeHidden 14 = .ok (.getfield 28, 3) := by decide +kernel
theorem dX5_takeHidden_17 : decode cX5_takeHidden 17 = .ok (.iload_n 2, 1) := by decide +kernel
theorem dX5_takeHidden_18 : decode cX5_takeHidden 18 = .ok (.invokevirtual 221, 3) := by decide +kernel
theorem dX5_takeHidden_21 : decode cX5_takeHidden 21 = .ok (.checkcast 91, 3) := by decide +kernel
theorem dX5_takeHidden_24 : decode cX5_takeHidden 24 = .ok (.astore_n 3, 1) := by decide +kernel
theorem dX5_takeHidden_25 : decode cX5_takeHidden 25 = .ok (.aload_n 3, 1) := by decide +kernel
theorem dX5_takeHidden_26 : decode cX5_takeHidden 26 = .ok (.aload_n 1, 1) := by decide +kernel
theorem dX5_takeHidden_27 : decode cX5_takeHidden 27 = .ok (.invokevirtual 296, 3) := by decide +kernel
theorem dX5_takeHidden_30 : decode cX5_takeHidden 30 = .ok (.ifCond .eq 7, 3) := by decide +kernel
theorem dX5_takeHidden_33 : decode cX5_takeHidden 33 = .ok (.aload_n 3, 1) := by decide +kernel
theorem dX5_takeHidden_34 : decode cX5_takeHidden 34 = .ok (.invokevirtual 333, 3) := by decide +kernel
theorem dX5_takeHidden_37 : decode cX5_takeHidden 37 = .ok (.iinc 2 1, 3) := by decide +kernel
theorem dX5_takeHidden_40 : decode cX5_takeHidden 40 = .ok (.goto (-38), 3) := by decide +kernel
theorem dX5_takeHidden_43 : decode cX5_takeHidden 43 = .ok (.return_, 1) := by decide +kernel
theorem dX5_pay_0 : decode cX5_pay 0 = .ok (.aload_n 1, 1) := by decide +kernel
theorem dX5_pay_1 : decode cX5_pay 1 = .ok (.iload_n 3, 1) := by decide +kernel
theorem dX5_pay_2 : decode cX5_pay 2 = .ok (.iload 4, 2) := by decide +kernel
theorem dX5_pay_4 : decode cX5_pay 4 = .ok (.iadd, 1) := by decide +kernel
theorem dX5_pay_5 : decode cX5_pay 5 = .ok (.invokevirtual 336, 3) := by decide +kernel
theorem dX5_pay_8 : decode cX5_pay 8 = .ok (.aload_n 2, 1) := by decide +kernel
theorem dX5_pay_9 : decode cX5_pay 9 = .ok (.dup, 1) := by decide +kernel
theorem dX5_pay_10 : decode cX5_pay 10 = .ok (.getfield 338, 3) := by decide +kernel
theorem dX5_pay_13 : decode cX5_pay 13 = .ok (.iload_n 3, 1) := by decide +kernel
theorem dX5_pay_14 : decode cX5_pay 14 = .ok (.iload 4, 2) := by decide +kernel
theorem dX5_pay_16 : decode cX5_pay 16 = .ok (.iadd, 1) := by decide +kernel
theorem dX5_pay_17 : decode cX5_pay 17 = .ok (.iadd, 1) := by decide +kernel
theorem dX5_pay_18 : decode cX5_pay 18 = .ok (.putfield 338, 3) := by decide +kernel
theorem dX5_pay_21 : decode cX5_pay 21 = .ok (.aload_n 0, 1) := by decide +kernel
theorem dX5_pay_22 : decode cX5_pay 22 = .ok (.dup, 1) := by decide +kernel
theorem dX5_pay_23 : decode cX5_pay 23 = .ok (.getfield 341, 3) := by decide +kernel
theorem dX5_pay_26 : decode cX5_pay 26 = .ok (.iload_n 3, 1) := by decide +kernel
theorem dX5_pay_27 : decode cX5_pay 27 = .ok (.iadd, 1) := by decide +kernel
theorem dX5_pay_28 : decode cX5_pay 28 = .ok (.putfield 341, 3) := by decide +kernel
theorem dX5_pay_31 : decode cX5_pay 31 = .ok (.aload_n 0, 1) := by decide +kernel
theorem dX5_pay_32 : decode cX5_pay 32 = .ok (.dup, 1) := by decide +kernel
theorem dX5_pay_33 : decode cX5_pay 33 = .ok (.getfield 344, 3) := by decide +kernel
theorem dX5_pay_36 : decode cX5_pay 36 = .ok (.iload 4, 2) := by decide +kernel
theorem dX5_pay_38 : decode cX5_pay 38 = .ok (.iadd, 1) := by decide +kernel
theorem dX5_pay_39 : decode cX5_pay 39 = .ok (.putfield 344, 3) := by decide +kernel
theorem dX5_pay_42 : decode cX5_pay 42 = .ok (.return_, 1) := by decide +kernel
theorem dX5_townsThatKnow_0 : decode cX5_townsThatKnow 0 = .ok (.iconst 0, 1) := by decide +kernel
theorem dX5_townsThatKnow_1 : decode cX5_townsThatKnow 1 = .ok (.istore_n 2, 1) := by decide +kernel
theorem dX5_townsThatKnow_2 : decode cX5_townsThatKnow 2 = .ok (.iconst 0, 1) := by decide +kernel
theorem dX5_townsThatKnow_3 : decode cX5_townsThatKnow 3 = .ok (.istore_n 3, 1) := by decide +kernel
theorem dX5_townsThatKnow_4 : decode cX5_townsThatKnow 4 = .ok (.iload_n 3, 1) := by decide +kernel
theorem dX5_townsThatKnow_5 : decode cX5_townsThatKnow 5 = .ok (.aload_n 0, 1) := by decide +kernel
theorem dX5_townsThatKnow_6 : decode cX5_townsThatKnow 6 = .ok (.getfield 28, 3) := by decide +kernel
theorem dX5_townsThatKnow_9 : decode cX5_townsThatKnow 9 = .ok (.invokevirtual 85, 3) := by decide +kernel
theorem dX5_townsThatKnow_12 : decode cX5_townsThatKnow 12 = .ok (.if_icmp .ge 50, 3) := by decide +kernel
theorem dX5_townsThatKnow_15 : decode cX5_townsThatKnow 15 = .ok (.aload_n 0, 1) := by decide +kernel
theorem dX5_townsThatKnow_16 : decode cX5_townsThatKnow 16 = .ok (.getfield 28, 3) := by decide +kernel
theorem dX5_townsThatKnow_19 : decode cX5_townsThatKnow 19 = .ok (.iload_n 3, 1) := by decide +kernel
theorem dX5_townsThatKnow_20 : decode cX5_townsThatKnow 20 = .ok (.invokevirtual 221, 3) := by decide +kernel
theorem dX5_townsThatKnow_23 : decode cX5_townsThatKnow 23 = .ok (.checkcast 91, 3) := by decide +kernel
theorem dX5_townsThatKnow_26 : decode cX5_townsThatKnow 26 = .ok (.astore 4, 2) := by decide +kernel
theorem dX5_townsThatKnow_28 : decode cX5_townsThatKnow 28 = .ok (.aload 4, 2) := by decide +kernel
theorem dX5_townsThatKnow_30 : decode cX5_townsThatKnow 30 = .ok (.getfield 117, 3) := by decide +kernel
theorem dX5_townsThatKnow_33 : decode cX5_townsThatKnow 33 = .ok (.iload_n 1, 1) := by decide +kernel
theorem dX5_townsThatKnow_34 : decode cX5_townsThatKnow 34 = .ok (.if_icmp .ne 22, 3) := by decide +kernel
theorem dX5_townsThatKnow_37 : decode cX5_townsThatKnow 37 = .ok (.aload 4, 2) := by decide +kernel
theorem dX5_townsThatKnow_39 : decode cX5_townsThatKnow 39 = .ok (.getfield 142, 3) := by decide +kernel
theorem dX5_townsThatKnow_42 : decode cX5_townsThatKnow 42 = .ok (.iconst (-1), 1) := by decide +kernel
theorem dX5_townsThatKnow_43 : decode cX5_townsThatKnow 43 = .ok (.if_icmp .eq 13, 3) := by decide +kernel
theorem dX5_townsThatKnow_46 : decode cX5_townsThatKnow 46 = .ok (.iload_n 2, 1) := by decide +kernel
theorem dX5_townsThatKnow_47 : decode cX5_townsThatKnow 47 = .ok (.iconst 1, 1) := by decide +kernel
theorem dX5_townsThatKnow_48 : decode cX5_townsThatKnow 48 = .ok (.aload 4, 2) := by decide +kernel
theorem dX5_townsThatKnow_50 : decode cX5_townsThatKnow 50 = .ok (.getfield 142, 3) := by decide +kernel
theorem dX5_townsThatKnow_53 : decode cX5_townsThatKnow 53 = .ok (.ishl, 1) := by decide +kernel
theorem dX5_townsThatKnow_54 : decode cX5_townsThatKnow 54 = .ok (.ior, 1) := by decide +kernel
theorem dX5_townsThatKnow_55 : decode cX5_townsThatKnow 55 = .ok (.istore_n 2, 1) := by decide +kernel
theorem dX5_townsThatKnow_56 : decode cX5_townsThatKnow 56 = .ok (.iinc 3 1, 3) := by decide +kernel
theorem dX5_townsThatKnow_59 : decode cX5_townsThatKnow 59 = .ok (.goto (-55), 3) := by decide +kernel
theorem dX5_townsThatKnow_62 : decode cX5_townsThatKnow 62 = .ok (.iload_n 2, 1) := by decide +kernel
theorem dX5_townsThatKnow_63 : decode cX5_townsThatKnow 63 = .ok (.invokestatic 347, 3) := by decide +kernel
theorem dX5_townsThatKnow_66 : decode cX5_townsThatKnow 66 = .ok (.ireturn, 1) := by decide +kernel
theorem dX5_greatestDepthInTowns_0 : decode cX5_greatestDepthInTowns 0 = .ok (.iconst (-1), 1) := by decide +kernel
theorem dX5_greatestDepthInTowns_1 : decode cX5_greatestDepthInTowns 1 = .ok (.istore_n 2, 1) := by decide +kernel
theorem dX5_greatestDepthInTowns_2 : decode cX5_greatestDepthInTowns 2 = .ok (.iconst 0, 1) := by decide +kernel
theorem dX5_greatestDepthInTowns_3 : decode cX5_greatestDepthInTowns 3 = .ok (.istore_n 3, 1) := by decide +kernel
theorem dX5_greatestDepthInTowns_4 : decode cX5_greatestDepthInTowns 4 = .ok (.iload_n 3, 1) := by decide +kernel
theorem dX5_greatestDepthInTowns_5 : decode cX5_greatestDepthInTowns 5 = .ok (.aload_n 0, 1) := by decide +kernel
theorem dX5_greatestDepthInTowns_6 : decode cX5_greatestDepthInTowns 6 = .ok (.getfield 28, 3) := by decide +kernel
theorem dX5_greatestDepthInTowns_9 : decode cX5_greatestDepthInTowns 9 = .ok (.invokevirtual 85, 3) := by decide +kernel
theorem dX5_greatestDepthInTowns_12 : decode cX5_greatestDepthInTowns 12 = .ok (.if_icmp .ge 50, 3) := by decide +kernel
theorem dX5_greatestDepthInTowns_15 : decode cX5_greatestDepthInTowns 15 = .ok (.aload_n 0, 1) := by decide +kernel
theorem dX5_greatestDepthInTowns_16 : decode cX5_greatestDepthInTowns 16 = .ok (.getfield 28, 3) := by decide +kernel
theorem dX5_greatestDepthInTowns_19 : decode cX5_greatestDepthInTowns 19 = .ok (.iload_n 3, 1) := by decide +kernel
theorem dX5_greatestDepthInTowns_20 : decode cX5_greatestDepthInTowns 20 = .ok (.invokevirtual 221, 3) := by decide +kernel
theorem dX5_greatestDepthInTowns_23 : decode cX5_greatestDepthInTowns 23 = .ok (.checkcast 91, 3) := by decide +kernel
theorem dX5_greatestDepthInTowns_26 : decode cX5_greatestDepthInTowns 26 = .ok (.astore 4, 2) := by decide +kernel
theorem dX5_greatestDepthInTowns_28 : decode cX5_greatestDepthInTowns 28 = .ok (.aload 4, 2) := by decide +kernel
theorem dX5_greatestDepthInTowns_30 : decode cX5_greatestDepthInTowns 30 = .ok (.getfield 117, 3) := by decide +kernel
theorem dX5_greatestDepthInTowns_33 : decode cX5_greatestDepthInTowns 33 = .ok (.iload_n 1, 1) := by decide +kernel
theorem dX5_greatestDepthInTowns_34 : decode cX5_greatestDepthInTowns 34 = .ok (.if_icmp .ne 22, 3) := by decide +kernel
theorem dX5_greatestDepthInTowns_37 : decode cX5_greatestDepthInTowns 37 = .ok (.aload 4, 2) := by decide +kernel
theorem dX5_greatestDepthInTowns_39 : decode cX5_greatestDepthInTowns 39 = .ok (.getfield 142, 3) := by decide +kernel
theorem dX5_greatestDepthInTowns_42 : decode cX5_greatestDepthInTowns 42 = .ok (.iconst (-1), 1) := by decide +kernel
theorem dX5_greatestDepthInTowns_43 : decode cX5_greatestDepthInTowns 43 = .ok (.if_icmp .eq 13, 3) := by decide +kernel
theorem dX5_greatestDepthInTowns_46 : decode cX5_greatestDepthInTowns 46 = .ok (.iload_n 2, 1) := by decide +kernel
theorem dX5_greatestDepthInTowns_47 : decode cX5_greatestDepthInTowns 47 = .ok (.aload 4, 2) := by decide +kernel
theorem dX5_greatestDepthInTowns_49 : decode cX5_greatestDepthInTowns 49 = .ok (.getfield 171, 3) := by decide +kernel
theorem dX5_greatestDepthInTowns_52 : decode cX5_greatestDepthInTowns 52 = .ok (.invokestatic 318, 3) := by decide +kernel
theorem dX5_greatestDepthInTowns_55 : decode cX5_greatestDepthInTowns 55 = .ok (.istore_n 2, 1) := by decide +kernel
theorem dX5_greatestDepthInTowns_56 : decode cX5_greatestDepthInTowns 56 = .ok (.iinc 3 1, 3) := by decide +kernel
theorem dX5_greatestDepthInTowns_59 : decode cX5_greatestDepthInTowns 59 = .ok (.goto (-55), 3) := by decide +kernel
theorem dX5_greatestDepthInTowns_62 : decode cX5_greatestDepthInTowns 62 = .ok (.iload_n 2, 1) := by decide +kernel
theorem dX5_greatestDepthInTowns_63 : decode cX5_greatestDepthInTowns 63 = .ok (.ireturn, 1) := by decide +kernel
theorem dX5_notGoneOf_0 : decode cX5_notGoneOf 0 = .ok (.iconst 0, 1) := by decide +kernel
theorem dX5_notGoneOf_1 : decode cX5_notGoneOf 1 = .ok (.istore_n 2, 1) := by decide +kernel
theorem dX5_notGoneOf_2 : decode cX5_notGoneOf 2 = .ok (.iconst 0, 1) := by decide +kernel
theorem dX5_notGoneOf_3 : decode cX5_notGoneOf 3 = .ok (.istore_n 3, 1) := by decide +kernel
theorem dX5_notGoneOf_4 : decode cX5_notGoneOf 4 = .ok (.iload_n 3, 1) := by decide +kernel
theorem dX5_notGoneOf_5 : decode cX5_notGoneOf 5 = .ok (.aload_n 0, 1) := by decide +kernel
theorem dX5_notGoneOf_6 : decode cX5_notGoneOf 6 = .ok (.getfield 28, 3) := by decide +kernel
theorem dX5_notGoneOf_9 : decode cX5_notGoneOf 9 = .ok (.invokevirtual 85, 3) := by decide +kernel
theorem dX5_notGoneOf_12 : decode cX5_notGoneOf 12 = .ok (.if_icmp .ge 42, 3) := by decide +kernel
theorem dX5_notGoneOf_15 : decode cX5_notGoneOf 15 = .ok (.aload_n 0, 1) := by decide +kernel
theorem dX5_notGoneOf_16 : decode cX5_notGoneOf 16 = .ok (.getfield 28, 3) := by decide +kernel
theorem dX5_notGoneOf_19 : decode cX5_notGoneOf 19 = .ok (.iload_n 3, 1) := by decide +kernel
theorem dX5_notGoneOf_20 : decode cX5_notGoneOf 20 = .ok (.invokevirtual 221, 3) := by decide +kernel
theorem dX5_notGoneOf_23 : decode cX5_notGoneOf 23 = .ok (.checkcast 91, 3) := by decide +kernel
theorem dX5_notGoneOf_26 : decode cX5_notGoneOf 26 = .ok (.astore 4, 2) := by decide +kernel
theorem dX5_notGoneOf_28 : decode cX5_notGoneOf 28 = .ok (.aload 4, 2) := by decide +kernel
theorem dX5_notGoneOf_30 : decode cX5_notGoneOf 30 = .ok (.getfield 117, 3) := by decide +kernel
theorem dX5_notGoneOf_33 : decode cX5_notGoneOf 33 = .ok (.iload_n 1, 1) := by decide +kernel
theorem dX5_notGoneOf_34 : decode cX5_notGoneOf 34 = .ok (.if_icmp .ne 14, 3) := by decide +kernel
theorem dX5_notGoneOf_37 : decode cX5_notGoneOf 37 = .ok (.aload 4, 2) := by decide +kernel
theorem dX5_notGoneOf_39 : decode cX5_notGoneOf 39 = .ok (.invokevirtual 351, 3) := by decide +kernel
theorem dX5_notGoneOf_42 : decode cX5_notGoneOf 42 = .ok (.ifCond .ne 6, 3) := by decide +kernel
theorem dX5_notGoneOf_45 : decode cX5_notGoneOf 45 = .ok (.iinc 2 1, 3) := by decide +kernel
theorem dX5_notGoneOf_48 : decode cX5_notGoneOf 48 = .ok (.iinc 3 1, 3) := by decide +kernel
theorem dX5_notGoneOf_51 : decode cX5_notGoneOf 51 = .ok (.goto (-47), 3) := by decide +kernel
theorem dX5_notGoneOf_54 : decode cX5_notGoneOf 54 = .ok (.iload_n 2, 1) := by decide +kernel
theorem dX5_notGoneOf_55 : decode cX5_notGoneOf 55 = .ok (.ireturn, 1) := by decide +kernel
theorem dX5_figureOf_0 : decode cX5_figureOf 0 = .ok (.iload_n 2, 1) := by decide +kernel
theorem dX5_figureOf_1 : decode cX5_figureOf 1 = .ok (.tableswitch 62 0 4 #[35, 40, 45, 50, 56], 35) := by decide +kernel
theorem dX5_figureOf_36 : decode cX5_figureOf 36 = .ok (.aload_n 1, 1) := by decide +kernel
theorem dX5_figureOf_37 : decode cX5_figureOf 37 = .ok (.getfield 145, 3) := by decide +kernel
theorem dX5_figureOf_40 : decode cX5_figureOf 40 = .ok (.ireturn, 1) := by decide +kernel
theorem dX5_figureOf_41 : decode cX5_figureOf 41 = .ok (.aload_n 1, 1) := by decide +kernel
theorem dX5_figureOf_42 : decode cX5_figureOf 42 = .ok (.getfield 354, 3) := by decide +kernel
theorem dX5_figureOf_45 : decode cX5_figureOf 45 = .ok (.ireturn, 1) := by decide +kernel
theorem dX5_figureOf_46 : decode cX5_figureOf 46 = .ok (.aload_n 1, 1) := by decide +kernel
theorem dX5_figureOf_47 : decode cX5_figureOf 47 = .ok (.getfield 188, 3) := by decide +kernel
theorem dX5_figureOf_50 : decode cX5_figureOf 50 = .ok (.ireturn, 1) := by decide +kernel
theorem dX5_figureOf_51 : decode cX5_figureOf 51 = .ok (.aload_n 0, 1) := by decide +kernel
theorem dX5_figureOf_52 : decode cX5_figureOf 52 = .ok (.aload_n 1, 1) := by decide +kernel
theorem dX5_figureOf_53 : decode cX5_figureOf 53 = .ok (.invokevirtual 148, 3) := by decide +kernel
theorem dX5_figureOf_56 : decode cX5_figureOf 56 = .ok (.ireturn, 1) := by decide +kernel
theorem dX5_figureOf_57 : decode cX5_figureOf 57 = .ok (.aload_n 0, 1) := by decide +kernel
theorem dX5_figureOf_58 : decode cX5_figureOf 58 = .ok (.aload_n 1, 1) := by decide +kernel
theorem dX5_figureOf_59 : decode cX5_figureOf 59 = .ok (.invokevirtual 168, 3) := by decide +kernel
theorem dX5_figureOf_62 : decode cX5_figureOf 62 = .ok (.ireturn, 1) := by decide +kernel
theorem dX5_figureOf_63 : decode cX5_figureOf 63 = .ok (.aload_n 1, 1) := by decide +kernel
theorem dX5_figureOf_64 : decode cX5_figureOf 64 = .ok (.getfield 357, 3) := by decide +kernel
theorem dX5_figureOf_67 : decode cX5_figureOf 67 = .ok (.ireturn, 1) := by decide +kernel
theorem dX5_figureOfLand_0 : decode cX5_figureOfLand 0 = .ok (.iload_n 1, 1) := by decide +kernel
theorem dX5_figureOfLand_1 : decode cX5_figureOfLand 1 = .ok (.tableswitch 111 0 9 #[55, 60, 65, 70, 78, 83, 91, 96, 101, 106], 55) := by decide +kernel
theorem dX5_figureOfLand_56 : decode cX5_figureOfLand 56 = .ok (.aload_n 0, 1) := by decide +kernel
theorem dX5_figureOfLand_57 : decode cX5_figureOfLand 57 = .ok (.getfield 218, 3) := by decide +kernel
theorem dX5_figureOfLand_60 : decode cX5_figureOfLand 60 = .ok (.ireturn, 1) := by decide +kernel
theorem dX5_figureOfLand_61 : decode cX5_figureOfLand 61 = .ok (.aload_n 0, 1) := by decide +kernel
theorem dX5_figureOfLand_62 : decode cX5_figureOfLand 62 = .ok (.getfield 35, 3) := by decide +kernel
theorem dX5_figureOfLand_65 : decode cX5_figureOfLand 65 = .ok (.ireturn, 1) := by decide +kernel
theorem dX5_figureOfLand_66 : decode cX5_figureOfLand 66 = .ok (.aload_n 0, 1) := by decide +kernel
theorem dX5_figureOfLand_67 : decode cX5_figureOfLand 67 = .ok (.getfield 74, 3) := by decide +kernel
theorem dX5_figureOfLand_70 : decode cX5_figureOfLand 70 = .ok (.ireturn, 1) := by decide +kernel
theorem dX5_figureOfLand_71 : decode cX5_figureOfLand 71 = .ok (.aload_n 0, 1) := by decide +kernel
theorem dX5_figureOfLand_72 : decode cX5_figureOfLand 72 = .ok (.getfield 28, 3) := by decide +kernel
theorem dX5_figureOfLand_75 : decode cX5_figureOfLand 75 = .ok (.invokevirtual 85, 3) := by decide +kernel
theorem dX5_figureOfLand_78 : decode cX5_figureOfLand 78 = .ok (.ireturn, 1) := by decide +kernel
theorem dX5_figureOfLand_79 : decode cX5_figureOfLand 79 = .ok (.aload_n 0, 1) := by decide +kernel
theorem dX5_figureOfLand_80 : decode cX5_figureOfLand 80 = .ok (.invokevirtual 358, 3) := by decide +kernel
theorem dX5_figureOfLand_83 : decode cX5_figureOfLand 83 = .ok (.ireturn, 1) := by decide +kernel
theorem dX5_figureOfLand_84 : decode cX5_figureOfLand 84 = .ok (.aload_n 0, 1) := by decide +kernel
theorem dX5_figureOfLand_85 : decode cX5_figureOfLand 85 = .ok (.getfield 32, 3) := by decide +kernel
theorem dX5_figureOfLand_88 : decode cX5_figureOfLand 88 = .ok (.invokevirtual 85, 3) := by decide +kernel
theorem dX5_figureOfLand_91 : decode cX5_figureOfLand 91 = .ok (.ireturn, 1) := by decide +kernel
theorem dX5_figureOfLand_92 : decode cX5_figureOfLand 92 = .ok (.aload_n 0, 1) := by decide +kernel
theorem dX5_figureOfLand_93 : decode cX5_figureOfLand 93 = .ok (.invokevirtual 361, 3) := by decide +kernel
theorem dX5_figureOfLand_96 : decode cX5_figureOfLand 96 = .ok (.ireturn, 1) := by decide +kernel
theorem dX5_figureOfLand_97 : decode cX5_figureOfLand 97 = .ok (.aload_n 0, 1) := by decide +kernel
theorem dX5_figureOfLand_98 : decode cX5_figureOfLand 98 = .ok (.getfield 321, 3) := by decide +kernel
theorem dX5_figureOfLand_101 : decode cX5_figureOfLand 101 = .ok (.ireturn, 1) := by decide +kernel
theorem dX5_figureOfLand_102 : decode cX5_figureOfLand 102 = .ok (.aload_n 0, 1) := by decide +kernel
theorem dX5_figureOfLand_103 : decode cX5_figureOfLand 103 = .ok (.getfield 341, 3) := by decide +kernel
theorem dX5_figureOfLand_106 : decode cX5_figureOfLand 106 = .ok (.ireturn, 1) := by decide +kernel
theorem dX5_figureOfLand_107 : decode cX5_figureOfLand 107 = .ok (.aload_n 0, 1) := by decide +kernel
theorem dX5_figureOfLand_108 : decode cX5_figureOfLand 108 = .ok (.getfield 344, 3) := by decide +kernel
theorem dX5_figureOfLand_111 : decode cX5_figureOfLand 111 = .ok (.ireturn, 1) := by decide +kernel
theorem dX5_figureOfLand_112 : decode cX5_figureOfLand 112 = .ok (.aload_n 0, 1) := by decide +kernel
theorem dX5_figureOfLand_113 : decode cX5_figureOfLand 113 = .ok (.getfield 327, 3) := by decide +kernel
theorem dX5_figureOfLand_116 : decode cX5_figureOfLand 116 = .ok (.ireturn, 1) := by decide +kernel
theorem dX5_goneRumours_0 : decode cX5_goneRumours 0 = .ok (.iconst 0, 1) := by decide +kernel
theorem dX5_goneRumours_1 : decode cX5_goneRumours 1 = .ok (.istore_n 1, 1) := by decide +kernel
theorem dX5_goneRumours_2 : decode cX5_goneRumours 2 = .ok (.iconst 0, 1) := by decide +kernel
theorem dX5_goneRumours_3 : decode cX5_goneRumours 3 = .ok (.istore_n 2, 1) := by decide +kernel
theorem dX5_goneRumours_4 : decode cX5_goneRumours 4 = .ok (.iload_n 2, 1) := by decide +kernel
theorem dX5_goneRumours_5 : decode cX5_goneRumours 5 = .ok (.aload_n 0, 1) := by decide +kernel
theorem dX5_goneRumours_6 : decode cX5_goneRumours 6 = .ok (.getfield 28, 3) := by decide +kernel
theorem dX5_goneRumours_9 : decode cX5_goneRumours 9 = .ok (.invokevirtual 85, 3) := by decide +kernel
theorem dX5_goneRumours_12 : decode cX5_goneRumours 12 = .ok (.if_icmp .ge 29, 3) := by decide +kernel
theorem dX5_goneRumours_15 : decode cX5_goneRumours 15 = .ok (.aload_n 0, 1) := by decide +kernel
theorem dX5_goneRumours_16 : decode cX5_goneRumours 16 = .ok (.getfield 28, 3) := by decide +kernel
theorem dX5_goneRumours_19 : decode cX5_goneRumours 19 = .ok (.iload_n 2, 1) := by decide +kernel
theorem dX5_goneRumours_20 : decode cX5_goneRumours 20 = .ok (.invokevirtual 221, 3) := by decide +kernel
theorem dX5_goneRumours_23 : decode cX5_goneRumours 23 = .ok (.checkcast 91, 3) := by decide +kernel
theorem dX5_goneRumours_26 : decode cX5_goneRumours 26 = .ok (.invokevirtual 351, 3) := by decide +kernel
theorem dX5_goneRumours_29 : decode cX5_goneRumours 29 = .ok (.ifCond .eq 6, 3) := by decide +kernel
theorem dX5_goneRumours_32 : decode cX5_goneRumours 32 = .ok (.iinc 1 1, 3) := by decide +kernel
theorem dX5_goneRumours_35 : decode cX5_goneRumours 35 = .ok (.iinc 2 1, 3) := by decide +kernel
theorem dX5_goneRumours_38 : decode cX5_goneRumours 38 = .ok (.goto (-34), 3) := by decide +kernel
theorem dX5_goneRumours_41 : decode cX5_goneRumours 41 = .ok (.iload_n 1, 1) := by decide +kernel
theorem dX5_goneRumours_42 : decode cX5_goneRumours 42 = .ok (.ireturn, 1) := by decide +kernel
theorem dX5_carriersOnTheWay_0 : decode cX5_carriersOnTheWay 0 = .ok (.iconst 0, 1) := by decide +kernel
theorem dX5_carriersOnTheWay_1 : decode cX5_carriersOnTheWay 1 = .ok (.istore_n 1, 1) := by decide +kernel
theorem dX5_carriersOnTheWay_2 : decode cX5_carriersOnTheWay 2 = .ok (.iconst 0, 1) := by decide +kernel
theorem dX5_carriersOnTheWay_3 : decode cX5_carriersOnTheWay 3 = .ok (.istore_n 2, 1) := by decide +kernel
theorem dX5_carriersOnTheWay_4 : decode cX5_carriersOnTheWay 4 = .ok (.iload_n 2, 1) := by decide +kernel
theorem dX5_carriersOnTheWay_5 : decode cX5_carriersOnTheWay 5 = .ok (.aload_n 0, 1) := by decide +kernel
theorem dX5_carriersOnTheWay_6 : decode cX5_carriersOnTheWay 6 = .ok (.getfield 32, 3) := by decide +kernel
theorem dX5_carriersOnTheWay_9 : decode cX5_carriersOnTheWay 9 = .ok (.invokevirtual 85, 3) := by decide +kernel
theorem dX5_carriersOnTheWay_12 : decode cX5_carriersOnTheWay 12 = .ok (.if_icmp .ge 29, 3) := by decide +kernel
theorem dX5_carriersOnTheWay_15 : decode cX5_carriersOnTheWay 15 = .ok (.aload_n 0, 1) := by decide +kernel
theorem dX5_carriersOnTheWay_16 : decode cX5_carriersOnTheWay 16 = .ok (.getfield 32, 3) := by decide +kernel
theorem dX5_carriersOnTheWay_19 : decode cX5_carriersOnTheWay 19 = .ok (.iload_n 2, 1) := by decide +kernel
theorem dX5_carriersOnTheWay_20 : decode cX5_carriersOnTheWay 20 = .ok (.invokevirtual 221, 3) := by decide +kernel
theorem dX5_carriersOnTheWay_23 : decode cX5_carriersOnTheWay 23 = .ok (.checkcast 130, 3) := by decide +kernel
theorem dX5_carriersOnTheWay_26 : decode cX5_carriersOnTheWay 26 = .ok (.invokevirtual 278, 3) := by decide +kernel
theorem dX5_carriersOnTheWay_29 : decode cX5_carriersOnTheWay 29 = .ok (.ifCond .eq 6, 3) := by decide +kernel
theorem dX5_carriersOnTheWay_32 : decode cX5_carriersOnTheWay 32 = .ok (.iinc 1 1, 3) := by decide +kernel
theorem dX5_carriersOnTheWay_35 : decode cX5_carriersOnTheWay 35 = .ok (.iinc 2 1, 3) := by decide +kernel
theorem dX5_carriersOnTheWay_38 : decode cX5_carriersOnTheWay 38 = .ok (.goto (-34), 3) := by decide +kernel
theorem dX5_carriersOnTheWay_41 : decode cX5_carriersOnTheWay 41 = .ok (.iload_n 1, 1) := by decide +kernel
theorem dX5_carriersOnTheWay_42 : decode cX5_carriersOnTheWay 42 = .ok (.ireturn, 1) := by decide +kernel
theorem dX5_digestRoads_0 : decode cX5_digestRoads 0 = .ok (.lload_n 1, 1) := by decide +kernel
theorem dX5_digestRoads_1 : decode cX5_digestRoads 1 = .ok (.lstore_n 3, 1) := by decide +kernel
theorem dX5_digestRoads_2 : decode cX5_digestRoads 2 = .ok (.iconst 0, 1) := by decide +kernel
theorem dX5_digestRoads_3 : decode cX5_digestRoads 3 = .ok (.istore 5, 2) := by decide +kernel
theorem dX5_digestRoads_5 : decode cX5_digestRoads 5 = .ok (.iload 5, 2) := by decide +kernel
theorem dX5_digestRoads_7 : decode cX5_digestRoads 7 = .ok (.aload_n 0, 1) := by decide +kernel
theorem dX5_digestRoads_8 : decode cX5_digestRoads 8 = .ok (.getfield 35, 3) := by decide +kernel
theorem dX5_digestRoads_11 : decode cX5_digestRoads 11 = .ok (.if_icmp .ge 55, 3) := by decide +kernel
theorem dX5_digestRoads_14 : decode cX5_digestRoads 14 = .ok (.iload 5, 2) := by decide +kernel
theorem dX5_digestRoads_16 : decode cX5_digestRoads 16 = .ok (.iconst 1, 1) := by decide +kernel
theorem dX5_digestRoads_17 : decode cX5_digestRoads 17 = .ok (.iadd, 1) := by decide +kernel
theorem dX5_digestRoads_18 : decode cX5_digestRoads 18 = .ok (.istore 6, 2) := by decide +kernel
theorem dX5_digestRoads_20 : decode cX5_digestRoads 20 = .ok (.iload 6, 2) := by decide +kernel
theorem dX5_digestRoads_22 : decode cX5_digestRoads 22 = .ok (.aload_n 0, 1) := by decide +kernel
theorem dX5_digestRoads_23 : decode cX5_digestRoads 23 = .ok (.getfield 35, 3) := by decide +kernel
theorem dX5_digestRoads_26 : decode cX5_digestRoads 26 = .ok (.if_icmp .ge 34, 3) := by decide +kernel
theorem dX5_digestRoads_29 : decode cX5_digestRoads 29 = .ok (.aload_n 0, 1) := by decide +kernel
theorem dX5_digestRoads_30 : decode cX5_digestRoads 30 = .ok (.getfield 10, 3) := by decide +kernel
theorem dX5_digestRoads_33 : decode cX5_digestRoads 33 = .ok (.iload 5, 2) := by decide +kernel
theorem dX5_digestRoads_35 : decode cX5_digestRoads 35 = .ok (.iload 6, 2) := by decide +kernel
theorem dX5_digestRoads_37 : decode cX5_digestRoads 37 = .ok (.invokevirtual 59, 3) := by decide +kernel
theorem dX5_digestRoads_40 : decode cX5_digestRoads 40 = .ok (.astore 7, 2) := by decide +kernel
theorem dX5_digestRoads_42 : decode cX5_digestRoads 42 = .ok (.aload 7, 2) := by decide +kernel
theorem dX5_digestRoads_44 : decode cX5_digestRoads 44 = .ok (.ifnull 10, 3) := by decide +kernel
theorem dX5_digestRoads_47 : decode cX5_digestRoads 47 = .ok (.lload_n 3, 1) := by decide +kernel
theorem dX5_digestRoads_48 : decode cX5_digestRoads 48 = .ok (.aload 7, 2) := by decide +kernel
theorem dX5_digestRoads_50 : decode cX5_digestRoads 50 = .ok (.invokestatic 364, 3) := by decide +kernel
theorem dX5_digestRoads_53 : decode cX5_digestRoads 53 = .ok (.lstore_n 3, 1) := by decide +kernel
theorem dX5_digestRoads_54 : decode cX5_digestRoads 54 = .ok (.iinc 6 1, 3) := by decide +kernel
theorem dX5_digestRoads_57 : decode cX5_digestRoads 57 = .ok (.goto (-37), 3) := by decide +kernel
theorem dX5_digestRoads_60 : decode cX5_digestRoads 60 = .ok (.iinc 5 1, 3) := by decide +kernel
theorem dX5_digestRoads_63 : decode cX5_digestRoads 63 = .ok (.goto (-58), 3) := by decide +kernel
theorem dX5_digestRoads_66 : decode cX5_digestRoads 66 = .ok (.lload_n 3, 1) := by decide +kernel
theorem dX5_digestRoads_67 : decode cX5_digestRoads 67 = .ok (.lreturn, 1) := by decide +kernel
theorem dX5_digestRoad_0 : decode cX5_digestRoad 0 = .ok (.lload_n 0, 1) := by decide +kernel
theorem dX5_digestRoad_1 : decode cX5_digestRoad 1 = .ok (.lstore_n 3, 1) := by decide +kernel
theorem dX5_digestRoad_2 : decode cX5_digestRoad 2 = .ok (.iconst 0, 1) := by decide +kernel
theorem dX5_digestRoad_3 : decode cX5_digestRoad 3 = .ok (.istore 5, 2) := by decide +kernel
theorem dX5_digestRoad_5 : decode cX5_digestRoad 5 = .ok (.iload 5, 2) := by decide +kernel
theorem dX5_digestRoad_7 : decode cX5_digestRoad 7 = .ok (.bipush 6, 2) := by decide +kernel
theorem dX5_digestRoad_9 : decode cX5_digestRoad 9 = .ok (.if_icmp .gt 23, 3) := by decide +kernel
theorem dX5_digestRoad_12 : decode cX5_digestRoad 12 = .ok (.lload_n 3, 1) := by decide +kernel
theorem dX5_digestRoad_13 : decode cX5_digestRoad 13 = .ok (.ldc2_w 253, 3) := by decide +kernel
theorem dX5_digestRoad_16 : decode cX5_digestRoad 16 = .ok (.lmul, 1) := by decide +kernel
theorem dX5_digestRoad_17 : decode cX5_digestRoad 17 = .ok (.aload_n 2, 1) := by decide +kernel
theorem dX5_digestRoad_18 : decode cX5_digestRoad 18 = .ok (.iload 5, 2) := by decide +kernel
theorem dX5_digestRoad_20 : decode cX5_digestRoad 20 = .ok (.invokevirtual 81, 3) := by decide +kernel
theorem dX5_digestRoad_23 : decode cX5_digestRoad 23 = .ok (.i2l, 1) := by decide +kernel
theorem dX5_digestRoad_24 : decode cX5_digestRoad 24 = .ok (.ladd, 1) := by decide +kernel
theorem dX5_digestRoad_25 : decode cX5_digestRoad 25 = .ok (.lstore_n 3, 1) := by decide +kernel
theorem dX5_digestRoad_26 : decode cX5_digestRoad 26 = .ok (.iinc 5 1, 3) := by decide +kernel
theorem dX5_digestRoad_29 : decode cX5_digestRoad 29 = .ok (.goto (-24), 3) := by decide +kernel
theorem dX5_digestRoad_32 : decode cX5_digestRoad 32 = .ok (.lload_n 3, 1) := by decide +kernel
theorem dX5_digestRoad_33 : decode cX5_digestRoad 33 = .ok (.lreturn, 1) := by decide +kernel
theorem dX5_digestRumours_0 : decode cX5_digestRumours 0 = .ok (.lload_n 1, 1) := by decide +kernel
theorem dX5_digestRumours_1 : decode cX5_digestRumours 1 = .ok (.lstore_n 3, 1) := by decide +kernel
theorem dX5_digestRumours_2 : decode cX5_digestRumours 2 = .ok (.iconst 0, 1) := by decide +kernel
theorem dX5_digestRumours_3 : decode cX5_digestRumours 3 = .ok (.istore 5, 2) := by decide +kernel
theorem dX5_digestRumours_5 : decode cX5_digestRumours 5 = .ok (.iload 5, 2) := by decide +kernel
theorem dX5_digestRumours_7 : decode cX5_digestRumours 7 = .ok (.aload_n 0, 1) := by decide +kernel
theorem dX5_digestRumours_8 : decode cX5_digestRumours 8 = .ok (.getfield 28, 3) := by decide +kernel
theorem dX5_digestRumours_11 : decode cX5_digestRumours 11 = .ok (.invokevirtual 85, 3) := by decide +kernel
theorem dX5_digestRumours_14 : decode cX5_digestRumours 14 = .ok (.if_icmp .ge 54, 3) := by decide +kernel
theorem dX5_digestRumours_17 : decode cX5_digestRumours 17 = .ok (.aload_n 0, 1) := by decide +kernel
theorem dX5_digestRumours_18 : decode cX5_digestRumours 18 = .ok (.getfield 28, 3) := by decide +kernel
theorem dX5_digestRumours_21 : decode cX5_digestRumours 21 = .ok (.iload 5, 2) := by decide +kernel
theorem dX5_digestRumours_23 : decode cX5_digestRumours 23 = .ok (.invokevirtual 221, 3) := by decide +kernel
theorem dX5_digestRumours_26 : decode cX5_digestRumours 26 = .ok (.checkcast 91, 3) := by decide +kernel
theorem dX5_digestRumours_29 : decode cX5_digestRumours 29 = .ok (.astore 6, 2) := by decide +kernel
theorem dX5_digestRumours_31 : decode cX5_digestRumours 31 = .ok (.iconst 0, 1) := by decide +kernel
theorem dX5_digestRumours_32 : decode cX5_digestRumours 32 = .ok (.istore 7, 2) := by decide +kernel
theorem dX5_digestRumours_34 : decode cX5_digestRumours 34 = .ok (.iload 7, 2) := by decide +kernel
theorem dX5_digestRumours_36 : decode cX5_digestRumours 36 = .ok (.bipush 6, 2) := by decide +kernel
theorem dX5_digestRumours_38 : decode cX5_digestRumours 38 = .ok (.if_icmp .gt 24, 3) := by decide +kernel
theorem dX5_digestRumours_41 : decode cX5_digestRumours 41 = .ok (.lload_n 3, 1) := by decide +kernel
theorem dX5_digestRumours_42 : decode cX5_digestRumours 42 = .ok (.ldc2_w 253, 3) := by decide +kernel
theorem dX5_digestRumours_45 : decode cX5_digestRumours 45 = .ok (.lmul, 1) := by decide +kernel
theorem dX5_digestRumours_46 : decode cX5_digestRumours 46 = .ok (.aload 6, 2) := by decide +kernel
theorem dX5_digestRumours_48 : decode cX5_digestRumours 48 = .ok (.iload 7, 2) := by decide +kernel
theorem dX5_digestRumours_50 : decode cX5_digestRumours 50 = .ok (.invokevirtual 104, 3) := by decide +kernel
theorem dX5_digestRumours_53 : decode cX5_digestRumours 53 = .ok (.i2l, 1) := by decide +kernel
theorem dX5_digestRumours_54 : decode cX5_digestRumours 54 = .ok (.ladd, 1) := by decide +kernel
theorem dX5_digestRumours_55 : decode cX5_digestRumours 55 = .ok (.lstore_n 3, 1) := by decide +kernel
theorem dX5_digestRumours_56 : decode cX5_digestRumours 56 = .ok (.iinc 7 1, 3) := by decide +kernel
theorem dX5_digestRumours_59 : decode cX5_digestRumours 59 = .ok (.goto (-25), 3) := by decide +kernel
theorem dX5_digestRumours_62 : decode cX5_digestRumours 62 = .ok (.iinc 5 1, 3) := by decide +kernel
theorem dX5_digestRumours_65 : decode cX5_digestRumours 65 = .ok (.goto (-60), 3) := by decide +kernel
theorem dX5_digestRumours_68 : decode cX5_digestRumours 68 = .ok (.lload_n 3, 1) := by decide +kernel
theorem dX5_digestRumours_69 : decode cX5_digestRumours 69 = .ok (.lreturn, 1) := by decide +kernel
theorem dX5_digestCarriers_0 : decode cX5_digestCarriers 0 = .ok (.lload_n 1, 1) := by decide +kernel
theorem dX5_digestCarriers_1 : decode cX5_digestCarriers 1 = .ok (.lstore_n 3, 1) := by decide +kernel
theorem dX5_digestCarriers_2 : decode cX5_digestCarriers 2 = .ok (.iconst 0, 1) := by decide +kernel
theorem dX5_digestCarriers_3 : decode cX5_digestCarriers 3 = .ok (.istore 5, 2) := by decide +kernel
theorem dX5_digestCarriers_5 : decode cX5_digestCarriers 5 = .ok (.iload 5, 2) := by decide +kernel
theorem dX5_digestCarriers_7 : decode cX5_digestCarriers 7 = .ok (.aload_n 0, 1) := by decide +kernel
theorem dX5_digestCarriers_8 : decode cX5_digestCarriers 8 = .ok (.getfield 32, 3) := by decide +kernel
theorem dX5_digestCarriers_11 : decode cX5_digestCarriers 11 = .ok (.invokevirtual 85, 3) := by decide +kernel
theorem dX5_digestCarriers_14 : decode cX5_digestCarriers 14 = .ok (.if_icmp .ge 54, 3) := by decide +kernel
theorem dX5_digestCarriers_17 : decode cX5_digestCarriers 17 = .ok (.aload_n 0, 1) := by decide +kernel
theorem dX5_digestCarriers_18 : decode cX5_digestCarriers 18 = .ok (.getfield 32, 3) := by decide +kernel
theorem dX5_digestCarriers_21 : decode cX5_digestCarriers 21 = .ok (.iload 5, 2) := by decide +kernel
theorem dX5_digestCarriers_23 : decode cX5_digestCarriers 23 = .ok (.invokevirtual 221, 3) := by decide +kernel
theorem dX5_digestCarriers_26 : decode cX5_digestCarriers 26 = .ok (.checkcast 130, 3) := by decide +kernel
theorem dX5_digestCarriers_29 : decode cX5_digestCarriers 29 = .ok (.astore 6, 2) := by decide +kernel
theorem dX5_digestCarriers_31 : decode cX5_digestCarriers 31 = .ok (.iconst 0, 1) := by decide +kernel
theorem dX5_digestCarriers_32 : decode cX5_digestCarriers 32 = .ok (.istore 7, 2) := by decide +kernel
theorem dX5_digestCarriers_34 : decode cX5_digestCarriers 34 = .ok (.iload 7, 2) := by decide +kernel
theorem dX5_digestCarriers_36 : decode cX5_digestCarriers 36 = .ok (.iconst 5, 1) := by decide +kernel
theorem dX5_digestCarriers_37 : decode cX5_digestCarriers 37 = .ok (.if_icmp .gt 25, 3) := by decide +kernel
theorem dX5_digestCarriers_40 : decode cX5_digestCarriers 40 = .ok (.lload_n 3, 1) := by decide +kernel
theorem dX5_digestCarriers_41 : decode cX5_digestCarriers 41 = .ok (.ldc2_w 253, 3) := by decide +kernel
theorem dX5_digestCarriers_44 : decode cX5_digestCarriers 44 = .ok (.lmul, 1) := by decide +kernel
theorem dX5_digestCarriers_45 : decode cX5_digestCarriers 45 = .ok (.aload_n 0, 1) := by decide +kernel
theorem dX5_digestCarriers_46 : decode cX5_digestCarriers 46 = .ok (.aload 6, 2) := by decide +kernel
theorem dX5_digestCarriers_48 : decode cX5_digestCarriers 48 = .ok (.iload 7, 2) := by decide +kernel
theorem dX5_digestCarriers_50 : decode cX5_digestCarriers 50 = .ok (.invokevirtual 214, 3) := by decide +kernel
theorem dX5_digestCarriers_53 : decode cX5_digestCarriers 53 = .ok (.i2l, 1) := by decide +kernel
theorem dX5_digestCarriers_54 : decode cX5_digestCarriers 54 = .ok (.ladd, 1) := by decide +kernel
theorem dX5_digestCarriers_55 : decode cX5_digestCarriers 55 = .ok (.lstore_n 3, 1) := by decide +kernel
theorem dX5_digestCarriers_56 : decode cX5_digestCarriers 56 = .ok (.iinc 7 1, 3) := by decide +kernel
theorem dX5_digestCarriers_59 : decode cX5_digestCarriers 59 = .ok (.goto (-25), 3) := by decide +kernel
theorem dX5_digestCarriers_62 : decode cX5_digestCarriers 62 = .ok (.iinc 5 1, 3) := by decide +kernel
theorem dX5_digestCarriers_65 : decode cX5_digestCarriers 65 = .ok (.goto (-60), 3) := by decide +kernel
theorem dX5_digestCarriers_68 : decode cX5_digestCarriers 68 = .ok (.lload_n 3, 1) := by decide +kernel
theorem dX5_digestCarriers_69 : decode cX5_digestCarriers 69 = .ok (.lreturn, 1) := by decide +kernel
theorem dX6_init_0 : decode cX6_init 0 = .ok (.aload_n 0, 1) := by decide +kernel
theorem dX6_init_1 : decode cX6_init 1 = .ok (.invokespecial 1, 3) := by decide +kernel
theorem dX6_init_4 : decode cX6_init 4 = .ok (.aload_n 0, 1) := by decide +kernel
theorem dX6_init_5 : decode cX6_init 5 = .ok (.sipush 700, 3) := by decide +kernel
theorem dX6_init_8 : decode cX6_init 8 = .ok (.newarray .int, 2) := by decide +kernel
theorem dX6_init_10 : decode cX6_init 10 = .ok (.putfield 9, 3) := by decide +kernel
theorem dX6_init_13 : decode cX6_init 13 = .ok (.aload_n 0, 1) := by decide +kernel
theorem dX6_init_14 : decode cX6_init 14 = .ok (.sipush 420, 3) := by decide +kernel
theorem dX6_init_17 : decode cX6_init 17 = .ok (.newarray .int, 2) := by decide +kernel
theorem dX6_init_19 : decode cX6_init 19 = .ok (.putfield 13, 3) := by decide +kernel
theorem dX6_init_22 : decode cX6_init 22 = .ok (.aload_n 0, 1) := by decide +kernel
theorem dX6_init_23 : decode cX6_init 23 = .ok (.bipush 32, 2) := by decide +kernel
theorem dX6_init_25 : decode cX6_init 25 = .ok (.newarray .int, 2) := by decide +kernel
theorem dX6_init_27 : decode cX6_init 27 = .ok (.putfield 16, 3) := by decide +kernel
theorem dX6_init_30 : decode cX6_init 30 = .ok (.aload_n 0, 1) := by decide +kernel
theorem dX6_init_31 : decode cX6_init 31 = .ok (.bipush 60, 2) := by decide +kernel
theorem dX6_init_33 : decode cX6_init 33 = .ok (.newarray .long, 2) := by decide +kernel
theorem dX6_init_35 : decode cX6_init 35 = .ok (.putfield 19, 3) := by decide +kernel
theorem dX6_init_38 : decode cX6_init 38 = .ok (.return_, 1) := by decide +kernel
theorem dX6_thrown_0 : decode cX6_thrown 0 = .ok (.aload_n 0, 1) := by decide +kernel
theorem dX6_thrown_1 : decode cX6_thrown 1 = .ok (.getfield 23, 3) := by decide +kernel
theorem dX6_thrown_4 : decode cX6_thrown 4 = .ok (.ireturn, 1) := by decide +kernel
theorem dX6_fail_0 : decode cX6_fail 0 = .ok (.aload_n 0, 1) := by decide +kernel
theorem dX6_fail_1 : decode cX6_fail 1 = .ok (.iload_n 1, 1) := by decide +kernel
theorem dX6_fail_2 : decode cX6_fail 2 = .ok (.putfield 23, 3) := by decide +kernel
theorem dX6_fail_5 : decode cX6_fail 5 = .ok (.iconst 0, 1) := by decide +kernel
theorem dX6_fail_6 : decode cX6_fail 6 = .ok (.ireturn, 1) := by decide +kernel
theorem dX6_isIn_0 : decode cX6_isIn 0 = .ok (.iload_n 0, 1) := by decide +kernel
theorem dX6_isIn_1 : decode cX6_isIn 1 = .ok (.iload_n 1, 1) := by decide +kernel
theorem dX6_isIn_2 : decode cX6_isIn 2 = .ok (.if_icmp .lt 12, 3) := by decide +kernel
theorem dX6_isIn_5 : decode cX6_isIn 5 = .ok (.iload_n 0, 1) := by decide +kernel
theorem dX6_isIn_6 : decode cX6_isIn 6 = .ok (.iload_n 2, 1) := by decide +kernel
theorem dX6_isIn_7 : decode cX6_isIn 7 = .ok (.if_icmp .gt 7, 3) := by decide +kernel
theorem dX6_isIn_10 : decode cX6_isIn 10 = .ok (.iconst 1, 1) := by decide +kernel
theorem dX6_isIn_11 : decode cX6_isIn 11 = .ok (.goto 4, 3) := by decide +kernel
theorem dX6_isIn_14 : decode cX6_isIn 14 = .ok (.iconst 0, 1) := by decide +kernel
theorem dX6_isIn_15 : decode cX6_isIn 15 = .ok (.ireturn, 1) := by decide +kernel
theorem dX6_isTown_0 : decode cX6_isTown 0 = .ok (.iload_n 1, 1) := by decide +kernel
theorem dX6_isTown_1 : decode cX6_isTown 1 = .ok (.iconst 0, 1) := by decide +kernel
theorem dX6_isTown_2 : decode cX6_isTown 2 = .ok (.aload_n 0, 1) := by decide +kernel
theorem dX6_isTown_3 : decode cX6_isTown 3 = .ok (.getfield 27, 3) := by decide +kernel
theorem dX6_isTown_6 : decode cX6_isTown 6 = .ok (.iconst 1, 1) := by decide +kernel
theorem dX6_isTown_7 : decode cX6_isTown 7 = .ok (.isub, 1) := by decide +kernel
theorem dX6_isTown_8 : decode cX6_isTown 8 = .ok (.invokestatic 30, 3) := by decide +kernel
theorem dX6_isTown_11 : decode cX6_isTown 11 = .ok (.ireturn, 1) := by decide +kernel
theorem dX6_isRumour_0 : decode cX6_isRumour 0 = .ok (.iload_n 1, 1) := by decide +kernel
theorem dX6_isRumour_1 : decode cX6_isRumour 1 = .ok (.iconst 0, 1) := by decide +kernel
theorem dX6_isRumour_2 : decode cX6_isRumour 2 = .ok (.aload_n 0, 1) := by decide +kernel
theorem dX6_isRumour_3 : decode cX6_isRumour 3 = .ok (.getfield 34, 3) := by decide +kernel
theorem dX6_isRumour_6 : decode cX6_isRumour 6 = .ok (.iconst 1, 1) := by decide +kernel
theorem dX6_isRumour_7 : decode cX6_isRumour 7 = .ok (.isub, 1) := by decide +kernel
theorem dX6_isRumour_8 : decode cX6_isRumour 8 = .ok (.invokestatic 30, 3) := by decide +kernel
theorem dX6_isRumour_11 : decode cX6_isRumour 11 = .ok (.ireturn, 1) := by decide +kernel
theorem dX6_isCarrier_0 : decode cX6_isCarrier 0 = .ok (.iload_n 1, 1) := by decide +kernel
theorem dX6_isCarrier_1 : decode cX6_isCarrier 1 = .ok (.iconst 0, 1) := by decide +kernel
theorem dX6_isCarrier_2 : decode cX6_isCarrier 2 = .ok (.aload_n 0, 1) := by decide +kernel
theorem dX6_isCarrier_3 : decode cX6_isCarrier 3 = .ok (.getfield 37, 3) := by decide +kernel
theorem dX6_isCarrier_6 : decode cX6_isCarrier 6 = .ok (.iconst 1, 1) := by decide +kernel
theorem dX6_isCarrier_7 : decode cX6_isCarrier 7 = .ok (.isub, 1) := by decide +kernel
theorem dX6_isCarrier_8 : decode cX6_isCarrier 8 = .ok (.invokestatic 30, 3) := by decide +kernel
theorem dX6_isCarrier_11 : decode cX6_isCarrier 11 = .ok (.ireturn, 1) := by decide +kernel
theorem dX6_get_0 : decode cX6_get 0 = .ok (.aload_n 0, 1) := by decide +kernel
theorem dX6_get_1 : decode cX6_get 1 = .ok (.getfield 13, 3) := by decide +kernel
theorem dX6_get_4 : decode cX6_get 4 = .ok (.bipush 7, 2) := by decide +kernel
theorem dX6_get_6 : decode cX6_get 6 = .ok (.iload_n 1, 1) := by decide +kernel
theorem dX6_get_7 : decode cX6_get 7 = .ok (.imul, 1) := by decide +kernel
theorem dX6_get_8 : decode cX6_get 8 = .ok (.iload_n 2, 1) := by decide +kernel
theorem dX6_get_9 : decode cX6_get 9 = .ok (.iadd, 1) := by decide +kernel
theorem dX6_get_10 : decode cX6_get 10 = .ok (.iaload, 1) := by decide +kernel
theorem dX6_get_11 : decode cX6_get 11 = .ok (.ireturn, 1) := by decide +kernel
theorem dX6_set_0 : decode cX6_set 0 = .ok (.aload_n 0, 1) := by decide +kernel
theorem dX6_set_1 : decode cX6_set 1 = .ok (.getfield 13, 3) := by decide +kernel
theorem dX6_set_4 : decode cX6_set 4 = .ok (.bipush 7, 2) := by decide +kernel
theorem dX6_set_6 : decode cX6_set 6 = .ok (.iload_n 1, 1) := by decide +kernel
theorem dX6_set_7 : decode cX6_set 7 = .ok (.imul, 1) := by decide +kernel
theorem dX6_set_8 : decode cX6_set 8 = .ok (.iload_n 2, 1) := by decide +kernel
theorem dX6_set_9 : decode cX6_set 9 = .ok (.iadd, 1) := by decide +kernel
theorem dX6_set_10 : decode cX6_set 10 = .ok (.iload_n 3, 1) := by decide +kernel
theorem dX6_set_11 : decode cX6_set 11 = .ok (.iastore, 1) := by decide +kernel
theorem dX6_set_12 : decode cX6_set 12 = .ok (.return_, 1) := by decide +kernel
theorem dX6_man_0 : decode cX6_man 0 = .ok (.aload_n 0, 1) := by decide +kernel
theorem dX6_man_1 : decode cX6_man 1 = .ok (.getfield 16, 3) := by decide +kernel
theorem dX6_man_4 : decode cX6_man 4 = .ok (.iconst 4, 1) := by decide +kernel
theorem dX6_man_5 : decode cX6_man 5 = .ok (.iload_n 1, 1) := by decide +kernel
theorem dX6_man_6 : decode cX6_man 6 = .ok (.imul, 1) := by decide +kernel
theorem dX6_man_7 : decode cX6_man 7 = .ok (.iload_n 2, 1) := by decide +kernel
theorem dX6_man_8 : decode cX6_man 8 = .ok (.iadd, 1) := by decide +kernel
theorem dX6_man_9 : decode cX6_man 9 = .ok (.iaload, 1) := by decide +kernel
theorem dX6_man_10 : decode cX6_man 10 = .ok (.ireturn, 1) := by decide +kernel
theorem dX6_setMan_0 : decode cX6_setMan 0 = .ok (.aload_n 0, 1) := by decide +kernel
theorem dX6_setMan_1 : decode cX6_setMan 1 = .ok (.getfield 16, 3) := by decide +kernel
theorem dX6_setMan_4 : decode cX6_setMan 4 = .ok (.iconst 4, 1) := by decide +kernel
theorem dX6_setMan_5 : decode cX6_setMan 5 = .ok (.iload_n 1, 1) := by decide +kernel
theorem dX6_setMan_6 : decode cX6_setMan 6 = .ok (.imul, 1) := by decide +kernel
theorem dX6_setMan_7 : decode cX6_setMan 7 = .ok (.iload_n 2, 1) := by decide +kernel
theorem dX6_setMan_8 : decode cX6_setMan 8 = .ok (.iadd, 1) := by decide +kernel
theorem dX6_setMan_9 : decode cX6_setMan 9 = .ok (.iload_n 3, 1) := by decide +kernel
theorem dX6_setMan_10 : decode cX6_setMan 10 = .ok (.iastore, 1) := by decide +kernel
theorem dX6_setMan_11 : decode cX6_setMan 11 = .ok (.return_, 1) := by decide +kernel
theorem dX6_base_0 : decode cX6_base 0 = .ok (.bipush 7, 2) := by decide +kernel
theorem dX6_base_2 : decode cX6_base 2 = .ok (.bipush 10, 2) := by decide +kernel
theorem dX6_base_4 : decode cX6_base 4 = .ok (.iload_n 0, 1) := by decide +kernel
theorem dX6_base_5 : decode cX6_base 5 = .ok (.iload_n 1, 1) := by decide +kernel
theorem dX6_base_6 : decode cX6_base 6 = .ok (.invokestatic 40, 3) := by decide +kernel
theorem dX6_base_9 : decode cX6_base 9 = .ok (.imul, 1) := by decide +kernel
theorem dX6_base_10 : decode cX6_base 10 = .ok (.iload_n 0, 1) := by decide +kernel
theorem dX6_base_11 : decode cX6_base 11 = .ok (.iload_n 1, 1) := by decide +kernel
theorem dX6_base_12 : decode cX6_base 12 = .ok (.invokestatic 46, 3) := by decide +kernel
theorem dX6_base_15 : decode cX6_base 15 = .ok (.iadd, 1) := by decide +kernel
theorem dX6_base_16 : decode cX6_base 16 = .ok (.imul, 1) := by decide +kernel
theorem dX6_base_17 : decode cX6_base 17 = .ok (.ireturn, 1) := by decide +kernel
theorem dX6_addTown_0 : decode cX6_addTown 0 = .ok (.aload_n 0, 1) := by decide +kernel
theorem dX6_addTown_1 : decode cX6_addTown 1 = .ok (.iconst 0, 1) := by decide +kernel
theorem dX6_addTown_2 : decode cX6_addTown 2 = .ok (.putfield 23, 3) := by decide +kernel
theorem dX6_addTown_5 : decode cX6_addTown 5 = .ok (.aload_n 0, 1) := by decide +kernel
theorem dX6_addTown_6 : decode cX6_addTown 6 = .ok (.getfield 27, 3) := by decide +kernel
theorem dX6_addTown_9 : decode cX6_addTown 9 = .ok (.bipush 10, 2) := by decide +kernel
theorem dX6_addTown_11 : decode cX6_addTown 11 = .ok (.if_icmp .ne 9, 3) := by decide +kernel
theorem dX6_addTown_14 : decode cX6_addTown 14 = .ok (.aload_n 0, 1) := by decide +kernel
theorem dX6_addTown_15 : decode cX6_addTown 15 = .ok (.iconst 1, 1) := by decide +kernel
theorem dX6_addTown_16 : decode cX6_addTown 16 = .ok (.invokevirtual 49, 3) := by decide +kernel
theorem dX6_addTown_19 : decode cX6_addTown 19 = .ok (.ireturn, 1) := by decide +kernel
theorem dX6_addTown_20 : decode cX6_addTown 20 = .ok (.aload_n 0, 1) := by decide +kernel
theorem dX6_addTown_21 : decode cX6_addTown 21 = .ok (.dup, 1) := by decide +kernel
theorem dX6_addTown_22 : decode cX6_addTown 22 = .ok (.getfield 27, 3) := by decide +kernel
theorem dX6_addTown_25 : decode cX6_addTown 25 = .ok (.iconst 1, 1) := by decide +kernel
theorem dX6_addTown_26 : decode cX6_addTown 26 = .ok (.iadd, 1) := by decide +kernel
theorem dX6_addTown_27 : decode cX6_addTown 27 = .ok (.putfield 27, 3) := by decide +kernel
theorem dX6_addTown_30 : decode cX6_addTown 30 = .ok (.aload_n 0, 1) := by decide +kernel
theorem dX6_addTown_31 : decode cX6_addTown 31 = .ok (.getfield 27, 3) := by decide +kernel
theorem dX6_addTown_34 : decode cX6_addTown 34 = .ok (.iconst 1, 1) := by decide +kernel
theorem dX6_addTown_35 : decode cX6_addTown 35 = .ok (.isub, 1) := by decide +kernel
theorem dX6_addTown_36 : decode cX6_addTown 36 = .ok (.ireturn, 1) := by decide +kernel
theorem dX6_build_0 : decode cX6_build 0 = .ok (.aload_n 0, 1) := by decide +kernel
theorem dX6_build_1 : decode cX6_build 1 = .ok (.iconst 0, 1) := by decide +kernel
theorem dX6_build_2 : decode cX6_build 2 = .ok (.putfield 23, 3) := by decide +kernel
theorem dX6_build_5 : decode cX6_build 5 = .ok (.aload_n 0, 1) := by decide +kernel
theorem dX6_build_6 : decode cX6_build 6 = .ok (.iload_n 1, 1) := by decide +kernel
theorem dX6_build_7 : decode cX6_build 7 = .ok (.invokevirtual 53, 3) := by decide +kernel
theorem dX6_build_10 : decode cX6_build 10 = .ok (.ifCond .eq 11, 3) := by decide +kernel
theorem dX6_build_13 : decode cX6_build 13 = .ok (.aload_n 0, 1) := by decide +kernel
theorem dX6_build_14 : decode cX6_build 14 = .ok (.iload_n 2, 1) := by decide +kernel
theorem dX6_build_15 : decode cX6_build 15 = .ok (.invokevirtual 53, 3) := by decide +kernel
theorem dX6_build_18 : decode cX6_build 18 = .ok (.ifCond .ne 9, 3) := by decide +kernel
theorem dX6_build_21 : decode cX6_build 21 = .ok (.aload_n 0, 1) := by decide +kernel
theorem dX6_build_22 : decode cX6_build 22 = .ok (.iconst 1, 1) := by decide +kernel
theorem dX6_build_23 : decode cX6_build 23 = .ok (.invokevirtual 49, 3) := by decide +kernel
theorem dX6_build_26 : decode cX6_build 26 = .ok (.ireturn, 1) := by decide +kernel
theorem dX6_build_27 : decode cX6_build 27 = .ok (.iload_n 1, 1) := by decide +kernel
theorem dX6_build_28 : decode cX6_build 28 = .ok (.iload_n 2, 1) := by decide +kernel
theorem dX6_build_29 : decode cX6_build 29 = .ok (.if_icmp .eq 46, 3) := by decide +kernel
theorem dX6_build_32 : decode cX6_build 32 = .ok (.iload_n 3, 1) := by decide +kernel
theorem dX6_build_33 : decode cX6_build 33 = .ok (.iconst 1, 1) := by decide +kernel
theorem dX6_build_34 : decode cX6_build 34 = .ok (.bipush 9, 2) := by decide +kernel
theorem dX6_build_36 : decode cX6_build 36 = .ok (.invokestatic 30, 3) := by decide +kernel
theorem dX6_build_39 : decode cX6_build 39 = .ok (.ifCond .eq 36, 3) := by decide +kernel
theorem dX6_build_42 : decode cX6_build 42 = .ok (.iload 4, 2) := by decide +kernel
theorem dX6_build_44 : decode cX6_build 44 = .ok (.iconst 0, 1) := by decide +kernel
theorem dX6_build_45 : decode cX6_build 45 = .ok (.bipush 20, 2) := by decide +kernel
theorem dX6_build_47 : decode cX6_build 47 = .ok (.invokestatic 30, 3) := by decide +kernel
theorem dX6_build_50 : decode cX6_build 50 = .ok (.ifCond .eq 25, 3) := by decide +kernel
theorem dX6_build_53 : decode cX6_build 53 = .ok (.iload 5, 2) := by decide +kernel
theorem dX6_build_55 : decode cX6_build 55 = .ok (.iconst 0, 1) := by decide +kernel
theorem dX6_build_56 : decode cX6_build 56 = .ok (.bipush 30, 2) := by decide +kernel
theorem dX6_build_58 : decode cX6_build 58 = .ok (.invokestatic 30, 3) := by decide +kernel
theorem dX6_build_61 : decode cX6_build 61 = .ok (.ifCond .eq 14, 3) := by decide +kernel
theorem dX6_build_64 : decode cX6_build 64 = .ok (.iload 6, 2) := by decide +kernel
theorem dX6_build_66 : decode cX6_build 66 = .ok (.iconst 0, 1) := by decide +kernel
theorem dX6_build_67 : decode cX6_build 67 = .ok (.bipush 9, 2) := by decide +kernel
theorem dX6_build_69 : decode cX6_build 69 = .ok (.invokestatic 30, 3) := by decide +kernel
theorem dX6_build_72 : decode cX6_build 72 = .ok (.ifCond .ne 9, 3) := by decide +kernel
theorem dX6_build_75 : decode cX6_build 75 = .ok (.aload_n 0, 1) := by decide +kernel
theorem dX6_build_76 : decode cX6_build 76 = .ok (.iconst 2, 1) := by decide +kernel
theorem dX6_build_77 : decode cX6_build 77 = .ok (.invokevirtual 49, 3) := by decide +kernel
theorem dX6_build_80 : decode cX6_build 80 = .ok (.ireturn, 1) := by decide +kernel
theorem dX6_build_81 : decode cX6_build 81 = .ok (.aload_n 0, 1) := by decide +kernel
theorem dX6_build_82 : decode cX6_build 82 = .ok (.getfield 9, 3) := by decide +kernel
theorem dX6_build_85 : decode cX6_build 85 = .ok (.iload_n 1, 1) := by decide +kernel
theorem dX6_build_86 : decode cX6_build 86 = .ok (.iload_n 2, 1) := by decide +kernel
theorem dX6_build_87 : decode cX6_build 87 = .ok (.invokestatic 57, 3) := by decide +kernel
theorem dX6_build_90 : decode cX6_build 90 = .ok (.iaload, 1) := by decide +kernel
theorem dX6_build_91 : decode cX6_build 91 = .ok (.iconst 1, 1) := by decide +kernel
theorem dX6_build_92 : decode cX6_build 92 = .ok (.if_icmp .ne 9, 3) := by decide +kernel
theorem dX6_build_95 : decode cX6_build 95 = .ok (.aload_n 0, 1) := by decide +kernel
theorem dX6_build_96 : decode cX6_build 96 = .ok (.iconst 3, 1) := by decide +kernel
theorem dX6_build_97 : decode cX6_build 97 = .ok (.invokevirtual 49, 3) := by decide +kernel
theorem dX6_build_100 : decode cX6_build 100 = .ok (.ireturn, 1) := by decide +kernel
theorem dX6_build_101 : decode cX6_build 101 = .ok (.bipush 7, 2) := by decide +kernel
theorem dX6_build_103 : decode cX6_build 103 = .ok (.newarray .int, 2) := by decide +kernel
theorem dX6_build_105 : decode cX6_build 105 = .ok (.dup, 1) := by decide +kernel
theorem dX6_build_106 : decode cX6_build 106 = .ok (.iconst 0, 1) := by decide +kernel
theorem dX6_build_107 : decode cX6_build 107 = .ok (.iconst 1, 1) := by decide +kernel
theorem dX6_build_108 : decode cX6_build 108 = .ok (.iastore, 1) := by decide +kernel
theorem dX6_build_109 : decode cX6_build 109 = .ok (.dup, 1) := by decide +kernel
theorem dX6_build_110 : decode cX6_build 110 = .ok (.iconst 1, 1) := by decide +kernel
theorem dX6_build_111 : decode cX6_build 111 = .ok (.iload_n 3, 1) := by decide +kernel
theorem dX6_build_112 : decode cX6_build 112 = .ok (.iastore, 1) := by decide +kernel
theorem dX6_build_113 : decode cX6_build 113 = .ok (.dup, 1) := by decide +kernel
theorem dX6_build_114 : decode cX6_build 114 = .ok (.iconst 2, 1) := by decide +kernel
theorem dX6_build_115 : decode cX6_build 115 = .ok (.iload 4, 2) := by decide +kernel
theorem dX6_build_117 : decode cX6_build 117 = .ok (.iastore, 1) := by decide +kernel
theorem dX6_build_118 : decode cX6_build 118 = .ok (.dup, 1) := by decide +kernel
theorem dX6_build_119 : decode cX6_build 119 = .ok (.iconst 3, 1) := by decide +kernel
theorem dX6_build_120 : decode cX6_build 120 = .ok (.iload 5, 2) := by decide +kernel
theorem dX6_build_122 : decode cX6_build 122 = .ok (.iastore, 1) := by decide +kernel
theorem dX6_build_123 : decode cX6_build 123 = .ok (.dup, 1) := by decide +kernel
theorem dX6_build_124 : decode cX6_build 124 = .ok (.iconst 4, 1) := by decide +kernel
theorem dX6_build_125 : decode cX6_build 125 = .ok (.iload 6, 2) := by decide +kernel
theorem dX6_build_127 : decode cX6_build 127 = .ok (.iastore, 1) := by decide +kernel
theorem dX6_build_128 : decode cX6_build 128 = .ok (.dup, 1) := by decide +kernel
theorem dX6_build_129 : decode cX6_build 129 = .ok (.iconst 5, 1) := by decide +kernel
theorem dX6_build_130 : decode cX6_build 130 = .ok (.iconst 0, 1) := by decide +kernel
theorem dX6_build_131 : decode cX6_build 131 = .ok (.iastore, 1) := by decide +kernel
theorem dX6_build_132 : decode cX6_build 132 = .ok (.dup, 1) := by decide +kernel
theorem dX6_build_133 : decode cX6_build 133 = .ok (.bipush 6, 2) := by decide +kernel
theorem dX6_build_135 : decode cX6_build 135 = .ok (.iconst 0, 1) := by decide +kernel
theorem dX6_build_136 : decode cX6_build 136 = .ok (.iastore, 1) := by decide +kernel
theorem dX6_build_137 : decode cX6_build 137 = .ok (.astore 7, 2) := by decide +kernel
theorem dX6_build_139 : decode cX6_build 139 = .ok (.aload 7, 2) := by decide +kernel
theorem dX6_build_141 : decode cX6_build 141 = .ok (.iconst 0, 1) := by decide +kernel
theorem dX6_build_142 : decode cX6_build 142 = .ok (.aload_n 0, 1) := by decide +kernel
theorem dX6_build_143 : decode cX6_build 143 = .ok (.getfield 9, 3) := by decide +kernel
theorem dX6_build_146 : decode cX6_build 146 = .ok (.iload_n 1, 1) := by decide +kernel
theorem dX6_build_147 : decode cX6_build 147 = .ok (.iload_n 2, 1) := by decide +kernel
theorem dX6_build_148 : decode cX6_build 148 = .ok (.invokestatic 57, 3) := by decide +kernel
theorem dX6_build_151 : decode cX6_build 151 = .ok (.bipush 7, 2) := by decide +kernel
theorem dX6_build_153 : decode cX6_build 153 = .ok (.invokestatic 60, 3) := by decide +kernel
theorem dX6_build_156 : decode cX6_build 156 = .ok (.aload_n 0, 1) := by decide +kernel
theorem dX6_build_157 : decode cX6_build 157 = .ok (.dup, 1) := by decide +kernel
theorem dX6_build_158 : decode cX6_build 158 = .ok (.getfield 66, 3) := by decide +kernel
theorem dX6_build_161 : decode cX6_build 161 = .ok (.iconst 1, 1) := by decide +kernel
theorem dX6_build_162 : decode cX6_build 162 = .ok (.iadd, 1) := by decide +kernel
theorem dX6_build_163 : decode cX6_build 163 = .ok (.putfield 66, 3) := by decide +kernel
theorem dX6_build_166 : decode cX6_build 166 = .ok (.aload_n 0, 1) := by decide +kernel
theorem dX6_build_167 : decode cX6_build 167 = .ok (.getfield 66, 3) := by decide +kernel
theorem dX6_build_170 : decode cX6_build 170 = .ok (.ireturn, 1) := by decide +kernel
theorem dX6_road_0 : decode cX6_road 0 = .ok (.aload_n 0, 1) := by decide +kernel
theorem dX6_road_1 : decode cX6_road 1 = .ok (.iconst 0, 1) := by decide +kernel
theorem dX6_road_2 : decode cX6_road 2 = .ok (.putfield 23, 3) := by decide +kernel
theorem dX6_road_5 : decode cX6_road 5 = .ok (.aload_n 0, 1) := by decide +kernel
theorem dX6_road_6 : decode cX6_road 6 = .ok (.iload_n 1, 1) := by decide +kernel
theorem dX6_road_7 : decode cX6_road 7 = .ok (.invokevirtual 53, 3) := by decide +kernel
theorem dX6_road_10 : decode cX6_road 10 = .ok (.ifCond .eq 36, 3) := by decide +kernel
theorem dX6_road_13 : decode cX6_road 13 = .ok (.aload_n 0, 1) := by decide +kernel
theorem dX6_road_14 : decode cX6_road 14 = .ok (.iload_n 2, 1) := by decide +kernel
theorem dX6_road_15 : decode cX6_road 15 = .ok (.invokevirtual 53, 3) := by decide +kernel
theorem dX6_road_18 : decode cX6_road 18 = .ok (.ifCond .eq 28, 3) := by decide +kernel
theorem dX6_road_21 : decode cX6_road 21 = .ok (.iload_n 3, 1) := by decide +kernel
theorem dX6_road_22 : decode cX6_road 22 = .ok (.iconst 0, 1) := by decide +kernel
theorem dX6_road_23 : decode cX6_road 23 = .ok (.bipush 6, 2) := by decide +kernel
theorem dX6_road_25 : decode cX6_road 25 = .ok (.invokestatic 30, 3) := by decide +kernel
theorem dX6_road_28 : decode cX6_road 28 = .ok (.ifCond .eq 18, 3) := by decide +kernel
theorem dX6_road_31 : decode cX6_road 31 = .ok (.aload_n 0, 1) := by decide +kernel
theorem dX6_road_32 : decode cX6_road 32 = .ok (.getfield 9, 3) := by decide +kernel
theorem dX6_road_35 : decode cX6_road 35 = .ok (.iload_n 1, 1) := by decide +kernel
theorem dX6_road_36 : decode cX6_road 36 = .ok (.iload_n 2, 1) := by decide +kernel
theorem dX6_road_37 : decode cX6_road 37 = .ok (.invokestatic 57, 3) := by decide +kernel
theorem dX6_road_40 : decode cX6_road 40 = .ok (.iload_n 3, 1) := by decide +kernel
theorem dX6_road_41 : decode cX6_road 41 = .ok (.iadd, 1) := by decide +kernel
theorem dX6_road_42 : decode cX6_road 42 = .ok (.iaload, 1) := by decide +kernel
theorem dX6_road_43 : decode cX6_road 43 = .ok (.goto 8, 3) := by decide +kernel
theorem dX6_road_46 : decode cX6_road 46 = .ok (.aload_n 0, 1) := by decide +kernel
theorem dX6_road_47 : decode cX6_road 47 = .ok (.iconst 1, 1) := by decide +kernel
theorem dX6_road_48 : decode cX6_road 48 = .ok (.invokevirtual 49, 3) := by decide +kernel
theorem dX6_road_51 : decode cX6_road 51 = .ok (.ireturn, 1) := by decide +kernel
theorem dX6_add_0 : decode cX6_add 0 = .ok (.bipush 7, 2) := by decide +kernel
theorem dX6_add_2 : decode cX6_add 2 = .ok (.newarray .int, 2) := by decide +kernel
end
section
theorem dX6_add_4 : decode cX6_add 4 = .ok (.dup, 1) := by decide +kernel
theorem dX6_add_5 : decode cX6_add 5 = .ok (.iconst 0, 1) := by decide +kernel
theorem dX6_add_6 : decode cX6_add 6 = .ok (.iload_n 1, 1) := by decide +kernel
theorem dX6_add_7 : decode cX6_add 7 = .ok (.iastore, 1) := by decide +kernel
theorem dX6_add_8 : decode cX6_add 8 = .ok (.dup, 1) := by decide +kernel
theorem dX6_add_9 : decode cX6_add 9 = .ok (.iconst 1, 1) := by decide +kernel
theorem dX6_add_10 : decode cX6_add 10 = .ok (.iload_n 2, 1) := by decide +kernel
theorem dX6_add_11 : decode cX6_add 11 = .ok (.iastore, 1) := by decide +kernel
theorem dX6_add_12 : decode cX6_add 12 = .ok (.dup, 1) := by decide +kernel
theorem dX6_add_13 : decode cX6_add 13 = .ok (.iconst 2, 1) := by decide +kernel
theorem dX6_add_14 : decode cX6_add 14 = .ok (.iload_n 3, 1) := by decide +kernel
theorem dX6_add_15 : decode cX6_add 15 = .ok (.iastore, 1) := by decide +kernel
theorem dX6_add_16 : decode cX6_add 16 = .ok (.dup, 1) := by decide +kernel
theorem dX6_add_17 : decode cX6_add 17 = .ok (.iconst 3, 1) := by decide +kernel
theorem dX6_add_18 : decode cX6_add 18 = .ok (.iload 4, 2) := by decide +kernel
theorem dX6_add_20 : decode cX6_add 20 = .ok (.iastore, 1) := by decide +kernel
theorem dX6_add_21 : decode cX6_add 21 = .ok (.dup, 1) := by decide +kernel
theorem dX6_add_22 : decode cX6_add 22 = .ok (.iconst 4, 1) := by decide +kernel
theorem dX6_add_23 : decode cX6_add 23 = .ok (.iload 5, 2) := by decide +kernel
theorem dX6_add_25 : decode cX6_add 25 = .ok (.iastore, 1) := by decide +kernel
theorem dX6_add_26 : decode cX6_add 26 = .ok (.dup, 1) := by decide +kernel
theorem dX6_add_27 : decode cX6_add 27 = .ok (.iconst 5, 1) := by decide +kernel
theorem dX6_add_28 : decode cX6_add 28 = .ok (.iconst (-1), 1) := by decide +kernel
theorem dX6_add_29 : decode cX6_add 29 = .ok (.iastore, 1) := by decide +kernel
theorem dX6_add_30 : decode cX6_add 30 = .ok (.dup, 1) := by decide +kernel
theorem dX6_add_31 : decode cX6_add 31 = .ok (.bipush 6, 2) := by decide +kernel
theorem dX6_add_33 : decode cX6_add 33 = .ok (.iconst 0, 1) := by decide +kernel
theorem dX6_add_34 : decode cX6_add 34 = .ok (.iastore, 1) := by decide +kernel
theorem dX6_add_35 : decode cX6_add 35 = .ok (.astore 6, 2) := by decide +kernel
theorem dX6_add_37 : decode cX6_add 37 = .ok (.aload 6, 2) := by decide +kernel
theorem dX6_add_39 : decode cX6_add 39 = .ok (.iconst 0, 1) := by decide +kernel
theorem dX6_add_40 : decode cX6_add 40 = .ok (.aload_n 0, 1) := by decide +kernel
theorem dX6_add_41 : decode cX6_add 41 = .ok (.getfield 13, 3) := by decide +kernel
theorem dX6_add_44 : decode cX6_add 44 = .ok (.bipush 7, 2) := by decide +kernel
theorem dX6_add_46 : decode cX6_add 46 = .ok (.aload_n 0, 1) := by decide +kernel
theorem dX6_add_47 : decode cX6_add 47 = .ok (.getfield 34, 3) := by decide +kernel
theorem dX6_add_50 : decode cX6_add 50 = .ok (.imul, 1) := by decide +kernel
theorem dX6_add_51 : decode cX6_add 51 = .ok (.bipush 7, 2) := by decide +kernel
theorem dX6_add_53 : decode cX6_add 53 = .ok (.invokestatic 60, 3) := by decide +kernel
theorem dX6_add_56 : decode cX6_add 56 = .ok (.aload_n 0, 1) := by decide +kernel
theorem dX6_add_57 : decode cX6_add 57 = .ok (.dup, 1) := by decide +kernel
theorem dX6_add_58 : decode cX6_add 58 = .ok (.getfield 34, 3) := by decide +kernel
theorem dX6_add_61 : decode cX6_add 61 = .ok (.iconst 1, 1) := by decide +kernel
theorem dX6_add_62 : decode cX6_add 62 = .ok (.iadd, 1) := by decide +kernel
theorem dX6_add_63 : decode cX6_add 63 = .ok (.putfield 34, 3) := by decide +kernel
theorem dX6_add_66 : decode cX6_add 66 = .ok (.aload_n 0, 1) := by decide +kernel
theorem dX6_add_67 : decode cX6_add 67 = .ok (.getfield 34, 3) := by decide +kernel
theorem dX6_add_70 : decode cX6_add 70 = .ok (.iconst 1, 1) := by decide +kernel
theorem dX6_add_71 : decode cX6_add 71 = .ok (.isub, 1) := by decide +kernel
theorem dX6_add_72 : decode cX6_add 72 = .ok (.ireturn, 1) := by decide +kernel
theorem dX6_makeUp_0 : decode cX6_makeUp 0 = .ok (.aload_n 0, 1) := by decide +kernel
theorem dX6_makeUp_1 : decode cX6_makeUp 1 = .ok (.iconst 0, 1) := by decide +kernel
theorem dX6_makeUp_2 : decode cX6_makeUp 2 = .ok (.putfield 23, 3) := by decide +kernel
theorem dX6_makeUp_5 : decode cX6_makeUp 5 = .ok (.aload_n 0, 1) := by decide +kernel
theorem dX6_makeUp_6 : decode cX6_makeUp 6 = .ok (.iload_n 1, 1) := by decide +kernel
theorem dX6_makeUp_7 : decode cX6_makeUp 7 = .ok (.invokevirtual 53, 3) := by decide +kernel
theorem dX6_makeUp_10 : decode cX6_makeUp 10 = .ok (.ifCond .ne 9, 3) := by decide +kernel
theorem dX6_makeUp_13 : decode cX6_makeUp 13 = .ok (.aload_n 0, 1) := by decide +kernel
theorem dX6_makeUp_14 : decode cX6_makeUp 14 = .ok (.iconst 1, 1) := by decide +kernel
theorem dX6_makeUp_15 : decode cX6_makeUp 15 = .ok (.invokevirtual 49, 3) := by decide +kernel
theorem dX6_makeUp_18 : decode cX6_makeUp 18 = .ok (.ireturn, 1) := by decide +kernel
theorem dX6_makeUp_19 : decode cX6_makeUp 19 = .ok (.iload_n 2, 1) := by decide +kernel
theorem dX6_makeUp_20 : decode cX6_makeUp 20 = .ok (.iconst 1, 1) := by decide +kernel
theorem dX6_makeUp_21 : decode cX6_makeUp 21 = .ok (.bipush 30, 2) := by decide +kernel
theorem dX6_makeUp_23 : decode cX6_makeUp 23 = .ok (.invokestatic 30, 3) := by decide +kernel
theorem dX6_makeUp_26 : decode cX6_makeUp 26 = .ok (.ifCond .eq 12, 3) := by decide +kernel
theorem dX6_makeUp_29 : decode cX6_makeUp 29 = .ok (.iload_n 3, 1) := by decide +kernel
theorem dX6_makeUp_30 : decode cX6_makeUp 30 = .ok (.iconst 0, 1) := by decide +kernel
theorem dX6_makeUp_31 : decode cX6_makeUp 31 = .ok (.iconst 5, 1) := by decide +kernel
theorem dX6_makeUp_32 : decode cX6_makeUp 32 = .ok (.invokestatic 30, 3) := by decide +kernel
theorem dX6_makeUp_35 : decode cX6_makeUp 35 = .ok (.ifCond .ne 9, 3) := by decide +kernel
theorem dX6_makeUp_38 : decode cX6_makeUp 38 = .ok (.aload_n 0, 1) := by decide +kernel
theorem dX6_makeUp_39 : decode cX6_makeUp 39 = .ok (.iconst 2, 1) := by decide +kernel
theorem dX6_makeUp_40 : decode cX6_makeUp 40 = .ok (.invokevirtual 49, 3) := by decide +kernel
theorem dX6_makeUp_43 : decode cX6_makeUp 43 = .ok (.ireturn, 1) := by decide +kernel
theorem dX6_makeUp_44 : decode cX6_makeUp 44 = .ok (.aload_n 0, 1) := by decide +kernel
theorem dX6_makeUp_45 : decode cX6_makeUp 45 = .ok (.getfield 34, 3) := by decide +kernel
theorem dX6_makeUp_48 : decode cX6_makeUp 48 = .ok (.bipush 60, 2) := by decide +kernel
theorem dX6_makeUp_50 : decode cX6_makeUp 50 = .ok (.if_icmp .ne 11, 3) := by decide +kernel
theorem dX6_makeUp_53 : decode cX6_makeUp 53 = .ok (.aload_n 0, 1) := by decide +kernel
theorem dX6_makeUp_54 : decode cX6_makeUp 54 = .ok (.iconst 3, 1) := by decide +kernel
theorem dX6_makeUp_55 : decode cX6_makeUp 55 = .ok (.invokevirtual 49, 3) := by decide +kernel
theorem dX6_makeUp_58 : decode cX6_makeUp 58 = .ok (.goto 15, 3) := by decide +kernel
theorem dX6_makeUp_61 : decode cX6_makeUp 61 = .ok (.aload_n 0, 1) := by decide +kernel
theorem dX6_makeUp_62 : decode cX6_makeUp 62 = .ok (.iload_n 2, 1) := by decide +kernel
theorem dX6_makeUp_63 : decode cX6_makeUp 63 = .ok (.iconst 0, 1) := by decide +kernel
theorem dX6_makeUp_64 : decode cX6_makeUp 64 = .ok (.iload_n 3, 1) := by decide +kernel
theorem dX6_makeUp_65 : decode cX6_makeUp 65 = .ok (.aload_n 0, 1) := by decide +kernel
theorem dX6_makeUp_66 : decode cX6_makeUp 66 = .ok (.getfield 34, 3) := by decide +kernel
theorem dX6_makeUp_69 : decode cX6_makeUp 69 = .ok (.iload_n 1, 1) := by decide +kernel
theorem dX6_makeUp_70 : decode cX6_makeUp 70 = .ok (.invokevirtual 69, 3) := by decide +kernel
theorem dX6_makeUp_73 : decode cX6_makeUp 73 = .ok (.ireturn, 1) := by decide +kernel
theorem dX6_rumour_0 : decode cX6_rumour 0 = .ok (.aload_n 0, 1) := by decide +kernel
theorem dX6_rumour_1 : decode cX6_rumour 1 = .ok (.iconst 0, 1) := by decide +kernel
theorem dX6_rumour_2 : decode cX6_rumour 2 = .ok (.putfield 23, 3) := by decide +kernel
theorem dX6_rumour_5 : decode cX6_rumour 5 = .ok (.aload_n 0, 1) := by decide +kernel
theorem dX6_rumour_6 : decode cX6_rumour 6 = .ok (.iload_n 1, 1) := by decide +kernel
theorem dX6_rumour_7 : decode cX6_rumour 7 = .ok (.invokevirtual 73, 3) := by decide +kernel
theorem dX6_rumour_10 : decode cX6_rumour 10 = .ok (.ifCond .eq 22, 3) := by decide +kernel
theorem dX6_rumour_13 : decode cX6_rumour 13 = .ok (.iload_n 2, 1) := by decide +kernel
theorem dX6_rumour_14 : decode cX6_rumour 14 = .ok (.iconst 0, 1) := by decide +kernel
theorem dX6_rumour_15 : decode cX6_rumour 15 = .ok (.bipush 6, 2) := by decide +kernel
theorem dX6_rumour_17 : decode cX6_rumour 17 = .ok (.invokestatic 30, 3) := by decide +kernel
theorem dX6_rumour_20 : decode cX6_rumour 20 = .ok (.ifCond .eq 12, 3) := by decide +kernel
theorem dX6_rumour_23 : decode cX6_rumour 23 = .ok (.aload_n 0, 1) := by decide +kernel
theorem dX6_rumour_24 : decode cX6_rumour 24 = .ok (.iload_n 1, 1) := by decide +kernel
theorem dX6_rumour_25 : decode cX6_rumour 25 = .ok (.iload_n 2, 1) := by decide +kernel
theorem dX6_rumour_26 : decode cX6_rumour 26 = .ok (.invokevirtual 76, 3) := by decide +kernel
theorem dX6_rumour_29 : decode cX6_rumour 29 = .ok (.goto 8, 3) := by decide +kernel
theorem dX6_rumour_32 : decode cX6_rumour 32 = .ok (.aload_n 0, 1) := by decide +kernel
theorem dX6_rumour_33 : decode cX6_rumour 33 = .ok (.iconst 1, 1) := by decide +kernel
theorem dX6_rumour_34 : decode cX6_rumour 34 = .ok (.invokevirtual 49, 3) := by decide +kernel
theorem dX6_rumour_37 : decode cX6_rumour 37 = .ok (.ireturn, 1) := by decide +kernel
theorem dX6_knows_0 : decode cX6_knows 0 = .ok (.aload_n 0, 1) := by decide +kernel
theorem dX6_knows_1 : decode cX6_knows 1 = .ok (.iload_n 1, 1) := by decide +kernel
theorem dX6_knows_2 : decode cX6_knows 2 = .ok (.iload_n 2, 1) := by decide +kernel
theorem dX6_knows_3 : decode cX6_knows 3 = .ok (.invokevirtual 79, 3) := by decide +kernel
theorem dX6_knows_6 : decode cX6_knows 6 = .ok (.iconst (-1), 1) := by decide +kernel
theorem dX6_knows_7 : decode cX6_knows 7 = .ok (.if_icmp .eq 7, 3) := by decide +kernel
theorem dX6_knows_10 : decode cX6_knows 10 = .ok (.iconst 1, 1) := by decide +kernel
theorem dX6_knows_11 : decode cX6_knows 11 = .ok (.goto 4, 3) := by decide +kernel
theorem dX6_knows_14 : decode cX6_knows 14 = .ok (.iconst 0, 1) := by decide +kernel
theorem dX6_knows_15 : decode cX6_knows 15 = .ok (.ireturn, 1) := by decide +kernel
theorem dX6_heardOf_0 : decode cX6_heardOf 0 = .ok (.iconst (-1), 1) := by decide +kernel
theorem dX6_heardOf_1 : decode cX6_heardOf 1 = .ok (.istore_n 3, 1) := by decide +kernel
theorem dX6_heardOf_2 : decode cX6_heardOf 2 = .ok (.iconst 0, 1) := by decide +kernel
theorem dX6_heardOf_3 : decode cX6_heardOf 3 = .ok (.istore 4, 2) := by decide +kernel
theorem dX6_heardOf_5 : decode cX6_heardOf 5 = .ok (.iload 4, 2) := by decide +kernel
theorem dX6_heardOf_7 : decode cX6_heardOf 7 = .ok (.aload_n 0, 1) := by decide +kernel
theorem dX6_heardOf_8 : decode cX6_heardOf 8 = .ok (.getfield 34, 3) := by decide +kernel
theorem dX6_heardOf_11 : decode cX6_heardOf 11 = .ok (.if_icmp .ge 55, 3) := by decide +kernel
theorem dX6_heardOf_14 : decode cX6_heardOf 14 = .ok (.aload_n 0, 1) := by decide +kernel
theorem dX6_heardOf_15 : decode cX6_heardOf 15 = .ok (.iload 4, 2) := by decide +kernel
theorem dX6_heardOf_17 : decode cX6_heardOf 17 = .ok (.iconst 4, 1) := by decide +kernel
theorem dX6_heardOf_18 : decode cX6_heardOf 18 = .ok (.invokevirtual 76, 3) := by decide +kernel
theorem dX6_heardOf_21 : decode cX6_heardOf 21 = .ok (.iload_n 1, 1) := by decide +kernel
theorem dX6_heardOf_22 : decode cX6_heardOf 22 = .ok (.if_icmp .ne 38, 3) := by decide +kernel
theorem dX6_heardOf_25 : decode cX6_heardOf 25 = .ok (.aload_n 0, 1) := by decide +kernel
theorem dX6_heardOf_26 : decode cX6_heardOf 26 = .ok (.iload 4, 2) := by decide +kernel
theorem dX6_heardOf_28 : decode cX6_heardOf 28 = .ok (.iconst 3, 1) := by decide +kernel
theorem dX6_heardOf_29 : decode cX6_heardOf 29 = .ok (.invokevirtual 76, 3) := by decide +kernel
theorem dX6_heardOf_32 : decode cX6_heardOf 32 = .ok (.iload_n 2, 1) := by decide +kernel
theorem dX6_heardOf_33 : decode cX6_heardOf 33 = .ok (.if_icmp .ne 27, 3) := by decide +kernel
theorem dX6_heardOf_36 : decode cX6_heardOf 36 = .ok (.iload_n 3, 1) := by decide +kernel
theorem dX6_heardOf_37 : decode cX6_heardOf 37 = .ok (.iconst (-1), 1) := by decide +kernel
theorem dX6_heardOf_38 : decode cX6_heardOf 38 = .ok (.if_icmp .eq 19, 3) := by decide +kernel
theorem dX6_heardOf_41 : decode cX6_heardOf 41 = .ok (.aload_n 0, 1) := by decide +kernel
theorem dX6_heardOf_42 : decode cX6_heardOf 42 = .ok (.iload 4, 2) := by decide +kernel
theorem dX6_heardOf_44 : decode cX6_heardOf 44 = .ok (.iconst 1, 1) := by decide +kernel
theorem dX6_heardOf_45 : decode cX6_heardOf 45 = .ok (.invokevirtual 76, 3) := by decide +kernel
theorem dX6_heardOf_48 : decode cX6_heardOf 48 = .ok (.aload_n 0, 1) := by decide +kernel
theorem dX6_heardOf_49 : decode cX6_heardOf 49 = .ok (.iload_n 3, 1) := by decide +kernel
theorem dX6_heardOf_50 : decode cX6_heardOf 50 = .ok (.iconst 1, 1) := by decide +kernel
theorem dX6_heardOf_51 : decode cX6_heardOf 51 = .ok (.invokevirtual 76, 3) := by decide +kernel
theorem dX6_heardOf_54 : decode cX6_heardOf 54 = .ok (.if_icmp .ge 6, 3) := by decide +kernel
theorem dX6_heardOf_57 : decode cX6_heardOf 57 = .ok (.iload 4, 2) := by decide +kernel
theorem dX6_heardOf_59 : decode cX6_heardOf 59 = .ok (.istore_n 3, 1) := by decide +kernel
theorem dX6_heardOf_60 : decode cX6_heardOf 60 = .ok (.iinc 4 1, 3) := by decide +kernel
theorem dX6_heardOf_63 : decode cX6_heardOf 63 = .ok (.goto (-58), 3) := by decide +kernel
theorem dX6_heardOf_66 : decode cX6_heardOf 66 = .ok (.iload_n 3, 1) := by decide +kernel
theorem dX6_heardOf_67 : decode cX6_heardOf 67 = .ok (.ireturn, 1) := by decide +kernel
theorem dX6_townTold_0 : decode cX6_townTold 0 = .ok (.iconst 0, 1) := by decide +kernel
theorem dX6_townTold_1 : decode cX6_townTold 1 = .ok (.istore_n 3, 1) := by decide +kernel
theorem dX6_townTold_2 : decode cX6_townTold 2 = .ok (.iconst (-1), 1) := by decide +kernel
theorem dX6_townTold_3 : decode cX6_townTold 3 = .ok (.istore 4, 2) := by decide +kernel
theorem dX6_townTold_5 : decode cX6_townTold 5 = .ok (.iconst 0, 1) := by decide +kernel
theorem dX6_townTold_6 : decode cX6_townTold 6 = .ok (.istore 5, 2) := by decide +kernel
theorem dX6_townTold_8 : decode cX6_townTold 8 = .ok (.iload 5, 2) := by decide +kernel
theorem dX6_townTold_10 : decode cX6_townTold 10 = .ok (.aload_n 0, 1) := by decide +kernel
theorem dX6_townTold_11 : decode cX6_townTold 11 = .ok (.getfield 34, 3) := by decide +kernel
theorem dX6_townTold_14 : decode cX6_townTold 14 = .ok (.if_icmp .ge 85, 3) := by decide +kernel
theorem dX6_townTold_17 : decode cX6_townTold 17 = .ok (.iload_n 2, 1) := by decide +kernel
theorem dX6_townTold_18 : decode cX6_townTold 18 = .ok (.iconst 3, 1) := by decide +kernel
theorem dX6_townTold_19 : decode cX6_townTold 19 = .ok (.if_icmp .eq 80, 3) := by decide +kernel
theorem dX6_townTold_22 : decode cX6_townTold 22 = .ok (.iload_n 2, 1) := by decide +kernel
theorem dX6_townTold_23 : decode cX6_townTold 23 = .ok (.iconst 1, 1) := by decide +kernel
theorem dX6_townTold_24 : decode cX6_townTold 24 = .ok (.if_icmp .ne 21, 3) := by decide +kernel
theorem dX6_townTold_27 : decode cX6_townTold 27 = .ok (.iload_n 3, 1) := by decide +kernel
theorem dX6_townTold_28 : decode cX6_townTold 28 = .ok (.aload_n 0, 1) := by decide +kernel
theorem dX6_townTold_29 : decode cX6_townTold 29 = .ok (.iload_n 1, 1) := by decide +kernel
theorem dX6_townTold_30 : decode cX6_townTold 30 = .ok (.iload 5, 2) := by decide +kernel
theorem dX6_townTold_32 : decode cX6_townTold 32 = .ok (.invokevirtual 82, 3) := by decide +kernel
theorem dX6_townTold_35 : decode cX6_townTold 35 = .ok (.ifCond .eq 7, 3) := by decide +kernel
theorem dX6_townTold_38 : decode cX6_townTold 38 = .ok (.iconst 1, 1) := by decide +kernel
theorem dX6_townTold_39 : decode cX6_townTold 39 = .ok (.goto 4, 3) := by decide +kernel
theorem dX6_townTold_42 : decode cX6_townTold 42 = .ok (.iconst 0, 1) := by decide +kernel
theorem dX6_townTold_43 : decode cX6_townTold 43 = .ok (.iadd, 1) := by decide +kernel
theorem dX6_townTold_44 : decode cX6_townTold 44 = .ok (.istore_n 3, 1) := by decide +kernel
theorem dX6_townTold_45 : decode cX6_townTold 45 = .ok (.aload_n 0, 1) := by decide +kernel
theorem dX6_townTold_46 : decode cX6_townTold 46 = .ok (.iload 5, 2) := by decide +kernel
theorem dX6_townTold_48 : decode cX6_townTold 48 = .ok (.iconst 4, 1) := by decide +kernel
theorem dX6_townTold_49 : decode cX6_townTold 49 = .ok (.invokevirtual 76, 3) := by decide +kernel
theorem dX6_townTold_52 : decode cX6_townTold 52 = .ok (.iload_n 1, 1) := by decide +kernel
theorem dX6_townTold_53 : decode cX6_townTold 53 = .ok (.if_icmp .eq 6, 3) := by decide +kernel
theorem dX6_townTold_56 : decode cX6_townTold 56 = .ok (.goto 37, 3) := by decide +kernel
theorem dX6_townTold_59 : decode cX6_townTold 59 = .ok (.iload_n 2, 1) := by decide +kernel
theorem dX6_townTold_60 : decode cX6_townTold 60 = .ok (.ifCond .ne 6, 3) := by decide +kernel
theorem dX6_townTold_63 : decode cX6_townTold 63 = .ok (.iinc 3 1, 3) := by decide +kernel
theorem dX6_townTold_66 : decode cX6_townTold 66 = .ok (.iload 4, 2) := by decide +kernel
theorem dX6_townTold_68 : decode cX6_townTold 68 = .ok (.iconst (-1), 1) := by decide +kernel
theorem dX6_townTold_69 : decode cX6_townTold 69 = .ok (.if_icmp .eq 20, 3) := by decide +kernel
theorem dX6_townTold_72 : decode cX6_townTold 72 = .ok (.aload_n 0, 1) := by decide +kernel
theorem dX6_townTold_73 : decode cX6_townTold 73 = .ok (.iload 5, 2) := by decide +kernel
theorem dX6_townTold_75 : decode cX6_townTold 75 = .ok (.iconst 1, 1) := by decide +kernel
theorem dX6_townTold_76 : decode cX6_townTold 76 = .ok (.invokevirtual 76, 3) := by decide +kernel
theorem dX6_townTold_79 : decode cX6_townTold 79 = .ok (.aload_n 0, 1) := by decide +kernel
theorem dX6_townTold_80 : decode cX6_townTold 80 = .ok (.iload 4, 2) := by decide +kernel
theorem dX6_townTold_82 : decode cX6_townTold 82 = .ok (.iconst 1, 1) := by decide +kernel
theorem dX6_townTold_83 : decode cX6_townTold 83 = .ok (.invokevirtual 76, 3) := by decide +kernel
theorem dX6_townTold_86 : decode cX6_townTold 86 = .ok (.if_icmp .le 7, 3) := by decide +kernel
theorem dX6_townTold_89 : decode cX6_townTold 89 = .ok (.iload 5, 2) := by decide +kernel
theorem dX6_townTold_91 : decode cX6_townTold 91 = .ok (.istore 4, 2) := by decide +kernel
theorem dX6_townTold_93 : decode cX6_townTold 93 = .ok (.iinc 5 1, 3) := by decide +kernel
theorem dX6_townTold_96 : decode cX6_townTold 96 = .ok (.goto (-88), 3) := by decide +kernel
theorem dX6_townTold_99 : decode cX6_townTold 99 = .ok (.iconst 0, 1) := by decide +kernel
theorem dX6_townTold_100 : decode cX6_townTold 100 = .ok (.istore 5, 2) := by decide +kernel
theorem dX6_townTold_102 : decode cX6_townTold 102 = .ok (.iload 5, 2) := by decide +kernel
theorem dX6_townTold_104 : decode cX6_townTold 104 = .ok (.aload_n 0, 1) := by decide +kernel
theorem dX6_townTold_105 : decode cX6_townTold 105 = .ok (.getfield 37, 3) := by decide +kernel
theorem dX6_townTold_108 : decode cX6_townTold 108 = .ok (.if_icmp .ge 43, 3) := by decide +kernel
theorem dX6_townTold_111 : decode cX6_townTold 111 = .ok (.iload_n 2, 1) := by decide +kernel
theorem dX6_townTold_112 : decode cX6_townTold 112 = .ok (.iconst 3, 1) := by decide +kernel
theorem dX6_townTold_113 : decode cX6_townTold 113 = .ok (.if_icmp .ne 38, 3) := by decide +kernel
theorem dX6_townTold_116 : decode cX6_townTold 116 = .ok (.iload_n 3, 1) := by decide +kernel
theorem dX6_townTold_117 : decode cX6_townTold 117 = .ok (.aload_n 0, 1) := by decide +kernel
theorem dX6_townTold_118 : decode cX6_townTold 118 = .ok (.iload 5, 2) := by decide +kernel
theorem dX6_townTold_120 : decode cX6_townTold 120 = .ok (.iconst 0, 1) := by decide +kernel
theorem dX6_townTold_121 : decode cX6_townTold 121 = .ok (.invokevirtual 86, 3) := by decide +kernel
theorem dX6_townTold_124 : decode cX6_townTold 124 = .ok (.iload_n 1, 1) := by decide +kernel
theorem dX6_townTold_125 : decode cX6_townTold 125 = .ok (.if_icmp .ne 17, 3) := by decide +kernel
theorem dX6_townTold_128 : decode cX6_townTold 128 = .ok (.aload_n 0, 1) := by decide +kernel
theorem dX6_townTold_129 : decode cX6_townTold 129 = .ok (.iload 5, 2) := by decide +kernel
theorem dX6_townTold_131 : decode cX6_townTold 131 = .ok (.iconst 1, 1) := by decide +kernel
theorem dX6_townTold_132 : decode cX6_townTold 132 = .ok (.invokevirtual 86, 3) := by decide +kernel
theorem dX6_townTold_135 : decode cX6_townTold 135 = .ok (.ifCond .ne 7, 3) := by decide +kernel
theorem dX6_townTold_138 : decode cX6_townTold 138 = .ok (.iconst 1, 1) := by decide +kernel
theorem dX6_townTold_139 : decode cX6_townTold 139 = .ok (.goto 4, 3) := by decide +kernel
theorem dX6_townTold_142 : decode cX6_townTold 142 = .ok (.iconst 0, 1) := by decide +kernel
theorem dX6_townTold_143 : decode cX6_townTold 143 = .ok (.iadd, 1) := by decide +kernel
theorem dX6_townTold_144 : decode cX6_townTold 144 = .ok (.istore_n 3, 1) := by decide +kernel
theorem dX6_townTold_145 : decode cX6_townTold 145 = .ok (.iinc 5 1, 3) := by decide +kernel
theorem dX6_townTold_148 : decode cX6_townTold 148 = .ok (.goto (-46), 3) := by decide +kernel
theorem dX6_townTold_151 : decode cX6_townTold 151 = .ok (.iload_n 2, 1) := by decide +kernel
theorem dX6_townTold_152 : decode cX6_townTold 152 = .ok (.iconst 2, 1) := by decide +kernel
theorem dX6_townTold_153 : decode cX6_townTold 153 = .ok (.if_icmp .ne 8, 3) := by decide +kernel
theorem dX6_townTold_156 : decode cX6_townTold 156 = .ok (.iload 4, 2) := by decide +kernel
theorem dX6_townTold_158 : decode cX6_townTold 158 = .ok (.goto 4, 3) := by decide +kernel
theorem dX6_townTold_161 : decode cX6_townTold 161 = .ok (.iload_n 3, 1) := by decide +kernel
theorem dX6_townTold_162 : decode cX6_townTold 162 = .ok (.ireturn, 1) := by decide +kernel
theorem dX6_town_0 : decode cX6_town 0 = .ok (.aload_n 0, 1) := by decide +kernel
theorem dX6_town_1 : decode cX6_town 1 = .ok (.iconst 0, 1) := by decide +kernel
theorem dX6_town_2 : decode cX6_town 2 = .ok (.putfield 23, 3) := by decide +kernel
theorem dX6_town_5 : decode cX6_town 5 = .ok (.aload_n 0, 1) := by decide +kernel
theorem dX6_town_6 : decode cX6_town 6 = .ok (.iload_n 1, 1) := by decide +kernel
theorem dX6_town_7 : decode cX6_town 7 = .ok (.invokevirtual 53, 3) := by decide +kernel
theorem dX6_town_10 : decode cX6_town 10 = .ok (.ifCond .eq 21, 3) := by decide +kernel
theorem dX6_town_13 : decode cX6_town 13 = .ok (.iload_n 2, 1) := by decide +kernel
theorem dX6_town_14 : decode cX6_town 14 = .ok (.iconst 0, 1) := by decide +kernel
theorem dX6_town_15 : decode cX6_town 15 = .ok (.iconst 3, 1) := by decide +kernel
theorem dX6_town_16 : decode cX6_town 16 = .ok (.invokestatic 30, 3) := by decide +kernel
theorem dX6_town_19 : decode cX6_town 19 = .ok (.ifCond .eq 12, 3) := by decide +kernel
theorem dX6_town_22 : decode cX6_town 22 = .ok (.aload_n 0, 1) := by decide +kernel
theorem dX6_town_23 : decode cX6_town 23 = .ok (.iload_n 1, 1) := by decide +kernel
theorem dX6_town_24 : decode cX6_town 24 = .ok (.iload_n 2, 1) := by decide +kernel
theorem dX6_town_25 : decode cX6_town 25 = .ok (.invokevirtual 89, 3) := by decide +kernel
theorem dX6_town_28 : decode cX6_town 28 = .ok (.goto 8, 3) := by decide +kernel
theorem dX6_town_31 : decode cX6_town 31 = .ok (.aload_n 0, 1) := by decide +kernel
theorem dX6_town_32 : decode cX6_town 32 = .ok (.iconst 1, 1) := by decide +kernel
theorem dX6_town_33 : decode cX6_town 33 = .ok (.invokevirtual 49, 3) := by decide +kernel
theorem dX6_town_36 : decode cX6_town 36 = .ok (.ireturn, 1) := by decide +kernel
theorem dX6_heard_0 : decode cX6_heard 0 = .ok (.aload_n 0, 1) := by decide +kernel
theorem dX6_heard_1 : decode cX6_heard 1 = .ok (.iconst 0, 1) := by decide +kernel
theorem dX6_heard_2 : decode cX6_heard 2 = .ok (.putfield 23, 3) := by decide +kernel
theorem dX6_heard_5 : decode cX6_heard 5 = .ok (.aload_n 0, 1) := by decide +kernel
theorem dX6_heard_6 : decode cX6_heard 6 = .ok (.iload_n 1, 1) := by decide +kernel
theorem dX6_heard_7 : decode cX6_heard 7 = .ok (.invokevirtual 53, 3) := by decide +kernel
theorem dX6_heard_10 : decode cX6_heard 10 = .ok (.ifCond .eq 25, 3) := by decide +kernel
theorem dX6_heard_13 : decode cX6_heard 13 = .ok (.aload_n 0, 1) := by decide +kernel
theorem dX6_heard_14 : decode cX6_heard 14 = .ok (.iload_n 2, 1) := by decide +kernel
theorem dX6_heard_15 : decode cX6_heard 15 = .ok (.invokevirtual 73, 3) := by decide +kernel
theorem dX6_heard_18 : decode cX6_heard 18 = .ok (.ifCond .eq 17, 3) := by decide +kernel
theorem dX6_heard_21 : decode cX6_heard 21 = .ok (.aload_n 0, 1) := by decide +kernel
theorem dX6_heard_22 : decode cX6_heard 22 = .ok (.iload_n 1, 1) := by decide +kernel
theorem dX6_heard_23 : decode cX6_heard 23 = .ok (.aload_n 0, 1) := by decide +kernel
theorem dX6_heard_24 : decode cX6_heard 24 = .ok (.iload_n 2, 1) := by decide +kernel
theorem dX6_heard_25 : decode cX6_heard 25 = .ok (.iconst 3, 1) := by decide +kernel
theorem dX6_heard_26 : decode cX6_heard 26 = .ok (.invokevirtual 76, 3) := by decide +kernel
theorem dX6_heard_29 : decode cX6_heard 29 = .ok (.invokevirtual 79, 3) := by decide +kernel
theorem dX6_heard_32 : decode cX6_heard 32 = .ok (.goto 8, 3) := by decide +kernel
theorem dX6_heard_35 : decode cX6_heard 35 = .ok (.aload_n 0, 1) := by decide +kernel
theorem dX6_heard_36 : decode cX6_heard 36 = .ok (.iconst 1, 1) := by decide +kernel
theorem dX6_heard_37 : decode cX6_heard 37 = .ok (.invokevirtual 49, 3) := by decide +kernel
theorem dX6_heard_40 : decode cX6_heard 40 = .ok (.ireturn, 1) := by decide +kernel
theorem dX6_addCarrier_0 : decode cX6_addCarrier 0 = .ok (.aload_n 0, 1) := by decide +kernel
theorem dX6_addCarrier_1 : decode cX6_addCarrier 1 = .ok (.iconst 0, 1) := by decide +kernel
theorem dX6_addCarrier_2 : decode cX6_addCarrier 2 = .ok (.putfield 23, 3) := by decide +kernel
theorem dX6_addCarrier_5 : decode cX6_addCarrier 5 = .ok (.aload_n 0, 1) := by decide +kernel
theorem dX6_addCarrier_6 : decode cX6_addCarrier 6 = .ok (.iload_n 1, 1) := by decide +kernel
theorem dX6_addCarrier_7 : decode cX6_addCarrier 7 = .ok (.invokevirtual 53, 3) := by decide +kernel
theorem dX6_addCarrier_10 : decode cX6_addCarrier 10 = .ok (.ifCond .ne 9, 3) := by decide +kernel
theorem dX6_addCarrier_13 : decode cX6_addCarrier 13 = .ok (.aload_n 0, 1) := by decide +kernel
theorem dX6_addCarrier_14 : decode cX6_addCarrier 14 = .ok (.iconst 1, 1) := by decide +kernel
theorem dX6_addCarrier_15 : decode cX6_addCarrier 15 = .ok (.invokevirtual 49, 3) := by decide +kernel
theorem dX6_addCarrier_18 : decode cX6_addCarrier 18 = .ok (.ireturn, 1) := by decide +kernel
theorem dX6_addCarrier_19 : decode cX6_addCarrier 19 = .ok (.iload_n 2, 1) := by decide +kernel
theorem dX6_addCarrier_20 : decode cX6_addCarrier 20 = .ok (.iconst 0, 1) := by decide +kernel
theorem dX6_addCarrier_21 : decode cX6_addCarrier 21 = .ok (.ldc 92, 2) := by decide +kernel
theorem dX6_addCarrier_23 : decode cX6_addCarrier 23 = .ok (.invokestatic 30, 3) := by decide +kernel
theorem dX6_addCarrier_26 : decode cX6_addCarrier 26 = .ok (.ifCond .ne 9, 3) := by decide +kernel
theorem dX6_addCarrier_29 : decode cX6_addCarrier 29 = .ok (.aload_n 0, 1) := by decide +kernel
theorem dX6_addCarrier_30 : decode cX6_addCarrier 30 = .ok (.iconst 2, 1) := by decide +kernel
theorem dX6_addCarrier_31 : decode cX6_addCarrier 31 = .ok (.invokevirtual 49, 3) := by decide +kernel
theorem dX6_addCarrier_34 : decode cX6_addCarrier 34 = .ok (.ireturn, 1) := by decide +kernel
theorem dX6_addCarrier_35 : decode cX6_addCarrier 35 = .ok (.aload_n 0, 1) := by decide +kernel
theorem dX6_addCarrier_36 : decode cX6_addCarrier 36 = .ok (.getfield 37, 3) := by decide +kernel
theorem dX6_addCarrier_39 : decode cX6_addCarrier 39 = .ok (.bipush 8, 2) := by decide +kernel
theorem dX6_addCarrier_41 : decode cX6_addCarrier 41 = .ok (.if_icmp .ne 9, 3) := by decide +kernel
theorem dX6_addCarrier_44 : decode cX6_addCarrier 44 = .ok (.aload_n 0, 1) := by decide +kernel
theorem dX6_addCarrier_45 : decode cX6_addCarrier 45 = .ok (.iconst 3, 1) := by decide +kernel
theorem dX6_addCarrier_46 : decode cX6_addCarrier 46 = .ok (.invokevirtual 49, 3) := by decide +kernel
theorem dX6_addCarrier_49 : decode cX6_addCarrier 49 = .ok (.ireturn, 1) := by decide +kernel
theorem dX6_addCarrier_50 : decode cX6_addCarrier 50 = .ok (.iconst 4, 1) := by decide +kernel
theorem dX6_addCarrier_51 : decode cX6_addCarrier 51 = .ok (.newarray .int, 2) := by decide +kernel
theorem dX6_addCarrier_53 : decode cX6_addCarrier 53 = .ok (.dup, 1) := by decide +kernel
theorem dX6_addCarrier_54 : decode cX6_addCarrier 54 = .ok (.iconst 0, 1) := by decide +kernel
theorem dX6_addCarrier_55 : decode cX6_addCarrier 55 = .ok (.iload_n 1, 1) := by decide +kernel
theorem dX6_addCarrier_56 : decode cX6_addCarrier 56 = .ok (.iastore, 1) := by decide +kernel
theorem dX6_addCarrier_57 : decode cX6_addCarrier 57 = .ok (.dup, 1) := by decide +kernel
theorem dX6_addCarrier_58 : decode cX6_addCarrier 58 = .ok (.iconst 1, 1) := by decide +kernel
theorem dX6_addCarrier_59 : decode cX6_addCarrier 59 = .ok (.iconst 0, 1) := by decide +kernel
theorem dX6_addCarrier_60 : decode cX6_addCarrier 60 = .ok (.iastore, 1) := by decide +kernel
theorem dX6_addCarrier_61 : decode cX6_addCarrier 61 = .ok (.dup, 1) := by decide +kernel
theorem dX6_addCarrier_62 : decode cX6_addCarrier 62 = .ok (.iconst 2, 1) := by decide +kernel
theorem dX6_addCarrier_63 : decode cX6_addCarrier 63 = .ok (.iload_n 2, 1) := by decide +kernel
theorem dX6_addCarrier_64 : decode cX6_addCarrier 64 = .ok (.iastore, 1) := by decide +kernel
theorem dX6_addCarrier_65 : decode cX6_addCarrier 65 = .ok (.dup, 1) := by decide +kernel
theorem dX6_addCarrier_66 : decode cX6_addCarrier 66 = .ok (.iconst 3, 1) := by decide +kernel
theorem dX6_addCarrier_67 : decode cX6_addCarrier 67 = .ok (.iconst 0, 1) := by decide +kernel
theorem dX6_addCarrier_68 : decode cX6_addCarrier 68 = .ok (.iastore, 1) := by decide +kernel
theorem dX6_addCarrier_69 : decode cX6_addCarrier 69 = .ok (.astore_n 3, 1) := by decide +kernel
theorem dX6_addCarrier_70 : decode cX6_addCarrier 70 = .ok (.aload_n 3, 1) := by decide +kernel
theorem dX6_addCarrier_71 : decode cX6_addCarrier 71 = .ok (.iconst 0, 1) := by decide +kernel
theorem dX6_addCarrier_72 : decode cX6_addCarrier 72 = .ok (.aload_n 0, 1) := by decide +kernel
theorem dX6_addCarrier_73 : decode cX6_addCarrier 73 = .ok (.getfield 16, 3) := by decide +kernel
theorem dX6_addCarrier_76 : decode cX6_addCarrier 76 = .ok (.iconst 4, 1) := by decide +kernel
theorem dX6_addCarrier_77 : decode cX6_addCarrier 77 = .ok (.aload_n 0, 1) := by decide +kernel
theorem dX6_addCarrier_78 : decode cX6_addCarrier 78 = .ok (.getfield 37, 3) := by decide +kernel
theorem dX6_addCarrier_81 : decode cX6_addCarrier 81 = .ok (.imul, 1) := by decide +kernel
theorem dX6_addCarrier_82 : decode cX6_addCarrier 82 = .ok (.iconst 4, 1) := by decide +kernel
theorem dX6_addCarrier_83 : decode cX6_addCarrier 83 = .ok (.invokestatic 60, 3) := by decide +kernel
theorem dX6_addCarrier_86 : decode cX6_addCarrier 86 = .ok (.aload_n 0, 1) := by decide +kernel
theorem dX6_addCarrier_87 : decode cX6_addCarrier 87 = .ok (.dup, 1) := by decide +kernel
theorem dX6_addCarrier_88 : decode cX6_addCarrier 88 = .ok (.getfield 37, 3) := by decide +kernel
theorem dX6_addCarrier_91 : decode cX6_addCarrier 91 = .ok (.iconst 1, 1) := by decide +kernel
theorem dX6_addCarrier_92 : decode cX6_addCarrier 92 = .ok (.iadd, 1) := by decide +kernel
theorem dX6_addCarrier_93 : decode cX6_addCarrier 93 = .ok (.putfield 37, 3) := by decide +kernel
theorem dX6_addCarrier_96 : decode cX6_addCarrier 96 = .ok (.aload_n 0, 1) := by decide +kernel
theorem dX6_addCarrier_97 : decode cX6_addCarrier 97 = .ok (.getfield 37, 3) := by decide +kernel
theorem dX6_addCarrier_100 : decode cX6_addCarrier 100 = .ok (.iconst 1, 1) := by decide +kernel
theorem dX6_addCarrier_101 : decode cX6_addCarrier 101 = .ok (.isub, 1) := by decide +kernel
theorem dX6_addCarrier_102 : decode cX6_addCarrier 102 = .ok (.ireturn, 1) := by decide +kernel
theorem dX6_inBag_0 : decode cX6_inBag 0 = .ok (.iconst 0, 1) := by decide +kernel
theorem dX6_inBag_1 : decode cX6_inBag 1 = .ok (.istore_n 3, 1) := by decide +kernel
theorem dX6_inBag_2 : decode cX6_inBag 2 = .ok (.iconst 0, 1) := by decide +kernel
theorem dX6_inBag_3 : decode cX6_inBag 3 = .ok (.istore 4, 2) := by decide +kernel
theorem dX6_inBag_5 : decode cX6_inBag 5 = .ok (.iload 4, 2) := by decide +kernel
theorem dX6_inBag_7 : decode cX6_inBag 7 = .ok (.aload_n 0, 1) := by decide +kernel
theorem dX6_inBag_8 : decode cX6_inBag 8 = .ok (.getfield 34, 3) := by decide +kernel
theorem dX6_inBag_11 : decode cX6_inBag 11 = .ok (.if_icmp .ge 44, 3) := by decide +kernel
theorem dX6_inBag_14 : decode cX6_inBag 14 = .ok (.iload_n 3, 1) := by decide +kernel
theorem dX6_inBag_15 : decode cX6_inBag 15 = .ok (.aload_n 0, 1) := by decide +kernel
theorem dX6_inBag_16 : decode cX6_inBag 16 = .ok (.iload 4, 2) := by decide +kernel
theorem dX6_inBag_18 : decode cX6_inBag 18 = .ok (.iconst 5, 1) := by decide +kernel
theorem dX6_inBag_19 : decode cX6_inBag 19 = .ok (.invokevirtual 76, 3) := by decide +kernel
theorem dX6_inBag_22 : decode cX6_inBag 22 = .ok (.iload_n 1, 1) := by decide +kernel
theorem dX6_inBag_23 : decode cX6_inBag 23 = .ok (.if_icmp .ne 23, 3) := by decide +kernel
theorem dX6_inBag_26 : decode cX6_inBag 26 = .ok (.iload_n 2, 1) := by decide +kernel
theorem dX6_inBag_27 : decode cX6_inBag 27 = .ok (.ifCond .eq 15, 3) := by decide +kernel
theorem dX6_inBag_30 : decode cX6_inBag 30 = .ok (.aload_n 0, 1) := by decide +kernel
theorem dX6_inBag_31 : decode cX6_inBag 31 = .ok (.iload 4, 2) := by decide +kernel
theorem dX6_inBag_33 : decode cX6_inBag 33 = .ok (.bipush 6, 2) := by decide +kernel
theorem dX6_inBag_35 : decode cX6_inBag 35 = .ok (.invokevirtual 76, 3) := by decide +kernel
theorem dX6_inBag_38 : decode cX6_inBag 38 = .ok (.iconst 1, 1) := by decide +kernel
theorem dX6_inBag_39 : decode cX6_inBag 39 = .ok (.if_icmp .ne 7, 3) := by decide +kernel
theorem dX6_inBag_42 : decode cX6_inBag 42 = .ok (.iconst 1, 1) := by decide +kernel
theorem dX6_inBag_43 : decode cX6_inBag 43 = .ok (.goto 4, 3) := by decide +kernel
theorem dX6_inBag_46 : decode cX6_inBag 46 = .ok (.iconst 0, 1) := by decide +kernel
theorem dX6_inBag_47 : decode cX6_inBag 47 = .ok (.iadd, 1) := by decide +kernel
theorem dX6_inBag_48 : decode cX6_inBag 48 = .ok (.istore_n 3, 1) := by decide +kernel
theorem dX6_inBag_49 : decode cX6_inBag 49 = .ok (.iinc 4 1, 3) := by decide +kernel
theorem dX6_inBag_52 : decode cX6_inBag 52 = .ok (.goto (-47), 3) := by decide +kernel
theorem dX6_inBag_55 : decode cX6_inBag 55 = .ok (.iload_n 3, 1) := by decide +kernel
theorem dX6_inBag_56 : decode cX6_inBag 56 = .ok (.ireturn, 1) := by decide +kernel
theorem dX6_lay_0 : decode cX6_lay 0 = .ok (.aload_n 0, 1) := by decide +kernel
theorem dX6_lay_1 : decode cX6_lay 1 = .ok (.iload_n 1, 1) := by decide +kernel
theorem dX6_lay_2 : decode cX6_lay 2 = .ok (.iconst 4, 1) := by decide +kernel
theorem dX6_lay_3 : decode cX6_lay 3 = .ok (.iload_n 2, 1) := by decide +kernel
theorem dX6_lay_4 : decode cX6_lay 4 = .ok (.invokevirtual 93, 3) := by decide +kernel
theorem dX6_lay_7 : decode cX6_lay 7 = .ok (.aload_n 0, 1) := by decide +kernel
theorem dX6_lay_8 : decode cX6_lay 8 = .ok (.iload_n 1, 1) := by decide +kernel
theorem dX6_lay_9 : decode cX6_lay 9 = .ok (.iconst 5, 1) := by decide +kernel
theorem dX6_lay_10 : decode cX6_lay 10 = .ok (.iload_n 3, 1) := by decide +kernel
theorem dX6_lay_11 : decode cX6_lay 11 = .ok (.invokevirtual 93, 3) := by decide +kernel
theorem dX6_lay_14 : decode cX6_lay 14 = .ok (.aload_n 0, 1) := by decide +kernel
theorem dX6_lay_15 : decode cX6_lay 15 = .ok (.iload_n 1, 1) := by decide +kernel
theorem dX6_lay_16 : decode cX6_lay 16 = .ok (.bipush 6, 2) := by decide +kernel
theorem dX6_lay_18 : decode cX6_lay 18 = .ok (.iconst 0, 1) := by decide +kernel
theorem dX6_lay_19 : decode cX6_lay 19 = .ok (.invokevirtual 93, 3) := by decide +kernel
theorem dX6_lay_22 : decode cX6_lay 22 = .ok (.return_, 1) := by decide +kernel
theorem dX6_take_0 : decode cX6_take 0 = .ok (.aload_n 0, 1) := by decide +kernel
theorem dX6_take_1 : decode cX6_take 1 = .ok (.iconst 0, 1) := by decide +kernel
theorem dX6_take_2 : decode cX6_take 2 = .ok (.putfield 23, 3) := by decide +kernel
theorem dX6_take_5 : decode cX6_take 5 = .ok (.aload_n 0, 1) := by decide +kernel
theorem dX6_take_6 : decode cX6_take 6 = .ok (.iload_n 1, 1) := by decide +kernel
theorem dX6_take_7 : decode cX6_take 7 = .ok (.invokevirtual 97, 3) := by decide +kernel
theorem dX6_take_10 : decode cX6_take 10 = .ok (.ifCond .eq 11, 3) := by decide +kernel
theorem dX6_take_13 : decode cX6_take 13 = .ok (.aload_n 0, 1) := by decide +kernel
theorem dX6_take_14 : decode cX6_take 14 = .ok (.iload_n 2, 1) := by decide +kernel
theorem dX6_take_15 : decode cX6_take 15 = .ok (.invokevirtual 73, 3) := by decide +kernel
theorem dX6_take_18 : decode cX6_take 18 = .ok (.ifCond .ne 9, 3) := by decide +kernel
theorem dX6_take_21 : decode cX6_take 21 = .ok (.aload_n 0, 1) := by decide +kernel
theorem dX6_take_22 : decode cX6_take 22 = .ok (.iconst 1, 1) := by decide +kernel
theorem dX6_take_23 : decode cX6_take 23 = .ok (.invokevirtual 49, 3) := by decide +kernel
theorem dX6_take_26 : decode cX6_take 26 = .ok (.ireturn, 1) := by decide +kernel
theorem dX6_take_27 : decode cX6_take 27 = .ok (.aload_n 0, 1) := by decide +kernel
theorem dX6_take_28 : decode cX6_take 28 = .ok (.iload_n 1, 1) := by decide +kernel
theorem dX6_take_29 : decode cX6_take 29 = .ok (.iconst 1, 1) := by decide +kernel
theorem dX6_take_30 : decode cX6_take 30 = .ok (.invokevirtual 86, 3) := by decide +kernel
theorem dX6_take_33 : decode cX6_take 33 = .ok (.ifCond .gt 29, 3) := by decide +kernel
theorem dX6_take_36 : decode cX6_take 36 = .ok (.aload_n 0, 1) := by decide +kernel
theorem dX6_take_37 : decode cX6_take 37 = .ok (.iload_n 2, 1) := by decide +kernel
theorem dX6_take_38 : decode cX6_take 38 = .ok (.iconst 4, 1) := by decide +kernel
theorem dX6_take_39 : decode cX6_take 39 = .ok (.invokevirtual 76, 3) := by decide +kernel
theorem dX6_take_42 : decode cX6_take 42 = .ok (.aload_n 0, 1) := by decide +kernel
theorem dX6_take_43 : decode cX6_take 43 = .ok (.iload_n 1, 1) := by decide +kernel
theorem dX6_take_44 : decode cX6_take 44 = .ok (.iconst 0, 1) := by decide +kernel
theorem dX6_take_45 : decode cX6_take 45 = .ok (.invokevirtual 86, 3) := by decide +kernel
theorem dX6_take_48 : decode cX6_take 48 = .ok (.if_icmp .ne 14, 3) := by decide +kernel
theorem dX6_take_51 : decode cX6_take 51 = .ok (.aload_n 0, 1) := by decide +kernel
theorem dX6_take_52 : decode cX6_take 52 = .ok (.iload_n 1, 1) := by decide +kernel
theorem dX6_take_53 : decode cX6_take 53 = .ok (.iconst 0, 1) := by decide +kernel
theorem dX6_take_54 : decode cX6_take 54 = .ok (.invokevirtual 100, 3) := by decide +kernel
theorem dX6_take_57 : decode cX6_take 57 = .ok (.bipush 6, 2) := by decide +kernel
theorem dX6_take_59 : decode cX6_take 59 = .ok (.if_icmp .ne 9, 3) := by decide +kernel
theorem dX6_take_62 : decode cX6_take 62 = .ok (.aload_n 0, 1) := by decide +kernel
theorem dX6_take_63 : decode cX6_take 63 = .ok (.iconst 2, 1) := by decide +kernel
theorem dX6_take_64 : decode cX6_take 64 = .ok (.invokevirtual 49, 3) := by decide +kernel
theorem dX6_take_67 : decode cX6_take 67 = .ok (.ireturn, 1) := by decide +kernel
theorem dX6_take_68 : decode cX6_take 68 = .ok (.aload_n 0, 1) := by decide +kernel
theorem dX6_take_69 : decode cX6_take 69 = .ok (.iload_n 2, 1) := by decide +kernel
theorem dX6_take_70 : decode cX6_take 70 = .ok (.iconst (-1), 1) := by decide +kernel
theorem dX6_take_71 : decode cX6_take 71 = .ok (.iload_n 1, 1) := by decide +kernel
theorem dX6_take_72 : decode cX6_take 72 = .ok (.invokevirtual 104, 3) := by decide +kernel
theorem dX6_take_75 : decode cX6_take 75 = .ok (.aload_n 0, 1) := by decide +kernel
theorem dX6_take_76 : decode cX6_take 76 = .ok (.iload_n 1, 1) := by decide +kernel
theorem dX6_take_77 : decode cX6_take 77 = .ok (.iconst 0, 1) := by decide +kernel
theorem dX6_take_78 : decode cX6_take 78 = .ok (.invokevirtual 100, 3) := by decide +kernel
theorem dX6_take_81 : decode cX6_take 81 = .ok (.ireturn, 1) := by decide +kernel
theorem dX6_has_0 : decode cX6_has 0 = .ok (.aload_n 0, 1) := by decide +kernel
theorem dX6_has_1 : decode cX6_has 1 = .ok (.iload_n 2, 1) := by decide +kernel
theorem dX6_has_2 : decode cX6_has 2 = .ok (.iconst 5, 1) := by decide +kernel
theorem dX6_has_3 : decode cX6_has 3 = .ok (.invokevirtual 76, 3) := by decide +kernel
theorem dX6_has_6 : decode cX6_has 6 = .ok (.iload_n 1, 1) := by decide +kernel
theorem dX6_has_7 : decode cX6_has 7 = .ok (.if_icmp .ne 7, 3) := by decide +kernel
theorem dX6_has_10 : decode cX6_has 10 = .ok (.iconst 1, 1) := by decide +kernel
theorem dX6_has_11 : decode cX6_has 11 = .ok (.goto 4, 3) := by decide +kernel
theorem dX6_has_14 : decode cX6_has 14 = .ok (.iconst 0, 1) := by decide +kernel
theorem dX6_has_15 : decode cX6_has 15 = .ok (.ireturn, 1) := by decide +kernel
theorem dX6_leave_0 : decode cX6_leave 0 = .ok (.aload_n 0, 1) := by decide +kernel
theorem dX6_leave_1 : decode cX6_leave 1 = .ok (.iconst 0, 1) := by decide +kernel
theorem dX6_leave_2 : decode cX6_leave 2 = .ok (.putfield 23, 3) := by decide +kernel
theorem dX6_leave_5 : decode cX6_leave 5 = .ok (.aload_n 0, 1) := by decide +kernel
theorem dX6_leave_6 : decode cX6_leave 6 = .ok (.iload_n 1, 1) := by decide +kernel
theorem dX6_leave_7 : decode cX6_leave 7 = .ok (.invokevirtual 97, 3) := by decide +kernel
theorem dX6_leave_10 : decode cX6_leave 10 = .ok (.ifCond .eq 11, 3) := by decide +kernel
theorem dX6_leave_13 : decode cX6_leave 13 = .ok (.aload_n 0, 1) := by decide +kernel
theorem dX6_leave_14 : decode cX6_leave 14 = .ok (.iload_n 2, 1) := by decide +kernel
theorem dX6_leave_15 : decode cX6_leave 15 = .ok (.invokevirtual 73, 3) := by decide +kernel
theorem dX6_leave_18 : decode cX6_leave 18 = .ok (.ifCond .ne 9, 3) := by decide +kernel
theorem dX6_leave_21 : decode cX6_leave 21 = .ok (.aload_n 0, 1) := by decide +kernel
theorem dX6_leave_22 : decode cX6_leave 22 = .ok (.iconst 1, 1) := by decide +kernel
theorem dX6_leave_23 : decode cX6_leave 23 = .ok (.invokevirtual 49, 3) := by decide +kernel
theorem dX6_leave_26 : decode cX6_leave 26 = .ok (.ireturn, 1) := by decide +kernel
theorem dX6_leave_27 : decode cX6_leave 27 = .ok (.aload_n 0, 1) := by decide +kernel
theorem dX6_leave_28 : decode cX6_leave 28 = .ok (.iload_n 1, 1) := by decide +kernel
theorem dX6_leave_29 : decode cX6_leave 29 = .ok (.iconst 1, 1) := by decide +kernel
theorem dX6_leave_30 : decode cX6_leave 30 = .ok (.invokevirtual 86, 3) := by decide +kernel
theorem dX6_leave_33 : decode cX6_leave 33 = .ok (.ifCond .gt 12, 3) := by decide +kernel
theorem dX6_leave_36 : decode cX6_leave 36 = .ok (.aload_n 0, 1) := by decide +kernel
theorem dX6_leave_37 : decode cX6_leave 37 = .ok (.iload_n 1, 1) := by decide +kernel
theorem dX6_leave_38 : decode cX6_leave 38 = .ok (.iload_n 2, 1) := by decide +kernel
theorem dX6_leave_39 : decode cX6_leave 39 = .ok (.invokevirtual 107, 3) := by decide +kernel
theorem dX6_leave_42 : decode cX6_leave 42 = .ok (.ifCond .ne 9, 3) := by decide +kernel
theorem dX6_leave_45 : decode cX6_leave 45 = .ok (.aload_n 0, 1) := by decide +kernel
theorem dX6_leave_46 : decode cX6_leave 46 = .ok (.iconst 2, 1) := by decide +kernel
theorem dX6_leave_47 : decode cX6_leave 47 = .ok (.invokevirtual 49, 3) := by decide +kernel
theorem dX6_leave_50 : decode cX6_leave 50 = .ok (.ireturn, 1) := by decide +kernel
theorem dX6_leave_51 : decode cX6_leave 51 = .ok (.aload_n 0, 1) := by decide +kernel
theorem dX6_leave_52 : decode cX6_leave 52 = .ok (.iload_n 2, 1) := by decide +kernel
theorem dX6_leave_53 : decode cX6_leave 53 = .ok (.aload_n 0, 1) := by decide +kernel
theorem dX6_leave_54 : decode cX6_leave 54 = .ok (.iload_n 1, 1) := by decide +kernel
theorem dX6_leave_55 : decode cX6_leave 55 = .ok (.iconst 0, 1) := by decide +kernel
theorem dX6_leave_56 : decode cX6_leave 56 = .ok (.invokevirtual 86, 3) := by decide +kernel
theorem dX6_leave_59 : decode cX6_leave 59 = .ok (.iconst (-1), 1) := by decide +kernel
theorem dX6_leave_60 : decode cX6_leave 60 = .ok (.invokevirtual 104, 3) := by decide +kernel
theorem dX6_leave_63 : decode cX6_leave 63 = .ok (.aload_n 0, 1) := by decide +kernel
theorem dX6_leave_64 : decode cX6_leave 64 = .ok (.iload_n 1, 1) := by decide +kernel
theorem dX6_leave_65 : decode cX6_leave 65 = .ok (.iconst 0, 1) := by decide +kernel
theorem dX6_leave_66 : decode cX6_leave 66 = .ok (.invokevirtual 100, 3) := by decide +kernel
theorem dX6_leave_69 : decode cX6_leave 69 = .ok (.ireturn, 1) := by decide +kernel
theorem dX6_hide_0 : decode cX6_hide 0 = .ok (.aload_n 0, 1) := by decide +kernel
theorem dX6_hide_1 : decode cX6_hide 1 = .ok (.iconst 0, 1) := by decide +kernel
theorem dX6_hide_2 : decode cX6_hide 2 = .ok (.putfield 23, 3) := by decide +kernel
theorem dX6_hide_5 : decode cX6_hide 5 = .ok (.aload_n 0, 1) := by decide +kernel
theorem dX6_hide_6 : decode cX6_hide 6 = .ok (.iload_n 1, 1) := by decide +kernel
theorem dX6_hide_7 : decode cX6_hide 7 = .ok (.invokevirtual 97, 3) := by decide +kernel
theorem dX6_hide_10 : decode cX6_hide 10 = .ok (.ifCond .eq 11, 3) := by decide +kernel
theorem dX6_hide_13 : decode cX6_hide 13 = .ok (.aload_n 0, 1) := by decide +kernel
theorem dX6_hide_14 : decode cX6_hide 14 = .ok (.iload_n 2, 1) := by decide +kernel
theorem dX6_hide_15 : decode cX6_hide 15 = .ok (.invokevirtual 73, 3) := by decide +kernel
theorem dX6_hide_18 : decode cX6_hide 18 = .ok (.ifCond .ne 9, 3) := by decide +kernel
theorem dX6_hide_21 : decode cX6_hide 21 = .ok (.aload_n 0, 1) := by decide +kernel
theorem dX6_hide_22 : decode cX6_hide 22 = .ok (.iconst 1, 1) := by decide +kernel
theorem dX6_hide_23 : decode cX6_hide 23 = .ok (.invokevirtual 49, 3) := by decide +kernel
theorem dX6_hide_26 : decode cX6_hide 26 = .ok (.ireturn, 1) := by decide +kernel
theorem dX6_hide_27 : decode cX6_hide 27 = .ok (.aload_n 0, 1) := by decide +kernel
theorem dX6_hide_28 : decode cX6_hide 28 = .ok (.iload_n 1, 1) := by decide +kernel
theorem dX6_hide_29 : decode cX6_hide 29 = .ok (.iload_n 2, 1) := by decide +kernel
theorem dX6_hide_30 : decode cX6_hide 30 = .ok (.invokevirtual 107, 3) := by decide +kernel
theorem dX6_hide_33 : decode cX6_hide 33 = .ok (.ifCond .ne 9, 3) := by decide +kernel
theorem dX6_hide_36 : decode cX6_hide 36 = .ok (.aload_n 0, 1) := by decide +kernel
theorem dX6_hide_37 : decode cX6_hide 37 = .ok (.iconst 2, 1) := by decide +kernel
theorem dX6_hide_38 : decode cX6_hide 38 = .ok (.invokevirtual 49, 3) := by decide +kernel
theorem dX6_hide_41 : decode cX6_hide 41 = .ok (.ireturn, 1) := by decide +kernel
theorem dX6_hide_42 : decode cX6_hide 42 = .ok (.aload_n 0, 1) := by decide +kernel
theorem dX6_hide_43 : decode cX6_hide 43 = .ok (.iload_n 2, 1) := by decide +kernel
theorem dX6_hide_44 : decode cX6_hide 44 = .ok (.bipush 6, 2) := by decide +kernel
theorem dX6_hide_46 : decode cX6_hide 46 = .ok (.iload_n 3, 1) := by decide +kernel
theorem dX6_hide_47 : decode cX6_hide 47 = .ok (.ifCond .eq 7, 3) := by decide +kernel
theorem dX6_hide_50 : decode cX6_hide 50 = .ok (.iconst 1, 1) := by decide +kernel
theorem dX6_hide_51 : decode cX6_hide 51 = .ok (.goto 4, 3) := by decide +kernel
theorem dX6_hide_54 : decode cX6_hide 54 = .ok (.iconst 0, 1) := by decide +kernel
theorem dX6_hide_55 : decode cX6_hide 55 = .ok (.invokevirtual 93, 3) := by decide +kernel
theorem dX6_hide_58 : decode cX6_hide 58 = .ok (.aload_n 0, 1) := by decide +kernel
theorem dX6_hide_59 : decode cX6_hide 59 = .ok (.iload_n 1, 1) := by decide +kernel
theorem dX6_hide_60 : decode cX6_hide 60 = .ok (.iconst 1, 1) := by decide +kernel
theorem dX6_hide_61 : decode cX6_hide 61 = .ok (.invokevirtual 100, 3) := by decide +kernel
theorem dX6_hide_64 : decode cX6_hide 64 = .ok (.ireturn, 1) := by decide +kernel
theorem dX6_tell_0 : decode cX6_tell 0 = .ok (.aload_n 0, 1) := by decide +kernel
theorem dX6_tell_1 : decode cX6_tell 1 = .ok (.iconst 0, 1) := by decide +kernel
theorem dX6_tell_2 : decode cX6_tell 2 = .ok (.putfield 23, 3) := by decide +kernel
theorem dX6_tell_5 : decode cX6_tell 5 = .ok (.aload_n 0, 1) := by decide +kernel
theorem dX6_tell_6 : decode cX6_tell 6 = .ok (.iload_n 1, 1) := by decide +kernel
theorem dX6_tell_7 : decode cX6_tell 7 = .ok (.invokevirtual 97, 3) := by decide +kernel
theorem dX6_tell_10 : decode cX6_tell 10 = .ok (.ifCond .eq 11, 3) := by decide +kernel
theorem dX6_tell_13 : decode cX6_tell 13 = .ok (.aload_n 0, 1) := by decide +kernel
theorem dX6_tell_14 : decode cX6_tell 14 = .ok (.iload_n 2, 1) := by decide +kernel
theorem dX6_tell_15 : decode cX6_tell 15 = .ok (.invokevirtual 73, 3) := by decide +kernel
theorem dX6_tell_18 : decode cX6_tell 18 = .ok (.ifCond .ne 9, 3) := by decide +kernel
theorem dX6_tell_21 : decode cX6_tell 21 = .ok (.aload_n 0, 1) := by decide +kernel
theorem dX6_tell_22 : decode cX6_tell 22 = .ok (.iconst 1, 1) := by decide +kernel
theorem dX6_tell_23 : decode cX6_tell 23 = .ok (.invokevirtual 49, 3) := by decide +kernel
theorem dX6_tell_26 : decode cX6_tell 26 = .ok (.ireturn, 1) := by decide +kernel
theorem dX6_tell_27 : decode cX6_tell 27 = .ok (.aload_n 0, 1) := by decide +kernel
theorem dX6_tell_28 : decode cX6_tell 28 = .ok (.iload_n 1, 1) := by decide +kernel
theorem dX6_tell_29 : decode cX6_tell 29 = .ok (.iconst 1, 1) := by decide +kernel
theorem dX6_tell_30 : decode cX6_tell 30 = .ok (.invokevirtual 86, 3) := by decide +kernel
theorem dX6_tell_33 : decode cX6_tell 33 = .ok (.ifCond .gt 12, 3) := by decide +kernel
theorem dX6_tell_36 : decode cX6_tell 36 = .ok (.aload_n 0, 1) := by decide +kernel
theorem dX6_tell_37 : decode cX6_tell 37 = .ok (.iload_n 1, 1) := by decide +kernel
theorem dX6_tell_38 : decode cX6_tell 38 = .ok (.iload_n 2, 1) := by decide +kernel
theorem dX6_tell_39 : decode cX6_tell 39 = .ok (.invokevirtual 107, 3) := by decide +kernel
theorem dX6_tell_42 : decode cX6_tell 42 = .ok (.ifCond .ne 9, 3) := by decide +kernel
theorem dX6_tell_45 : decode cX6_tell 45 = .ok (.aload_n 0, 1) := by decide +kernel
theorem dX6_tell_46 : decode cX6_tell 46 = .ok (.iconst 2, 1) := by decide +kernel
theorem dX6_tell_47 : decode cX6_tell 47 = .ok (.invokevirtual 49, 3) := by decide +kernel
theorem dX6_tell_50 : decode cX6_tell 50 = .ok (.ireturn, 1) := by decide +kernel
theorem dX6_tell_51 : decode cX6_tell 51 = .ok (.aload_n 0, 1) := by decide +kernel
theorem dX6_tell_52 : decode cX6_tell 52 = .ok (.iload_n 2, 1) := by decide +kernel
theorem dX6_tell_53 : decode cX6_tell 53 = .ok (.iconst 1, 1) := by decide +kernel
theorem dX6_tell_54 : decode cX6_tell 54 = .ok (.invokevirtual 76, 3) := by decide +kernel
theorem dX6_tell_57 : decode cX6_tell 57 = .ok (.iconst 1, 1) := by decide +kernel
theorem dX6_tell_58 : decode cX6_tell 58 = .ok (.iadd, 1) := by decide +kernel
theorem dX6_tell_59 : decode cX6_tell 59 = .ok (.istore_n 3, 1) := by decide +kernel
theorem dX6_tell_60 : decode cX6_tell 60 = .ok (.aload_n 0, 1) := by decide +kernel
theorem dX6_tell_61 : decode cX6_tell 61 = .ok (.aload_n 0, 1) := by decide +kernel
theorem dX6_tell_62 : decode cX6_tell 62 = .ok (.iload_n 1, 1) := by decide +kernel
theorem dX6_tell_63 : decode cX6_tell 63 = .ok (.iconst 0, 1) := by decide +kernel
theorem dX6_tell_64 : decode cX6_tell 64 = .ok (.invokevirtual 86, 3) := by decide +kernel
theorem dX6_tell_67 : decode cX6_tell 67 = .ok (.aload_n 0, 1) := by decide +kernel
theorem dX6_tell_68 : decode cX6_tell 68 = .ok (.iload_n 2, 1) := by decide +kernel
theorem dX6_tell_69 : decode cX6_tell 69 = .ok (.iconst 3, 1) := by decide +kernel
theorem dX6_tell_70 : decode cX6_tell 70 = .ok (.invokevirtual 76, 3) := by decide +kernel
theorem dX6_tell_73 : decode cX6_tell 73 = .ok (.invokevirtual 79, 3) := by decide +kernel
theorem dX6_tell_76 : decode cX6_tell 76 = .ok (.istore 4, 2) := by decide +kernel
theorem dX6_tell_78 : decode cX6_tell 78 = .ok (.iload 4, 2) := by decide +kernel
theorem dX6_tell_80 : decode cX6_tell 80 = .ok (.iconst (-1), 1) := by decide +kernel
theorem dX6_tell_81 : decode cX6_tell 81 = .ok (.if_icmp .eq 16, 3) := by decide +kernel
theorem dX6_tell_84 : decode cX6_tell 84 = .ok (.aload_n 0, 1) := by decide +kernel
theorem dX6_tell_85 : decode cX6_tell 85 = .ok (.iload 4, 2) := by decide +kernel
theorem dX6_tell_87 : decode cX6_tell 87 = .ok (.iconst 1, 1) := by decide +kernel
theorem dX6_tell_88 : decode cX6_tell 88 = .ok (.invokevirtual 76, 3) := by decide +kernel
theorem dX6_tell_91 : decode cX6_tell 91 = .ok (.iload_n 3, 1) := by decide +kernel
theorem dX6_tell_92 : decode cX6_tell 92 = .ok (.if_icmp .gt 5, 3) := by decide +kernel
theorem dX6_tell_95 : decode cX6_tell 95 = .ok (.iconst (-1), 1) := by decide +kernel
theorem dX6_tell_96 : decode cX6_tell 96 = .ok (.ireturn, 1) := by decide +kernel
theorem dX6_tell_97 : decode cX6_tell 97 = .ok (.aload_n 0, 1) := by decide +kernel
theorem dX6_tell_98 : decode cX6_tell 98 = .ok (.getfield 34, 3) := by decide +kernel
theorem dX6_tell_101 : decode cX6_tell 101 = .ok (.bipush 60, 2) := by decide +kernel
theorem dX6_tell_103 : decode cX6_tell 103 = .ok (.if_icmp .eq 9, 3) := by decide +kernel
theorem dX6_tell_106 : decode cX6_tell 106 = .ok (.iload_n 3, 1) := by decide +kernel
theorem dX6_tell_107 : decode cX6_tell 107 = .ok (.bipush 100, 2) := by decide +kernel
theorem dX6_tell_109 : decode cX6_tell 109 = .ok (.if_icmp .ne 9, 3) := by decide +kernel
theorem dX6_tell_112 : decode cX6_tell 112 = .ok (.aload_n 0, 1) := by decide +kernel
theorem dX6_tell_113 : decode cX6_tell 113 = .ok (.iconst 2, 1) := by decide +kernel
theorem dX6_tell_114 : decode cX6_tell 114 = .ok (.invokevirtual 49, 3) := by decide +kernel
theorem dX6_tell_117 : decode cX6_tell 117 = .ok (.ireturn, 1) := by decide +kernel
theorem dX6_tell_118 : decode cX6_tell 118 = .ok (.aload_n 0, 1) := by decide +kernel
theorem dX6_tell_119 : decode cX6_tell 119 = .ok (.aload_n 0, 1) := by decide +kernel
theorem dX6_tell_120 : decode cX6_tell 120 = .ok (.iload_n 2, 1) := by decide +kernel
theorem dX6_tell_121 : decode cX6_tell 121 = .ok (.iconst 0, 1) := by decide +kernel
theorem dX6_tell_122 : decode cX6_tell 122 = .ok (.invokevirtual 76, 3) := by decide +kernel
theorem dX6_tell_125 : decode cX6_tell 125 = .ok (.iload_n 3, 1) := by decide +kernel
theorem dX6_tell_126 : decode cX6_tell 126 = .ok (.aload_n 0, 1) := by decide +kernel
theorem dX6_tell_127 : decode cX6_tell 127 = .ok (.iload_n 2, 1) := by decide +kernel
theorem dX6_tell_128 : decode cX6_tell 128 = .ok (.iconst 2, 1) := by decide +kernel
theorem dX6_tell_129 : decode cX6_tell 129 = .ok (.invokevirtual 76, 3) := by decide +kernel
theorem dX6_tell_132 : decode cX6_tell 132 = .ok (.aload_n 0, 1) := by decide +kernel
theorem dX6_tell_133 : decode cX6_tell 133 = .ok (.iload_n 2, 1) := by decide +kernel
theorem dX6_tell_134 : decode cX6_tell 134 = .ok (.iconst 3, 1) := by decide +kernel
theorem dX6_tell_135 : decode cX6_tell 135 = .ok (.invokevirtual 76, 3) := by decide +kernel
theorem dX6_tell_138 : decode cX6_tell 138 = .ok (.aload_n 0, 1) := by decide +kernel
theorem dX6_tell_139 : decode cX6_tell 139 = .ok (.iload_n 1, 1) := by decide +kernel
theorem dX6_tell_140 : decode cX6_tell 140 = .ok (.iconst 0, 1) := by decide +kernel
theorem dX6_tell_141 : decode cX6_tell 141 = .ok (.invokevirtual 86, 3) := by decide +kernel
theorem dX6_tell_144 : decode cX6_tell 144 = .ok (.invokevirtual 69, 3) := by decide +kernel
theorem dX6_tell_147 : decode cX6_tell 147 = .ok (.ireturn, 1) := by decide +kernel
theorem dX6_dutyAt_0 : decode cX6_dutyAt 0 = .ok (.aload_n 0, 1) := by decide +kernel
theorem dX6_dutyAt_1 : decode cX6_dutyAt 1 = .ok (.getfield 9, 3) := by decide +kernel
theorem dX6_dutyAt_4 : decode cX6_dutyAt 4 = .ok (.iload_n 1, 1) := by decide +kernel
theorem dX6_dutyAt_5 : decode cX6_dutyAt 5 = .ok (.iconst 2, 1) := by decide +kernel
theorem dX6_dutyAt_6 : decode cX6_dutyAt 6 = .ok (.iadd, 1) := by decide +kernel
theorem dX6_dutyAt_7 : decode cX6_dutyAt 7 = .ok (.iaload, 1) := by decide +kernel
theorem dX6_dutyAt_8 : decode cX6_dutyAt 8 = .ok (.aload_n 0, 1) := by decide +kernel
theorem dX6_dutyAt_9 : decode cX6_dutyAt 9 = .ok (.iload_n 2, 1) := by decide +kernel
theorem dX6_dutyAt_10 : decode cX6_dutyAt 10 = .ok (.iconst 0, 1) := by decide +kernel
theorem dX6_dutyAt_11 : decode cX6_dutyAt 11 = .ok (.invokevirtual 76, 3) := by decide +kernel
theorem dX6_dutyAt_14 : decode cX6_dutyAt 14 = .ok (.imul, 1) := by decide +kernel
theorem dX6_dutyAt_15 : decode cX6_dutyAt 15 = .ok (.aload_n 0, 1) := by decide +kernel
theorem dX6_dutyAt_16 : decode cX6_dutyAt 16 = .ok (.getfield 9, 3) := by decide +kernel
theorem dX6_dutyAt_19 : decode cX6_dutyAt 19 = .ok (.iload_n 1, 1) := by decide +kernel
theorem dX6_dutyAt_20 : decode cX6_dutyAt 20 = .ok (.iconst 3, 1) := by decide +kernel
theorem dX6_dutyAt_21 : decode cX6_dutyAt 21 = .ok (.iadd, 1) := by decide +kernel
theorem dX6_dutyAt_22 : decode cX6_dutyAt 22 = .ok (.iaload, 1) := by decide +kernel
theorem dX6_dutyAt_23 : decode cX6_dutyAt 23 = .ok (.aload_n 0, 1) := by decide +kernel
theorem dX6_dutyAt_24 : decode cX6_dutyAt 24 = .ok (.iload_n 2, 1) := by decide +kernel
theorem dX6_dutyAt_25 : decode cX6_dutyAt 25 = .ok (.iconst 1, 1) := by decide +kernel
theorem dX6_dutyAt_26 : decode cX6_dutyAt 26 = .ok (.invokevirtual 76, 3) := by decide +kernel
theorem dX6_dutyAt_29 : decode cX6_dutyAt 29 = .ok (.imul, 1) := by decide +kernel
theorem dX6_dutyAt_30 : decode cX6_dutyAt 30 = .ok (.iadd, 1) := by decide +kernel
theorem dX6_dutyAt_31 : decode cX6_dutyAt 31 = .ok (.iload_n 3, 1) := by decide +kernel
theorem dX6_dutyAt_32 : decode cX6_dutyAt 32 = .ok (.ishr, 1) := by decide +kernel
theorem dX6_dutyAt_33 : decode cX6_dutyAt 33 = .ok (.ireturn, 1) := by decide +kernel
theorem dX6_owed_0 : decode cX6_owed 0 = .ok (.iconst 0, 1) := by decide +kernel
theorem dX6_owed_1 : decode cX6_owed 1 = .ok (.istore 4, 2) := by decide +kernel
theorem dX6_owed_3 : decode cX6_owed 3 = .ok (.iconst 0, 1) := by decide +kernel
theorem dX6_owed_4 : decode cX6_owed 4 = .ok (.istore 5, 2) := by decide +kernel
theorem dX6_owed_6 : decode cX6_owed 6 = .ok (.iload 5, 2) := by decide +kernel
theorem dX6_owed_8 : decode cX6_owed 8 = .ok (.aload_n 0, 1) := by decide +kernel
theorem dX6_owed_9 : decode cX6_owed 9 = .ok (.getfield 34, 3) := by decide +kernel
theorem dX6_owed_12 : decode cX6_owed 12 = .ok (.if_icmp .ge 53, 3) := by decide +kernel
theorem dX6_owed_15 : decode cX6_owed 15 = .ok (.aload_n 0, 1) := by decide +kernel
theorem dX6_owed_16 : decode cX6_owed 16 = .ok (.iload_n 1, 1) := by decide +kernel
theorem dX6_owed_17 : decode cX6_owed 17 = .ok (.iload 5, 2) := by decide +kernel
theorem dX6_owed_19 : decode cX6_owed 19 = .ok (.invokevirtual 107, 3) := by decide +kernel
theorem dX6_owed_22 : decode cX6_owed 22 = .ok (.ifCond .eq 37, 3) := by decide +kernel
theorem dX6_owed_25 : decode cX6_owed 25 = .ok (.aload_n 0, 1) := by decide +kernel
theorem dX6_owed_26 : decode cX6_owed 26 = .ok (.iload 5, 2) := by decide +kernel
theorem dX6_owed_28 : decode cX6_owed 28 = .ok (.bipush 6, 2) := by decide +kernel
theorem dX6_owed_30 : decode cX6_owed 30 = .ok (.invokevirtual 76, 3) := by decide +kernel
theorem dX6_owed_33 : decode cX6_owed 33 = .ok (.ifCond .ne 26, 3) := by decide +kernel
theorem dX6_owed_36 : decode cX6_owed 36 = .ok (.iload 4, 2) := by decide +kernel
theorem dX6_owed_38 : decode cX6_owed 38 = .ok (.aload_n 0, 1) := by decide +kernel
theorem dX6_owed_39 : decode cX6_owed 39 = .ok (.iload_n 2, 1) := by decide +kernel
theorem dX6_owed_40 : decode cX6_owed 40 = .ok (.iload 5, 2) := by decide +kernel
theorem dX6_owed_42 : decode cX6_owed 42 = .ok (.iload_n 3, 1) := by decide +kernel
theorem dX6_owed_43 : decode cX6_owed 43 = .ok (.aload_n 0, 1) := by decide +kernel
theorem dX6_owed_44 : decode cX6_owed 44 = .ok (.iload 5, 2) := by decide +kernel
theorem dX6_owed_46 : decode cX6_owed 46 = .ok (.iconst 2, 1) := by decide +kernel
theorem dX6_owed_47 : decode cX6_owed 47 = .ok (.invokevirtual 76, 3) := by decide +kernel
theorem dX6_owed_50 : decode cX6_owed 50 = .ok (.invokestatic 40, 3) := by decide +kernel
theorem dX6_owed_53 : decode cX6_owed 53 = .ok (.invokevirtual 110, 3) := by decide +kernel
theorem dX6_owed_56 : decode cX6_owed 56 = .ok (.iadd, 1) := by decide +kernel
theorem dX6_owed_57 : decode cX6_owed 57 = .ok (.istore 4, 2) := by decide +kernel
theorem dX6_owed_59 : decode cX6_owed 59 = .ok (.iinc 5 1, 3) := by decide +kernel
theorem dX6_owed_62 : decode cX6_owed 62 = .ok (.goto (-56), 3) := by decide +kernel
theorem dX6_owed_65 : decode cX6_owed 65 = .ok (.iload 4, 2) := by decide +kernel
theorem dX6_owed_67 : decode cX6_owed 67 = .ok (.ireturn, 1) := by decide +kernel
theorem dX6_isSearched_0 : decode cX6_isSearched 0 = .ok (.aload_n 0, 1) := by decide +kernel
theorem dX6_isSearched_1 : decode cX6_isSearched 1 = .ok (.getfield 9, 3) := by decide +kernel
theorem dX6_isSearched_4 : decode cX6_isSearched 4 = .ok (.iload_n 2, 1) := by decide +kernel
theorem dX6_isSearched_5 : decode cX6_isSearched 5 = .ok (.iconst 5, 1) := by decide +kernel
theorem dX6_isSearched_6 : decode cX6_isSearched 6 = .ok (.iadd, 1) := by decide +kernel
theorem dX6_isSearched_7 : decode cX6_isSearched 7 = .ok (.iaload, 1) := by decide +kernel
theorem dX6_isSearched_8 : decode cX6_isSearched 8 = .ok (.aload_n 0, 1) := by decide +kernel
theorem dX6_isSearched_9 : decode cX6_isSearched 9 = .ok (.getfield 9, 3) := by decide +kernel
theorem dX6_isSearched_12 : decode cX6_isSearched 12 = .ok (.iload_n 2, 1) := by decide +kernel
theorem dX6_isSearched_13 : decode cX6_isSearched 13 = .ok (.iconst 4, 1) := by decide +kernel
theorem dX6_isSearched_14 : decode cX6_isSearched 14 = .ok (.iadd, 1) := by decide +kernel
theorem dX6_isSearched_15 : decode cX6_isSearched 15 = .ok (.iaload, 1) := by decide +kernel
theorem dX6_isSearched_16 : decode cX6_isSearched 16 = .ok (.iadd, 1) := by decide +kernel
theorem dX6_isSearched_17 : decode cX6_isSearched 17 = .ok (.aload_n 0, 1) := by decide +kernel
theorem dX6_isSearched_18 : decode cX6_isSearched 18 = .ok (.iload_n 1, 1) := by decide +kernel
theorem dX6_isSearched_19 : decode cX6_isSearched 19 = .ok (.iconst 1, 1) := by decide +kernel
theorem dX6_isSearched_20 : decode cX6_isSearched 20 = .ok (.invokevirtual 100, 3) := by decide +kernel
theorem dX6_isSearched_23 : decode cX6_isSearched 23 = .ok (.iadd, 1) := by decide +kernel
theorem dX6_isSearched_24 : decode cX6_isSearched 24 = .ok (.bipush 10, 2) := by decide +kernel
theorem dX6_isSearched_26 : decode cX6_isSearched 26 = .ok (.if_icmp .lt 7, 3) := by decide +kernel
theorem dX6_isSearched_29 : decode cX6_isSearched 29 = .ok (.iconst 1, 1) := by decide +kernel
theorem dX6_isSearched_30 : decode cX6_isSearched 30 = .ok (.goto 4, 3) := by decide +kernel
theorem dX6_isSearched_33 : decode cX6_isSearched 33 = .ok (.iconst 0, 1) := by decide +kernel
theorem dX6_isSearched_34 : decode cX6_isSearched 34 = .ok (.ireturn, 1) := by decide +kernel
theorem dX6_fine_0 : decode cX6_fine 0 = .ok (.iconst 0, 1) := by decide +kernel
theorem dX6_fine_1 : decode cX6_fine 1 = .ok (.istore 4, 2) := by decide +kernel
theorem dX6_fine_3 : decode cX6_fine 3 = .ok (.iconst 0, 1) := by decide +kernel
theorem dX6_fine_4 : decode cX6_fine 4 = .ok (.istore 5, 2) := by decide +kernel
theorem dX6_fine_6 : decode cX6_fine 6 = .ok (.iload 5, 2) := by decide +kernel
theorem dX6_fine_8 : decode cX6_fine 8 = .ok (.aload_n 0, 1) := by decide +kernel
theorem dX6_fine_9 : decode cX6_fine 9 = .ok (.getfield 34, 3) := by decide +kernel
theorem dX6_fine_12 : decode cX6_fine 12 = .ok (.if_icmp .ge 46, 3) := by decide +kernel
theorem dX6_fine_15 : decode cX6_fine 15 = .ok (.aload_n 0, 1) := by decide +kernel
theorem dX6_fine_16 : decode cX6_fine 16 = .ok (.iload_n 1, 1) := by decide +kernel
theorem dX6_fine_17 : decode cX6_fine 17 = .ok (.iload 5, 2) := by decide +kernel
theorem dX6_fine_19 : decode cX6_fine 19 = .ok (.invokevirtual 107, 3) := by decide +kernel
theorem dX6_fine_22 : decode cX6_fine 22 = .ok (.ifCond .eq 30, 3) := by decide +kernel
theorem dX6_fine_25 : decode cX6_fine 25 = .ok (.aload_n 0, 1) := by decide +kernel
theorem dX6_fine_26 : decode cX6_fine 26 = .ok (.iload 5, 2) := by decide +kernel
theorem dX6_fine_28 : decode cX6_fine 28 = .ok (.bipush 6, 2) := by decide +kernel
theorem dX6_fine_30 : decode cX6_fine 30 = .ok (.invokevirtual 76, 3) := by decide +kernel
theorem dX6_fine_33 : decode cX6_fine 33 = .ok (.iconst 1, 1) := by decide +kernel
theorem dX6_fine_34 : decode cX6_fine 34 = .ok (.if_icmp .ne 18, 3) := by decide +kernel
theorem dX6_fine_37 : decode cX6_fine 37 = .ok (.iload 4, 2) := by decide +kernel
theorem dX6_fine_39 : decode cX6_fine 39 = .ok (.iconst 3, 1) := by decide +kernel
theorem dX6_fine_40 : decode cX6_fine 40 = .ok (.aload_n 0, 1) := by decide +kernel
theorem dX6_fine_41 : decode cX6_fine 41 = .ok (.iload_n 2, 1) := by decide +kernel
theorem dX6_fine_42 : decode cX6_fine 42 = .ok (.iload 5, 2) := by decide +kernel
theorem dX6_fine_44 : decode cX6_fine 44 = .ok (.iconst 0, 1) := by decide +kernel
theorem dX6_fine_45 : decode cX6_fine 45 = .ok (.invokevirtual 110, 3) := by decide +kernel
theorem dX6_fine_48 : decode cX6_fine 48 = .ok (.imul, 1) := by decide +kernel
theorem dX6_fine_49 : decode cX6_fine 49 = .ok (.iadd, 1) := by decide +kernel
theorem dX6_fine_50 : decode cX6_fine 50 = .ok (.istore 4, 2) := by decide +kernel
theorem dX6_fine_52 : decode cX6_fine 52 = .ok (.iinc 5 1, 3) := by decide +kernel
theorem dX6_fine_55 : decode cX6_fine 55 = .ok (.goto (-49), 3) := by decide +kernel
theorem dX6_fine_58 : decode cX6_fine 58 = .ok (.aload_n 0, 1) := by decide +kernel
theorem dX6_fine_59 : decode cX6_fine 59 = .ok (.iload_n 1, 1) := by decide +kernel
theorem dX6_fine_60 : decode cX6_fine 60 = .ok (.iload_n 2, 1) := by decide +kernel
theorem dX6_fine_61 : decode cX6_fine 61 = .ok (.invokevirtual 114, 3) := by decide +kernel
theorem dX6_fine_64 : decode cX6_fine 64 = .ok (.ifCond .eq 16, 3) := by decide +kernel
theorem dX6_fine_67 : decode cX6_fine 67 = .ok (.iconst 0, 1) := by decide +kernel
theorem dX6_fine_68 : decode cX6_fine 68 = .ok (.iload_n 3, 1) := by decide +kernel
theorem dX6_fine_69 : decode cX6_fine 69 = .ok (.invokestatic 46, 3) := by decide +kernel
theorem dX6_fine_72 : decode cX6_fine 72 = .ok (.iload 4, 2) := by decide +kernel
theorem dX6_fine_74 : decode cX6_fine 74 = .ok (.invokestatic 40, 3) := by decide +kernel
theorem dX6_fine_77 : decode cX6_fine 77 = .ok (.goto 4, 3) := by decide +kernel
theorem dX6_fine_80 : decode cX6_fine 80 = .ok (.iconst 0, 1) := by decide +kernel
theorem dX6_fine_81 : decode cX6_fine 81 = .ok (.ireturn, 1) := by decide +kernel
theorem dX6_go_0 : decode cX6_go 0 = .ok (.aload_n 0, 1) := by decide +kernel
theorem dX6_go_1 : decode cX6_go 1 = .ok (.iconst 0, 1) := by decide +kernel
theorem dX6_go_2 : decode cX6_go 2 = .ok (.putfield 23, 3) := by decide +kernel
theorem dX6_go_5 : decode cX6_go 5 = .ok (.aload_n 0, 1) := by decide +kernel
theorem dX6_go_6 : decode cX6_go 6 = .ok (.iload_n 1, 1) := by decide +kernel
theorem dX6_go_7 : decode cX6_go 7 = .ok (.invokevirtual 97, 3) := by decide +kernel
theorem dX6_go_10 : decode cX6_go 10 = .ok (.ifCond .eq 11, 3) := by decide +kernel
theorem dX6_go_13 : decode cX6_go 13 = .ok (.aload_n 0, 1) := by decide +kernel
theorem dX6_go_14 : decode cX6_go 14 = .ok (.iload_n 2, 1) := by decide +kernel
theorem dX6_go_15 : decode cX6_go 15 = .ok (.invokevirtual 53, 3) := by decide +kernel
theorem dX6_go_18 : decode cX6_go 18 = .ok (.ifCond .ne 9, 3) := by decide +kernel
theorem dX6_go_21 : decode cX6_go 21 = .ok (.aload_n 0, 1) := by decide +kernel
theorem dX6_go_22 : decode cX6_go 22 = .ok (.iconst 1, 1) := by decide +kernel
theorem dX6_go_23 : decode cX6_go 23 = .ok (.invokevirtual 49, 3) := by decide +kernel
theorem dX6_go_26 : decode cX6_go 26 = .ok (.ireturn, 1) := by decide +kernel
theorem dX6_go_27 : decode cX6_go 27 = .ok (.iload_n 3, 1) := by decide +kernel
theorem dX6_go_28 : decode cX6_go 28 = .ok (.iconst 0, 1) := by decide +kernel
theorem dX6_go_29 : decode cX6_go 29 = .ok (.iconst 5, 1) := by decide +kernel
theorem dX6_go_30 : decode cX6_go 30 = .ok (.invokestatic 30, 3) := by decide +kernel
theorem dX6_go_33 : decode cX6_go 33 = .ok (.ifCond .ne 9, 3) := by decide +kernel
theorem dX6_go_36 : decode cX6_go 36 = .ok (.aload_n 0, 1) := by decide +kernel
theorem dX6_go_37 : decode cX6_go 37 = .ok (.iconst 2, 1) := by decide +kernel
theorem dX6_go_38 : decode cX6_go 38 = .ok (.invokevirtual 49, 3) := by decide +kernel
theorem dX6_go_41 : decode cX6_go 41 = .ok (.ireturn, 1) := by decide +kernel
theorem dX6_go_42 : decode cX6_go 42 = .ok (.aload_n 0, 1) := by decide +kernel
theorem dX6_go_43 : decode cX6_go 43 = .ok (.iload_n 1, 1) := by decide +kernel
theorem dX6_go_44 : decode cX6_go 44 = .ok (.iconst 0, 1) := by decide +kernel
theorem dX6_go_45 : decode cX6_go 45 = .ok (.invokevirtual 86, 3) := by decide +kernel
theorem dX6_go_48 : decode cX6_go 48 = .ok (.iload_n 2, 1) := by decide +kernel
theorem dX6_go_49 : decode cX6_go 49 = .ok (.invokestatic 57, 3) := by decide +kernel
theorem dX6_go_52 : decode cX6_go 52 = .ok (.istore 4, 2) := by decide +kernel
theorem dX6_go_54 : decode cX6_go 54 = .ok (.aload_n 0, 1) := by decide +kernel
theorem dX6_go_55 : decode cX6_go 55 = .ok (.iload_n 1, 1) := by decide +kernel
theorem dX6_go_56 : decode cX6_go 56 = .ok (.iconst 1, 1) := by decide +kernel
theorem dX6_go_57 : decode cX6_go 57 = .ok (.invokevirtual 86, 3) := by decide +kernel
theorem dX6_go_60 : decode cX6_go 60 = .ok (.ifCond .gt 23, 3) := by decide +kernel
theorem dX6_go_63 : decode cX6_go 63 = .ok (.aload_n 0, 1) := by decide +kernel
theorem dX6_go_64 : decode cX6_go 64 = .ok (.iload_n 1, 1) := by decide +kernel
theorem dX6_go_65 : decode cX6_go 65 = .ok (.iconst 0, 1) := by decide +kernel
theorem dX6_go_66 : decode cX6_go 66 = .ok (.invokevirtual 86, 3) := by decide +kernel
theorem dX6_go_69 : decode cX6_go 69 = .ok (.iload_n 2, 1) := by decide +kernel
theorem dX6_go_70 : decode cX6_go 70 = .ok (.if_icmp .eq 13, 3) := by decide +kernel
theorem dX6_go_73 : decode cX6_go 73 = .ok (.aload_n 0, 1) := by decide +kernel
theorem dX6_go_74 : decode cX6_go 74 = .ok (.getfield 9, 3) := by decide +kernel
theorem dX6_go_77 : decode cX6_go 77 = .ok (.iload 4, 2) := by decide +kernel
theorem dX6_go_79 : decode cX6_go 79 = .ok (.iaload, 1) := by decide +kernel
theorem dX6_go_80 : decode cX6_go 80 = .ok (.ifCond .ne 9, 3) := by decide +kernel
theorem dX6_go_83 : decode cX6_go 83 = .ok (.aload_n 0, 1) := by decide +kernel
theorem dX6_go_84 : decode cX6_go 84 = .ok (.iconst 3, 1) := by decide +kernel
theorem dX6_go_85 : decode cX6_go 85 = .ok (.invokevirtual 49, 3) := by decide +kernel
theorem dX6_go_88 : decode cX6_go 88 = .ok (.ireturn, 1) := by decide +kernel
theorem dX6_go_89 : decode cX6_go 89 = .ok (.aload_n 0, 1) := by decide +kernel
theorem dX6_go_90 : decode cX6_go 90 = .ok (.iload_n 1, 1) := by decide +kernel
theorem dX6_go_91 : decode cX6_go 91 = .ok (.iload 4, 2) := by decide +kernel
theorem dX6_go_93 : decode cX6_go 93 = .ok (.iload_n 3, 1) := by decide +kernel
theorem dX6_go_94 : decode cX6_go 94 = .ok (.invokevirtual 117, 3) := by decide +kernel
theorem dX6_go_97 : decode cX6_go 97 = .ok (.istore 5, 2) := by decide +kernel
theorem dX6_go_99 : decode cX6_go 99 = .ok (.iload 5, 2) := by decide +kernel
theorem dX6_go_101 : decode cX6_go 101 = .ok (.aload_n 0, 1) := by decide +kernel
theorem dX6_go_102 : decode cX6_go 102 = .ok (.iload_n 1, 1) := by decide +kernel
theorem dX6_go_103 : decode cX6_go 103 = .ok (.iconst 2, 1) := by decide +kernel
theorem dX6_go_104 : decode cX6_go 104 = .ok (.invokevirtual 86, 3) := by decide +kernel
theorem dX6_go_107 : decode cX6_go 107 = .ok (.if_icmp .le 9, 3) := by decide +kernel
theorem dX6_go_110 : decode cX6_go 110 = .ok (.aload_n 0, 1) := by decide +kernel
theorem dX6_go_111 : decode cX6_go 111 = .ok (.iconst 3, 1) := by decide +kernel
theorem dX6_go_112 : decode cX6_go 112 = .ok (.invokevirtual 49, 3) := by decide +kernel
theorem dX6_go_115 : decode cX6_go 115 = .ok (.ireturn, 1) := by decide +kernel
theorem dX6_go_116 : decode cX6_go 116 = .ok (.aload_n 0, 1) := by decide +kernel
theorem dX6_go_117 : decode cX6_go 117 = .ok (.iload_n 1, 1) := by decide +kernel
theorem dX6_go_118 : decode cX6_go 118 = .ok (.iload 4, 2) := by decide +kernel
theorem dX6_go_120 : decode cX6_go 120 = .ok (.aload_n 0, 1) := by decide +kernel
theorem dX6_go_121 : decode cX6_go 121 = .ok (.iload_n 1, 1) := by decide +kernel
theorem dX6_go_122 : decode cX6_go 122 = .ok (.iconst 2, 1) := by decide +kernel
theorem dX6_go_123 : decode cX6_go 123 = .ok (.invokevirtual 86, 3) := by decide +kernel
theorem dX6_go_126 : decode cX6_go 126 = .ok (.iload 5, 2) := by decide +kernel
theorem dX6_go_128 : decode cX6_go 128 = .ok (.isub, 1) := by decide +kernel
theorem dX6_go_129 : decode cX6_go 129 = .ok (.invokevirtual 120, 3) := by decide +kernel
theorem dX6_go_132 : decode cX6_go 132 = .ok (.istore 6, 2) := by decide +kernel
theorem dX6_go_134 : decode cX6_go 134 = .ok (.aload_n 0, 1) := by decide +kernel
theorem dX6_go_135 : decode cX6_go 135 = .ok (.iload_n 1, 1) := by decide +kernel
theorem dX6_go_136 : decode cX6_go 136 = .ok (.iload 4, 2) := by decide +kernel
theorem dX6_go_138 : decode cX6_go 138 = .ok (.invokevirtual 114, 3) := by decide +kernel
theorem dX6_go_141 : decode cX6_go 141 = .ok (.istore 7, 2) := by decide +kernel
theorem dX6_go_143 : decode cX6_go 143 = .ok (.aload_n 0, 1) := by decide +kernel
theorem dX6_go_144 : decode cX6_go 144 = .ok (.getfield 9, 3) := by decide +kernel
theorem dX6_go_147 : decode cX6_go 147 = .ok (.iload 4, 2) := by decide +kernel
theorem dX6_go_149 : decode cX6_go 149 = .ok (.iconst 5, 1) := by decide +kernel
theorem dX6_go_150 : decode cX6_go 150 = .ok (.iadd, 1) := by decide +kernel
theorem dX6_go_151 : decode cX6_go 151 = .ok (.dup2, 1) := by decide +kernel
theorem dX6_go_152 : decode cX6_go 152 = .ok (.iaload, 1) := by decide +kernel
theorem dX6_go_153 : decode cX6_go 153 = .ok (.aload_n 0, 1) := by decide +kernel
theorem dX6_go_154 : decode cX6_go 154 = .ok (.getfield 9, 3) := by decide +kernel
theorem dX6_go_157 : decode cX6_go 157 = .ok (.iload 4, 2) := by decide +kernel
theorem dX6_go_159 : decode cX6_go 159 = .ok (.iconst 4, 1) := by decide +kernel
theorem dX6_go_160 : decode cX6_go 160 = .ok (.iadd, 1) := by decide +kernel
theorem dX6_go_161 : decode cX6_go 161 = .ok (.iaload, 1) := by decide +kernel
theorem dX6_go_162 : decode cX6_go 162 = .ok (.aload_n 0, 1) := by decide +kernel
theorem dX6_go_163 : decode cX6_go 163 = .ok (.iload_n 1, 1) := by decide +kernel
theorem dX6_go_164 : decode cX6_go 164 = .ok (.iconst 1, 1) := by decide +kernel
theorem dX6_go_165 : decode cX6_go 165 = .ok (.invokevirtual 100, 3) := by decide +kernel
theorem dX6_go_168 : decode cX6_go 168 = .ok (.iadd, 1) := by decide +kernel
theorem dX6_go_169 : decode cX6_go 169 = .ok (.iload 7, 2) := by decide +kernel
theorem dX6_go_171 : decode cX6_go 171 = .ok (.ifCond .eq 8, 3) := by decide +kernel
theorem dX6_go_174 : decode cX6_go 174 = .ok (.bipush 10, 2) := by decide +kernel
theorem dX6_go_176 : decode cX6_go 176 = .ok (.goto 4, 3) := by decide +kernel
theorem dX6_go_179 : decode cX6_go 179 = .ok (.iconst 0, 1) := by decide +kernel
theorem dX6_go_180 : decode cX6_go 180 = .ok (.isub, 1) := by decide +kernel
theorem dX6_go_181 : decode cX6_go 181 = .ok (.iadd, 1) := by decide +kernel
theorem dX6_go_182 : decode cX6_go 182 = .ok (.iastore, 1) := by decide +kernel
theorem dX6_go_183 : decode cX6_go 183 = .ok (.aload_n 0, 1) := by decide +kernel
theorem dX6_go_184 : decode cX6_go 184 = .ok (.dup, 1) := by decide +kernel
theorem dX6_go_185 : decode cX6_go 185 = .ok (.getfield 123, 3) := by decide +kernel
theorem dX6_go_188 : decode cX6_go 188 = .ok (.iload 7, 2) := by decide +kernel
theorem dX6_go_190 : decode cX6_go 190 = .ok (.ifCond .eq 7, 3) := by decide +kernel
theorem dX6_go_193 : decode cX6_go 193 = .ok (.iconst 1, 1) := by decide +kernel
theorem dX6_go_194 : decode cX6_go 194 = .ok (.goto 4, 3) := by decide +kernel
theorem dX6_go_197 : decode cX6_go 197 = .ok (.iconst 0, 1) := by decide +kernel
theorem dX6_go_198 : decode cX6_go 198 = .ok (.iadd, 1) := by decide +kernel
theorem dX6_go_199 : decode cX6_go 199 = .ok (.putfield 123, 3) := by decide +kernel
theorem dX6_go_202 : decode cX6_go 202 = .ok (.iconst 0, 1) := by decide +kernel
theorem dX6_go_203 : decode cX6_go 203 = .ok (.istore 8, 2) := by decide +kernel
theorem dX6_go_205 : decode cX6_go 205 = .ok (.iload 8, 2) := by decide +kernel
theorem dX6_go_207 : decode cX6_go 207 = .ok (.aload_n 0, 1) := by decide +kernel
theorem dX6_go_208 : decode cX6_go 208 = .ok (.getfield 34, 3) := by decide +kernel
theorem dX6_go_211 : decode cX6_go 211 = .ok (.if_icmp .ge 91, 3) := by decide +kernel
theorem dX6_go_214 : decode cX6_go 214 = .ok (.aload_n 0, 1) := by decide +kernel
theorem dX6_go_215 : decode cX6_go 215 = .ok (.iload_n 1, 1) := by decide +kernel
theorem dX6_go_216 : decode cX6_go 216 = .ok (.iload 8, 2) := by decide +kernel
theorem dX6_go_218 : decode cX6_go 218 = .ok (.invokevirtual 107, 3) := by decide +kernel
theorem dX6_go_221 : decode cX6_go 221 = .ok (.ifCond .ne 6, 3) := by decide +kernel
theorem dX6_go_224 : decode cX6_go 224 = .ok (.goto 72, 3) := by decide +kernel
theorem dX6_go_227 : decode cX6_go 227 = .ok (.aload_n 0, 1) := by decide +kernel
theorem dX6_go_228 : decode cX6_go 228 = .ok (.iload 8, 2) := by decide +kernel
theorem dX6_go_230 : decode cX6_go 230 = .ok (.bipush 6, 2) := by decide +kernel
theorem dX6_go_232 : decode cX6_go 232 = .ok (.invokevirtual 76, 3) := by decide +kernel
theorem dX6_go_235 : decode cX6_go 235 = .ok (.iconst 1, 1) := by decide +kernel
theorem dX6_go_236 : decode cX6_go 236 = .ok (.if_icmp .ne 19, 3) := by decide +kernel
theorem dX6_go_239 : decode cX6_go 239 = .ok (.iload 7, 2) := by decide +kernel
theorem dX6_go_241 : decode cX6_go 241 = .ok (.ifCond .eq 55, 3) := by decide +kernel
theorem dX6_go_244 : decode cX6_go 244 = .ok (.aload_n 0, 1) := by decide +kernel
theorem dX6_go_245 : decode cX6_go 245 = .ok (.iload 8, 2) := by decide +kernel
theorem dX6_go_247 : decode cX6_go 247 = .ok (.iconst (-1), 1) := by decide +kernel
theorem dX6_go_248 : decode cX6_go 248 = .ok (.iconst (-1), 1) := by decide +kernel
theorem dX6_go_249 : decode cX6_go 249 = .ok (.invokevirtual 104, 3) := by decide +kernel
theorem dX6_go_252 : decode cX6_go 252 = .ok (.goto 44, 3) := by decide +kernel
theorem dX6_go_255 : decode cX6_go 255 = .ok (.iload_n 3, 1) := by decide +kernel
theorem dX6_go_256 : decode cX6_go 256 = .ok (.aload_n 0, 1) := by decide +kernel
theorem dX6_go_257 : decode cX6_go 257 = .ok (.iload 8, 2) := by decide +kernel
theorem dX6_go_259 : decode cX6_go 259 = .ok (.iconst 2, 1) := by decide +kernel
theorem dX6_go_260 : decode cX6_go 260 = .ok (.invokevirtual 76, 3) := by decide +kernel
theorem dX6_go_263 : decode cX6_go 263 = .ok (.invokestatic 40, 3) := by decide +kernel
theorem dX6_go_266 : decode cX6_go 266 = .ok (.istore 9, 2) := by decide +kernel
theorem dX6_go_268 : decode cX6_go 268 = .ok (.aload_n 0, 1) := by decide +kernel
theorem dX6_go_269 : decode cX6_go 269 = .ok (.iload 8, 2) := by decide +kernel
theorem dX6_go_271 : decode cX6_go 271 = .ok (.iconst 2, 1) := by decide +kernel
theorem dX6_go_272 : decode cX6_go 272 = .ok (.aload_n 0, 1) := by decide +kernel
theorem dX6_go_273 : decode cX6_go 273 = .ok (.iload 8, 2) := by decide +kernel
theorem dX6_go_275 : decode cX6_go 275 = .ok (.iconst 2, 1) := by decide +kernel
theorem dX6_go_276 : decode cX6_go 276 = .ok (.invokevirtual 76, 3) := by decide +kernel
theorem dX6_go_279 : decode cX6_go 279 = .ok (.iload 9, 2) := by decide +kernel
theorem dX6_go_281 : decode cX6_go 281 = .ok (.isub, 1) := by decide +kernel
theorem dX6_go_282 : decode cX6_go 282 = .ok (.invokevirtual 93, 3) := by decide +kernel
theorem dX6_go_285 : decode cX6_go 285 = .ok (.aload_n 0, 1) := by decide +kernel
theorem dX6_go_286 : decode cX6_go 286 = .ok (.dup, 1) := by decide +kernel
theorem dX6_go_287 : decode cX6_go 287 = .ok (.getfield 126, 3) := by decide +kernel
theorem dX6_go_290 : decode cX6_go 290 = .ok (.iload 9, 2) := by decide +kernel
theorem dX6_go_292 : decode cX6_go 292 = .ok (.iadd, 1) := by decide +kernel
theorem dX6_go_293 : decode cX6_go 293 = .ok (.putfield 126, 3) := by decide +kernel
theorem dX6_go_296 : decode cX6_go 296 = .ok (.iinc 8 1, 3) := by decide +kernel
theorem dX6_go_299 : decode cX6_go 299 = .ok (.goto (-94), 3) := by decide +kernel
theorem dX6_go_302 : decode cX6_go 302 = .ok (.aload_n 0, 1) := by decide +kernel
theorem dX6_go_303 : decode cX6_go 303 = .ok (.getfield 9, 3) := by decide +kernel
theorem dX6_go_306 : decode cX6_go 306 = .ok (.iload 4, 2) := by decide +kernel
theorem dX6_go_308 : decode cX6_go 308 = .ok (.bipush 6, 2) := by decide +kernel
theorem dX6_go_310 : decode cX6_go 310 = .ok (.iadd, 1) := by decide +kernel
theorem dX6_go_311 : decode cX6_go 311 = .ok (.dup2, 1) := by decide +kernel
theorem dX6_go_312 : decode cX6_go 312 = .ok (.iaload, 1) := by decide +kernel
theorem dX6_go_313 : decode cX6_go 313 = .ok (.iload 5, 2) := by decide +kernel
theorem dX6_go_315 : decode cX6_go 315 = .ok (.iload 6, 2) := by decide +kernel
theorem dX6_go_317 : decode cX6_go 317 = .ok (.iadd, 1) := by decide +kernel
theorem dX6_go_318 : decode cX6_go 318 = .ok (.iadd, 1) := by decide +kernel
theorem dX6_go_319 : decode cX6_go 319 = .ok (.iastore, 1) := by decide +kernel
theorem dX6_go_320 : decode cX6_go 320 = .ok (.aload_n 0, 1) := by decide +kernel
theorem dX6_go_321 : decode cX6_go 321 = .ok (.dup, 1) := by decide +kernel
theorem dX6_go_322 : decode cX6_go 322 = .ok (.getfield 129, 3) := by decide +kernel
theorem dX6_go_325 : decode cX6_go 325 = .ok (.iload 5, 2) := by decide +kernel
theorem dX6_go_327 : decode cX6_go 327 = .ok (.iadd, 1) := by decide +kernel
theorem dX6_go_328 : decode cX6_go 328 = .ok (.putfield 129, 3) := by decide +kernel
theorem dX6_go_331 : decode cX6_go 331 = .ok (.aload_n 0, 1) := by decide +kernel
theorem dX6_go_332 : decode cX6_go 332 = .ok (.dup, 1) := by decide +kernel
theorem dX6_go_333 : decode cX6_go 333 = .ok (.getfield 132, 3) := by decide +kernel
theorem dX6_go_336 : decode cX6_go 336 = .ok (.iload 6, 2) := by decide +kernel
theorem dX6_go_338 : decode cX6_go 338 = .ok (.iadd, 1) := by decide +kernel
theorem dX6_go_339 : decode cX6_go 339 = .ok (.putfield 132, 3) := by decide +kernel
theorem dX6_go_342 : decode cX6_go 342 = .ok (.aload_n 0, 1) := by decide +kernel
theorem dX6_go_343 : decode cX6_go 343 = .ok (.iload_n 1, 1) := by decide +kernel
theorem dX6_go_344 : decode cX6_go 344 = .ok (.iconst 2, 1) := by decide +kernel
theorem dX6_go_345 : decode cX6_go 345 = .ok (.aload_n 0, 1) := by decide +kernel
theorem dX6_go_346 : decode cX6_go 346 = .ok (.iload_n 1, 1) := by decide +kernel
theorem dX6_go_347 : decode cX6_go 347 = .ok (.iconst 2, 1) := by decide +kernel
theorem dX6_go_348 : decode cX6_go 348 = .ok (.invokevirtual 86, 3) := by decide +kernel
theorem dX6_go_351 : decode cX6_go 351 = .ok (.iload 5, 2) := by decide +kernel
theorem dX6_go_353 : decode cX6_go 353 = .ok (.isub, 1) := by decide +kernel
theorem dX6_go_354 : decode cX6_go 354 = .ok (.iload 6, 2) := by decide +kernel
theorem dX6_go_356 : decode cX6_go 356 = .ok (.isub, 1) := by decide +kernel
theorem dX6_go_357 : decode cX6_go 357 = .ok (.invokevirtual 135, 3) := by decide +kernel
theorem dX6_go_360 : decode cX6_go 360 = .ok (.aload_n 0, 1) := by decide +kernel
theorem dX6_go_361 : decode cX6_go 361 = .ok (.iload_n 1, 1) := by decide +kernel
theorem dX6_go_362 : decode cX6_go 362 = .ok (.iconst 3, 1) := by decide +kernel
theorem dX6_go_363 : decode cX6_go 363 = .ok (.aload_n 0, 1) := by decide +kernel
theorem dX6_go_364 : decode cX6_go 364 = .ok (.iload_n 1, 1) := by decide +kernel
theorem dX6_go_365 : decode cX6_go 365 = .ok (.iconst 3, 1) := by decide +kernel
theorem dX6_go_366 : decode cX6_go 366 = .ok (.invokevirtual 86, 3) := by decide +kernel
theorem dX6_go_369 : decode cX6_go 369 = .ok (.iload 5, 2) := by decide +kernel
theorem dX6_go_371 : decode cX6_go 371 = .ok (.iadd, 1) := by decide +kernel
theorem dX6_go_372 : decode cX6_go 372 = .ok (.iload 6, 2) := by decide +kernel
theorem dX6_go_374 : decode cX6_go 374 = .ok (.iadd, 1) := by decide +kernel
theorem dX6_go_375 : decode cX6_go 375 = .ok (.invokevirtual 135, 3) := by decide +kernel
theorem dX6_go_378 : decode cX6_go 378 = .ok (.aload_n 0, 1) := by decide +kernel
theorem dX6_go_379 : decode cX6_go 379 = .ok (.iload_n 1, 1) := by decide +kernel
theorem dX6_go_380 : decode cX6_go 380 = .ok (.iconst 0, 1) := by decide +kernel
theorem dX6_go_381 : decode cX6_go 381 = .ok (.iload_n 2, 1) := by decide +kernel
theorem dX6_go_382 : decode cX6_go 382 = .ok (.invokevirtual 135, 3) := by decide +kernel
theorem dX6_go_385 : decode cX6_go 385 = .ok (.aload_n 0, 1) := by decide +kernel
theorem dX6_go_386 : decode cX6_go 386 = .ok (.iload_n 1, 1) := by decide +kernel
theorem dX6_go_387 : decode cX6_go 387 = .ok (.iconst 1, 1) := by decide +kernel
theorem dX6_go_388 : decode cX6_go 388 = .ok (.aload_n 0, 1) := by decide +kernel
theorem dX6_go_389 : decode cX6_go 389 = .ok (.getfield 9, 3) := by decide +kernel
theorem dX6_go_392 : decode cX6_go 392 = .ok (.iload 4, 2) := by decide +kernel
theorem dX6_go_394 : decode cX6_go 394 = .ok (.iconst 1, 1) := by decide +kernel
theorem dX6_go_395 : decode cX6_go 395 = .ok (.iadd, 1) := by decide +kernel
theorem dX6_go_396 : decode cX6_go 396 = .ok (.iaload, 1) := by decide +kernel
theorem dX6_go_397 : decode cX6_go 397 = .ok (.invokevirtual 135, 3) := by decide +kernel
theorem dX6_go_400 : decode cX6_go 400 = .ok (.iload 5, 2) := by decide +kernel
theorem dX6_go_402 : decode cX6_go 402 = .ok (.iload 6, 2) := by decide +kernel
theorem dX6_go_404 : decode cX6_go 404 = .ok (.iadd, 1) := by decide +kernel
theorem dX6_go_405 : decode cX6_go 405 = .ok (.ireturn, 1) := by decide +kernel
theorem dX6_carrierTold_0 : decode cX6_carrierTold 0 = .ok (.iload_n 2, 1) := by decide +kernel
theorem dX6_carrierTold_1 : decode cX6_carrierTold 1 = .ok (.iconst 3, 1) := by decide +kernel
theorem dX6_carrierTold_2 : decode cX6_carrierTold 2 = .ok (.if_icmp .ge 10, 3) := by decide +kernel
theorem dX6_carrierTold_5 : decode cX6_carrierTold 5 = .ok (.aload_n 0, 1) := by decide +kernel
theorem dX6_carrierTold_6 : decode cX6_carrierTold 6 = .ok (.iload_n 1, 1) := by decide +kernel
theorem dX6_carrierTold_7 : decode cX6_carrierTold 7 = .ok (.iload_n 2, 1) := by decide +kernel
theorem dX6_carrierTold_8 : decode cX6_carrierTold 8 = .ok (.invokevirtual 86, 3) := by decide +kernel
theorem dX6_carrierTold_11 : decode cX6_carrierTold 11 = .ok (.ireturn, 1) := by decide +kernel
theorem dX6_carrierTold_12 : decode cX6_carrierTold 12 = .ok (.iload_n 2, 1) := by decide +kernel
theorem dX6_carrierTold_13 : decode cX6_carrierTold 13 = .ok (.iconst 5, 1) := by decide +kernel
theorem dX6_carrierTold_14 : decode cX6_carrierTold 14 = .ok (.if_icmp .ne 12, 3) := by decide +kernel
theorem dX6_carrierTold_17 : decode cX6_carrierTold 17 = .ok (.aload_n 0, 1) := by decide +kernel
theorem dX6_carrierTold_18 : decode cX6_carrierTold 18 = .ok (.iload_n 1, 1) := by decide +kernel
theorem dX6_carrierTold_19 : decode cX6_carrierTold 19 = .ok (.iconst 3, 1) := by decide +kernel
theorem dX6_carrierTold_20 : decode cX6_carrierTold 20 = .ok (.invokevirtual 86, 3) := by decide +kernel
theorem dX6_carrierTold_23 : decode cX6_carrierTold 23 = .ok (.goto 18, 3) := by decide +kernel
theorem dX6_carrierTold_26 : decode cX6_carrierTold 26 = .ok (.aload_n 0, 1) := by decide +kernel
theorem dX6_carrierTold_27 : decode cX6_carrierTold 27 = .ok (.iload_n 1, 1) := by decide +kernel
theorem dX6_carrierTold_28 : decode cX6_carrierTold 28 = .ok (.iload_n 2, 1) := by decide +kernel
theorem dX6_carrierTold_29 : decode cX6_carrierTold 29 = .ok (.iconst 4, 1) := by decide +kernel
theorem dX6_carrierTold_30 : decode cX6_carrierTold 30 = .ok (.if_icmp .ne 7, 3) := by decide +kernel
theorem dX6_carrierTold_33 : decode cX6_carrierTold 33 = .ok (.iconst 1, 1) := by decide +kernel
theorem dX6_carrierTold_34 : decode cX6_carrierTold 34 = .ok (.goto 4, 3) := by decide +kernel
theorem dX6_carrierTold_37 : decode cX6_carrierTold 37 = .ok (.iconst 0, 1) := by decide +kernel
theorem dX6_carrierTold_38 : decode cX6_carrierTold 38 = .ok (.invokevirtual 100, 3) := by decide +kernel
theorem dX6_carrierTold_41 : decode cX6_carrierTold 41 = .ok (.ireturn, 1) := by decide +kernel
theorem dX6_carrier_0 : decode cX6_carrier 0 = .ok (.aload_n 0, 1) := by decide +kernel
theorem dX6_carrier_1 : decode cX6_carrier 1 = .ok (.iconst 0, 1) := by decide +kernel
theorem dX6_carrier_2 : decode cX6_carrier 2 = .ok (.putfield 23, 3) := by decide +kernel
theorem dX6_carrier_5 : decode cX6_carrier 5 = .ok (.aload_n 0, 1) := by decide +kernel
theorem dX6_carrier_6 : decode cX6_carrier 6 = .ok (.iload_n 1, 1) := by decide +kernel
theorem dX6_carrier_7 : decode cX6_carrier 7 = .ok (.invokevirtual 97, 3) := by decide +kernel
theorem dX6_carrier_10 : decode cX6_carrier 10 = .ok (.ifCond .eq 21, 3) := by decide +kernel
theorem dX6_carrier_13 : decode cX6_carrier 13 = .ok (.iload_n 2, 1) := by decide +kernel
theorem dX6_carrier_14 : decode cX6_carrier 14 = .ok (.iconst 0, 1) := by decide +kernel
theorem dX6_carrier_15 : decode cX6_carrier 15 = .ok (.iconst 5, 1) := by decide +kernel
theorem dX6_carrier_16 : decode cX6_carrier 16 = .ok (.invokestatic 30, 3) := by decide +kernel
theorem dX6_carrier_19 : decode cX6_carrier 19 = .ok (.ifCond .eq 12, 3) := by decide +kernel
theorem dX6_carrier_22 : decode cX6_carrier 22 = .ok (.aload_n 0, 1) := by decide +kernel
theorem dX6_carrier_23 : decode cX6_carrier 23 = .ok (.iload_n 1, 1) := by decide +kernel
theorem dX6_carrier_24 : decode cX6_carrier 24 = .ok (.iload_n 2, 1) := by decide +kernel
theorem dX6_carrier_25 : decode cX6_carrier 25 = .ok (.invokevirtual 138, 3) := by decide +kernel
theorem dX6_carrier_28 : decode cX6_carrier 28 = .ok (.goto 8, 3) := by decide +kernel
theorem dX6_carrier_31 : decode cX6_carrier 31 = .ok (.aload_n 0, 1) := by decide +kernel
theorem dX6_carrier_32 : decode cX6_carrier 32 = .ok (.iconst 1, 1) := by decide +kernel
theorem dX6_carrier_33 : decode cX6_carrier 33 = .ok (.invokevirtual 49, 3) := by decide +kernel
theorem dX6_carrier_36 : decode cX6_carrier 36 = .ok (.ireturn, 1) := by decide +kernel
theorem dX6_wouldPay_0 : decode cX6_wouldPay 0 = .ok (.aload_n 0, 1) := by decide +kernel
theorem dX6_wouldPay_1 : decode cX6_wouldPay 1 = .ok (.iconst 0, 1) := by decide +kernel
theorem dX6_wouldPay_2 : decode cX6_wouldPay 2 = .ok (.putfield 23, 3) := by decide +kernel
theorem dX6_wouldPay_5 : decode cX6_wouldPay 5 = .ok (.aload_n 0, 1) := by decide +kernel
theorem dX6_wouldPay_6 : decode cX6_wouldPay 6 = .ok (.iload_n 1, 1) := by decide +kernel
theorem dX6_wouldPay_7 : decode cX6_wouldPay 7 = .ok (.invokevirtual 97, 3) := by decide +kernel
theorem dX6_wouldPay_10 : decode cX6_wouldPay 10 = .ok (.ifCond .eq 11, 3) := by decide +kernel
theorem dX6_wouldPay_13 : decode cX6_wouldPay 13 = .ok (.aload_n 0, 1) := by decide +kernel
theorem dX6_wouldPay_14 : decode cX6_wouldPay 14 = .ok (.iload_n 2, 1) := by decide +kernel
theorem dX6_wouldPay_15 : decode cX6_wouldPay 15 = .ok (.invokevirtual 53, 3) := by decide +kernel
theorem dX6_wouldPay_18 : decode cX6_wouldPay 18 = .ok (.ifCond .ne 9, 3) := by decide +kernel
theorem dX6_wouldPay_21 : decode cX6_wouldPay 21 = .ok (.aload_n 0, 1) := by decide +kernel
theorem dX6_wouldPay_22 : decode cX6_wouldPay 22 = .ok (.iconst 1, 1) := by decide +kernel
theorem dX6_wouldPay_23 : decode cX6_wouldPay 23 = .ok (.invokevirtual 49, 3) := by decide +kernel
theorem dX6_wouldPay_26 : decode cX6_wouldPay 26 = .ok (.ireturn, 1) := by decide +kernel
theorem dX6_wouldPay_27 : decode cX6_wouldPay 27 = .ok (.iload_n 3, 1) := by decide +kernel
theorem dX6_wouldPay_28 : decode cX6_wouldPay 28 = .ok (.iconst 0, 1) := by decide +kernel
theorem dX6_wouldPay_29 : decode cX6_wouldPay 29 = .ok (.iconst 5, 1) := by decide +kernel
theorem dX6_wouldPay_30 : decode cX6_wouldPay 30 = .ok (.invokestatic 30, 3) := by decide +kernel
theorem dX6_wouldPay_33 : decode cX6_wouldPay 33 = .ok (.ifCond .ne 9, 3) := by decide +kernel
theorem dX6_wouldPay_36 : decode cX6_wouldPay 36 = .ok (.aload_n 0, 1) := by decide +kernel
theorem dX6_wouldPay_37 : decode cX6_wouldPay 37 = .ok (.iconst 2, 1) := by decide +kernel
theorem dX6_wouldPay_38 : decode cX6_wouldPay 38 = .ok (.invokevirtual 49, 3) := by decide +kernel
theorem dX6_wouldPay_41 : decode cX6_wouldPay 41 = .ok (.ireturn, 1) := by decide +kernel
theorem dX6_wouldPay_42 : decode cX6_wouldPay 42 = .ok (.aload_n 0, 1) := by decide +kernel
theorem dX6_wouldPay_43 : decode cX6_wouldPay 43 = .ok (.iload_n 1, 1) := by decide +kernel
theorem dX6_wouldPay_44 : decode cX6_wouldPay 44 = .ok (.iconst 1, 1) := by decide +kernel
theorem dX6_wouldPay_45 : decode cX6_wouldPay 45 = .ok (.invokevirtual 86, 3) := by decide +kernel
theorem dX6_wouldPay_48 : decode cX6_wouldPay 48 = .ok (.ifCond .le 9, 3) := by decide +kernel
theorem dX6_wouldPay_51 : decode cX6_wouldPay 51 = .ok (.aload_n 0, 1) := by decide +kernel
theorem dX6_wouldPay_52 : decode cX6_wouldPay 52 = .ok (.iconst 3, 1) := by decide +kernel
theorem dX6_wouldPay_53 : decode cX6_wouldPay 53 = .ok (.invokevirtual 49, 3) := by decide +kernel
theorem dX6_wouldPay_56 : decode cX6_wouldPay 56 = .ok (.ireturn, 1) := by decide +kernel
theorem dX6_wouldPay_57 : decode cX6_wouldPay 57 = .ok (.aload_n 0, 1) := by decide +kernel
theorem dX6_wouldPay_58 : decode cX6_wouldPay 58 = .ok (.iload_n 1, 1) := by decide +kernel
theorem dX6_wouldPay_59 : decode cX6_wouldPay 59 = .ok (.iconst 0, 1) := by decide +kernel
theorem dX6_wouldPay_60 : decode cX6_wouldPay 60 = .ok (.invokevirtual 86, 3) := by decide +kernel
theorem dX6_wouldPay_63 : decode cX6_wouldPay 63 = .ok (.iload_n 2, 1) := by decide +kernel
theorem dX6_wouldPay_64 : decode cX6_wouldPay 64 = .ok (.invokestatic 57, 3) := by decide +kernel
theorem dX6_wouldPay_67 : decode cX6_wouldPay 67 = .ok (.istore 4, 2) := by decide +kernel
theorem dX6_wouldPay_69 : decode cX6_wouldPay 69 = .ok (.aload_n 0, 1) := by decide +kernel
theorem dX6_wouldPay_70 : decode cX6_wouldPay 70 = .ok (.iload_n 1, 1) := by decide +kernel
theorem dX6_wouldPay_71 : decode cX6_wouldPay 71 = .ok (.iconst 0, 1) := by decide +kernel
theorem dX6_wouldPay_72 : decode cX6_wouldPay 72 = .ok (.invokevirtual 86, 3) := by decide +kernel
theorem dX6_wouldPay_75 : decode cX6_wouldPay 75 = .ok (.iload_n 2, 1) := by decide +kernel
theorem dX6_wouldPay_76 : decode cX6_wouldPay 76 = .ok (.if_icmp .eq 13, 3) := by decide +kernel
theorem dX6_wouldPay_79 : decode cX6_wouldPay 79 = .ok (.aload_n 0, 1) := by decide +kernel
theorem dX6_wouldPay_80 : decode cX6_wouldPay 80 = .ok (.getfield 9, 3) := by decide +kernel
theorem dX6_wouldPay_83 : decode cX6_wouldPay 83 = .ok (.iload 4, 2) := by decide +kernel
theorem dX6_wouldPay_85 : decode cX6_wouldPay 85 = .ok (.iaload, 1) := by decide +kernel
theorem dX6_wouldPay_86 : decode cX6_wouldPay 86 = .ok (.ifCond .ne 5, 3) := by decide +kernel
theorem dX6_wouldPay_89 : decode cX6_wouldPay 89 = .ok (.iconst (-1), 1) := by decide +kernel
theorem dX6_wouldPay_90 : decode cX6_wouldPay 90 = .ok (.ireturn, 1) := by decide +kernel
theorem dX6_wouldPay_91 : decode cX6_wouldPay 91 = .ok (.aload_n 0, 1) := by decide +kernel
theorem dX6_wouldPay_92 : decode cX6_wouldPay 92 = .ok (.iload_n 1, 1) := by decide +kernel
theorem dX6_wouldPay_93 : decode cX6_wouldPay 93 = .ok (.iload 4, 2) := by decide +kernel
theorem dX6_wouldPay_95 : decode cX6_wouldPay 95 = .ok (.iload_n 3, 1) := by decide +kernel
theorem dX6_wouldPay_96 : decode cX6_wouldPay 96 = .ok (.invokevirtual 117, 3) := by decide +kernel
theorem dX6_wouldPay_99 : decode cX6_wouldPay 99 = .ok (.istore 5, 2) := by decide +kernel
theorem dX6_wouldPay_101 : decode cX6_wouldPay 101 = .ok (.iload 5, 2) := by decide +kernel
theorem dX6_wouldPay_103 : decode cX6_wouldPay 103 = .ok (.aload_n 0, 1) := by decide +kernel
theorem dX6_wouldPay_104 : decode cX6_wouldPay 104 = .ok (.iload_n 1, 1) := by decide +kernel
theorem dX6_wouldPay_105 : decode cX6_wouldPay 105 = .ok (.iload 4, 2) := by decide +kernel
theorem dX6_wouldPay_107 : decode cX6_wouldPay 107 = .ok (.aload_n 0, 1) := by decide +kernel
theorem dX6_wouldPay_108 : decode cX6_wouldPay 108 = .ok (.iload_n 1, 1) := by decide +kernel
theorem dX6_wouldPay_109 : decode cX6_wouldPay 109 = .ok (.iconst 2, 1) := by decide +kernel
theorem dX6_wouldPay_110 : decode cX6_wouldPay 110 = .ok (.invokevirtual 86, 3) := by decide +kernel
theorem dX6_wouldPay_113 : decode cX6_wouldPay 113 = .ok (.iload 5, 2) := by decide +kernel
theorem dX6_wouldPay_115 : decode cX6_wouldPay 115 = .ok (.isub, 1) := by decide +kernel
theorem dX6_wouldPay_116 : decode cX6_wouldPay 116 = .ok (.invokevirtual 120, 3) := by decide +kernel
theorem dX6_wouldPay_119 : decode cX6_wouldPay 119 = .ok (.iadd, 1) := by decide +kernel
theorem dX6_wouldPay_120 : decode cX6_wouldPay 120 = .ok (.ireturn, 1) := by decide +kernel
theorem dX6_pass_0 : decode cX6_pass 0 = .ok (.aload_n 0, 1) := by decide +kernel
theorem dX6_pass_1 : decode cX6_pass 1 = .ok (.iconst 0, 1) := by decide +kernel
theorem dX6_pass_2 : decode cX6_pass 2 = .ok (.putfield 23, 3) := by decide +kernel
theorem dX6_pass_5 : decode cX6_pass 5 = .ok (.iload_n 1, 1) := by decide +kernel
end
section
theorem dX6_pass_6 : decode cX6_pass 6 = .ok (.iconst 1, 1) := by decide +kernel
theorem dX6_pass_7 : decode cX6_pass 7 = .ok (.bipush 100, 2) := by decide +kernel
theorem dX6_pass_9 : decode cX6_pass 9 = .ok (.invokestatic 30, 3) := by decide +kernel
theorem dX6_pass_12 : decode cX6_pass 12 = .ok (.ifCond .ne 9, 3) := by decide +kernel
theorem dX6_pass_15 : decode cX6_pass 15 = .ok (.aload_n 0, 1) := by decide +kernel
theorem dX6_pass_16 : decode cX6_pass 16 = .ok (.iconst 1, 1) := by decide +kernel
theorem dX6_pass_17 : decode cX6_pass 17 = .ok (.invokevirtual 49, 3) := by decide +kernel
theorem dX6_pass_20 : decode cX6_pass 20 = .ok (.ireturn, 1) := by decide +kernel
theorem dX6_pass_21 : decode cX6_pass 21 = .ok (.iconst 0, 1) := by decide +kernel
theorem dX6_pass_22 : decode cX6_pass 22 = .ok (.istore_n 2, 1) := by decide +kernel
theorem dX6_pass_23 : decode cX6_pass 23 = .ok (.iconst 0, 1) := by decide +kernel
theorem dX6_pass_24 : decode cX6_pass 24 = .ok (.istore_n 3, 1) := by decide +kernel
theorem dX6_pass_25 : decode cX6_pass 25 = .ok (.iload_n 3, 1) := by decide +kernel
theorem dX6_pass_26 : decode cX6_pass 26 = .ok (.aload_n 0, 1) := by decide +kernel
theorem dX6_pass_27 : decode cX6_pass 27 = .ok (.getfield 37, 3) := by decide +kernel
theorem dX6_pass_30 : decode cX6_pass 30 = .ok (.if_icmp .ge 49, 3) := by decide +kernel
theorem dX6_pass_33 : decode cX6_pass 33 = .ok (.iload_n 2, 1) := by decide +kernel
theorem dX6_pass_34 : decode cX6_pass 34 = .ok (.aload_n 0, 1) := by decide +kernel
theorem dX6_pass_35 : decode cX6_pass 35 = .ok (.iload_n 3, 1) := by decide +kernel
theorem dX6_pass_36 : decode cX6_pass 36 = .ok (.iconst 1, 1) := by decide +kernel
theorem dX6_pass_37 : decode cX6_pass 37 = .ok (.invokevirtual 86, 3) := by decide +kernel
theorem dX6_pass_40 : decode cX6_pass 40 = .ok (.iconst 1, 1) := by decide +kernel
theorem dX6_pass_41 : decode cX6_pass 41 = .ok (.iload_n 1, 1) := by decide +kernel
theorem dX6_pass_42 : decode cX6_pass 42 = .ok (.invokestatic 30, 3) := by decide +kernel
theorem dX6_pass_45 : decode cX6_pass 45 = .ok (.ifCond .eq 7, 3) := by decide +kernel
theorem dX6_pass_48 : decode cX6_pass 48 = .ok (.iconst 1, 1) := by decide +kernel
theorem dX6_pass_49 : decode cX6_pass 49 = .ok (.goto 4, 3) := by decide +kernel
theorem dX6_pass_52 : decode cX6_pass 52 = .ok (.iconst 0, 1) := by decide +kernel
theorem dX6_pass_53 : decode cX6_pass 53 = .ok (.iadd, 1) := by decide +kernel
theorem dX6_pass_54 : decode cX6_pass 54 = .ok (.istore_n 2, 1) := by decide +kernel
theorem dX6_pass_55 : decode cX6_pass 55 = .ok (.aload_n 0, 1) := by decide +kernel
theorem dX6_pass_56 : decode cX6_pass 56 = .ok (.iload_n 3, 1) := by decide +kernel
theorem dX6_pass_57 : decode cX6_pass 57 = .ok (.iconst 1, 1) := by decide +kernel
theorem dX6_pass_58 : decode cX6_pass 58 = .ok (.iconst 0, 1) := by decide +kernel
theorem dX6_pass_59 : decode cX6_pass 59 = .ok (.aload_n 0, 1) := by decide +kernel
theorem dX6_pass_60 : decode cX6_pass 60 = .ok (.iload_n 3, 1) := by decide +kernel
theorem dX6_pass_61 : decode cX6_pass 61 = .ok (.iconst 1, 1) := by decide +kernel
theorem dX6_pass_62 : decode cX6_pass 62 = .ok (.invokevirtual 86, 3) := by decide +kernel
theorem dX6_pass_65 : decode cX6_pass 65 = .ok (.iload_n 1, 1) := by decide +kernel
theorem dX6_pass_66 : decode cX6_pass 66 = .ok (.isub, 1) := by decide +kernel
theorem dX6_pass_67 : decode cX6_pass 67 = .ok (.invokestatic 46, 3) := by decide +kernel
theorem dX6_pass_70 : decode cX6_pass 70 = .ok (.invokevirtual 135, 3) := by decide +kernel
theorem dX6_pass_73 : decode cX6_pass 73 = .ok (.iinc 3 1, 3) := by decide +kernel
theorem dX6_pass_76 : decode cX6_pass 76 = .ok (.goto (-51), 3) := by decide +kernel
theorem dX6_pass_79 : decode cX6_pass 79 = .ok (.aload_n 0, 1) := by decide +kernel
theorem dX6_pass_80 : decode cX6_pass 80 = .ok (.dup, 1) := by decide +kernel
theorem dX6_pass_81 : decode cX6_pass 81 = .ok (.getfield 141, 3) := by decide +kernel
theorem dX6_pass_84 : decode cX6_pass 84 = .ok (.iload_n 1, 1) := by decide +kernel
theorem dX6_pass_85 : decode cX6_pass 85 = .ok (.iadd, 1) := by decide +kernel
theorem dX6_pass_86 : decode cX6_pass 86 = .ok (.putfield 141, 3) := by decide +kernel
theorem dX6_pass_89 : decode cX6_pass 89 = .ok (.iload_n 2, 1) := by decide +kernel
theorem dX6_pass_90 : decode cX6_pass 90 = .ok (.ireturn, 1) := by decide +kernel
theorem dX6_gone_0 : decode cX6_gone 0 = .ok (.iconst 0, 1) := by decide +kernel
theorem dX6_gone_1 : decode cX6_gone 1 = .ok (.istore_n 1, 1) := by decide +kernel
theorem dX6_gone_2 : decode cX6_gone 2 = .ok (.iconst 0, 1) := by decide +kernel
theorem dX6_gone_3 : decode cX6_gone 3 = .ok (.istore_n 2, 1) := by decide +kernel
theorem dX6_gone_4 : decode cX6_gone 4 = .ok (.iload_n 2, 1) := by decide +kernel
theorem dX6_gone_5 : decode cX6_gone 5 = .ok (.aload_n 0, 1) := by decide +kernel
theorem dX6_gone_6 : decode cX6_gone 6 = .ok (.getfield 34, 3) := by decide +kernel
theorem dX6_gone_9 : decode cX6_gone 9 = .ok (.if_icmp .ge 37, 3) := by decide +kernel
theorem dX6_gone_12 : decode cX6_gone 12 = .ok (.iload_n 1, 1) := by decide +kernel
theorem dX6_gone_13 : decode cX6_gone 13 = .ok (.aload_n 0, 1) := by decide +kernel
theorem dX6_gone_14 : decode cX6_gone 14 = .ok (.iload_n 2, 1) := by decide +kernel
theorem dX6_gone_15 : decode cX6_gone 15 = .ok (.iconst 4, 1) := by decide +kernel
theorem dX6_gone_16 : decode cX6_gone 16 = .ok (.invokevirtual 76, 3) := by decide +kernel
theorem dX6_gone_19 : decode cX6_gone 19 = .ok (.iconst (-1), 1) := by decide +kernel
theorem dX6_gone_20 : decode cX6_gone 20 = .ok (.if_icmp .ne 17, 3) := by decide +kernel
theorem dX6_gone_23 : decode cX6_gone 23 = .ok (.aload_n 0, 1) := by decide +kernel
theorem dX6_gone_24 : decode cX6_gone 24 = .ok (.iload_n 2, 1) := by decide +kernel
theorem dX6_gone_25 : decode cX6_gone 25 = .ok (.iconst 5, 1) := by decide +kernel
theorem dX6_gone_26 : decode cX6_gone 26 = .ok (.invokevirtual 76, 3) := by decide +kernel
theorem dX6_gone_29 : decode cX6_gone 29 = .ok (.iconst (-1), 1) := by decide +kernel
theorem dX6_gone_30 : decode cX6_gone 30 = .ok (.if_icmp .ne 7, 3) := by decide +kernel
theorem dX6_gone_33 : decode cX6_gone 33 = .ok (.iconst 1, 1) := by decide +kernel
theorem dX6_gone_34 : decode cX6_gone 34 = .ok (.goto 4, 3) := by decide +kernel
theorem dX6_gone_37 : decode cX6_gone 37 = .ok (.iconst 0, 1) := by decide +kernel
theorem dX6_gone_38 : decode cX6_gone 38 = .ok (.iadd, 1) := by decide +kernel
theorem dX6_gone_39 : decode cX6_gone 39 = .ok (.istore_n 1, 1) := by decide +kernel
theorem dX6_gone_40 : decode cX6_gone 40 = .ok (.iinc 2 1, 3) := by decide +kernel
theorem dX6_gone_43 : decode cX6_gone 43 = .ok (.goto (-39), 3) := by decide +kernel
theorem dX6_gone_46 : decode cX6_gone 46 = .ok (.iload_n 1, 1) := by decide +kernel
theorem dX6_gone_47 : decode cX6_gone 47 = .ok (.ireturn, 1) := by decide +kernel
theorem dX6_counted_0 : decode cX6_counted 0 = .ok (.iconst 0, 1) := by decide +kernel
theorem dX6_counted_1 : decode cX6_counted 1 = .ok (.istore_n 2, 1) := by decide +kernel
theorem dX6_counted_2 : decode cX6_counted 2 = .ok (.iload_n 1, 1) := by decide +kernel
theorem dX6_counted_3 : decode cX6_counted 3 = .ok (.tableswitch 133 0 9 #[53, 58, 63, 68, 73, 78, 83, 118, 123, 128], 53) := by decide +kernel
theorem dX6_counted_56 : decode cX6_counted 56 = .ok (.aload_n 0, 1) := by decide +kernel
theorem dX6_counted_57 : decode cX6_counted 57 = .ok (.getfield 141, 3) := by decide +kernel
theorem dX6_counted_60 : decode cX6_counted 60 = .ok (.ireturn, 1) := by decide +kernel
theorem dX6_counted_61 : decode cX6_counted 61 = .ok (.aload_n 0, 1) := by decide +kernel
theorem dX6_counted_62 : decode cX6_counted 62 = .ok (.getfield 27, 3) := by decide +kernel
theorem dX6_counted_65 : decode cX6_counted 65 = .ok (.ireturn, 1) := by decide +kernel
theorem dX6_counted_66 : decode cX6_counted 66 = .ok (.aload_n 0, 1) := by decide +kernel
theorem dX6_counted_67 : decode cX6_counted 67 = .ok (.getfield 66, 3) := by decide +kernel
theorem dX6_counted_70 : decode cX6_counted 70 = .ok (.ireturn, 1) := by decide +kernel
theorem dX6_counted_71 : decode cX6_counted 71 = .ok (.aload_n 0, 1) := by decide +kernel
theorem dX6_counted_72 : decode cX6_counted 72 = .ok (.getfield 34, 3) := by decide +kernel
theorem dX6_counted_75 : decode cX6_counted 75 = .ok (.ireturn, 1) := by decide +kernel
theorem dX6_counted_76 : decode cX6_counted 76 = .ok (.aload_n 0, 1) := by decide +kernel
theorem dX6_counted_77 : decode cX6_counted 77 = .ok (.invokevirtual 144, 3) := by decide +kernel
theorem dX6_counted_80 : decode cX6_counted 80 = .ok (.ireturn, 1) := by decide +kernel
theorem dX6_counted_81 : decode cX6_counted 81 = .ok (.aload_n 0, 1) := by decide +kernel
theorem dX6_counted_82 : decode cX6_counted 82 = .ok (.getfield 37, 3) := by decide +kernel
theorem dX6_counted_85 : decode cX6_counted 85 = .ok (.ireturn, 1) := by decide +kernel
theorem dX6_counted_86 : decode cX6_counted 86 = .ok (.iconst 0, 1) := by decide +kernel
theorem dX6_counted_87 : decode cX6_counted 87 = .ok (.istore_n 3, 1) := by decide +kernel
theorem dX6_counted_88 : decode cX6_counted 88 = .ok (.iload_n 3, 1) := by decide +kernel
theorem dX6_counted_89 : decode cX6_counted 89 = .ok (.aload_n 0, 1) := by decide +kernel
theorem dX6_counted_90 : decode cX6_counted 90 = .ok (.getfield 37, 3) := by decide +kernel
theorem dX6_counted_93 : decode cX6_counted 93 = .ok (.if_icmp .ge 26, 3) := by decide +kernel
theorem dX6_counted_96 : decode cX6_counted 96 = .ok (.iload_n 2, 1) := by decide +kernel
theorem dX6_counted_97 : decode cX6_counted 97 = .ok (.aload_n 0, 1) := by decide +kernel
theorem dX6_counted_98 : decode cX6_counted 98 = .ok (.iload_n 3, 1) := by decide +kernel
theorem dX6_counted_99 : decode cX6_counted 99 = .ok (.iconst 1, 1) := by decide +kernel
theorem dX6_counted_100 : decode cX6_counted 100 = .ok (.invokevirtual 86, 3) := by decide +kernel
theorem dX6_counted_103 : decode cX6_counted 103 = .ok (.ifCond .le 7, 3) := by decide +kernel
theorem dX6_counted_106 : decode cX6_counted 106 = .ok (.iconst 1, 1) := by decide +kernel
theorem dX6_counted_107 : decode cX6_counted 107 = .ok (.goto 4, 3) := by decide +kernel
theorem dX6_counted_110 : decode cX6_counted 110 = .ok (.iconst 0, 1) := by decide +kernel
theorem dX6_counted_111 : decode cX6_counted 111 = .ok (.iadd, 1) := by decide +kernel
theorem dX6_counted_112 : decode cX6_counted 112 = .ok (.istore_n 2, 1) := by decide +kernel
theorem dX6_counted_113 : decode cX6_counted 113 = .ok (.iinc 3 1, 3) := by decide +kernel
theorem dX6_counted_116 : decode cX6_counted 116 = .ok (.goto (-28), 3) := by decide +kernel
theorem dX6_counted_119 : decode cX6_counted 119 = .ok (.iload_n 2, 1) := by decide +kernel
theorem dX6_counted_120 : decode cX6_counted 120 = .ok (.ireturn, 1) := by decide +kernel
theorem dX6_counted_121 : decode cX6_counted 121 = .ok (.aload_n 0, 1) := by decide +kernel
theorem dX6_counted_122 : decode cX6_counted 122 = .ok (.getfield 126, 3) := by decide +kernel
theorem dX6_counted_125 : decode cX6_counted 125 = .ok (.ireturn, 1) := by decide +kernel
theorem dX6_counted_126 : decode cX6_counted 126 = .ok (.aload_n 0, 1) := by decide +kernel
theorem dX6_counted_127 : decode cX6_counted 127 = .ok (.getfield 129, 3) := by decide +kernel
theorem dX6_counted_130 : decode cX6_counted 130 = .ok (.ireturn, 1) := by decide +kernel
theorem dX6_counted_131 : decode cX6_counted 131 = .ok (.aload_n 0, 1) := by decide +kernel
theorem dX6_counted_132 : decode cX6_counted 132 = .ok (.getfield 132, 3) := by decide +kernel
theorem dX6_counted_135 : decode cX6_counted 135 = .ok (.ireturn, 1) := by decide +kernel
theorem dX6_counted_136 : decode cX6_counted 136 = .ok (.aload_n 0, 1) := by decide +kernel
theorem dX6_counted_137 : decode cX6_counted 137 = .ok (.getfield 123, 3) := by decide +kernel
theorem dX6_counted_140 : decode cX6_counted 140 = .ok (.ireturn, 1) := by decide +kernel
theorem dX6_count_0 : decode cX6_count 0 = .ok (.aload_n 0, 1) := by decide +kernel
theorem dX6_count_1 : decode cX6_count 1 = .ok (.iconst 0, 1) := by decide +kernel
theorem dX6_count_2 : decode cX6_count 2 = .ok (.putfield 23, 3) := by decide +kernel
theorem dX6_count_5 : decode cX6_count 5 = .ok (.iload_n 1, 1) := by decide +kernel
theorem dX6_count_6 : decode cX6_count 6 = .ok (.iconst 0, 1) := by decide +kernel
theorem dX6_count_7 : decode cX6_count 7 = .ok (.bipush 10, 2) := by decide +kernel
theorem dX6_count_9 : decode cX6_count 9 = .ok (.invokestatic 30, 3) := by decide +kernel
theorem dX6_count_12 : decode cX6_count 12 = .ok (.ifCond .eq 11, 3) := by decide +kernel
theorem dX6_count_15 : decode cX6_count 15 = .ok (.aload_n 0, 1) := by decide +kernel
theorem dX6_count_16 : decode cX6_count 16 = .ok (.iload_n 1, 1) := by decide +kernel
theorem dX6_count_17 : decode cX6_count 17 = .ok (.invokevirtual 148, 3) := by decide +kernel
theorem dX6_count_20 : decode cX6_count 20 = .ok (.goto 8, 3) := by decide +kernel
theorem dX6_count_23 : decode cX6_count 23 = .ok (.aload_n 0, 1) := by decide +kernel
theorem dX6_count_24 : decode cX6_count 24 = .ok (.iconst 1, 1) := by decide +kernel
theorem dX6_count_25 : decode cX6_count 25 = .ok (.invokevirtual 49, 3) := by decide +kernel
theorem dX6_count_28 : decode cX6_count 28 = .ok (.ireturn, 1) := by decide +kernel
theorem dX6_cheapest_0 : decode cX6_cheapest 0 = .ok (.aload_n 0, 1) := by decide +kernel
theorem dX6_cheapest_1 : decode cX6_cheapest 1 = .ok (.iconst 0, 1) := by decide +kernel
theorem dX6_cheapest_2 : decode cX6_cheapest 2 = .ok (.putfield 23, 3) := by decide +kernel
theorem dX6_cheapest_5 : decode cX6_cheapest 5 = .ok (.aload_n 0, 1) := by decide +kernel
theorem dX6_cheapest_6 : decode cX6_cheapest 6 = .ok (.iload_n 1, 1) := by decide +kernel
theorem dX6_cheapest_7 : decode cX6_cheapest 7 = .ok (.invokevirtual 73, 3) := by decide +kernel
theorem dX6_cheapest_10 : decode cX6_cheapest 10 = .ok (.ifCond .eq 29, 3) := by decide +kernel
theorem dX6_cheapest_13 : decode cX6_cheapest 13 = .ok (.aload_n 0, 1) := by decide +kernel
theorem dX6_cheapest_14 : decode cX6_cheapest 14 = .ok (.iload_n 2, 1) := by decide +kernel
theorem dX6_cheapest_15 : decode cX6_cheapest 15 = .ok (.invokevirtual 53, 3) := by decide +kernel
theorem dX6_cheapest_18 : decode cX6_cheapest 18 = .ok (.ifCond .eq 21, 3) := by decide +kernel
theorem dX6_cheapest_21 : decode cX6_cheapest 21 = .ok (.aload_n 0, 1) := by decide +kernel
theorem dX6_cheapest_22 : decode cX6_cheapest 22 = .ok (.iload_n 3, 1) := by decide +kernel
theorem dX6_cheapest_23 : decode cX6_cheapest 23 = .ok (.invokevirtual 53, 3) := by decide +kernel
theorem dX6_cheapest_26 : decode cX6_cheapest 26 = .ok (.ifCond .eq 13, 3) := by decide +kernel
theorem dX6_cheapest_29 : decode cX6_cheapest 29 = .ok (.iload 4, 2) := by decide +kernel
theorem dX6_cheapest_31 : decode cX6_cheapest 31 = .ok (.iconst 0, 1) := by decide +kernel
theorem dX6_cheapest_32 : decode cX6_cheapest 32 = .ok (.iconst 1, 1) := by decide +kernel
theorem dX6_cheapest_33 : decode cX6_cheapest 33 = .ok (.invokestatic 30, 3) := by decide +kernel
theorem dX6_cheapest_36 : decode cX6_cheapest 36 = .ok (.ifCond .ne 9, 3) := by decide +kernel
theorem dX6_cheapest_39 : decode cX6_cheapest 39 = .ok (.aload_n 0, 1) := by decide +kernel
theorem dX6_cheapest_40 : decode cX6_cheapest 40 = .ok (.iconst 1, 1) := by decide +kernel
theorem dX6_cheapest_41 : decode cX6_cheapest 41 = .ok (.invokevirtual 49, 3) := by decide +kernel
theorem dX6_cheapest_44 : decode cX6_cheapest 44 = .ok (.ireturn, 1) := by decide +kernel
theorem dX6_cheapest_45 : decode cX6_cheapest 45 = .ok (.iconst 0, 1) := by decide +kernel
theorem dX6_cheapest_46 : decode cX6_cheapest 46 = .ok (.istore 5, 2) := by decide +kernel
theorem dX6_cheapest_48 : decode cX6_cheapest 48 = .ok (.iload 5, 2) := by decide +kernel
theorem dX6_cheapest_50 : decode cX6_cheapest 50 = .ok (.bipush 60, 2) := by decide +kernel
theorem dX6_cheapest_52 : decode cX6_cheapest 52 = .ok (.if_icmp .ge 19, 3) := by decide +kernel
theorem dX6_cheapest_55 : decode cX6_cheapest 55 = .ok (.aload_n 0, 1) := by decide +kernel
theorem dX6_cheapest_56 : decode cX6_cheapest 56 = .ok (.getfield 19, 3) := by decide +kernel
theorem dX6_cheapest_59 : decode cX6_cheapest 59 = .ok (.iload 5, 2) := by decide +kernel
theorem dX6_cheapest_61 : decode cX6_cheapest 61 = .ok (.ldc2_w 151, 3) := by decide +kernel
theorem dX6_cheapest_64 : decode cX6_cheapest 64 = .ok (.lastore, 1) := by decide +kernel
theorem dX6_cheapest_65 : decode cX6_cheapest 65 = .ok (.iinc 5 1, 3) := by decide +kernel
theorem dX6_cheapest_68 : decode cX6_cheapest 68 = .ok (.goto (-20), 3) := by decide +kernel
theorem dX6_cheapest_71 : decode cX6_cheapest 71 = .ok (.aload_n 0, 1) := by decide +kernel
theorem dX6_cheapest_72 : decode cX6_cheapest 72 = .ok (.getfield 19, 3) := by decide +kernel
theorem dX6_cheapest_75 : decode cX6_cheapest 75 = .ok (.bipush 6, 2) := by decide +kernel
theorem dX6_cheapest_77 : decode cX6_cheapest 77 = .ok (.iload_n 2, 1) := by decide +kernel
theorem dX6_cheapest_78 : decode cX6_cheapest 78 = .ok (.imul, 1) := by decide +kernel
theorem dX6_cheapest_79 : decode cX6_cheapest 79 = .ok (.aload_n 0, 1) := by decide +kernel
theorem dX6_cheapest_80 : decode cX6_cheapest 80 = .ok (.iload_n 1, 1) := by decide +kernel
theorem dX6_cheapest_81 : decode cX6_cheapest 81 = .ok (.iconst 2, 1) := by decide +kernel
theorem dX6_cheapest_82 : decode cX6_cheapest 82 = .ok (.invokevirtual 76, 3) := by decide +kernel
theorem dX6_cheapest_85 : decode cX6_cheapest 85 = .ok (.iadd, 1) := by decide +kernel
theorem dX6_cheapest_86 : decode cX6_cheapest 86 = .ok (.lconst 0, 1) := by decide +kernel
theorem dX6_cheapest_87 : decode cX6_cheapest 87 = .ok (.lastore, 1) := by decide +kernel
theorem dX6_cheapest_88 : decode cX6_cheapest 88 = .ok (.iconst 1, 1) := by decide +kernel
theorem dX6_cheapest_89 : decode cX6_cheapest 89 = .ok (.istore 5, 2) := by decide +kernel
theorem dX6_cheapest_91 : decode cX6_cheapest 91 = .ok (.iload 5, 2) := by decide +kernel
theorem dX6_cheapest_93 : decode cX6_cheapest 93 = .ok (.ifCond .eq 92, 3) := by decide +kernel
theorem dX6_cheapest_96 : decode cX6_cheapest 96 = .ok (.iconst 0, 1) := by decide +kernel
theorem dX6_cheapest_97 : decode cX6_cheapest 97 = .ok (.istore 5, 2) := by decide +kernel
theorem dX6_cheapest_99 : decode cX6_cheapest 99 = .ok (.iconst 0, 1) := by decide +kernel
theorem dX6_cheapest_100 : decode cX6_cheapest 100 = .ok (.istore 6, 2) := by decide +kernel
theorem dX6_cheapest_102 : decode cX6_cheapest 102 = .ok (.iload 6, 2) := by decide +kernel
theorem dX6_cheapest_104 : decode cX6_cheapest 104 = .ok (.aload_n 0, 1) := by decide +kernel
theorem dX6_cheapest_105 : decode cX6_cheapest 105 = .ok (.getfield 27, 3) := by decide +kernel
theorem dX6_cheapest_108 : decode cX6_cheapest 108 = .ok (.if_icmp .ge 74, 3) := by decide +kernel
theorem dX6_cheapest_111 : decode cX6_cheapest 111 = .ok (.iconst 0, 1) := by decide +kernel
theorem dX6_cheapest_112 : decode cX6_cheapest 112 = .ok (.istore 7, 2) := by decide +kernel
theorem dX6_cheapest_114 : decode cX6_cheapest 114 = .ok (.iload 7, 2) := by decide +kernel
theorem dX6_cheapest_116 : decode cX6_cheapest 116 = .ok (.aload_n 0, 1) := by decide +kernel
theorem dX6_cheapest_117 : decode cX6_cheapest 117 = .ok (.getfield 27, 3) := by decide +kernel
theorem dX6_cheapest_120 : decode cX6_cheapest 120 = .ok (.if_icmp .ge 56, 3) := by decide +kernel
theorem dX6_cheapest_123 : decode cX6_cheapest 123 = .ok (.iload 6, 2) := by decide +kernel
theorem dX6_cheapest_125 : decode cX6_cheapest 125 = .ok (.iload 7, 2) := by decide +kernel
theorem dX6_cheapest_127 : decode cX6_cheapest 127 = .ok (.if_icmp .eq 43, 3) := by decide +kernel
theorem dX6_cheapest_130 : decode cX6_cheapest 130 = .ok (.aload_n 0, 1) := by decide +kernel
theorem dX6_cheapest_131 : decode cX6_cheapest 131 = .ok (.getfield 9, 3) := by decide +kernel
theorem dX6_cheapest_134 : decode cX6_cheapest 134 = .ok (.iload 6, 2) := by decide +kernel
theorem dX6_cheapest_136 : decode cX6_cheapest 136 = .ok (.iload 7, 2) := by decide +kernel
theorem dX6_cheapest_138 : decode cX6_cheapest 138 = .ok (.invokestatic 57, 3) := by decide +kernel
theorem dX6_cheapest_141 : decode cX6_cheapest 141 = .ok (.iaload, 1) := by decide +kernel
theorem dX6_cheapest_142 : decode cX6_cheapest 142 = .ok (.iconst 1, 1) := by decide +kernel
theorem dX6_cheapest_143 : decode cX6_cheapest 143 = .ok (.if_icmp .ne 27, 3) := by decide +kernel
theorem dX6_cheapest_146 : decode cX6_cheapest 146 = .ok (.aload_n 0, 1) := by decide +kernel
theorem dX6_cheapest_147 : decode cX6_cheapest 147 = .ok (.iload_n 1, 1) := by decide +kernel
theorem dX6_cheapest_148 : decode cX6_cheapest 148 = .ok (.iload 6, 2) := by decide +kernel
theorem dX6_cheapest_150 : decode cX6_cheapest 150 = .ok (.iload 7, 2) := by decide +kernel
theorem dX6_cheapest_152 : decode cX6_cheapest 152 = .ok (.invokevirtual 153, 3) := by decide +kernel
theorem dX6_cheapest_155 : decode cX6_cheapest 155 = .ok (.ifCond .ne 8, 3) := by decide +kernel
theorem dX6_cheapest_158 : decode cX6_cheapest 158 = .ok (.iload 5, 2) := by decide +kernel
theorem dX6_cheapest_160 : decode cX6_cheapest 160 = .ok (.ifCond .eq 7, 3) := by decide +kernel
theorem dX6_cheapest_163 : decode cX6_cheapest 163 = .ok (.iconst 1, 1) := by decide +kernel
theorem dX6_cheapest_164 : decode cX6_cheapest 164 = .ok (.goto 4, 3) := by decide +kernel
theorem dX6_cheapest_167 : decode cX6_cheapest 167 = .ok (.iconst 0, 1) := by decide +kernel
theorem dX6_cheapest_168 : decode cX6_cheapest 168 = .ok (.istore 5, 2) := by decide +kernel
theorem dX6_cheapest_170 : decode cX6_cheapest 170 = .ok (.iinc 7 1, 3) := by decide +kernel
theorem dX6_cheapest_173 : decode cX6_cheapest 173 = .ok (.goto (-59), 3) := by decide +kernel
theorem dX6_cheapest_176 : decode cX6_cheapest 176 = .ok (.iinc 6 1, 3) := by decide +kernel
theorem dX6_cheapest_179 : decode cX6_cheapest 179 = .ok (.goto (-77), 3) := by decide +kernel
theorem dX6_cheapest_182 : decode cX6_cheapest 182 = .ok (.goto (-91), 3) := by decide +kernel
theorem dX6_cheapest_185 : decode cX6_cheapest 185 = .ok (.ldc2_w 151, 3) := by decide +kernel
theorem dX6_cheapest_188 : decode cX6_cheapest 188 = .ok (.lstore 6, 2) := by decide +kernel
theorem dX6_cheapest_190 : decode cX6_cheapest 190 = .ok (.iconst 0, 1) := by decide +kernel
theorem dX6_cheapest_191 : decode cX6_cheapest 191 = .ok (.istore 8, 2) := by decide +kernel
theorem dX6_cheapest_193 : decode cX6_cheapest 193 = .ok (.iload 8, 2) := by decide +kernel
theorem dX6_cheapest_195 : decode cX6_cheapest 195 = .ok (.bipush 6, 2) := by decide +kernel
theorem dX6_cheapest_197 : decode cX6_cheapest 197 = .ok (.if_icmp .ge 53, 3) := by decide +kernel
theorem dX6_cheapest_200 : decode cX6_cheapest 200 = .ok (.aload_n 0, 1) := by decide +kernel
theorem dX6_cheapest_201 : decode cX6_cheapest 201 = .ok (.getfield 19, 3) := by decide +kernel
theorem dX6_cheapest_204 : decode cX6_cheapest 204 = .ok (.bipush 6, 2) := by decide +kernel
theorem dX6_cheapest_206 : decode cX6_cheapest 206 = .ok (.iload_n 3, 1) := by decide +kernel
theorem dX6_cheapest_207 : decode cX6_cheapest 207 = .ok (.imul, 1) := by decide +kernel
theorem dX6_cheapest_208 : decode cX6_cheapest 208 = .ok (.iload 8, 2) := by decide +kernel
theorem dX6_cheapest_210 : decode cX6_cheapest 210 = .ok (.iadd, 1) := by decide +kernel
theorem dX6_cheapest_211 : decode cX6_cheapest 211 = .ok (.laload, 1) := by decide +kernel
theorem dX6_cheapest_212 : decode cX6_cheapest 212 = .ok (.lstore 9, 2) := by decide +kernel
theorem dX6_cheapest_214 : decode cX6_cheapest 214 = .ok (.lload 9, 2) := by decide +kernel
theorem dX6_cheapest_216 : decode cX6_cheapest 216 = .ok (.ldc2_w 151, 3) := by decide +kernel
theorem dX6_cheapest_219 : decode cX6_cheapest 219 = .ok (.lcmp, 1) := by decide +kernel
theorem dX6_cheapest_220 : decode cX6_cheapest 220 = .ok (.ifCond .eq 24, 3) := by decide +kernel
theorem dX6_cheapest_223 : decode cX6_cheapest 223 = .ok (.lload 6, 2) := by decide +kernel
theorem dX6_cheapest_225 : decode cX6_cheapest 225 = .ok (.ldc2_w 151, 3) := by decide +kernel
theorem dX6_cheapest_228 : decode cX6_cheapest 228 = .ok (.lcmp, 1) := by decide +kernel
theorem dX6_cheapest_229 : decode cX6_cheapest 229 = .ok (.ifCond .eq 11, 3) := by decide +kernel
theorem dX6_cheapest_232 : decode cX6_cheapest 232 = .ok (.lload 9, 2) := by decide +kernel
theorem dX6_cheapest_234 : decode cX6_cheapest 234 = .ok (.lload 6, 2) := by decide +kernel
theorem dX6_cheapest_236 : decode cX6_cheapest 236 = .ok (.lcmp, 1) := by decide +kernel
theorem dX6_cheapest_237 : decode cX6_cheapest 237 = .ok (.ifCond .ge 7, 3) := by decide +kernel
theorem dX6_cheapest_240 : decode cX6_cheapest 240 = .ok (.lload 9, 2) := by decide +kernel
theorem dX6_cheapest_242 : decode cX6_cheapest 242 = .ok (.lstore 6, 2) := by decide +kernel
theorem dX6_cheapest_244 : decode cX6_cheapest 244 = .ok (.iinc 8 1, 3) := by decide +kernel
theorem dX6_cheapest_247 : decode cX6_cheapest 247 = .ok (.goto (-54), 3) := by decide +kernel
theorem dX6_cheapest_250 : decode cX6_cheapest 250 = .ok (.lload 6, 2) := by decide +kernel
theorem dX6_cheapest_252 : decode cX6_cheapest 252 = .ok (.ldc2_w 151, 3) := by decide +kernel
theorem dX6_cheapest_255 : decode cX6_cheapest 255 = .ok (.lcmp, 1) := by decide +kernel
theorem dX6_cheapest_256 : decode cX6_cheapest 256 = .ok (.ifCond .ne 7, 3) := by decide +kernel
theorem dX6_cheapest_259 : decode cX6_cheapest 259 = .ok (.iconst (-1), 1) := by decide +kernel
theorem dX6_cheapest_260 : decode cX6_cheapest 260 = .ok (.goto 24, 3) := by decide +kernel
theorem dX6_cheapest_263 : decode cX6_cheapest 263 = .ok (.iload 4, 2) := by decide +kernel
theorem dX6_cheapest_265 : decode cX6_cheapest 265 = .ok (.ifCond .ne 12, 3) := by decide +kernel
theorem dX6_cheapest_268 : decode cX6_cheapest 268 = .ok (.lload 6, 2) := by decide +kernel
theorem dX6_cheapest_270 : decode cX6_cheapest 270 = .ok (.ldc2_w 156, 3) := by decide +kernel
theorem dX6_cheapest_273 : decode cX6_cheapest 273 = .ok (.ldiv, 1) := by decide +kernel
theorem dX6_cheapest_274 : decode cX6_cheapest 274 = .ok (.goto 9, 3) := by decide +kernel
theorem dX6_cheapest_277 : decode cX6_cheapest 277 = .ok (.lload 6, 2) := by decide +kernel
theorem dX6_cheapest_279 : decode cX6_cheapest 279 = .ok (.ldc2_w 156, 3) := by decide +kernel
theorem dX6_cheapest_282 : decode cX6_cheapest 282 = .ok (.lrem, 1) := by decide +kernel
theorem dX6_cheapest_283 : decode cX6_cheapest 283 = .ok (.l2i, 1) := by decide +kernel
theorem dX6_cheapest_284 : decode cX6_cheapest 284 = .ok (.ireturn, 1) := by decide +kernel
theorem dX6_goOn_0 : decode cX6_goOn 0 = .ok (.iload_n 2, 1) := by decide +kernel
theorem dX6_goOn_1 : decode cX6_goOn 1 = .ok (.iload_n 3, 1) := by decide +kernel
theorem dX6_goOn_2 : decode cX6_goOn 2 = .ok (.invokestatic 57, 3) := by decide +kernel
theorem dX6_goOn_5 : decode cX6_goOn 5 = .ok (.istore 4, 2) := by decide +kernel
theorem dX6_goOn_7 : decode cX6_goOn 7 = .ok (.iconst 0, 1) := by decide +kernel
theorem dX6_goOn_8 : decode cX6_goOn 8 = .ok (.istore 5, 2) := by decide +kernel
theorem dX6_goOn_10 : decode cX6_goOn 10 = .ok (.iconst 0, 1) := by decide +kernel
theorem dX6_goOn_11 : decode cX6_goOn 11 = .ok (.istore 6, 2) := by decide +kernel
theorem dX6_goOn_13 : decode cX6_goOn 13 = .ok (.iload 6, 2) := by decide +kernel
theorem dX6_goOn_15 : decode cX6_goOn 15 = .ok (.bipush 6, 2) := by decide +kernel
theorem dX6_goOn_17 : decode cX6_goOn 17 = .ok (.if_icmp .ge 132, 3) := by decide +kernel
theorem dX6_goOn_20 : decode cX6_goOn 20 = .ok (.aload_n 0, 1) := by decide +kernel
theorem dX6_goOn_21 : decode cX6_goOn 21 = .ok (.getfield 19, 3) := by decide +kernel
theorem dX6_goOn_24 : decode cX6_goOn 24 = .ok (.bipush 6, 2) := by decide +kernel
theorem dX6_goOn_26 : decode cX6_goOn 26 = .ok (.iload_n 2, 1) := by decide +kernel
theorem dX6_goOn_27 : decode cX6_goOn 27 = .ok (.imul, 1) := by decide +kernel
theorem dX6_goOn_28 : decode cX6_goOn 28 = .ok (.iload 6, 2) := by decide +kernel
theorem dX6_goOn_30 : decode cX6_goOn 30 = .ok (.iadd, 1) := by decide +kernel
theorem dX6_goOn_31 : decode cX6_goOn 31 = .ok (.laload, 1) := by decide +kernel
theorem dX6_goOn_32 : decode cX6_goOn 32 = .ok (.lstore 7, 2) := by decide +kernel
theorem dX6_goOn_34 : decode cX6_goOn 34 = .ok (.iconst 0, 1) := by decide +kernel
theorem dX6_goOn_35 : decode cX6_goOn 35 = .ok (.istore 9, 2) := by decide +kernel
theorem dX6_goOn_37 : decode cX6_goOn 37 = .ok (.iload 9, 2) := by decide +kernel
theorem dX6_goOn_39 : decode cX6_goOn 39 = .ok (.iload 6, 2) := by decide +kernel
theorem dX6_goOn_41 : decode cX6_goOn 41 = .ok (.if_icmp .gt 102, 3) := by decide +kernel
theorem dX6_goOn_44 : decode cX6_goOn 44 = .ok (.lload 7, 2) := by decide +kernel
theorem dX6_goOn_46 : decode cX6_goOn 46 = .ok (.ldc2_w 151, 3) := by decide +kernel
theorem dX6_goOn_49 : decode cX6_goOn 49 = .ok (.lcmp, 1) := by decide +kernel
theorem dX6_goOn_50 : decode cX6_goOn 50 = .ok (.ifCond .eq 93, 3) := by decide +kernel
theorem dX6_goOn_53 : decode cX6_goOn 53 = .ok (.lload 7, 2) := by decide +kernel
theorem dX6_goOn_55 : decode cX6_goOn 55 = .ok (.ldc2_w 156, 3) := by decide +kernel
theorem dX6_goOn_58 : decode cX6_goOn 58 = .ok (.aload_n 0, 1) := by decide +kernel
theorem dX6_goOn_59 : decode cX6_goOn 59 = .ok (.iload 4, 2) := by decide +kernel
theorem dX6_goOn_61 : decode cX6_goOn 61 = .ok (.iload_n 1, 1) := by decide +kernel
theorem dX6_goOn_62 : decode cX6_goOn 62 = .ok (.iload 9, 2) := by decide +kernel
theorem dX6_goOn_64 : decode cX6_goOn 64 = .ok (.invokevirtual 110, 3) := by decide +kernel
theorem dX6_goOn_67 : decode cX6_goOn 67 = .ok (.i2l, 1) := by decide +kernel
theorem dX6_goOn_68 : decode cX6_goOn 68 = .ok (.lmul, 1) := by decide +kernel
theorem dX6_goOn_69 : decode cX6_goOn 69 = .ok (.ladd, 1) := by decide +kernel
theorem dX6_goOn_70 : decode cX6_goOn 70 = .ok (.aload_n 0, 1) := by decide +kernel
theorem dX6_goOn_71 : decode cX6_goOn 71 = .ok (.getfield 9, 3) := by decide +kernel
theorem dX6_goOn_74 : decode cX6_goOn 74 = .ok (.iload 4, 2) := by decide +kernel
theorem dX6_goOn_76 : decode cX6_goOn 76 = .ok (.iconst 1, 1) := by decide +kernel
theorem dX6_goOn_77 : decode cX6_goOn 77 = .ok (.iadd, 1) := by decide +kernel
theorem dX6_goOn_78 : decode cX6_goOn 78 = .ok (.iaload, 1) := by decide +kernel
theorem dX6_goOn_79 : decode cX6_goOn 79 = .ok (.i2l, 1) := by decide +kernel
theorem dX6_goOn_80 : decode cX6_goOn 80 = .ok (.ladd, 1) := by decide +kernel
theorem dX6_goOn_81 : decode cX6_goOn 81 = .ok (.lstore 10, 2) := by decide +kernel
theorem dX6_goOn_83 : decode cX6_goOn 83 = .ok (.bipush 6, 2) := by decide +kernel
theorem dX6_goOn_85 : decode cX6_goOn 85 = .ok (.iload_n 3, 1) := by decide +kernel
theorem dX6_goOn_86 : decode cX6_goOn 86 = .ok (.imul, 1) := by decide +kernel
theorem dX6_goOn_87 : decode cX6_goOn 87 = .ok (.iload 6, 2) := by decide +kernel
theorem dX6_goOn_89 : decode cX6_goOn 89 = .ok (.iadd, 1) := by decide +kernel
theorem dX6_goOn_90 : decode cX6_goOn 90 = .ok (.iload 9, 2) := by decide +kernel
theorem dX6_goOn_92 : decode cX6_goOn 92 = .ok (.isub, 1) := by decide +kernel
theorem dX6_goOn_93 : decode cX6_goOn 93 = .ok (.istore 12, 2) := by decide +kernel
theorem dX6_goOn_95 : decode cX6_goOn 95 = .ok (.aload_n 0, 1) := by decide +kernel
theorem dX6_goOn_96 : decode cX6_goOn 96 = .ok (.getfield 19, 3) := by decide +kernel
theorem dX6_goOn_99 : decode cX6_goOn 99 = .ok (.iload 12, 2) := by decide +kernel
theorem dX6_goOn_101 : decode cX6_goOn 101 = .ok (.laload, 1) := by decide +kernel
theorem dX6_goOn_102 : decode cX6_goOn 102 = .ok (.ldc2_w 151, 3) := by decide +kernel
theorem dX6_goOn_105 : decode cX6_goOn 105 = .ok (.lcmp, 1) := by decide +kernel
theorem dX6_goOn_106 : decode cX6_goOn 106 = .ok (.ifCond .eq 19, 3) := by decide +kernel
theorem dX6_goOn_109 : decode cX6_goOn 109 = .ok (.aload_n 0, 1) := by decide +kernel
theorem dX6_goOn_110 : decode cX6_goOn 110 = .ok (.getfield 19, 3) := by decide +kernel
theorem dX6_goOn_113 : decode cX6_goOn 113 = .ok (.iload 12, 2) := by decide +kernel
theorem dX6_goOn_115 : decode cX6_goOn 115 = .ok (.laload, 1) := by decide +kernel
theorem dX6_goOn_116 : decode cX6_goOn 116 = .ok (.lload 10, 2) := by decide +kernel
theorem dX6_goOn_118 : decode cX6_goOn 118 = .ok (.lcmp, 1) := by decide +kernel
theorem dX6_goOn_119 : decode cX6_goOn 119 = .ok (.ifCond .gt 6, 3) := by decide +kernel
theorem dX6_goOn_122 : decode cX6_goOn 122 = .ok (.goto 15, 3) := by decide +kernel
theorem dX6_goOn_125 : decode cX6_goOn 125 = .ok (.aload_n 0, 1) := by decide +kernel
theorem dX6_goOn_126 : decode cX6_goOn 126 = .ok (.getfield 19, 3) := by decide +kernel
theorem dX6_goOn_129 : decode cX6_goOn 129 = .ok (.iload 12, 2) := by decide +kernel
theorem dX6_goOn_131 : decode cX6_goOn 131 = .ok (.lload 10, 2) := by decide +kernel
theorem dX6_goOn_133 : decode cX6_goOn 133 = .ok (.lastore, 1) := by decide +kernel
theorem dX6_goOn_134 : decode cX6_goOn 134 = .ok (.iconst 1, 1) := by decide +kernel
theorem dX6_goOn_135 : decode cX6_goOn 135 = .ok (.istore 5, 2) := by decide +kernel
theorem dX6_goOn_137 : decode cX6_goOn 137 = .ok (.iinc 9 1, 3) := by decide +kernel
theorem dX6_goOn_140 : decode cX6_goOn 140 = .ok (.goto (-103), 3) := by decide +kernel
theorem dX6_goOn_143 : decode cX6_goOn 143 = .ok (.iinc 6 1, 3) := by decide +kernel
theorem dX6_goOn_146 : decode cX6_goOn 146 = .ok (.goto (-133), 3) := by decide +kernel
theorem dX6_goOn_149 : decode cX6_goOn 149 = .ok (.iload 5, 2) := by decide +kernel
theorem dX6_goOn_151 : decode cX6_goOn 151 = .ok (.ireturn, 1) := by decide +kernel
theorem dX6_spread_0 : decode cX6_spread 0 = .ok (.aload_n 0, 1) := by decide +kernel
theorem dX6_spread_1 : decode cX6_spread 1 = .ok (.iconst 0, 1) := by decide +kernel
theorem dX6_spread_2 : decode cX6_spread 2 = .ok (.putfield 23, 3) := by decide +kernel
theorem dX6_spread_5 : decode cX6_spread 5 = .ok (.aload_n 0, 1) := by decide +kernel
theorem dX6_spread_6 : decode cX6_spread 6 = .ok (.iload_n 1, 1) := by decide +kernel
theorem dX6_spread_7 : decode cX6_spread 7 = .ok (.invokevirtual 73, 3) := by decide +kernel
theorem dX6_spread_10 : decode cX6_spread 10 = .ok (.ifCond .eq 12, 3) := by decide +kernel
theorem dX6_spread_13 : decode cX6_spread 13 = .ok (.iload_n 2, 1) := by decide +kernel
theorem dX6_spread_14 : decode cX6_spread 14 = .ok (.iconst 0, 1) := by decide +kernel
theorem dX6_spread_15 : decode cX6_spread 15 = .ok (.iconst 2, 1) := by decide +kernel
theorem dX6_spread_16 : decode cX6_spread 16 = .ok (.invokestatic 30, 3) := by decide +kernel
theorem dX6_spread_19 : decode cX6_spread 19 = .ok (.ifCond .ne 9, 3) := by decide +kernel
theorem dX6_spread_22 : decode cX6_spread 22 = .ok (.aload_n 0, 1) := by decide +kernel
theorem dX6_spread_23 : decode cX6_spread 23 = .ok (.iconst 1, 1) := by decide +kernel
theorem dX6_spread_24 : decode cX6_spread 24 = .ok (.invokevirtual 49, 3) := by decide +kernel
theorem dX6_spread_27 : decode cX6_spread 27 = .ok (.ireturn, 1) := by decide +kernel
theorem dX6_spread_28 : decode cX6_spread 28 = .ok (.aload_n 0, 1) := by decide +kernel
theorem dX6_spread_29 : decode cX6_spread 29 = .ok (.iload_n 1, 1) := by decide +kernel
theorem dX6_spread_30 : decode cX6_spread 30 = .ok (.iconst 3, 1) := by decide +kernel
theorem dX6_spread_31 : decode cX6_spread 31 = .ok (.invokevirtual 76, 3) := by decide +kernel
theorem dX6_spread_34 : decode cX6_spread 34 = .ok (.istore_n 3, 1) := by decide +kernel
theorem dX6_spread_35 : decode cX6_spread 35 = .ok (.iconst 0, 1) := by decide +kernel
theorem dX6_spread_36 : decode cX6_spread 36 = .ok (.istore 4, 2) := by decide +kernel
theorem dX6_spread_38 : decode cX6_spread 38 = .ok (.iconst (-1), 1) := by decide +kernel
theorem dX6_spread_39 : decode cX6_spread 39 = .ok (.istore 5, 2) := by decide +kernel
theorem dX6_spread_41 : decode cX6_spread 41 = .ok (.iconst 0, 1) := by decide +kernel
theorem dX6_spread_42 : decode cX6_spread 42 = .ok (.istore 6, 2) := by decide +kernel
theorem dX6_spread_44 : decode cX6_spread 44 = .ok (.iload 6, 2) := by decide +kernel
theorem dX6_spread_46 : decode cX6_spread 46 = .ok (.aload_n 0, 1) := by decide +kernel
theorem dX6_spread_47 : decode cX6_spread 47 = .ok (.getfield 27, 3) := by decide +kernel
theorem dX6_spread_50 : decode cX6_spread 50 = .ok (.if_icmp .ge 33, 3) := by decide +kernel
theorem dX6_spread_53 : decode cX6_spread 53 = .ok (.iload_n 2, 1) := by decide +kernel
theorem dX6_spread_54 : decode cX6_spread 54 = .ok (.ifCond .ne 29, 3) := by decide +kernel
theorem dX6_spread_57 : decode cX6_spread 57 = .ok (.iload 4, 2) := by decide +kernel
theorem dX6_spread_59 : decode cX6_spread 59 = .ok (.aload_n 0, 1) := by decide +kernel
theorem dX6_spread_60 : decode cX6_spread 60 = .ok (.iload 6, 2) := by decide +kernel
theorem dX6_spread_62 : decode cX6_spread 62 = .ok (.iload_n 3, 1) := by decide +kernel
theorem dX6_spread_63 : decode cX6_spread 63 = .ok (.invokevirtual 82, 3) := by decide +kernel
theorem dX6_spread_66 : decode cX6_spread 66 = .ok (.ifCond .eq 7, 3) := by decide +kernel
theorem dX6_spread_69 : decode cX6_spread 69 = .ok (.iconst 1, 1) := by decide +kernel
theorem dX6_spread_70 : decode cX6_spread 70 = .ok (.goto 4, 3) := by decide +kernel
theorem dX6_spread_73 : decode cX6_spread 73 = .ok (.iconst 0, 1) := by decide +kernel
theorem dX6_spread_74 : decode cX6_spread 74 = .ok (.iadd, 1) := by decide +kernel
theorem dX6_spread_75 : decode cX6_spread 75 = .ok (.istore 4, 2) := by decide +kernel
theorem dX6_spread_77 : decode cX6_spread 77 = .ok (.iinc 6 1, 3) := by decide +kernel
theorem dX6_spread_80 : decode cX6_spread 80 = .ok (.goto (-36), 3) := by decide +kernel
theorem dX6_spread_83 : decode cX6_spread 83 = .ok (.iconst 0, 1) := by decide +kernel
theorem dX6_spread_84 : decode cX6_spread 84 = .ok (.istore 6, 2) := by decide +kernel
theorem dX6_spread_86 : decode cX6_spread 86 = .ok (.iload 6, 2) := by decide +kernel
theorem dX6_spread_88 : decode cX6_spread 88 = .ok (.aload_n 0, 1) := by decide +kernel
theorem dX6_spread_89 : decode cX6_spread 89 = .ok (.getfield 34, 3) := by decide +kernel
theorem dX6_spread_92 : decode cX6_spread 92 = .ok (.if_icmp .ge 84, 3) := by decide +kernel
theorem dX6_spread_95 : decode cX6_spread 95 = .ok (.iload_n 2, 1) := by decide +kernel
theorem dX6_spread_96 : decode cX6_spread 96 = .ok (.ifCond .le 80, 3) := by decide +kernel
theorem dX6_spread_99 : decode cX6_spread 99 = .ok (.aload_n 0, 1) := by decide +kernel
theorem dX6_spread_100 : decode cX6_spread 100 = .ok (.iload 6, 2) := by decide +kernel
theorem dX6_spread_102 : decode cX6_spread 102 = .ok (.iconst 3, 1) := by decide +kernel
theorem dX6_spread_103 : decode cX6_spread 103 = .ok (.invokevirtual 76, 3) := by decide +kernel
theorem dX6_spread_106 : decode cX6_spread 106 = .ok (.iload_n 3, 1) := by decide +kernel
theorem dX6_spread_107 : decode cX6_spread 107 = .ok (.if_icmp .eq 6, 3) := by decide +kernel
theorem dX6_spread_110 : decode cX6_spread 110 = .ok (.goto 60, 3) := by decide +kernel
theorem dX6_spread_113 : decode cX6_spread 113 = .ok (.aload_n 0, 1) := by decide +kernel
theorem dX6_spread_114 : decode cX6_spread 114 = .ok (.iload 6, 2) := by decide +kernel
theorem dX6_spread_116 : decode cX6_spread 116 = .ok (.iconst 4, 1) := by decide +kernel
theorem dX6_spread_117 : decode cX6_spread 117 = .ok (.invokevirtual 76, 3) := by decide +kernel
theorem dX6_spread_120 : decode cX6_spread 120 = .ok (.iconst (-1), 1) := by decide +kernel
theorem dX6_spread_121 : decode cX6_spread 121 = .ok (.if_icmp .eq 17, 3) := by decide +kernel
theorem dX6_spread_124 : decode cX6_spread 124 = .ok (.iload 5, 2) := by decide +kernel
theorem dX6_spread_126 : decode cX6_spread 126 = .ok (.aload_n 0, 1) := by decide +kernel
theorem dX6_spread_127 : decode cX6_spread 127 = .ok (.iload 6, 2) := by decide +kernel
theorem dX6_spread_129 : decode cX6_spread 129 = .ok (.iconst 1, 1) := by decide +kernel
theorem dX6_spread_130 : decode cX6_spread 130 = .ok (.invokevirtual 76, 3) := by decide +kernel
theorem dX6_spread_133 : decode cX6_spread 133 = .ok (.invokestatic 46, 3) := by decide +kernel
theorem dX6_spread_136 : decode cX6_spread 136 = .ok (.istore 5, 2) := by decide +kernel
theorem dX6_spread_138 : decode cX6_spread 138 = .ok (.iload 4, 2) := by decide +kernel
theorem dX6_spread_140 : decode cX6_spread 140 = .ok (.aload_n 0, 1) := by decide +kernel
theorem dX6_spread_141 : decode cX6_spread 141 = .ok (.iload 6, 2) := by decide +kernel
theorem dX6_spread_143 : decode cX6_spread 143 = .ok (.iconst 4, 1) := by decide +kernel
theorem dX6_spread_144 : decode cX6_spread 144 = .ok (.invokevirtual 76, 3) := by decide +kernel
theorem dX6_spread_147 : decode cX6_spread 147 = .ok (.iconst (-1), 1) := by decide +kernel
theorem dX6_spread_148 : decode cX6_spread 148 = .ok (.if_icmp .ne 14, 3) := by decide +kernel
theorem dX6_spread_151 : decode cX6_spread 151 = .ok (.aload_n 0, 1) := by decide +kernel
theorem dX6_spread_152 : decode cX6_spread 152 = .ok (.iload 6, 2) := by decide +kernel
theorem dX6_spread_154 : decode cX6_spread 154 = .ok (.iconst 5, 1) := by decide +kernel
theorem dX6_spread_155 : decode cX6_spread 155 = .ok (.invokevirtual 76, 3) := by decide +kernel
theorem dX6_spread_158 : decode cX6_spread 158 = .ok (.iconst (-1), 1) := by decide +kernel
theorem dX6_spread_159 : decode cX6_spread 159 = .ok (.if_icmp .eq 7, 3) := by decide +kernel
theorem dX6_spread_162 : decode cX6_spread 162 = .ok (.iconst 1, 1) := by decide +kernel
theorem dX6_spread_163 : decode cX6_spread 163 = .ok (.goto 4, 3) := by decide +kernel
theorem dX6_spread_166 : decode cX6_spread 166 = .ok (.iconst 0, 1) := by decide +kernel
theorem dX6_spread_167 : decode cX6_spread 167 = .ok (.iadd, 1) := by decide +kernel
theorem dX6_spread_168 : decode cX6_spread 168 = .ok (.istore 4, 2) := by decide +kernel
theorem dX6_spread_170 : decode cX6_spread 170 = .ok (.iinc 6 1, 3) := by decide +kernel
theorem dX6_spread_173 : decode cX6_spread 173 = .ok (.goto (-87), 3) := by decide +kernel
theorem dX6_spread_176 : decode cX6_spread 176 = .ok (.iload_n 2, 1) := by decide +kernel
theorem dX6_spread_177 : decode cX6_spread 177 = .ok (.iconst 1, 1) := by decide +kernel
theorem dX6_spread_178 : decode cX6_spread 178 = .ok (.if_icmp .ne 8, 3) := by decide +kernel
theorem dX6_spread_181 : decode cX6_spread 181 = .ok (.iload 5, 2) := by decide +kernel
theorem dX6_spread_183 : decode cX6_spread 183 = .ok (.goto 5, 3) := by decide +kernel
theorem dX6_spread_186 : decode cX6_spread 186 = .ok (.iload 4, 2) := by decide +kernel
theorem dX6_spread_188 : decode cX6_spread 188 = .ok (.ireturn, 1) := by decide +kernel
theorem dX6_hearsay_0 : decode cX6_hearsay 0 = .ok (.aload_n 0, 1) := by decide +kernel
theorem dX6_hearsay_1 : decode cX6_hearsay 1 = .ok (.iconst 0, 1) := by decide +kernel
theorem dX6_hearsay_2 : decode cX6_hearsay 2 = .ok (.putfield 23, 3) := by decide +kernel
theorem dX6_hearsay_5 : decode cX6_hearsay 5 = .ok (.iconst 0, 1) := by decide +kernel
theorem dX6_hearsay_6 : decode cX6_hearsay 6 = .ok (.istore_n 1, 1) := by decide +kernel
theorem dX6_hearsay_7 : decode cX6_hearsay 7 = .ok (.iconst 0, 1) := by decide +kernel
theorem dX6_hearsay_8 : decode cX6_hearsay 8 = .ok (.istore_n 2, 1) := by decide +kernel
theorem dX6_hearsay_9 : decode cX6_hearsay 9 = .ok (.iconst 0, 1) := by decide +kernel
theorem dX6_hearsay_10 : decode cX6_hearsay 10 = .ok (.istore_n 3, 1) := by decide +kernel
theorem dX6_hearsay_11 : decode cX6_hearsay 11 = .ok (.iload_n 3, 1) := by decide +kernel
theorem dX6_hearsay_12 : decode cX6_hearsay 12 = .ok (.aload_n 0, 1) := by decide +kernel
theorem dX6_hearsay_13 : decode cX6_hearsay 13 = .ok (.getfield 34, 3) := by decide +kernel
theorem dX6_hearsay_16 : decode cX6_hearsay 16 = .ok (.if_icmp .ge 34, 3) := by decide +kernel
theorem dX6_hearsay_19 : decode cX6_hearsay 19 = .ok (.aload_n 0, 1) := by decide +kernel
theorem dX6_hearsay_20 : decode cX6_hearsay 20 = .ok (.iload_n 3, 1) := by decide +kernel
theorem dX6_hearsay_21 : decode cX6_hearsay 21 = .ok (.iconst 4, 1) := by decide +kernel
theorem dX6_hearsay_22 : decode cX6_hearsay 22 = .ok (.invokevirtual 76, 3) := by decide +kernel
theorem dX6_hearsay_25 : decode cX6_hearsay 25 = .ok (.iconst (-1), 1) := by decide +kernel
theorem dX6_hearsay_26 : decode cX6_hearsay 26 = .ok (.if_icmp .ne 6, 3) := by decide +kernel
theorem dX6_hearsay_29 : decode cX6_hearsay 29 = .ok (.goto 15, 3) := by decide +kernel
theorem dX6_hearsay_32 : decode cX6_hearsay 32 = .ok (.iload_n 1, 1) := by decide +kernel
theorem dX6_hearsay_33 : decode cX6_hearsay 33 = .ok (.aload_n 0, 1) := by decide +kernel
theorem dX6_hearsay_34 : decode cX6_hearsay 34 = .ok (.iload_n 3, 1) := by decide +kernel
theorem dX6_hearsay_35 : decode cX6_hearsay 35 = .ok (.iconst 1, 1) := by decide +kernel
theorem dX6_hearsay_36 : decode cX6_hearsay 36 = .ok (.invokevirtual 76, 3) := by decide +kernel
theorem dX6_hearsay_39 : decode cX6_hearsay 39 = .ok (.iadd, 1) := by decide +kernel
theorem dX6_hearsay_40 : decode cX6_hearsay 40 = .ok (.istore_n 1, 1) := by decide +kernel
theorem dX6_hearsay_41 : decode cX6_hearsay 41 = .ok (.iinc 2 1, 3) := by decide +kernel
theorem dX6_hearsay_44 : decode cX6_hearsay 44 = .ok (.iinc 3 1, 3) := by decide +kernel
theorem dX6_hearsay_47 : decode cX6_hearsay 47 = .ok (.goto (-36), 3) := by decide +kernel
theorem dX6_hearsay_50 : decode cX6_hearsay 50 = .ok (.iload_n 2, 1) := by decide +kernel
theorem dX6_hearsay_51 : decode cX6_hearsay 51 = .ok (.ifCond .ne 7, 3) := by decide +kernel
theorem dX6_hearsay_54 : decode cX6_hearsay 54 = .ok (.dconst 0, 1) := by decide +kernel
theorem dX6_hearsay_55 : decode cX6_hearsay 55 = .ok (.goto 8, 3) := by decide +kernel
theorem dX6_hearsay_58 : decode cX6_hearsay 58 = .ok (.iload_n 1, 1) := by decide +kernel
theorem dX6_hearsay_59 : decode cX6_hearsay 59 = .ok (.i2d, 1) := by decide +kernel
theorem dX6_hearsay_60 : decode cX6_hearsay 60 = .ok (.iload_n 2, 1) := by decide +kernel
theorem dX6_hearsay_61 : decode cX6_hearsay 61 = .ok (.i2d, 1) := by decide +kernel
theorem dX6_hearsay_62 : decode cX6_hearsay 62 = .ok (.ddiv, 1) := by decide +kernel
theorem dX6_hearsay_63 : decode cX6_hearsay 63 = .ok (.dreturn, 1) := by decide +kernel
theorem dX6_digest_0 : decode cX6_digest 0 = .ok (.aload_n 0, 1) := by decide +kernel
theorem dX6_digest_1 : decode cX6_digest 1 = .ok (.iconst 0, 1) := by decide +kernel
theorem dX6_digest_2 : decode cX6_digest 2 = .ok (.putfield 23, 3) := by decide +kernel
theorem dX6_digest_5 : decode cX6_digest 5 = .ok (.ldc2_w 158, 3) := by decide +kernel
theorem dX6_digest_8 : decode cX6_digest 8 = .ok (.lstore_n 1, 1) := by decide +kernel
theorem dX6_digest_9 : decode cX6_digest 9 = .ok (.iconst 0, 1) := by decide +kernel
theorem dX6_digest_10 : decode cX6_digest 10 = .ok (.istore_n 3, 1) := by decide +kernel
theorem dX6_digest_11 : decode cX6_digest 11 = .ok (.iload_n 3, 1) := by decide +kernel
theorem dX6_digest_12 : decode cX6_digest 12 = .ok (.bipush 11, 2) := by decide +kernel
theorem dX6_digest_14 : decode cX6_digest 14 = .ok (.if_icmp .ge 22, 3) := by decide +kernel
theorem dX6_digest_17 : decode cX6_digest 17 = .ok (.lload_n 1, 1) := by decide +kernel
theorem dX6_digest_18 : decode cX6_digest 18 = .ok (.ldc2_w 160, 3) := by decide +kernel
theorem dX6_digest_21 : decode cX6_digest 21 = .ok (.lmul, 1) := by decide +kernel
theorem dX6_digest_22 : decode cX6_digest 22 = .ok (.aload_n 0, 1) := by decide +kernel
theorem dX6_digest_23 : decode cX6_digest 23 = .ok (.iload_n 3, 1) := by decide +kernel
theorem dX6_digest_24 : decode cX6_digest 24 = .ok (.invokevirtual 148, 3) := by decide +kernel
theorem dX6_digest_27 : decode cX6_digest 27 = .ok (.i2l, 1) := by decide +kernel
theorem dX6_digest_28 : decode cX6_digest 28 = .ok (.ladd, 1) := by decide +kernel
theorem dX6_digest_29 : decode cX6_digest 29 = .ok (.lstore_n 1, 1) := by decide +kernel
theorem dX6_digest_30 : decode cX6_digest 30 = .ok (.iinc 3 1, 3) := by decide +kernel
theorem dX6_digest_33 : decode cX6_digest 33 = .ok (.goto (-22), 3) := by decide +kernel
theorem dX6_digest_36 : decode cX6_digest 36 = .ok (.iconst 0, 1) := by decide +kernel
theorem dX6_digest_37 : decode cX6_digest 37 = .ok (.istore_n 3, 1) := by decide +kernel
theorem dX6_digest_38 : decode cX6_digest 38 = .ok (.iload_n 3, 1) := by decide +kernel
theorem dX6_digest_39 : decode cX6_digest 39 = .ok (.aload_n 0, 1) := by decide +kernel
theorem dX6_digest_40 : decode cX6_digest 40 = .ok (.getfield 27, 3) := by decide +kernel
theorem dX6_digest_43 : decode cX6_digest 43 = .ok (.if_icmp .ge 84, 3) := by decide +kernel
theorem dX6_digest_46 : decode cX6_digest 46 = .ok (.iload_n 3, 1) := by decide +kernel
theorem dX6_digest_47 : decode cX6_digest 47 = .ok (.iconst 1, 1) := by decide +kernel
theorem dX6_digest_48 : decode cX6_digest 48 = .ok (.iadd, 1) := by decide +kernel
theorem dX6_digest_49 : decode cX6_digest 49 = .ok (.istore 4, 2) := by decide +kernel
theorem dX6_digest_51 : decode cX6_digest 51 = .ok (.iload 4, 2) := by decide +kernel
theorem dX6_digest_53 : decode cX6_digest 53 = .ok (.aload_n 0, 1) := by decide +kernel
theorem dX6_digest_54 : decode cX6_digest 54 = .ok (.getfield 27, 3) := by decide +kernel
theorem dX6_digest_57 : decode cX6_digest 57 = .ok (.if_icmp .ge 64, 3) := by decide +kernel
theorem dX6_digest_60 : decode cX6_digest 60 = .ok (.aload_n 0, 1) := by decide +kernel
theorem dX6_digest_61 : decode cX6_digest 61 = .ok (.getfield 9, 3) := by decide +kernel
theorem dX6_digest_64 : decode cX6_digest 64 = .ok (.iload_n 3, 1) := by decide +kernel
theorem dX6_digest_65 : decode cX6_digest 65 = .ok (.iload 4, 2) := by decide +kernel
theorem dX6_digest_67 : decode cX6_digest 67 = .ok (.invokestatic 57, 3) := by decide +kernel
theorem dX6_digest_70 : decode cX6_digest 70 = .ok (.iaload, 1) := by decide +kernel
theorem dX6_digest_71 : decode cX6_digest 71 = .ok (.ifCond .ne 6, 3) := by decide +kernel
theorem dX6_digest_74 : decode cX6_digest 74 = .ok (.goto 41, 3) := by decide +kernel
theorem dX6_digest_77 : decode cX6_digest 77 = .ok (.iconst 0, 1) := by decide +kernel
theorem dX6_digest_78 : decode cX6_digest 78 = .ok (.istore 5, 2) := by decide +kernel
theorem dX6_digest_80 : decode cX6_digest 80 = .ok (.iload 5, 2) := by decide +kernel
theorem dX6_digest_82 : decode cX6_digest 82 = .ok (.bipush 7, 2) := by decide +kernel
theorem dX6_digest_84 : decode cX6_digest 84 = .ok (.if_icmp .ge 31, 3) := by decide +kernel
theorem dX6_digest_87 : decode cX6_digest 87 = .ok (.lload_n 1, 1) := by decide +kernel
theorem dX6_digest_88 : decode cX6_digest 88 = .ok (.ldc2_w 160, 3) := by decide +kernel
theorem dX6_digest_91 : decode cX6_digest 91 = .ok (.lmul, 1) := by decide +kernel
theorem dX6_digest_92 : decode cX6_digest 92 = .ok (.aload_n 0, 1) := by decide +kernel
theorem dX6_digest_93 : decode cX6_digest 93 = .ok (.getfield 9, 3) := by decide +kernel
theorem dX6_digest_96 : decode cX6_digest 96 = .ok (.iload_n 3, 1) := by decide +kernel
theorem dX6_digest_97 : decode cX6_digest 97 = .ok (.iload 4, 2) := by decide +kernel
theorem dX6_digest_99 : decode cX6_digest 99 = .ok (.invokestatic 57, 3) := by decide +kernel
theorem dX6_digest_102 : decode cX6_digest 102 = .ok (.iload 5, 2) := by decide +kernel
theorem dX6_digest_104 : decode cX6_digest 104 = .ok (.iadd, 1) := by decide +kernel
theorem dX6_digest_105 : decode cX6_digest 105 = .ok (.iaload, 1) := by decide +kernel
theorem dX6_digest_106 : decode cX6_digest 106 = .ok (.i2l, 1) := by decide +kernel
theorem dX6_digest_107 : decode cX6_digest 107 = .ok (.ladd, 1) := by decide +kernel
theorem dX6_digest_108 : decode cX6_digest 108 = .ok (.lstore_n 1, 1) := by decide +kernel
theorem dX6_digest_109 : decode cX6_digest 109 = .ok (.iinc 5 1, 3) := by decide +kernel
theorem dX6_digest_112 : decode cX6_digest 112 = .ok (.goto (-32), 3) := by decide +kernel
theorem dX6_digest_115 : decode cX6_digest 115 = .ok (.iinc 4 1, 3) := by decide +kernel
theorem dX6_digest_118 : decode cX6_digest 118 = .ok (.goto (-67), 3) := by decide +kernel
theorem dX6_digest_121 : decode cX6_digest 121 = .ok (.iinc 3 1, 3) := by decide +kernel
theorem dX6_digest_124 : decode cX6_digest 124 = .ok (.goto (-86), 3) := by decide +kernel
theorem dX6_digest_127 : decode cX6_digest 127 = .ok (.iconst 0, 1) := by decide +kernel
theorem dX6_digest_128 : decode cX6_digest 128 = .ok (.istore_n 3, 1) := by decide +kernel
theorem dX6_digest_129 : decode cX6_digest 129 = .ok (.iload_n 3, 1) := by decide +kernel
theorem dX6_digest_130 : decode cX6_digest 130 = .ok (.bipush 7, 2) := by decide +kernel
theorem dX6_digest_132 : decode cX6_digest 132 = .ok (.aload_n 0, 1) := by decide +kernel
theorem dX6_digest_133 : decode cX6_digest 133 = .ok (.getfield 34, 3) := by decide +kernel
theorem dX6_digest_136 : decode cX6_digest 136 = .ok (.imul, 1) := by decide +kernel
theorem dX6_digest_137 : decode cX6_digest 137 = .ok (.if_icmp .ge 23, 3) := by decide +kernel
theorem dX6_digest_140 : decode cX6_digest 140 = .ok (.lload_n 1, 1) := by decide +kernel
theorem dX6_digest_141 : decode cX6_digest 141 = .ok (.ldc2_w 160, 3) := by decide +kernel
theorem dX6_digest_144 : decode cX6_digest 144 = .ok (.lmul, 1) := by decide +kernel
theorem dX6_digest_145 : decode cX6_digest 145 = .ok (.aload_n 0, 1) := by decide +kernel
theorem dX6_digest_146 : decode cX6_digest 146 = .ok (.getfield 13, 3) := by decide +kernel
theorem dX6_digest_149 : decode cX6_digest 149 = .ok (.iload_n 3, 1) := by decide +kernel
theorem dX6_digest_150 : decode cX6_digest 150 = .ok (.iaload, 1) := by decide +kernel
theorem dX6_digest_151 : decode cX6_digest 151 = .ok (.i2l, 1) := by decide +kernel
theorem dX6_digest_152 : decode cX6_digest 152 = .ok (.ladd, 1) := by decide +kernel
theorem dX6_digest_153 : decode cX6_digest 153 = .ok (.lstore_n 1, 1) := by decide +kernel
theorem dX6_digest_154 : decode cX6_digest 154 = .ok (.iinc 3 1, 3) := by decide +kernel
theorem dX6_digest_157 : decode cX6_digest 157 = .ok (.goto (-28), 3) := by decide +kernel
theorem dX6_digest_160 : decode cX6_digest 160 = .ok (.iconst 0, 1) := by decide +kernel
theorem dX6_digest_161 : decode cX6_digest 161 = .ok (.istore_n 3, 1) := by decide +kernel
theorem dX6_digest_162 : decode cX6_digest 162 = .ok (.iload_n 3, 1) := by decide +kernel
theorem dX6_digest_163 : decode cX6_digest 163 = .ok (.aload_n 0, 1) := by decide +kernel
theorem dX6_digest_164 : decode cX6_digest 164 = .ok (.getfield 37, 3) := by decide +kernel
theorem dX6_digest_167 : decode cX6_digest 167 = .ok (.if_icmp .ge 40, 3) := by decide +kernel
theorem dX6_digest_170 : decode cX6_digest 170 = .ok (.iconst 0, 1) := by decide +kernel
theorem dX6_digest_171 : decode cX6_digest 171 = .ok (.istore 4, 2) := by decide +kernel
theorem dX6_digest_173 : decode cX6_digest 173 = .ok (.iload 4, 2) := by decide +kernel
theorem dX6_digest_175 : decode cX6_digest 175 = .ok (.bipush 6, 2) := by decide +kernel
theorem dX6_digest_177 : decode cX6_digest 177 = .ok (.if_icmp .ge 24, 3) := by decide +kernel
theorem dX6_digest_180 : decode cX6_digest 180 = .ok (.lload_n 1, 1) := by decide +kernel
theorem dX6_digest_181 : decode cX6_digest 181 = .ok (.ldc2_w 160, 3) := by decide +kernel
theorem dX6_digest_184 : decode cX6_digest 184 = .ok (.lmul, 1) := by decide +kernel
theorem dX6_digest_185 : decode cX6_digest 185 = .ok (.aload_n 0, 1) := by decide +kernel
theorem dX6_digest_186 : decode cX6_digest 186 = .ok (.iload_n 3, 1) := by decide +kernel
theorem dX6_digest_187 : decode cX6_digest 187 = .ok (.iload 4, 2) := by decide +kernel
theorem dX6_digest_189 : decode cX6_digest 189 = .ok (.invokevirtual 138, 3) := by decide +kernel
theorem dX6_digest_192 : decode cX6_digest 192 = .ok (.i2l, 1) := by decide +kernel
theorem dX6_digest_193 : decode cX6_digest 193 = .ok (.ladd, 1) := by decide +kernel
theorem dX6_digest_194 : decode cX6_digest 194 = .ok (.lstore_n 1, 1) := by decide +kernel
theorem dX6_digest_195 : decode cX6_digest 195 = .ok (.iinc 4 1, 3) := by decide +kernel
theorem dX6_digest_198 : decode cX6_digest 198 = .ok (.goto (-25), 3) := by decide +kernel
theorem dX6_digest_201 : decode cX6_digest 201 = .ok (.iinc 3 1, 3) := by decide +kernel
theorem dX6_digest_204 : decode cX6_digest 204 = .ok (.goto (-42), 3) := by decide +kernel
theorem dX6_digest_207 : decode cX6_digest 207 = .ok (.lload_n 1, 1) := by decide +kernel
theorem dX6_digest_208 : decode cX6_digest 208 = .ok (.lreturn, 1) := by decide +kernel
theorem dJ6_bitCount_0f7a4_0 : decode cJ6_bitCount_0f7a4 0 = .ok (.iload_n 0, 1) := by decide +kernel
theorem dJ6_bitCount_0f7a4_1 : decode cJ6_bitCount_0f7a4 1 = .ok (.iload_n 0, 1) := by decide +kernel
theorem dJ6_bitCount_0f7a4_2 : decode cJ6_bitCount_0f7a4 2 = .ok (.iconst 1, 1) := by decide +kernel
theorem dJ6_bitCount_0f7a4_3 : decode cJ6_bitCount_0f7a4 3 = .ok (.iushr, 1) := by decide +kernel
theorem dJ6_bitCount_0f7a4_4 : decode cJ6_bitCount_0f7a4 4 = .ok (.ldc_w 265, 3) := by decide +kernel
theorem dJ6_bitCount_0f7a4_7 : decode cJ6_bitCount_0f7a4 7 = .ok (.iand, 1) := by decide +kernel
theorem dJ6_bitCount_0f7a4_8 : decode cJ6_bitCount_0f7a4 8 = .ok (.isub, 1) := by decide +kernel
theorem dJ6_bitCount_0f7a4_9 : decode cJ6_bitCount_0f7a4 9 = .ok (.istore_n 0, 1) := by decide +kernel
theorem dJ6_bitCount_0f7a4_10 : decode cJ6_bitCount_0f7a4 10 = .ok (.iload_n 0, 1) := by decide +kernel
theorem dJ6_bitCount_0f7a4_11 : decode cJ6_bitCount_0f7a4 11 = .ok (.ldc_w 266, 3) := by decide +kernel
theorem dJ6_bitCount_0f7a4_14 : decode cJ6_bitCount_0f7a4 14 = .ok (.iand, 1) := by decide +kernel
theorem dJ6_bitCount_0f7a4_15 : decode cJ6_bitCount_0f7a4 15 = .ok (.iload_n 0, 1) := by decide +kernel
theorem dJ6_bitCount_0f7a4_16 : decode cJ6_bitCount_0f7a4 16 = .ok (.iconst 2, 1) := by decide +kernel
theorem dJ6_bitCount_0f7a4_17 : decode cJ6_bitCount_0f7a4 17 = .ok (.iushr, 1) := by decide +kernel
theorem dJ6_bitCount_0f7a4_18 : decode cJ6_bitCount_0f7a4 18 = .ok (.ldc_w 266, 3) := by decide +kernel
theorem dJ6_bitCount_0f7a4_21 : decode cJ6_bitCount_0f7a4 21 = .ok (.iand, 1) := by decide +kernel
theorem dJ6_bitCount_0f7a4_22 : decode cJ6_bitCount_0f7a4 22 = .ok (.iadd, 1) := by decide +kernel
theorem dJ6_bitCount_0f7a4_23 : decode cJ6_bitCount_0f7a4 23 = .ok (.istore_n 0, 1) := by decide +kernel
theorem dJ6_bitCount_0f7a4_24 : decode cJ6_bitCount_0f7a4 24 = .ok (.iload_n 0, 1) := by decide +kernel
theorem dJ6_bitCount_0f7a4_25 : decode cJ6_bitCount_0f7a4 25 = .ok (.iload_n 0, 1) := by decide +kernel
theorem dJ6_bitCount_0f7a4_26 : decode cJ6_bitCount_0f7a4 26 = .ok (.iconst 4, 1) := by decide +kernel
theorem dJ6_bitCount_0f7a4_27 : decode cJ6_bitCount_0f7a4 27 = .ok (.iushr, 1) := by decide +kernel
theorem dJ6_bitCount_0f7a4_28 : decode cJ6_bitCount_0f7a4 28 = .ok (.iadd, 1) := by decide +kernel
theorem dJ6_bitCount_0f7a4_29 : decode cJ6_bitCount_0f7a4 29 = .ok (.ldc_w 267, 3) := by decide +kernel
theorem dJ6_bitCount_0f7a4_32 : decode cJ6_bitCount_0f7a4 32 = .ok (.iand, 1) := by decide +kernel
theorem dJ6_bitCount_0f7a4_33 : decode cJ6_bitCount_0f7a4 33 = .ok (.istore_n 0, 1) := by decide +kernel
theorem dJ6_bitCount_0f7a4_34 : decode cJ6_bitCount_0f7a4 34 = .ok (.iload_n 0, 1) := by decide +kernel
theorem dJ6_bitCount_0f7a4_35 : decode cJ6_bitCount_0f7a4 35 = .ok (.iload_n 0, 1) := by decide +kernel
theorem dJ6_bitCount_0f7a4_36 : decode cJ6_bitCount_0f7a4 36 = .ok (.bipush 8, 2) := by decide +kernel
theorem dJ6_bitCount_0f7a4_38 : decode cJ6_bitCount_0f7a4 38 = .ok (.iushr, 1) := by decide +kernel
theorem dJ6_bitCount_0f7a4_39 : decode cJ6_bitCount_0f7a4 39 = .ok (.iadd, 1) := by decide +kernel
theorem dJ6_bitCount_0f7a4_40 : decode cJ6_bitCount_0f7a4 40 = .ok (.istore_n 0, 1) := by decide +kernel
theorem dJ6_bitCount_0f7a4_41 : decode cJ6_bitCount_0f7a4 41 = .ok (.iload_n 0, 1) := by decide +kernel
theorem dJ6_bitCount_0f7a4_42 : decode cJ6_bitCount_0f7a4 42 = .ok (.iload_n 0, 1) := by decide +kernel
theorem dJ6_bitCount_0f7a4_43 : decode cJ6_bitCount_0f7a4 43 = .ok (.bipush 16, 2) := by decide +kernel
theorem dJ6_bitCount_0f7a4_45 : decode cJ6_bitCount_0f7a4 45 = .ok (.iushr, 1) := by decide +kernel
theorem dJ6_bitCount_0f7a4_46 : decode cJ6_bitCount_0f7a4 46 = .ok (.iadd, 1) := by decide +kernel
theorem dJ6_bitCount_0f7a4_47 : decode cJ6_bitCount_0f7a4 47 = .ok (.istore_n 0, 1) := by decide +kernel
theorem dJ6_bitCount_0f7a4_48 : decode cJ6_bitCount_0f7a4 48 = .ok (.iload_n 0, 1) := by decide +kernel
theorem dJ6_bitCount_0f7a4_49 : decode cJ6_bitCount_0f7a4 49 = .ok (.bipush 63, 2) := by decide +kernel
theorem dJ6_bitCount_0f7a4_51 : decode cJ6_bitCount_0f7a4 51 = .ok (.iand, 1) := by decide +kernel
theorem dJ6_bitCount_0f7a4_52 : decode cJ6_bitCount_0f7a4 52 = .ok (.ireturn, 1) := by decide +kernel
theorem dJ13_bitCount_95d88_0 : decode cJ13_bitCount_95d88 0 = .ok (.lload_n 0, 1) := by decide +kernel
theorem dJ13_bitCount_95d88_1 : decode cJ13_bitCount_95d88 1 = .ok (.lload_n 0, 1) := by decide +kernel
theorem dJ13_bitCount_95d88_2 : decode cJ13_bitCount_95d88 2 = .ok (.iconst 1, 1) := by decide +kernel
theorem dJ13_bitCount_95d88_3 : decode cJ13_bitCount_95d88 3 = .ok (.lushr, 1) := by decide +kernel
theorem dJ13_bitCount_95d88_4 : decode cJ13_bitCount_95d88 4 = .ok (.ldc2_w 314, 3) := by decide +kernel
theorem dJ13_bitCount_95d88_7 : decode cJ13_bitCount_95d88 7 = .ok (.land, 1) := by decide +kernel
theorem dJ13_bitCount_95d88_8 : decode cJ13_bitCount_95d88 8 = .ok (.lsub, 1) := by decide +kernel
theorem dJ13_bitCount_95d88_9 : decode cJ13_bitCount_95d88 9 = .ok (.lstore_n 0, 1) := by decide +kernel
theorem dJ13_bitCount_95d88_10 : decode cJ13_bitCount_95d88 10 = .ok (.lload_n 0, 1) := by decide +kernel
theorem dJ13_bitCount_95d88_11 : decode cJ13_bitCount_95d88 11 = .ok (.ldc2_w 316, 3) := by decide +kernel
theorem dJ13_bitCount_95d88_14 : decode cJ13_bitCount_95d88 14 = .ok (.land, 1) := by decide +kernel
theorem dJ13_bitCount_95d88_15 : decode cJ13_bitCount_95d88 15 = .ok (.lload_n 0, 1) := by decide +kernel
theorem dJ13_bitCount_95d88_16 : decode cJ13_bitCount_95d88 16 = .ok (.iconst 2, 1) := by decide +kernel
theorem dJ13_bitCount_95d88_17 : decode cJ13_bitCount_95d88 17 = .ok (.lushr, 1) := by decide +kernel
theorem dJ13_bitCount_95d88_18 : decode cJ13_bitCount_95d88 18 = .ok (.ldc2_w 316, 3) := by decide +kernel
theorem dJ13_bitCount_95d88_21 : decode cJ13_bitCount_95d88 21 = .ok (.land, 1) := by decide +kernel
theorem dJ13_bitCount_95d88_22 : decode cJ13_bitCount_95d88 22 = .ok (.ladd, 1) := by decide +kernel
theorem dJ13_bitCount_95d88_23 : decode cJ13_bitCount_95d88 23 = .ok (.lstore_n 0, 1) := by decide +kernel
theorem dJ13_bitCount_95d88_24 : decode cJ13_bitCount_95d88 24 = .ok (.lload_n 0, 1) := by decide +kernel
theorem dJ13_bitCount_95d88_25 : decode cJ13_bitCount_95d88 25 = .ok (.lload_n 0, 1) := by decide +kernel
theorem dJ13_bitCount_95d88_26 : decode cJ13_bitCount_95d88 26 = .ok (.iconst 4, 1) := by decide +kernel
theorem dJ13_bitCount_95d88_27 : decode cJ13_bitCount_95d88 27 = .ok (.lushr, 1) := by decide +kernel
theorem dJ13_bitCount_95d88_28 : decode cJ13_bitCount_95d88 28 = .ok (.ladd, 1) := by decide +kernel
theorem dJ13_bitCount_95d88_29 : decode cJ13_bitCount_95d88 29 = .ok (.ldc2_w 318, 3) := by decide +kernel
theorem dJ13_bitCount_95d88_32 : decode cJ13_bitCount_95d88 32 = .ok (.land, 1) := by decide +kernel
theorem dJ13_bitCount_95d88_33 : decode cJ13_bitCount_95d88 33 = .ok (.lstore_n 0, 1) := by decide +kernel
theorem dJ13_bitCount_95d88_34 : decode cJ13_bitCount_95d88 34 = .ok (.lload_n 0, 1) := by decide +kernel
theorem dJ13_bitCount_95d88_35 : decode cJ13_bitCount_95d88 35 = .ok (.lload_n 0, 1) := by decide +kernel
theorem dJ13_bitCount_95d88_36 : decode cJ13_bitCount_95d88 36 = .ok (.bipush 8, 2) := by decide +kernel
theorem dJ13_bitCount_95d88_38 : decode cJ13_bitCount_95d88 38 = .ok (.lushr, 1) := by decide +kernel
theorem dJ13_bitCount_95d88_39 : decode cJ13_bitCount_95d88 39 = .ok (.ladd, 1) := by decide +kernel
theorem dJ13_bitCount_95d88_40 : decode cJ13_bitCount_95d88 40 = .ok (.lstore_n 0, 1) := by decide +kernel
theorem dJ13_bitCount_95d88_41 : decode cJ13_bitCount_95d88 41 = .ok (.lload_n 0, 1) := by decide +kernel
theorem dJ13_bitCount_95d88_42 : decode cJ13_bitCount_95d88 42 = .ok (.lload_n 0, 1) := by decide +kernel
theorem dJ13_bitCount_95d88_43 : decode cJ13_bitCount_95d88 43 = .ok (.bipush 16, 2) := by decide +kernel
theorem dJ13_bitCount_95d88_45 : decode cJ13_bitCount_95d88 45 = .ok (.lushr, 1) := by decide +kernel
theorem dJ13_bitCount_95d88_46 : decode cJ13_bitCount_95d88 46 = .ok (.ladd, 1) := by decide +kernel
theorem dJ13_bitCount_95d88_47 : decode cJ13_bitCount_95d88 47 = .ok (.lstore_n 0, 1) := by decide +kernel
theorem dJ13_bitCount_95d88_48 : decode cJ13_bitCount_95d88 48 = .ok (.lload_n 0, 1) := by decide +kernel
theorem dJ13_bitCount_95d88_49 : decode cJ13_bitCount_95d88 49 = .ok (.lload_n 0, 1) := by decide +kernel
theorem dJ13_bitCount_95d88_50 : decode cJ13_bitCount_95d88 50 = .ok (.bipush 32, 2) := by decide +kernel
theorem dJ13_bitCount_95d88_52 : decode cJ13_bitCount_95d88 52 = .ok (.lushr, 1) := by decide +kernel
theorem dJ13_bitCount_95d88_53 : decode cJ13_bitCount_95d88 53 = .ok (.ladd, 1) := by decide +kernel
theorem dJ13_bitCount_95d88_54 : decode cJ13_bitCount_95d88 54 = .ok (.lstore_n 0, 1) := by decide +kernel
theorem dJ13_bitCount_95d88_55 : decode cJ13_bitCount_95d88 55 = .ok (.lload_n 0, 1) := by decide +kernel
theorem dJ13_bitCount_95d88_56 : decode cJ13_bitCount_95d88 56 = .ok (.l2i, 1) := by decide +kernel
theorem dJ13_bitCount_95d88_57 : decode cJ13_bitCount_95d88 57 = .ok (.bipush 127, 2) := by decide +kernel
theorem dJ13_bitCount_95d88_59 : decode cJ13_bitCount_95d88 59 = .ok (.iand, 1) := by decide +kernel
theorem dJ13_bitCount_95d88_60 : decode cJ13_bitCount_95d88 60 = .ok (.ireturn, 1) := by decide +kernel
theorem dJ9_max_7cf53_0 : decode cJ9_max_7cf53 0 = .ok (.iload_n 0, 1) := by decide +kernel
theorem dJ9_max_7cf53_1 : decode cJ9_max_7cf53 1 = .ok (.iload_n 1, 1) := by decide +kernel
theorem dJ9_max_7cf53_2 : decode cJ9_max_7cf53 2 = .ok (.if_icmp .lt 7, 3) := by decide +kernel
theorem dJ9_max_7cf53_5 : decode cJ9_max_7cf53 5 = .ok (.iload_n 0, 1) := by decide +kernel
theorem dJ9_max_7cf53_6 : decode cJ9_max_7cf53 6 = .ok (.goto 4, 3) := by decide +kernel
theorem dJ9_max_7cf53_9 : decode cJ9_max_7cf53 9 = .ok (.iload_n 1, 1) := by decide +kernel
theorem dJ9_max_7cf53_10 : decode cJ9_max_7cf53 10 = .ok (.ireturn, 1) := by decide +kernel
theorem dJ9_min_7cf53_0 : decode cJ9_min_7cf53 0 = .ok (.iload_n 0, 1) := by decide +kernel
theorem dJ9_min_7cf53_1 : decode cJ9_min_7cf53 1 = .ok (.iload_n 1, 1) := by decide +kernel
theorem dJ9_min_7cf53_2 : decode cJ9_min_7cf53 2 = .ok (.if_icmp .gt 7, 3) := by decide +kernel
theorem dJ9_min_7cf53_5 : decode cJ9_min_7cf53 5 = .ok (.iload_n 0, 1) := by decide +kernel
theorem dJ9_min_7cf53_6 : decode cJ9_min_7cf53 6 = .ok (.goto 4, 3) := by decide +kernel
theorem dJ9_min_7cf53_9 : decode cJ9_min_7cf53 9 = .ok (.iload_n 1, 1) := by decide +kernel
theorem dJ9_min_7cf53_10 : decode cJ9_min_7cf53 10 = .ok (.ireturn, 1) := by decide +kernel
theorem dJxa1e45_init_da8c8_0 : decode cJxa1e45_init_da8c8 0 = .ok (.aload_n 0, 1) := by decide +kernel
theorem dJxa1e45_init_da8c8_1 : decode cJxa1e45_init_da8c8 1 = .ok (.invokespecial 1, 3) := by decide +kernel
theorem dJxa1e45_init_da8c8_4 : decode cJxa1e45_init_da8c8 4 = .ok (.return_, 1) := by decide +kernel
theorem dJxc12de_init_da8c8_0 : decode cJxc12de_init_da8c8 0 = .ok (.aload_n 0, 1) := by decide +kernel
theorem dJxc12de_init_da8c8_1 : decode cJxc12de_init_da8c8 1 = .ok (.invokespecial 1, 3) := by decide +kernel
theorem dJxc12de_init_da8c8_4 : decode cJxc12de_init_da8c8 4 = .ok (.aload_n 0, 1) := by decide +kernel
theorem dJxc12de_init_da8c8_5 : decode cJxc12de_init_da8c8 5 = .ok (.iconst 0, 1) := by decide +kernel
theorem dJxc12de_init_da8c8_6 : decode cJxc12de_init_da8c8 6 = .ok (.putfield 7, 3) := by decide +kernel
theorem dJxc12de_init_da8c8_9 : decode cJxc12de_init_da8c8 9 = .ok (.return_, 1) := by decide +kernel
theorem dJx4a65c_init_da8c8_0 : decode cJx4a65c_init_da8c8 0 = .ok (.aload_n 0, 1) := by decide +kernel
theorem dJx4a65c_init_da8c8_1 : decode cJx4a65c_init_da8c8 1 = .ok (.invokespecial 1, 3) := by decide +kernel
theorem dJx4a65c_init_da8c8_4 : decode cJx4a65c_init_da8c8 4 = .ok (.aload_n 0, 1) := by decide +kernel
theorem dJx4a65c_init_da8c8_5 : decode cJx4a65c_init_da8c8 5 = .ok (.getstatic 39, 3) := by decide +kernel
theorem dJx4a65c_init_da8c8_8 : decode cJx4a65c_init_da8c8 8 = .ok (.putfield 9, 3) := by decide +kernel
theorem dJx4a65c_init_da8c8_11 : decode cJx4a65c_init_da8c8 11 = .ok (.return_, 1) := by decide +kernel
theorem dJx4a65c_grow_92f84_0 : decode cJx4a65c_grow_92f84 0 = .ok (.aload_n 0, 1) := by decide +kernel
theorem dJx4a65c_grow_92f84_1 : decode cJx4a65c_grow_92f84 1 = .ok (.getfield 9, 3) := by decide +kernel
theorem dJx4a65c_grow_92f84_4 : decode cJx4a65c_grow_92f84 4 = .ok (.arraylength, 1) := by decide +kernel
theorem dJx4a65c_grow_92f84_5 : decode cJx4a65c_grow_92f84 5 = .ok (.istore_n 2, 1) := by decide +kernel
theorem dJx4a65c_grow_92f84_6 : decode cJx4a65c_grow_92f84 6 = .ok (.iload_n 2, 1) := by decide +kernel
theorem dJx4a65c_grow_92f84_7 : decode cJx4a65c_grow_92f84 7 = .ok (.ifCond .gt 13, 3) := by decide +kernel
theorem dJx4a65c_grow_92f84_10 : decode cJx4a65c_grow_92f84 10 = .ok (.aload_n 0, 1) := by decide +kernel
theorem dJx4a65c_grow_92f84_11 : decode cJx4a65c_grow_92f84 11 = .ok (.getfield 9, 3) := by decide +kernel
theorem dJx4a65c_grow_92f84_14 : decode cJx4a65c_grow_92f84 14 = .ok (.getstatic 39, 3) := by decide +kernel
theorem dJx4a65c_grow_92f84_17 : decode cJx4a65c_grow_92f84 17 = .ok (.if_acmp .eq 28, 3) := by decide +kernel
theorem dJx4a65c_grow_92f84_20 : decode cJx4a65c_grow_92f84 20 = .ok (.iload_n 2, 1) := by decide +kernel
theorem dJx4a65c_grow_92f84_21 : decode cJx4a65c_grow_92f84 21 = .ok (.iload_n 1, 1) := by decide +kernel
theorem dJx4a65c_grow_92f84_22 : decode cJx4a65c_grow_92f84 22 = .ok (.iload_n 2, 1) := by decide +kernel
theorem dJx4a65c_grow_92f84_23 : decode cJx4a65c_grow_92f84 23 = .ok (.isub, 1) := by decide +kernel
theorem dJx4a65c_grow_92f84_24 : decode cJx4a65c_grow_92f84 24 = .ok (.iload_n 2, 1) := by decide +kernel
theorem dJx4a65c_grow_92f84_25 : decode cJx4a65c_grow_92f84 25 = .ok (.iconst 1, 1) := by decide +kernel
theorem dJx4a65c_grow_92f84_26 : decode cJx4a65c_grow_92f84 26 = .ok (.ishr, 1) := by decide +kernel
theorem dJx4a65c_grow_92f84_27 : decode cJx4a65c_grow_92f84 27 = .ok (.invokestatic 73, 3) := by decide +kernel
theorem dJx4a65c_grow_92f84_30 : decode cJx4a65c_grow_92f84 30 = .ok (.istore_n 3, 1) := by decide +kernel
theorem dJx4a65c_grow_92f84_31 : decode cJx4a65c_grow_92f84 31 = .ok (.aload_n 0, 1) := by decide +kernel
theorem dJx4a65c_grow_92f84_32 : decode cJx4a65c_grow_92f84 32 = .ok (.aload_n 0, 1) := by decide +kernel
theorem dJx4a65c_grow_92f84_33 : decode cJx4a65c_grow_92f84 33 = .ok (.getfield 9, 3) := by decide +kernel
theorem dJx4a65c_grow_92f84_36 : decode cJx4a65c_grow_92f84 36 = .ok (.iload_n 3, 1) := by decide +kernel
theorem dJx4a65c_grow_92f84_37 : decode cJx4a65c_grow_92f84 37 = .ok (.invokestatic 66, 3) := by decide +kernel
theorem dJx4a65c_grow_92f84_40 : decode cJx4a65c_grow_92f84 40 = .ok (.dup_x1, 1) := by decide +kernel
theorem dJx4a65c_grow_92f84_41 : decode cJx4a65c_grow_92f84 41 = .ok (.putfield 9, 3) := by decide +kernel
theorem dJx4a65c_grow_92f84_44 : decode cJx4a65c_grow_92f84 44 = .ok (.areturn, 1) := by decide +kernel
theorem dJx4a65c_grow_92f84_45 : decode cJx4a65c_grow_92f84 45 = .ok (.aload_n 0, 1) := by decide +kernel
theorem dJx4a65c_grow_92f84_46 : decode cJx4a65c_grow_92f84 46 = .ok (.bipush 10, 2) := by decide +kernel
theorem dJx4a65c_grow_92f84_48 : decode cJx4a65c_grow_92f84 48 = .ok (.iload_n 1, 1) := by decide +kernel
theorem dJx4a65c_grow_92f84_49 : decode cJx4a65c_grow_92f84 49 = .ok (.invokestatic 79, 3) := by decide +kernel
theorem dJx4a65c_grow_92f84_52 : decode cJx4a65c_grow_92f84 52 = .ok (.anewarray 7, 3) := by decide +kernel
theorem dJx4a65c_grow_92f84_55 : decode cJx4a65c_grow_92f84 55 = .ok (.dup_x1, 1) := by decide +kernel
theorem dJx4a65c_grow_92f84_56 : decode cJx4a65c_grow_92f84 56 = .ok (.putfield 9, 3) := by decide +kernel
theorem dJx4a65c_grow_92f84_59 : decode cJx4a65c_grow_92f84 59 = .ok (.areturn, 1) := by decide +kernel
theorem dJx4a65c_grow_d5877_0 : decode cJx4a65c_grow_d5877 0 = .ok (.aload_n 0, 1) := by decide +kernel
theorem dJx4a65c_grow_d5877_1 : decode cJx4a65c_grow_d5877 1 = .ok (.aload_n 0, 1) := by decide +kernel
theorem dJx4a65c_grow_d5877_2 : decode cJx4a65c_grow_d5877 2 = .ok (.getfield 48, 3) := by decide +kernel
theorem dJx4a65c_grow_d5877_5 : decode cJx4a65c_grow_d5877 5 = .ok (.iconst 1, 1) := by decide +kernel
theorem dJx4a65c_grow_d5877_6 : decode cJx4a65c_grow_d5877 6 = .ok (.iadd, 1) := by decide +kernel
theorem dJx4a65c_grow_d5877_7 : decode cJx4a65c_grow_d5877 7 = .ok (.invokevirtual 69, 3) := by decide +kernel
theorem dJx4a65c_grow_d5877_10 : decode cJx4a65c_grow_d5877 10 = .ok (.areturn, 1) := by decide +kernel
theorem dJx4a65c_size_8abf5_0 : decode cJx4a65c_size_8abf5 0 = .ok (.aload_n 0, 1) := by decide +kernel
theorem dJx4a65c_size_8abf5_1 : decode cJx4a65c_size_8abf5 1 = .ok (.getfield 48, 3) := by decide +kernel
theorem dJx4a65c_size_8abf5_4 : decode cJx4a65c_size_8abf5 4 = .ok (.ireturn, 1) := by decide +kernel
theorem dJx4a65c_elementData_915e3_0 : decode cJx4a65c_elementData_915e3 0 = .ok (.aload_n 0, 1) := by decide +kernel
theorem dJx4a65c_elementData_915e3_1 : decode cJx4a65c_elementData_915e3 1 = .ok (.getfield 9, 3) := by decide +kernel
theorem dJx4a65c_elementData_915e3_4 : decode cJx4a65c_elementData_915e3 4 = .ok (.iload_n 1, 1) := by decide +kernel
theorem dJx4a65c_elementData_915e3_5 : decode cJx4a65c_elementData_915e3 5 = .ok (.aaload, 1) := by decide +kernel
theorem dJx4a65c_elementData_915e3_6 : decode cJx4a65c_elementData_915e3 6 = .ok (.areturn, 1) := by decide +kernel
theorem dJx4a65c_get_915e3_0 : decode cJx4a65c_get_915e3 0 = .ok (.iload_n 1, 1) := by decide +kernel
theorem dJx4a65c_get_915e3_1 : decode cJx4a65c_get_915e3 1 = .ok (.aload_n 0, 1) := by decide +kernel
theorem dJx4a65c_get_915e3_2 : decode cJx4a65c_get_915e3 2 = .ok (.getfield 48, 3) := by decide +kernel
theorem dJx4a65c_get_915e3_5 : decode cJx4a65c_get_915e3 5 = .ok (.invokestatic 118, 3) := by decide +kernel
theorem dJx4a65c_get_915e3_8 : decode cJx4a65c_get_915e3 8 = .ok (.pop, 1) := by decide +kernel
theorem dJx4a65c_get_915e3_9 : decode cJx4a65c_get_915e3 9 = .ok (.aload_n 0, 1) := by decide +kernel
theorem dJx4a65c_get_915e3_10 : decode cJx4a65c_get_915e3 10 = .ok (.iload_n 1, 1) := by decide +kernel
theorem dJx4a65c_get_915e3_11 : decode cJx4a65c_get_915e3 11 = .ok (.invokevirtual 123, 3) := by decide +kernel
theorem dJx4a65c_get_915e3_14 : decode cJx4a65c_get_915e3 14 = .ok (.areturn, 1) := by decide +kernel
theorem dJx4a65c_add_72be8_0 : decode cJx4a65c_add_72be8 0 = .ok (.iload_n 3, 1) := by decide +kernel
theorem dJx4a65c_add_72be8_1 : decode cJx4a65c_add_72be8 1 = .ok (.aload_n 2, 1) := by decide +kernel
theorem dJx4a65c_add_72be8_2 : decode cJx4a65c_add_72be8 2 = .ok (.arraylength, 1) := by decide +kernel
theorem dJx4a65c_add_72be8_3 : decode cJx4a65c_add_72be8 3 = .ok (.if_icmp .ne 8, 3) := by decide +kernel
theorem dJx4a65c_add_72be8_6 : decode cJx4a65c_add_72be8 6 = .ok (.aload_n 0, 1) := by decide +kernel
theorem dJx4a65c_add_72be8_7 : decode cJx4a65c_add_72be8 7 = .ok (.invokevirtual 129, 3) := by decide +kernel
theorem dJx4a65c_add_72be8_10 : decode cJx4a65c_add_72be8 10 = .ok (.astore_n 2, 1) := by decide +kernel
theorem dJx4a65c_add_72be8_11 : decode cJx4a65c_add_72be8 11 = .ok (.aload_n 2, 1) := by decide +kernel
theorem dJx4a65c_add_72be8_12 : decode cJx4a65c_add_72be8 12 = .ok (.iload_n 3, 1) := by decide +kernel
theorem dJx4a65c_add_72be8_13 : decode cJx4a65c_add_72be8 13 = .ok (.aload_n 1, 1) := by decide +kernel
theorem dJx4a65c_add_72be8_14 : decode cJx4a65c_add_72be8 14 = .ok (.aastore, 1) := by decide +kernel
theorem dJx4a65c_add_72be8_15 : decode cJx4a65c_add_72be8 15 = .ok (.aload_n 0, 1) := by decide +kernel
theorem dJx4a65c_add_72be8_16 : decode cJx4a65c_add_72be8 16 = .ok (.iload_n 3, 1) := by decide +kernel
theorem dJx4a65c_add_72be8_17 : decode cJx4a65c_add_72be8 17 = .ok (.iconst 1, 1) := by decide +kernel
theorem dJx4a65c_add_72be8_18 : decode cJx4a65c_add_72be8 18 = .ok (.iadd, 1) := by decide +kernel
theorem dJx4a65c_add_72be8_19 : decode cJx4a65c_add_72be8 19 = .ok (.putfield 48, 3) := by decide +kernel
theorem dJx4a65c_add_72be8_22 : decode cJx4a65c_add_72be8 22 = .ok (.return_, 1) := by decide +kernel
theorem dJx4a65c_add_9ea2d_0 : decode cJx4a65c_add_9ea2d 0 = .ok (.aload_n 0, 1) := by decide +kernel
theorem dJx4a65c_add_9ea2d_1 : decode cJx4a65c_add_9ea2d 1 = .ok (.dup, 1) := by decide +kernel
theorem dJx4a65c_add_9ea2d_2 : decode cJx4a65c_add_9ea2d 2 = .ok (.getfield 63, 3) := by decide +kernel
theorem dJx4a65c_add_9ea2d_5 : decode cJx4a65c_add_9ea2d 5 = .ok (.iconst 1, 1) := by decide +kernel
theorem dJx4a65c_add_9ea2d_6 : decode cJx4a65c_add_9ea2d 6 = .ok (.iadd, 1) := by decide +kernel
theorem dJx4a65c_add_9ea2d_7 : decode cJx4a65c_add_9ea2d 7 = .ok (.putfield 63, 3) := by decide +kernel
theorem dJx4a65c_add_9ea2d_10 : decode cJx4a65c_add_9ea2d 10 = .ok (.aload_n 0, 1) := by decide +kernel
theorem dJx4a65c_add_9ea2d_11 : decode cJx4a65c_add_9ea2d 11 = .ok (.aload_n 1, 1) := by decide +kernel
theorem dJx4a65c_add_9ea2d_12 : decode cJx4a65c_add_9ea2d 12 = .ok (.aload_n 0, 1) := by decide +kernel
theorem dJx4a65c_add_9ea2d_13 : decode cJx4a65c_add_9ea2d 13 = .ok (.getfield 9, 3) := by decide +kernel
theorem dJx4a65c_add_9ea2d_16 : decode cJx4a65c_add_9ea2d 16 = .ok (.aload_n 0, 1) := by decide +kernel
theorem dJx4a65c_add_9ea2d_17 : decode cJx4a65c_add_9ea2d 17 = .ok (.getfield 48, 3) := by decide +kernel
theorem dJx4a65c_add_9ea2d_20 : decode cJx4a65c_add_9ea2d 20 = .ok (.invokevirtual 131, 3) := by decide +kernel
theorem dJx4a65c_add_9ea2d_23 : decode cJx4a65c_add_9ea2d 23 = .ok (.iconst 1, 1) := by decide +kernel
theorem dJx4a65c_add_9ea2d_24 : decode cJx4a65c_add_9ea2d 24 = .ok (.ireturn, 1) := by decide +kernel
theorem dJ7_copyOf_1904c_0 : decode cJ7_copyOf_1904c 0 = .ok (.aload_n 0, 1) := by decide +kernel
theorem dJ7_copyOf_1904c_1 : decode cJ7_copyOf_1904c 1 = .ok (.iload_n 1, 1) := by decide +kernel
theorem dJ7_copyOf_1904c_2 : decode cJ7_copyOf_1904c 2 = .ok (.aload_n 0, 1) := by decide +kernel
theorem dJ7_copyOf_1904c_3 : decode cJ7_copyOf_1904c 3 = .ok (.invokevirtual 86, 3) := by decide +kernel
theorem dJ7_copyOf_1904c_6 : decode cJ7_copyOf_1904c 6 = .ok (.invokestatic 300, 3) := by decide +kernel
theorem dJ7_copyOf_1904c_9 : decode cJ7_copyOf_1904c 9 = .ok (.areturn, 1) := by decide +kernel
theorem dJ7_copyOf_6403c_0 : decode cJ7_copyOf_6403c 0 = .ok (.aload_n 2, 1) := by decide +kernel
theorem dJ7_copyOf_6403c_1 : decode cJ7_copyOf_6403c 1 = .ok (.ldc 110, 2) := by decide +kernel
theorem dJ7_copyOf_6403c_3 : decode cJ7_copyOf_6403c 3 = .ok (.if_acmp .ne 10, 3) := by decide +kernel
theorem dJ7_copyOf_6403c_6 : decode cJ7_copyOf_6403c 6 = .ok (.iload_n 1, 1) := by decide +kernel
theorem dJ7_copyOf_6403c_7 : decode cJ7_copyOf_6403c 7 = .ok (.anewarray 2, 3) := by decide +kernel
theorem dJ7_copyOf_6403c_10 : decode cJ7_copyOf_6403c 10 = .ok (.goto 14, 3) := by decide +kernel
theorem dJ7_copyOf_6403c_13 : decode cJ7_copyOf_6403c 13 = .ok (.aload_n 2, 1) := by decide +kernel
theorem dJ7_copyOf_6403c_14 : decode cJ7_copyOf_6403c 14 = .ok (.invokevirtual 90, 3) := by decide +kernel
theorem dJ7_copyOf_6403c_17 : decode cJ7_copyOf_6403c 17 = .ok (.iload_n 1, 1) := by decide +kernel
theorem dJ7_copyOf_6403c_18 : decode cJ7_copyOf_6403c 18 = .ok (.invokestatic 95, 3) := by decide +kernel
theorem dJ7_copyOf_6403c_21 : decode cJ7_copyOf_6403c 21 = .ok (.checkcast 110, 3) := by decide +kernel
theorem dJ7_copyOf_6403c_24 : decode cJ7_copyOf_6403c 24 = .ok (.astore_n 3, 1) := by decide +kernel
theorem dJ7_copyOf_6403c_25 : decode cJ7_copyOf_6403c 25 = .ok (.aload_n 0, 1) := by decide +kernel
theorem dJ7_copyOf_6403c_26 : decode cJ7_copyOf_6403c 26 = .ok (.iconst 0, 1) := by decide +kernel
theorem dJ7_copyOf_6403c_27 : decode cJ7_copyOf_6403c 27 = .ok (.aload_n 3, 1) := by decide +kernel
theorem dJ7_copyOf_6403c_28 : decode cJ7_copyOf_6403c 28 = .ok (.iconst 0, 1) := by decide +kernel
theorem dJ7_copyOf_6403c_29 : decode cJ7_copyOf_6403c 29 = .ok (.aload_n 0, 1) := by decide +kernel
theorem dJ7_copyOf_6403c_30 : decode cJ7_copyOf_6403c 30 = .ok (.arraylength, 1) := by decide +kernel
theorem dJ7_copyOf_6403c_31 : decode cJ7_copyOf_6403c 31 = .ok (.iload_n 1, 1) := by decide +kernel
theorem dJ7_copyOf_6403c_32 : decode cJ7_copyOf_6403c 32 = .ok (.invokestatic 304, 3) := by decide +kernel
theorem dJ7_copyOf_6403c_35 : decode cJ7_copyOf_6403c 35 = .ok (.invokestatic 150, 3) := by decide +kernel
theorem dJ7_copyOf_6403c_38 : decode cJ7_copyOf_6403c 38 = .ok (.aload_n 3, 1) := by decide +kernel
theorem dJ7_copyOf_6403c_39 : decode cJ7_copyOf_6403c 39 = .ok (.areturn, 1) := by decide +kernel
theorem dJ15_checkIndex_7cf53_0 : decode cJ15_checkIndex_7cf53 0 = .ok (.iload_n 0, 1) := by decide +kernel
theorem dJ15_checkIndex_7cf53_1 : decode cJ15_checkIndex_7cf53 1 = .ok (.iload_n 1, 1) := by decide +kernel
theorem dJ15_checkIndex_7cf53_2 : decode cJ15_checkIndex_7cf53 2 = .ok (.aconst_null, 1) := by decide +kernel
theorem dJ15_checkIndex_7cf53_3 : decode cJ15_checkIndex_7cf53 3 = .ok (.invokestatic 105, 3) := by decide +kernel
theorem dJ15_checkIndex_7cf53_6 : decode cJ15_checkIndex_7cf53 6 = .ok (.ireturn, 1) := by decide +kernel
theorem dJ8_newLength_cabcc_0 : decode cJ8_newLength_cabcc 0 = .ok (.iload_n 0, 1) := by decide +kernel
theorem dJ8_newLength_cabcc_1 : decode cJ8_newLength_cabcc 1 = .ok (.iload_n 1, 1) := by decide +kernel
theorem dJ8_newLength_cabcc_2 : decode cJ8_newLength_cabcc 2 = .ok (.iload_n 2, 1) := by decide +kernel
theorem dJ8_newLength_cabcc_3 : decode cJ8_newLength_cabcc 3 = .ok (.invokestatic 194, 3) := by decide +kernel
theorem dJ8_newLength_cabcc_6 : decode cJ8_newLength_cabcc 6 = .ok (.iadd, 1) := by decide +kernel
theorem dJ8_newLength_cabcc_7 : decode cJ8_newLength_cabcc 7 = .ok (.istore_n 3, 1) := by decide +kernel
theorem dJ8_newLength_cabcc_8 : decode cJ8_newLength_cabcc 8 = .ok (.iconst 0, 1) := by decide +kernel
theorem dJ8_newLength_cabcc_9 : decode cJ8_newLength_cabcc 9 = .ok (.iload_n 3, 1) := by decide +kernel
theorem dJ8_newLength_cabcc_10 : decode cJ8_newLength_cabcc 10 = .ok (.if_icmp .ge 11, 3) := by decide +kernel
theorem dJ8_newLength_cabcc_13 : decode cJ8_newLength_cabcc 13 = .ok (.iload_n 3, 1) := by decide +kernel
theorem dJ8_newLength_cabcc_14 : decode cJ8_newLength_cabcc 14 = .ok (.ldc 200, 2) := by decide +kernel
theorem dJ8_newLength_cabcc_16 : decode cJ8_newLength_cabcc 16 = .ok (.if_icmp .gt 5, 3) := by decide +kernel
theorem dJ8_newLength_cabcc_19 : decode cJ8_newLength_cabcc 19 = .ok (.iload_n 3, 1) := by decide +kernel
theorem dJ8_newLength_cabcc_20 : decode cJ8_newLength_cabcc 20 = .ok (.ireturn, 1) := by decide +kernel
theorem dJ8_newLength_cabcc_21 : decode cJ8_newLength_cabcc 21 = .ok (.iload_n 0, 1) := by decide +kernel
theorem dJ8_newLength_cabcc_22 : decode cJ8_newLength_cabcc 22 = .ok (.iload_n 1, 1) := by decide +kernel
theorem dJ8_newLength_cabcc_23 : decode cJ8_newLength_cabcc 23 = .ok (.invokestatic 201, 3) := by decide +kernel
theorem dJ8_newLength_cabcc_26 : decode cJ8_newLength_cabcc 26 = .ok (.ireturn, 1) := by decide +kernel
theorem dJ8_hugeLength_7cf53_0 : decode cJ8_hugeLength_7cf53 0 = .ok (.iload_n 0, 1) := by decide +kernel
theorem dJ8_hugeLength_7cf53_1 : decode cJ8_hugeLength_7cf53 1 = .ok (.iload_n 1, 1) := by decide +kernel
theorem dJ8_hugeLength_7cf53_2 : decode cJ8_hugeLength_7cf53 2 = .ok (.iadd, 1) := by decide +kernel
theorem dJ8_hugeLength_7cf53_3 : decode cJ8_hugeLength_7cf53 3 = .ok (.istore_n 2, 1) := by decide +kernel
theorem dJ8_hugeLength_7cf53_4 : decode cJ8_hugeLength_7cf53 4 = .ok (.iload_n 2, 1) := by decide +kernel
theorem dJ8_hugeLength_7cf53_5 : decode cJ8_hugeLength_7cf53 5 = .ok (.ifCond .ge 44, 3) := by decide +kernel
theorem dJ8_hugeLength_7cf53_8 : decode cJ8_hugeLength_7cf53 8 = .ok (.new 204, 3) := by decide +kernel
theorem dJ8_hugeLength_7cf53_11 : decode cJ8_hugeLength_7cf53 11 = .ok (.dup, 1) := by decide +kernel
theorem dJ8_hugeLength_7cf53_12 : decode cJ8_hugeLength_7cf53 12 = .ok (.new 89, 3) := by decide +kernel
theorem dJ8_hugeLength_7cf53_15 : decode cJ8_hugeLength_7cf53 15 = .ok (.dup, 1) := by decide +kernel
theorem dJ8_hugeLength_7cf53_16 : decode cJ8_hugeLength_7cf53 16 = .ok (.invokespecial 91, 3) := by decide +kernel
theorem dJ8_hugeLength_7cf53_19 : decode cJ8_hugeLength_7cf53 19 = .ok (.ldc 206, 2) := by decide +kernel
theorem dJ8_hugeLength_7cf53_21 : decode cJ8_hugeLength_7cf53 21 = .ok (.invokevirtual 94, 3) := by decide +kernel
theorem dJ8_hugeLength_7cf53_24 : decode cJ8_hugeLength_7cf53 24 = .ok (.iload_n 0, 1) := by decide +kernel
theorem dJ8_hugeLength_7cf53_25 : decode cJ8_hugeLength_7cf53 25 = .ok (.invokevirtual 98, 3) := by decide +kernel
theorem dJ8_hugeLength_7cf53_28 : decode cJ8_hugeLength_7cf53 28 = .ok (.ldc 208, 2) := by decide +kernel
theorem dJ8_hugeLength_7cf53_30 : decode cJ8_hugeLength_7cf53 30 = .ok (.invokevirtual 94, 3) := by decide +kernel
theorem dJ8_hugeLength_7cf53_33 : decode cJ8_hugeLength_7cf53 33 = .ok (.iload_n 1, 1) := by decide +kernel
theorem dJ8_hugeLength_7cf53_34 : decode cJ8_hugeLength_7cf53 34 = .ok (.invokevirtual 98, 3) := by decide +kernel
theorem dJ8_hugeLength_7cf53_37 : decode cJ8_hugeLength_7cf53 37 = .ok (.ldc 210, 2) := by decide +kernel
theorem dJ8_hugeLength_7cf53_39 : decode cJ8_hugeLength_7cf53 39 = .ok (.invokevirtual 94, 3) := by decide +kernel
theorem dJ8_hugeLength_7cf53_42 : decode cJ8_hugeLength_7cf53 42 = .ok (.invokevirtual 101, 3) := by decide +kernel
theorem dJ8_hugeLength_7cf53_45 : decode cJ8_hugeLength_7cf53 45 = .ok (.invokespecial 212, 3) := by decide +kernel
theorem dJ8_hugeLength_7cf53_48 : decode cJ8_hugeLength_7cf53 48 = .ok (.athrow, 1) := by decide +kernel
theorem dJ8_hugeLength_7cf53_49 : decode cJ8_hugeLength_7cf53 49 = .ok (.iload_n 2, 1) := by decide +kernel
theorem dJ8_hugeLength_7cf53_50 : decode cJ8_hugeLength_7cf53 50 = .ok (.ldc 200, 2) := by decide +kernel
theorem dJ8_hugeLength_7cf53_52 : decode cJ8_hugeLength_7cf53 52 = .ok (.if_icmp .gt 6, 3) := by decide +kernel
theorem dJ8_hugeLength_7cf53_55 : decode cJ8_hugeLength_7cf53 55 = .ok (.ldc 200, 2) := by decide +kernel
theorem dJ8_hugeLength_7cf53_57 : decode cJ8_hugeLength_7cf53 57 = .ok (.ireturn, 1) := by decide +kernel
theorem dJ8_hugeLength_7cf53_58 : decode cJ8_hugeLength_7cf53 58 = .ok (.iload_n 2, 1) := by decide +kernel
theorem dJ8_hugeLength_7cf53_59 : decode cJ8_hugeLength_7cf53 59 = .ok (.ireturn, 1) := by decide +kernel
theorem dJ3_checkIndex_8e157_0 : decode cJ3_checkIndex_8e157 0 = .ok (.iload_n 0, 1) := by decide +kernel
theorem dJ3_checkIndex_8e157_1 : decode cJ3_checkIndex_8e157 1 = .ok (.ifCond .lt 8, 3) := by decide +kernel
theorem dJ3_checkIndex_8e157_4 : decode cJ3_checkIndex_8e157 4 = .ok (.iload_n 0, 1) := by decide +kernel
theorem dJ3_checkIndex_8e157_5 : decode cJ3_checkIndex_8e157 5 = .ok (.iload_n 1, 1) := by decide +kernel
theorem dJ3_checkIndex_8e157_6 : decode cJ3_checkIndex_8e157 6 = .ok (.if_icmp .lt 10, 3) := by decide +kernel
theorem dJ3_checkIndex_8e157_9 : decode cJ3_checkIndex_8e157 9 = .ok (.aload_n 2, 1) := by decide +kernel
theorem dJ3_checkIndex_8e157_10 : decode cJ3_checkIndex_8e157 10 = .ok (.iload_n 0, 1) := by decide +kernel
theorem dJ3_checkIndex_8e157_11 : decode cJ3_checkIndex_8e157 11 = .ok (.iload_n 1, 1) := by decide +kernel
theorem dJ3_checkIndex_8e157_12 : decode cJ3_checkIndex_8e157 12 = .ok (.invokestatic 95, 3) := by decide +kernel
theorem dJ3_checkIndex_8e157_15 : decode cJ3_checkIndex_8e157 15 = .ok (.athrow, 1) := by decide +kernel
theorem dJ3_checkIndex_8e157_16 : decode cJ3_checkIndex_8e157 16 = .ok (.iload_n 0, 1) := by decide +kernel
theorem dJ3_checkIndex_8e157_17 : decode cJ3_checkIndex_8e157 17 = .ok (.ireturn, 1) := by decide +kernel
theorem dL_addTown_0 : decode cL_addTown 0 = .ok (.aload_n 1, 1) := by decide +kernel
theorem dL_addTown_1 : decode cL_addTown 1 = .ok (.iconst 0, 1) := by decide +kernel
theorem dL_addTown_2 : decode cL_addTown 2 = .ok (.aload_n 0, 1) := by decide +kernel
theorem dL_addTown_3 : decode cL_addTown 3 = .ok (.invokevirtual 7, 3) := by decide +kernel
theorem dL_addTown_6 : decode cL_addTown 6 = .ok (.i2l, 1) := by decide +kernel
theorem dL_addTown_7 : decode cL_addTown 7 = .ok (.lastore, 1) := by decide +kernel
theorem dL_addTown_8 : decode cL_addTown 8 = .ok (.goto 6, 3) := by decide +kernel
theorem dL_addTown_11 : decode cL_addTown 11 = .ok (.astore_n 2, 1) := by decide +kernel
theorem dL_addTown_12 : decode cL_addTown 12 = .ok (.iconst 1, 1) := by decide +kernel
theorem dL_addTown_13 : decode cL_addTown 13 = .ok (.ireturn, 1) := by decide +kernel
theorem dL_addTown_14 : decode cL_addTown 14 = .ok (.iconst 0, 1) := by decide +kernel
theorem dL_addTown_15 : decode cL_addTown 15 = .ok (.ireturn, 1) := by decide +kernel
theorem dL_build_0 : decode cL_build 0 = .ok (.aload 7, 2) := by decide +kernel
theorem dL_build_2 : decode cL_build 2 = .ok (.iconst 0, 1) := by decide +kernel
theorem dL_build_3 : decode cL_build 3 = .ok (.aload_n 0, 1) := by decide +kernel
theorem dL_build_4 : decode cL_build 4 = .ok (.iload_n 1, 1) := by decide +kernel
theorem dL_build_5 : decode cL_build 5 = .ok (.iload_n 2, 1) := by decide +kernel
theorem dL_build_6 : decode cL_build 6 = .ok (.iload_n 3, 1) := by decide +kernel
theorem dL_build_7 : decode cL_build 7 = .ok (.iload 4, 2) := by decide +kernel
theorem dL_build_9 : decode cL_build 9 = .ok (.iload 5, 2) := by decide +kernel
theorem dL_build_11 : decode cL_build 11 = .ok (.iload 6, 2) := by decide +kernel
theorem dL_build_13 : decode cL_build 13 = .ok (.invokevirtual 15, 3) := by decide +kernel
theorem dL_build_16 : decode cL_build 16 = .ok (.i2l, 1) := by decide +kernel
theorem dL_build_17 : decode cL_build 17 = .ok (.lastore, 1) := by decide +kernel
theorem dL_build_18 : decode cL_build 18 = .ok (.goto 15, 3) := by decide +kernel
theorem dL_build_21 : decode cL_build 21 = .ok (.astore 8, 2) := by decide +kernel
theorem dL_build_23 : decode cL_build 23 = .ok (.iconst 1, 1) := by decide +kernel
theorem dL_build_24 : decode cL_build 24 = .ok (.ireturn, 1) := by decide +kernel
theorem dL_build_25 : decode cL_build 25 = .ok (.astore 8, 2) := by decide +kernel
theorem dL_build_27 : decode cL_build 27 = .ok (.iconst 2, 1) := by decide +kernel
theorem dL_build_28 : decode cL_build 28 = .ok (.ireturn, 1) := by decide +kernel
theorem dL_build_29 : decode cL_build 29 = .ok (.astore 8, 2) := by decide +kernel
theorem dL_build_31 : decode cL_build 31 = .ok (.iconst 3, 1) := by decide +kernel
theorem dL_build_32 : decode cL_build 32 = .ok (.ireturn, 1) := by decide +kernel
theorem dL_build_33 : decode cL_build 33 = .ok (.iconst 0, 1) := by decide +kernel
theorem dL_build_34 : decode cL_build 34 = .ok (.ireturn, 1) := by decide +kernel
theorem dL_road_0 : decode cL_road 0 = .ok (.aload 4, 2) := by decide +kernel
theorem dL_road_2 : decode cL_road 2 = .ok (.iconst 0, 1) := by decide +kernel
theorem dL_road_3 : decode cL_road 3 = .ok (.aload_n 0, 1) := by decide +kernel
theorem dL_road_4 : decode cL_road 4 = .ok (.iload_n 1, 1) := by decide +kernel
theorem dL_road_5 : decode cL_road 5 = .ok (.iload_n 2, 1) := by decide +kernel
theorem dL_road_6 : decode cL_road 6 = .ok (.iload_n 3, 1) := by decide +kernel
theorem dL_road_7 : decode cL_road 7 = .ok (.invokevirtual 23, 3) := by decide +kernel
theorem dL_road_10 : decode cL_road 10 = .ok (.i2l, 1) := by decide +kernel
theorem dL_road_11 : decode cL_road 11 = .ok (.lastore, 1) := by decide +kernel
theorem dL_road_12 : decode cL_road 12 = .ok (.goto 7, 3) := by decide +kernel
theorem dL_road_15 : decode cL_road 15 = .ok (.astore 5, 2) := by decide +kernel
theorem dL_road_17 : decode cL_road 17 = .ok (.iconst 1, 1) := by decide +kernel
theorem dL_road_18 : decode cL_road 18 = .ok (.ireturn, 1) := by decide +kernel
theorem dL_road_19 : decode cL_road 19 = .ok (.iconst 0, 1) := by decide +kernel
theorem dL_road_20 : decode cL_road 20 = .ok (.ireturn, 1) := by decide +kernel
theorem dL_makeUp_0 : decode cL_makeUp 0 = .ok (.aload 4, 2) := by decide +kernel
theorem dL_makeUp_2 : decode cL_makeUp 2 = .ok (.iconst 0, 1) := by decide +kernel
theorem dL_makeUp_3 : decode cL_makeUp 3 = .ok (.aload_n 0, 1) := by decide +kernel
theorem dL_makeUp_4 : decode cL_makeUp 4 = .ok (.iload_n 1, 1) := by decide +kernel
theorem dL_makeUp_5 : decode cL_makeUp 5 = .ok (.iload_n 2, 1) := by decide +kernel
theorem dL_makeUp_6 : decode cL_makeUp 6 = .ok (.iload_n 3, 1) := by decide +kernel
theorem dL_makeUp_7 : decode cL_makeUp 7 = .ok (.invokevirtual 27, 3) := by decide +kernel
theorem dL_makeUp_10 : decode cL_makeUp 10 = .ok (.i2l, 1) := by decide +kernel
theorem dL_makeUp_11 : decode cL_makeUp 11 = .ok (.lastore, 1) := by decide +kernel
theorem dL_makeUp_12 : decode cL_makeUp 12 = .ok (.goto 15, 3) := by decide +kernel
theorem dL_makeUp_15 : decode cL_makeUp 15 = .ok (.astore 5, 2) := by decide +kernel
theorem dL_makeUp_17 : decode cL_makeUp 17 = .ok (.iconst 1, 1) := by decide +kernel
theorem dL_makeUp_18 : decode cL_makeUp 18 = .ok (.ireturn, 1) := by decide +kernel
theorem dL_makeUp_19 : decode cL_makeUp 19 = .ok (.astore 5, 2) := by decide +kernel
theorem dL_makeUp_21 : decode cL_makeUp 21 = .ok (.iconst 2, 1) := by decide +kernel
theorem dL_makeUp_22 : decode cL_makeUp 22 = .ok (.ireturn, 1) := by decide +kernel
theorem dL_makeUp_23 : decode cL_makeUp 23 = .ok (.astore 5, 2) := by decide +kernel
theorem dL_makeUp_25 : decode cL_makeUp 25 = .ok (.iconst 3, 1) := by decide +kernel
theorem dL_makeUp_26 : decode cL_makeUp 26 = .ok (.ireturn, 1) := by decide +kernel
theorem dL_makeUp_27 : decode cL_makeUp 27 = .ok (.iconst 0, 1) := by decide +kernel
theorem dL_makeUp_28 : decode cL_makeUp 28 = .ok (.ireturn, 1) := by decide +kernel
theorem dL_rumour_0 : decode cL_rumour 0 = .ok (.aload_n 3, 1) := by decide +kernel
theorem dL_rumour_1 : decode cL_rumour 1 = .ok (.iconst 0, 1) := by decide +kernel
theorem dL_rumour_2 : decode cL_rumour 2 = .ok (.aload_n 0, 1) := by decide +kernel
theorem dL_rumour_3 : decode cL_rumour 3 = .ok (.iload_n 1, 1) := by decide +kernel
theorem dL_rumour_4 : decode cL_rumour 4 = .ok (.iload_n 2, 1) := by decide +kernel
theorem dL_rumour_5 : decode cL_rumour 5 = .ok (.invokevirtual 30, 3) := by decide +kernel
theorem dL_rumour_8 : decode cL_rumour 8 = .ok (.i2l, 1) := by decide +kernel
theorem dL_rumour_9 : decode cL_rumour 9 = .ok (.lastore, 1) := by decide +kernel
theorem dL_rumour_10 : decode cL_rumour 10 = .ok (.goto 7, 3) := by decide +kernel
theorem dL_rumour_13 : decode cL_rumour 13 = .ok (.astore 4, 2) := by decide +kernel
theorem dL_rumour_15 : decode cL_rumour 15 = .ok (.iconst 1, 1) := by decide +kernel
theorem dL_rumour_16 : decode cL_rumour 16 = .ok (.ireturn, 1) := by decide +kernel
theorem dL_rumour_17 : decode cL_rumour 17 = .ok (.iconst 0, 1) := by decide +kernel
theorem dL_rumour_18 : decode cL_rumour 18 = .ok (.ireturn, 1) := by decide +kernel
theorem dL_town_0 : decode cL_town 0 = .ok (.aload_n 3, 1) := by decide +kernel
theorem dL_town_1 : decode cL_town 1 = .ok (.iconst 0, 1) := by decide +kernel
theorem dL_town_2 : decode cL_town 2 = .ok (.aload_n 0, 1) := by decide +kernel
theorem dL_town_3 : decode cL_town 3 = .ok (.iload_n 1, 1) := by decide +kernel
theorem dL_town_4 : decode cL_town 4 = .ok (.iload_n 2, 1) := by decide +kernel
theorem dL_town_5 : decode cL_town 5 = .ok (.invokevirtual 34, 3) := by decide +kernel
theorem dL_town_8 : decode cL_town 8 = .ok (.i2l, 1) := by decide +kernel
theorem dL_town_9 : decode cL_town 9 = .ok (.lastore, 1) := by decide +kernel
theorem dL_town_10 : decode cL_town 10 = .ok (.goto 7, 3) := by decide +kernel
theorem dL_town_13 : decode cL_town 13 = .ok (.astore 4, 2) := by decide +kernel
theorem dL_town_15 : decode cL_town 15 = .ok (.iconst 1, 1) := by decide +kernel
theorem dL_town_16 : decode cL_town 16 = .ok (.ireturn, 1) := by decide +kernel
theorem dL_town_17 : decode cL_town 17 = .ok (.iconst 0, 1) := by decide +kernel
theorem dL_town_18 : decode cL_town 18 = .ok (.ireturn, 1) := by decide +kernel
theorem dL_heard_0 : decode cL_heard 0 = .ok (.aload_n 3, 1) := by decide +kernel
theorem dL_heard_1 : decode cL_heard 1 = .ok (.iconst 0, 1) := by decide +kernel
theorem dL_heard_2 : decode cL_heard 2 = .ok (.aload_n 0, 1) := by decide +kernel
theorem dL_heard_3 : decode cL_heard 3 = .ok (.iload_n 1, 1) := by decide +kernel
theorem dL_heard_4 : decode cL_heard 4 = .ok (.iload_n 2, 1) := by decide +kernel
theorem dL_heard_5 : decode cL_heard 5 = .ok (.invokevirtual 37, 3) := by decide +kernel
theorem dL_heard_8 : decode cL_heard 8 = .ok (.i2l, 1) := by decide +kernel
theorem dL_heard_9 : decode cL_heard 9 = .ok (.lastore, 1) := by decide +kernel
theorem dL_heard_10 : decode cL_heard 10 = .ok (.goto 7, 3) := by decide +kernel
theorem dL_heard_13 : decode cL_heard 13 = .ok (.astore 4, 2) := by decide +kernel
theorem dL_heard_15 : decode cL_heard 15 = .ok (.iconst 1, 1) := by decide +kernel
theorem dL_heard_16 : decode cL_heard 16 = .ok (.ireturn, 1) := by decide +kernel
theorem dL_heard_17 : decode cL_heard 17 = .ok (.iconst 0, 1) := by decide +kernel
theorem dL_heard_18 : decode cL_heard 18 = .ok (.ireturn, 1) := by decide +kernel
theorem dL_addCarrier_0 : decode cL_addCarrier 0 = .ok (.aload_n 3, 1) := by decide +kernel
theorem dL_addCarrier_1 : decode cL_addCarrier 1 = .ok (.iconst 0, 1) := by decide +kernel
theorem dL_addCarrier_2 : decode cL_addCarrier 2 = .ok (.aload_n 0, 1) := by decide +kernel
theorem dL_addCarrier_3 : decode cL_addCarrier 3 = .ok (.iload_n 1, 1) := by decide +kernel
theorem dL_addCarrier_4 : decode cL_addCarrier 4 = .ok (.iload_n 2, 1) := by decide +kernel
theorem dL_addCarrier_5 : decode cL_addCarrier 5 = .ok (.invokevirtual 40, 3) := by decide +kernel
theorem dL_addCarrier_8 : decode cL_addCarrier 8 = .ok (.i2l, 1) := by decide +kernel
theorem dL_addCarrier_9 : decode cL_addCarrier 9 = .ok (.lastore, 1) := by decide +kernel
theorem dL_addCarrier_10 : decode cL_addCarrier 10 = .ok (.goto 15, 3) := by decide +kernel
theorem dL_addCarrier_13 : decode cL_addCarrier 13 = .ok (.astore 4, 2) := by decide +kernel
theorem dL_addCarrier_15 : decode cL_addCarrier 15 = .ok (.iconst 1, 1) := by decide +kernel
theorem dL_addCarrier_16 : decode cL_addCarrier 16 = .ok (.ireturn, 1) := by decide +kernel
theorem dL_addCarrier_17 : decode cL_addCarrier 17 = .ok (.astore 4, 2) := by decide +kernel
theorem dL_addCarrier_19 : decode cL_addCarrier 19 = .ok (.iconst 2, 1) := by decide +kernel
theorem dL_addCarrier_20 : decode cL_addCarrier 20 = .ok (.ireturn, 1) := by decide +kernel
theorem dL_addCarrier_21 : decode cL_addCarrier 21 = .ok (.astore 4, 2) := by decide +kernel
theorem dL_addCarrier_23 : decode cL_addCarrier 23 = .ok (.iconst 3, 1) := by decide +kernel
theorem dL_addCarrier_24 : decode cL_addCarrier 24 = .ok (.ireturn, 1) := by decide +kernel
theorem dL_addCarrier_25 : decode cL_addCarrier 25 = .ok (.iconst 0, 1) := by decide +kernel
theorem dL_addCarrier_26 : decode cL_addCarrier 26 = .ok (.ireturn, 1) := by decide +kernel
theorem dL_take_0 : decode cL_take 0 = .ok (.aload_n 3, 1) := by decide +kernel
theorem dL_take_1 : decode cL_take 1 = .ok (.iconst 0, 1) := by decide +kernel
theorem dL_take_2 : decode cL_take 2 = .ok (.aload_n 0, 1) := by decide +kernel
theorem dL_take_3 : decode cL_take 3 = .ok (.iload_n 1, 1) := by decide +kernel
theorem dL_take_4 : decode cL_take 4 = .ok (.iload_n 2, 1) := by decide +kernel
theorem dL_take_5 : decode cL_take 5 = .ok (.invokevirtual 43, 3) := by decide +kernel
theorem dL_take_8 : decode cL_take 8 = .ok (.i2l, 1) := by decide +kernel
theorem dL_take_9 : decode cL_take 9 = .ok (.lastore, 1) := by decide +kernel
theorem dL_take_10 : decode cL_take 10 = .ok (.goto 11, 3) := by decide +kernel
theorem dL_take_13 : decode cL_take 13 = .ok (.astore 4, 2) := by decide +kernel
theorem dL_take_15 : decode cL_take 15 = .ok (.iconst 1, 1) := by decide +kernel
theorem dL_take_16 : decode cL_take 16 = .ok (.ireturn, 1) := by decide +kernel
theorem dL_take_17 : decode cL_take 17 = .ok (.astore 4, 2) := by decide +kernel
theorem dL_take_19 : decode cL_take 19 = .ok (.iconst 2, 1) := by decide +kernel
theorem dL_take_20 : decode cL_take 20 = .ok (.ireturn, 1) := by decide +kernel
theorem dL_take_21 : decode cL_take 21 = .ok (.iconst 0, 1) := by decide +kernel
theorem dL_take_22 : decode cL_take 22 = .ok (.ireturn, 1) := by decide +kernel
theorem dL_leave_0 : decode cL_leave 0 = .ok (.aload_n 3, 1) := by decide +kernel
theorem dL_leave_1 : decode cL_leave 1 = .ok (.iconst 0, 1) := by decide +kernel
theorem dL_leave_2 : decode cL_leave 2 = .ok (.aload_n 0, 1) := by decide +kernel
theorem dL_leave_3 : decode cL_leave 3 = .ok (.iload_n 1, 1) := by decide +kernel
theorem dL_leave_4 : decode cL_leave 4 = .ok (.iload_n 2, 1) := by decide +kernel
theorem dL_leave_5 : decode cL_leave 5 = .ok (.invokevirtual 46, 3) := by decide +kernel
theorem dL_leave_8 : decode cL_leave 8 = .ok (.i2l, 1) := by decide +kernel
theorem dL_leave_9 : decode cL_leave 9 = .ok (.lastore, 1) := by decide +kernel
theorem dL_leave_10 : decode cL_leave 10 = .ok (.goto 11, 3) := by decide +kernel
theorem dL_leave_13 : decode cL_leave 13 = .ok (.astore 4, 2) := by decide +kernel
theorem dL_leave_15 : decode cL_leave 15 = .ok (.iconst 1, 1) := by decide +kernel
theorem dL_leave_16 : decode cL_leave 16 = .ok (.ireturn, 1) := by decide +kernel
theorem dL_leave_17 : decode cL_leave 17 = .ok (.astore 4, 2) := by decide +kernel
theorem dL_leave_19 : decode cL_leave 19 = .ok (.iconst 2, 1) := by decide +kernel
theorem dL_leave_20 : decode cL_leave 20 = .ok (.ireturn, 1) := by decide +kernel
theorem dL_leave_21 : decode cL_leave 21 = .ok (.iconst 0, 1) := by decide +kernel
theorem dL_leave_22 : decode cL_leave 22 = .ok (.ireturn, 1) := by decide +kernel
theorem dL_hide_0 : decode cL_hide 0 = .ok (.aload 4, 2) := by decide +kernel
theorem dL_hide_2 : decode cL_hide 2 = .ok (.iconst 0, 1) := by decide +kernel
theorem dL_hide_3 : decode cL_hide 3 = .ok (.aload_n 0, 1) := by decide +kernel
theorem dL_hide_4 : decode cL_hide 4 = .ok (.iload_n 1, 1) := by decide +kernel
theorem dL_hide_5 : decode cL_hide 5 = .ok (.iload_n 2, 1) := by decide +kernel
theorem dL_hide_6 : decode cL_hide 6 = .ok (.iload_n 3, 1) := by decide +kernel
theorem dL_hide_7 : decode cL_hide 7 = .ok (.invokevirtual 49, 3) := by decide +kernel
theorem dL_hide_10 : decode cL_hide 10 = .ok (.i2l, 1) := by decide +kernel
theorem dL_hide_11 : decode cL_hide 11 = .ok (.lastore, 1) := by decide +kernel
theorem dL_hide_12 : decode cL_hide 12 = .ok (.goto 11, 3) := by decide +kernel
theorem dL_hide_15 : decode cL_hide 15 = .ok (.astore 5, 2) := by decide +kernel
theorem dL_hide_17 : decode cL_hide 17 = .ok (.iconst 1, 1) := by decide +kernel
theorem dL_hide_18 : decode cL_hide 18 = .ok (.ireturn, 1) := by decide +kernel
theorem dL_hide_19 : decode cL_hide 19 = .ok (.astore 5, 2) := by decide +kernel
theorem dL_hide_21 : decode cL_hide 21 = .ok (.iconst 2, 1) := by decide +kernel
theorem dL_hide_22 : decode cL_hide 22 = .ok (.ireturn, 1) := by decide +kernel
end
section
theorem dL_hide_23 : decode cL_hide 23 = .ok (.iconst 0, 1) := by decide +kernel
theorem dL_hide_24 : decode cL_hide 24 = .ok (.ireturn, 1) := by decide +kernel
theorem dL_tell_0 : decode cL_tell 0 = .ok (.aload_n 3, 1) := by decide +kernel
theorem dL_tell_1 : decode cL_tell 1 = .ok (.iconst 0, 1) := by decide +kernel
theorem dL_tell_2 : decode cL_tell 2 = .ok (.aload_n 0, 1) := by decide +kernel
theorem dL_tell_3 : decode cL_tell 3 = .ok (.iload_n 1, 1) := by decide +kernel
theorem dL_tell_4 : decode cL_tell 4 = .ok (.iload_n 2, 1) := by decide +kernel
theorem dL_tell_5 : decode cL_tell 5 = .ok (.invokevirtual 53, 3) := by decide +kernel
theorem dL_tell_8 : decode cL_tell 8 = .ok (.i2l, 1) := by decide +kernel
theorem dL_tell_9 : decode cL_tell 9 = .ok (.lastore, 1) := by decide +kernel
theorem dL_tell_10 : decode cL_tell 10 = .ok (.goto 11, 3) := by decide +kernel
theorem dL_tell_13 : decode cL_tell 13 = .ok (.astore 4, 2) := by decide +kernel
theorem dL_tell_15 : decode cL_tell 15 = .ok (.iconst 1, 1) := by decide +kernel
theorem dL_tell_16 : decode cL_tell 16 = .ok (.ireturn, 1) := by decide +kernel
theorem dL_tell_17 : decode cL_tell 17 = .ok (.astore 4, 2) := by decide +kernel
theorem dL_tell_19 : decode cL_tell 19 = .ok (.iconst 2, 1) := by decide +kernel
theorem dL_tell_20 : decode cL_tell 20 = .ok (.ireturn, 1) := by decide +kernel
theorem dL_tell_21 : decode cL_tell 21 = .ok (.iconst 0, 1) := by decide +kernel
theorem dL_tell_22 : decode cL_tell 22 = .ok (.ireturn, 1) := by decide +kernel
theorem dL_go_0 : decode cL_go 0 = .ok (.aload 4, 2) := by decide +kernel
theorem dL_go_2 : decode cL_go 2 = .ok (.iconst 0, 1) := by decide +kernel
theorem dL_go_3 : decode cL_go 3 = .ok (.aload_n 0, 1) := by decide +kernel
theorem dL_go_4 : decode cL_go 4 = .ok (.iload_n 1, 1) := by decide +kernel
theorem dL_go_5 : decode cL_go 5 = .ok (.iload_n 2, 1) := by decide +kernel
theorem dL_go_6 : decode cL_go 6 = .ok (.iload_n 3, 1) := by decide +kernel
theorem dL_go_7 : decode cL_go 7 = .ok (.invokevirtual 56, 3) := by decide +kernel
theorem dL_go_10 : decode cL_go 10 = .ok (.i2l, 1) := by decide +kernel
theorem dL_go_11 : decode cL_go 11 = .ok (.lastore, 1) := by decide +kernel
theorem dL_go_12 : decode cL_go 12 = .ok (.goto 15, 3) := by decide +kernel
theorem dL_go_15 : decode cL_go 15 = .ok (.astore 5, 2) := by decide +kernel
theorem dL_go_17 : decode cL_go 17 = .ok (.iconst 1, 1) := by decide +kernel
theorem dL_go_18 : decode cL_go 18 = .ok (.ireturn, 1) := by decide +kernel
theorem dL_go_19 : decode cL_go 19 = .ok (.astore 5, 2) := by decide +kernel
theorem dL_go_21 : decode cL_go 21 = .ok (.iconst 2, 1) := by decide +kernel
theorem dL_go_22 : decode cL_go 22 = .ok (.ireturn, 1) := by decide +kernel
theorem dL_go_23 : decode cL_go 23 = .ok (.astore 5, 2) := by decide +kernel
theorem dL_go_25 : decode cL_go 25 = .ok (.iconst 3, 1) := by decide +kernel
theorem dL_go_26 : decode cL_go 26 = .ok (.ireturn, 1) := by decide +kernel
theorem dL_go_27 : decode cL_go 27 = .ok (.iconst 0, 1) := by decide +kernel
theorem dL_go_28 : decode cL_go 28 = .ok (.ireturn, 1) := by decide +kernel
theorem dL_carrier_0 : decode cL_carrier 0 = .ok (.aload_n 3, 1) := by decide +kernel
theorem dL_carrier_1 : decode cL_carrier 1 = .ok (.iconst 0, 1) := by decide +kernel
theorem dL_carrier_2 : decode cL_carrier 2 = .ok (.aload_n 0, 1) := by decide +kernel
theorem dL_carrier_3 : decode cL_carrier 3 = .ok (.iload_n 1, 1) := by decide +kernel
theorem dL_carrier_4 : decode cL_carrier 4 = .ok (.iload_n 2, 1) := by decide +kernel
theorem dL_carrier_5 : decode cL_carrier 5 = .ok (.invokevirtual 59, 3) := by decide +kernel
theorem dL_carrier_8 : decode cL_carrier 8 = .ok (.i2l, 1) := by decide +kernel
theorem dL_carrier_9 : decode cL_carrier 9 = .ok (.lastore, 1) := by decide +kernel
theorem dL_carrier_10 : decode cL_carrier 10 = .ok (.goto 7, 3) := by decide +kernel
theorem dL_carrier_13 : decode cL_carrier 13 = .ok (.astore 4, 2) := by decide +kernel
theorem dL_carrier_15 : decode cL_carrier 15 = .ok (.iconst 1, 1) := by decide +kernel
theorem dL_carrier_16 : decode cL_carrier 16 = .ok (.ireturn, 1) := by decide +kernel
theorem dL_carrier_17 : decode cL_carrier 17 = .ok (.iconst 0, 1) := by decide +kernel
theorem dL_carrier_18 : decode cL_carrier 18 = .ok (.ireturn, 1) := by decide +kernel
theorem dL_wouldPay_0 : decode cL_wouldPay 0 = .ok (.aload 4, 2) := by decide +kernel
theorem dL_wouldPay_2 : decode cL_wouldPay 2 = .ok (.iconst 0, 1) := by decide +kernel
theorem dL_wouldPay_3 : decode cL_wouldPay 3 = .ok (.aload_n 0, 1) := by decide +kernel
theorem dL_wouldPay_4 : decode cL_wouldPay 4 = .ok (.iload_n 1, 1) := by decide +kernel
theorem dL_wouldPay_5 : decode cL_wouldPay 5 = .ok (.iload_n 2, 1) := by decide +kernel
theorem dL_wouldPay_6 : decode cL_wouldPay 6 = .ok (.iload_n 3, 1) := by decide +kernel
theorem dL_wouldPay_7 : decode cL_wouldPay 7 = .ok (.invokevirtual 62, 3) := by decide +kernel
theorem dL_wouldPay_10 : decode cL_wouldPay 10 = .ok (.i2l, 1) := by decide +kernel
theorem dL_wouldPay_11 : decode cL_wouldPay 11 = .ok (.lastore, 1) := by decide +kernel
theorem dL_wouldPay_12 : decode cL_wouldPay 12 = .ok (.goto 15, 3) := by decide +kernel
theorem dL_wouldPay_15 : decode cL_wouldPay 15 = .ok (.astore 5, 2) := by decide +kernel
theorem dL_wouldPay_17 : decode cL_wouldPay 17 = .ok (.iconst 1, 1) := by decide +kernel
theorem dL_wouldPay_18 : decode cL_wouldPay 18 = .ok (.ireturn, 1) := by decide +kernel
theorem dL_wouldPay_19 : decode cL_wouldPay 19 = .ok (.astore 5, 2) := by decide +kernel
theorem dL_wouldPay_21 : decode cL_wouldPay 21 = .ok (.iconst 2, 1) := by decide +kernel
theorem dL_wouldPay_22 : decode cL_wouldPay 22 = .ok (.ireturn, 1) := by decide +kernel
theorem dL_wouldPay_23 : decode cL_wouldPay 23 = .ok (.astore 5, 2) := by decide +kernel
theorem dL_wouldPay_25 : decode cL_wouldPay 25 = .ok (.iconst 3, 1) := by decide +kernel
theorem dL_wouldPay_26 : decode cL_wouldPay 26 = .ok (.ireturn, 1) := by decide +kernel
theorem dL_wouldPay_27 : decode cL_wouldPay 27 = .ok (.iconst 0, 1) := by decide +kernel
theorem dL_wouldPay_28 : decode cL_wouldPay 28 = .ok (.ireturn, 1) := by decide +kernel
theorem dL_pass_0 : decode cL_pass 0 = .ok (.aload_n 2, 1) := by decide +kernel
theorem dL_pass_1 : decode cL_pass 1 = .ok (.iconst 0, 1) := by decide +kernel
theorem dL_pass_2 : decode cL_pass 2 = .ok (.aload_n 0, 1) := by decide +kernel
theorem dL_pass_3 : decode cL_pass 3 = .ok (.iload_n 1, 1) := by decide +kernel
theorem dL_pass_4 : decode cL_pass 4 = .ok (.invokevirtual 65, 3) := by decide +kernel
theorem dL_pass_7 : decode cL_pass 7 = .ok (.i2l, 1) := by decide +kernel
theorem dL_pass_8 : decode cL_pass 8 = .ok (.lastore, 1) := by decide +kernel
theorem dL_pass_9 : decode cL_pass 9 = .ok (.goto 6, 3) := by decide +kernel
theorem dL_pass_12 : decode cL_pass 12 = .ok (.astore_n 3, 1) := by decide +kernel
theorem dL_pass_13 : decode cL_pass 13 = .ok (.iconst 1, 1) := by decide +kernel
theorem dL_pass_14 : decode cL_pass 14 = .ok (.ireturn, 1) := by decide +kernel
theorem dL_pass_15 : decode cL_pass 15 = .ok (.iconst 0, 1) := by decide +kernel
theorem dL_pass_16 : decode cL_pass 16 = .ok (.ireturn, 1) := by decide +kernel
theorem dL_count_0 : decode cL_count 0 = .ok (.aload_n 2, 1) := by decide +kernel
theorem dL_count_1 : decode cL_count 1 = .ok (.iconst 0, 1) := by decide +kernel
theorem dL_count_2 : decode cL_count 2 = .ok (.aload_n 0, 1) := by decide +kernel
theorem dL_count_3 : decode cL_count 3 = .ok (.iload_n 1, 1) := by decide +kernel
theorem dL_count_4 : decode cL_count 4 = .ok (.invokevirtual 69, 3) := by decide +kernel
theorem dL_count_7 : decode cL_count 7 = .ok (.i2l, 1) := by decide +kernel
theorem dL_count_8 : decode cL_count 8 = .ok (.lastore, 1) := by decide +kernel
theorem dL_count_9 : decode cL_count 9 = .ok (.goto 6, 3) := by decide +kernel
theorem dL_count_12 : decode cL_count 12 = .ok (.astore_n 3, 1) := by decide +kernel
theorem dL_count_13 : decode cL_count 13 = .ok (.iconst 1, 1) := by decide +kernel
theorem dL_count_14 : decode cL_count 14 = .ok (.ireturn, 1) := by decide +kernel
theorem dL_count_15 : decode cL_count 15 = .ok (.iconst 0, 1) := by decide +kernel
theorem dL_count_16 : decode cL_count 16 = .ok (.ireturn, 1) := by decide +kernel
theorem dL_cheapest_0 : decode cL_cheapest 0 = .ok (.aload 5, 2) := by decide +kernel
theorem dL_cheapest_2 : decode cL_cheapest 2 = .ok (.iconst 0, 1) := by decide +kernel
theorem dL_cheapest_3 : decode cL_cheapest 3 = .ok (.aload_n 0, 1) := by decide +kernel
theorem dL_cheapest_4 : decode cL_cheapest 4 = .ok (.iload_n 1, 1) := by decide +kernel
theorem dL_cheapest_5 : decode cL_cheapest 5 = .ok (.iload_n 2, 1) := by decide +kernel
theorem dL_cheapest_6 : decode cL_cheapest 6 = .ok (.iload_n 3, 1) := by decide +kernel
theorem dL_cheapest_7 : decode cL_cheapest 7 = .ok (.iload 4, 2) := by decide +kernel
theorem dL_cheapest_9 : decode cL_cheapest 9 = .ok (.invokevirtual 72, 3) := by decide +kernel
theorem dL_cheapest_12 : decode cL_cheapest 12 = .ok (.i2l, 1) := by decide +kernel
theorem dL_cheapest_13 : decode cL_cheapest 13 = .ok (.lastore, 1) := by decide +kernel
theorem dL_cheapest_14 : decode cL_cheapest 14 = .ok (.goto 7, 3) := by decide +kernel
theorem dL_cheapest_17 : decode cL_cheapest 17 = .ok (.astore 6, 2) := by decide +kernel
theorem dL_cheapest_19 : decode cL_cheapest 19 = .ok (.iconst 1, 1) := by decide +kernel
theorem dL_cheapest_20 : decode cL_cheapest 20 = .ok (.ireturn, 1) := by decide +kernel
theorem dL_cheapest_21 : decode cL_cheapest 21 = .ok (.iconst 0, 1) := by decide +kernel
theorem dL_cheapest_22 : decode cL_cheapest 22 = .ok (.ireturn, 1) := by decide +kernel
theorem dL_spread_0 : decode cL_spread 0 = .ok (.aload_n 3, 1) := by decide +kernel
theorem dL_spread_1 : decode cL_spread 1 = .ok (.iconst 0, 1) := by decide +kernel
theorem dL_spread_2 : decode cL_spread 2 = .ok (.aload_n 0, 1) := by decide +kernel
theorem dL_spread_3 : decode cL_spread 3 = .ok (.iload_n 1, 1) := by decide +kernel
theorem dL_spread_4 : decode cL_spread 4 = .ok (.iload_n 2, 1) := by decide +kernel
theorem dL_spread_5 : decode cL_spread 5 = .ok (.invokevirtual 76, 3) := by decide +kernel
theorem dL_spread_8 : decode cL_spread 8 = .ok (.i2l, 1) := by decide +kernel
theorem dL_spread_9 : decode cL_spread 9 = .ok (.lastore, 1) := by decide +kernel
theorem dL_spread_10 : decode cL_spread 10 = .ok (.goto 7, 3) := by decide +kernel
theorem dL_spread_13 : decode cL_spread 13 = .ok (.astore 4, 2) := by decide +kernel
theorem dL_spread_15 : decode cL_spread 15 = .ok (.iconst 1, 1) := by decide +kernel
theorem dL_spread_16 : decode cL_spread 16 = .ok (.ireturn, 1) := by decide +kernel
theorem dL_spread_17 : decode cL_spread 17 = .ok (.iconst 0, 1) := by decide +kernel
theorem dL_spread_18 : decode cL_spread 18 = .ok (.ireturn, 1) := by decide +kernel
theorem dL_law_0 : decode cL_law 0 = .ok (.new 8, 3) := by decide +kernel
theorem dL_law_3 : decode cL_law 3 = .ok (.dup, 1) := by decide +kernel
theorem dL_law_4 : decode cL_law 4 = .ok (.invokespecial 79, 3) := by decide +kernel
theorem dL_law_7 : decode cL_law 7 = .ok (.astore_n 1, 1) := by decide +kernel
theorem dL_law_8 : decode cL_law 8 = .ok (.new 80, 3) := by decide +kernel
theorem dL_law_11 : decode cL_law 11 = .ok (.dup, 1) := by decide +kernel
theorem dL_law_12 : decode cL_law 12 = .ok (.invokespecial 82, 3) := by decide +kernel
theorem dL_law_15 : decode cL_law 15 = .ok (.astore_n 2, 1) := by decide +kernel
theorem dL_law_16 : decode cL_law 16 = .ok (.iconst 1, 1) := by decide +kernel
theorem dL_law_17 : decode cL_law 17 = .ok (.newarray .long, 2) := by decide +kernel
theorem dL_law_19 : decode cL_law 19 = .ok (.astore_n 3, 1) := by decide +kernel
theorem dL_law_20 : decode cL_law 20 = .ok (.iconst 0, 1) := by decide +kernel
theorem dL_law_21 : decode cL_law 21 = .ok (.istore 4, 2) := by decide +kernel
theorem dL_law_23 : decode cL_law 23 = .ok (.iload 4, 2) := by decide +kernel
theorem dL_law_25 : decode cL_law 25 = .ok (.aload_n 0, 1) := by decide +kernel
theorem dL_law_26 : decode cL_law 26 = .ok (.arraylength, 1) := by decide +kernel
theorem dL_law_27 : decode cL_law 27 = .ok (.bipush 7, 2) := by decide +kernel
theorem dL_law_29 : decode cL_law 29 = .ok (.isub, 1) := by decide +kernel
theorem dL_law_30 : decode cL_law 30 = .ok (.if_icmp .gt 1565, 3) := by decide +kernel
theorem dL_law_33 : decode cL_law 33 = .ok (.aload_n 0, 1) := by decide +kernel
theorem dL_law_34 : decode cL_law 34 = .ok (.iload 4, 2) := by decide +kernel
theorem dL_law_36 : decode cL_law 36 = .ok (.iaload, 1) := by decide +kernel
theorem dL_law_37 : decode cL_law 37 = .ok (.bipush 31, 2) := by decide +kernel
theorem dL_law_39 : decode cL_law 39 = .ok (.iand, 1) := by decide +kernel
theorem dL_law_40 : decode cL_law 40 = .ok (.tableswitch 1549 0 20 #[100, 144, 262, 342, 422, 490, 558, 626, 694, 762, 830, 926, 994, 1074, 1142, 1222, 1278, 1334, 1426, 1494, 1535], 100) := by decide +kernel
theorem dL_law_140 : decode cL_law 140 = .ok (.aload_n 1, 1) := by decide +kernel
theorem dL_law_141 : decode cL_law 141 = .ok (.aload_n 3, 1) := by decide +kernel
theorem dL_law_142 : decode cL_law 142 = .ok (.invokestatic 83, 3) := by decide +kernel
theorem dL_law_145 : decode cL_law 145 = .ok (.istore 5, 2) := by decide +kernel
theorem dL_law_147 : decode cL_law 147 = .ok (.aload_n 2, 1) := by decide +kernel
theorem dL_law_148 : decode cL_law 148 = .ok (.invokevirtual 88, 3) := by decide +kernel
theorem dL_law_151 : decode cL_law 151 = .ok (.istore 6, 2) := by decide +kernel
theorem dL_law_153 : decode cL_law 153 = .ok (.aload_n 2, 1) := by decide +kernel
theorem dL_law_154 : decode cL_law 154 = .ok (.invokevirtual 89, 3) := by decide +kernel
theorem dL_law_157 : decode cL_law 157 = .ok (.iload 5, 2) := by decide +kernel
theorem dL_law_159 : decode cL_law 159 = .ok (.if_icmp .eq 5, 3) := by decide +kernel
theorem dL_law_162 : decode cL_law 162 = .ok (.iconst 0, 1) := by decide +kernel
theorem dL_law_163 : decode cL_law 163 = .ok (.ireturn, 1) := by decide +kernel
theorem dL_law_164 : decode cL_law 164 = .ok (.iload 5, 2) := by decide +kernel
theorem dL_law_166 : decode cL_law 166 = .ok (.ifCond .ne 15, 3) := by decide +kernel
theorem dL_law_169 : decode cL_law 169 = .ok (.aload_n 3, 1) := by decide +kernel
theorem dL_law_170 : decode cL_law 170 = .ok (.iconst 0, 1) := by decide +kernel
theorem dL_law_171 : decode cL_law 171 = .ok (.laload, 1) := by decide +kernel
theorem dL_law_172 : decode cL_law 172 = .ok (.iload 6, 2) := by decide +kernel
theorem dL_law_174 : decode cL_law 174 = .ok (.i2l, 1) := by decide +kernel
theorem dL_law_175 : decode cL_law 175 = .ok (.lcmp, 1) := by decide +kernel
theorem dL_law_176 : decode cL_law 176 = .ok (.ifCond .eq 5, 3) := by decide +kernel
theorem dL_law_179 : decode cL_law 179 = .ok (.iconst 0, 1) := by decide +kernel
theorem dL_law_180 : decode cL_law 180 = .ok (.ireturn, 1) := by decide +kernel
theorem dL_law_181 : decode cL_law 181 = .ok (.goto 1408, 3) := by decide +kernel
theorem dL_law_184 : decode cL_law 184 = .ok (.aload_n 1, 1) := by decide +kernel
theorem dL_law_185 : decode cL_law 185 = .ok (.aload_n 0, 1) := by decide +kernel
theorem dL_law_186 : decode cL_law 186 = .ok (.iload 4, 2) := by decide +kernel
theorem dL_law_188 : decode cL_law 188 = .ok (.iconst 1, 1) := by decide +kernel
theorem dL_law_189 : decode cL_law 189 = .ok (.iadd, 1) := by decide +kernel
theorem dL_law_190 : decode cL_law 190 = .ok (.iaload, 1) := by decide +kernel
theorem dL_law_191 : decode cL_law 191 = .ok (.aload_n 0, 1) := by decide +kernel
theorem dL_law_192 : decode cL_law 192 = .ok (.iload 4, 2) := by decide +kernel
theorem dL_law_194 : decode cL_law 194 = .ok (.iconst 2, 1) := by decide +kernel
theorem dL_law_195 : decode cL_law 195 = .ok (.iadd, 1) := by decide +kernel
theorem dL_law_196 : decode cL_law 196 = .ok (.iaload, 1) := by decide +kernel
theorem dL_law_197 : decode cL_law 197 = .ok (.aload_n 0, 1) := by decide +kernel
theorem dL_law_198 : decode cL_law 198 = .ok (.iload 4, 2) := by decide +kernel
theorem dL_law_200 : decode cL_law 200 = .ok (.iconst 3, 1) := by decide +kernel
theorem dL_law_201 : decode cL_law 201 = .ok (.iadd, 1) := by decide +kernel
theorem dL_law_202 : decode cL_law 202 = .ok (.iaload, 1) := by decide +kernel
theorem dL_law_203 : decode cL_law 203 = .ok (.aload_n 0, 1) := by decide +kernel
theorem dL_law_204 : decode cL_law 204 = .ok (.iload 4, 2) := by decide +kernel
theorem dL_law_206 : decode cL_law 206 = .ok (.iconst 4, 1) := by decide +kernel
theorem dL_law_207 : decode cL_law 207 = .ok (.iadd, 1) := by decide +kernel
theorem dL_law_208 : decode cL_law 208 = .ok (.iaload, 1) := by decide +kernel
theorem dL_law_209 : decode cL_law 209 = .ok (.aload_n 0, 1) := by decide +kernel
theorem dL_law_210 : decode cL_law 210 = .ok (.iload 4, 2) := by decide +kernel
theorem dL_law_212 : decode cL_law 212 = .ok (.iconst 5, 1) := by decide +kernel
theorem dL_law_213 : decode cL_law 213 = .ok (.iadd, 1) := by decide +kernel
theorem dL_law_214 : decode cL_law 214 = .ok (.iaload, 1) := by decide +kernel
theorem dL_law_215 : decode cL_law 215 = .ok (.aload_n 0, 1) := by decide +kernel
theorem dL_law_216 : decode cL_law 216 = .ok (.iload 4, 2) := by decide +kernel
theorem dL_law_218 : decode cL_law 218 = .ok (.bipush 6, 2) := by decide +kernel
theorem dL_law_220 : decode cL_law 220 = .ok (.iadd, 1) := by decide +kernel
theorem dL_law_221 : decode cL_law 221 = .ok (.iaload, 1) := by decide +kernel
theorem dL_law_222 : decode cL_law 222 = .ok (.aload_n 3, 1) := by decide +kernel
theorem dL_law_223 : decode cL_law 223 = .ok (.invokestatic 92, 3) := by decide +kernel
theorem dL_law_226 : decode cL_law 226 = .ok (.istore 5, 2) := by decide +kernel
theorem dL_law_228 : decode cL_law 228 = .ok (.aload_n 2, 1) := by decide +kernel
theorem dL_law_229 : decode cL_law 229 = .ok (.aload_n 0, 1) := by decide +kernel
theorem dL_law_230 : decode cL_law 230 = .ok (.iload 4, 2) := by decide +kernel
theorem dL_law_232 : decode cL_law 232 = .ok (.iconst 1, 1) := by decide +kernel
theorem dL_law_233 : decode cL_law 233 = .ok (.iadd, 1) := by decide +kernel
theorem dL_law_234 : decode cL_law 234 = .ok (.iaload, 1) := by decide +kernel
theorem dL_law_235 : decode cL_law 235 = .ok (.aload_n 0, 1) := by decide +kernel
theorem dL_law_236 : decode cL_law 236 = .ok (.iload 4, 2) := by decide +kernel
theorem dL_law_238 : decode cL_law 238 = .ok (.iconst 2, 1) := by decide +kernel
theorem dL_law_239 : decode cL_law 239 = .ok (.iadd, 1) := by decide +kernel
theorem dL_law_240 : decode cL_law 240 = .ok (.iaload, 1) := by decide +kernel
theorem dL_law_241 : decode cL_law 241 = .ok (.aload_n 0, 1) := by decide +kernel
theorem dL_law_242 : decode cL_law 242 = .ok (.iload 4, 2) := by decide +kernel
theorem dL_law_244 : decode cL_law 244 = .ok (.iconst 3, 1) := by decide +kernel
theorem dL_law_245 : decode cL_law 245 = .ok (.iadd, 1) := by decide +kernel
theorem dL_law_246 : decode cL_law 246 = .ok (.iaload, 1) := by decide +kernel
theorem dL_law_247 : decode cL_law 247 = .ok (.aload_n 0, 1) := by decide +kernel
theorem dL_law_248 : decode cL_law 248 = .ok (.iload 4, 2) := by decide +kernel
theorem dL_law_250 : decode cL_law 250 = .ok (.iconst 4, 1) := by decide +kernel
theorem dL_law_251 : decode cL_law 251 = .ok (.iadd, 1) := by decide +kernel
theorem dL_law_252 : decode cL_law 252 = .ok (.iaload, 1) := by decide +kernel
theorem dL_law_253 : decode cL_law 253 = .ok (.aload_n 0, 1) := by decide +kernel
theorem dL_law_254 : decode cL_law 254 = .ok (.iload 4, 2) := by decide +kernel
theorem dL_law_256 : decode cL_law 256 = .ok (.iconst 5, 1) := by decide +kernel
theorem dL_law_257 : decode cL_law 257 = .ok (.iadd, 1) := by decide +kernel
theorem dL_law_258 : decode cL_law 258 = .ok (.iaload, 1) := by decide +kernel
theorem dL_law_259 : decode cL_law 259 = .ok (.aload_n 0, 1) := by decide +kernel
theorem dL_law_260 : decode cL_law 260 = .ok (.iload 4, 2) := by decide +kernel
theorem dL_law_262 : decode cL_law 262 = .ok (.bipush 6, 2) := by decide +kernel
theorem dL_law_264 : decode cL_law 264 = .ok (.iadd, 1) := by decide +kernel
theorem dL_law_265 : decode cL_law 265 = .ok (.iaload, 1) := by decide +kernel
theorem dL_law_266 : decode cL_law 266 = .ok (.invokevirtual 95, 3) := by decide +kernel
theorem dL_law_269 : decode cL_law 269 = .ok (.istore 6, 2) := by decide +kernel
theorem dL_law_271 : decode cL_law 271 = .ok (.aload_n 2, 1) := by decide +kernel
theorem dL_law_272 : decode cL_law 272 = .ok (.invokevirtual 89, 3) := by decide +kernel
theorem dL_law_275 : decode cL_law 275 = .ok (.iload 5, 2) := by decide +kernel
theorem dL_law_277 : decode cL_law 277 = .ok (.if_icmp .eq 5, 3) := by decide +kernel
theorem dL_law_280 : decode cL_law 280 = .ok (.iconst 0, 1) := by decide +kernel
theorem dL_law_281 : decode cL_law 281 = .ok (.ireturn, 1) := by decide +kernel
theorem dL_law_282 : decode cL_law 282 = .ok (.iload 5, 2) := by decide +kernel
theorem dL_law_284 : decode cL_law 284 = .ok (.ifCond .ne 15, 3) := by decide +kernel
theorem dL_law_287 : decode cL_law 287 = .ok (.aload_n 3, 1) := by decide +kernel
theorem dL_law_288 : decode cL_law 288 = .ok (.iconst 0, 1) := by decide +kernel
theorem dL_law_289 : decode cL_law 289 = .ok (.laload, 1) := by decide +kernel
theorem dL_law_290 : decode cL_law 290 = .ok (.iload 6, 2) := by decide +kernel
theorem dL_law_292 : decode cL_law 292 = .ok (.i2l, 1) := by decide +kernel
theorem dL_law_293 : decode cL_law 293 = .ok (.lcmp, 1) := by decide +kernel
theorem dL_law_294 : decode cL_law 294 = .ok (.ifCond .eq 5, 3) := by decide +kernel
theorem dL_law_297 : decode cL_law 297 = .ok (.iconst 0, 1) := by decide +kernel
theorem dL_law_298 : decode cL_law 298 = .ok (.ireturn, 1) := by decide +kernel
theorem dL_law_299 : decode cL_law 299 = .ok (.goto 1290, 3) := by decide +kernel
theorem dL_law_302 : decode cL_law 302 = .ok (.aload_n 1, 1) := by decide +kernel
theorem dL_law_303 : decode cL_law 303 = .ok (.aload_n 0, 1) := by decide +kernel
theorem dL_law_304 : decode cL_law 304 = .ok (.iload 4, 2) := by decide +kernel
theorem dL_law_306 : decode cL_law 306 = .ok (.iconst 1, 1) := by decide +kernel
theorem dL_law_307 : decode cL_law 307 = .ok (.iadd, 1) := by decide +kernel
theorem dL_law_308 : decode cL_law 308 = .ok (.iaload, 1) := by decide +kernel
theorem dL_law_309 : decode cL_law 309 = .ok (.aload_n 0, 1) := by decide +kernel
theorem dL_law_310 : decode cL_law 310 = .ok (.iload 4, 2) := by decide +kernel
theorem dL_law_312 : decode cL_law 312 = .ok (.iconst 2, 1) := by decide +kernel
theorem dL_law_313 : decode cL_law 313 = .ok (.iadd, 1) := by decide +kernel
theorem dL_law_314 : decode cL_law 314 = .ok (.iaload, 1) := by decide +kernel
theorem dL_law_315 : decode cL_law 315 = .ok (.aload_n 0, 1) := by decide +kernel
theorem dL_law_316 : decode cL_law 316 = .ok (.iload 4, 2) := by decide +kernel
theorem dL_law_318 : decode cL_law 318 = .ok (.iconst 3, 1) := by decide +kernel
theorem dL_law_319 : decode cL_law 319 = .ok (.iadd, 1) := by decide +kernel
theorem dL_law_320 : decode cL_law 320 = .ok (.iaload, 1) := by decide +kernel
theorem dL_law_321 : decode cL_law 321 = .ok (.aload_n 3, 1) := by decide +kernel
theorem dL_law_322 : decode cL_law 322 = .ok (.invokestatic 96, 3) := by decide +kernel
theorem dL_law_325 : decode cL_law 325 = .ok (.istore 5, 2) := by decide +kernel
theorem dL_law_327 : decode cL_law 327 = .ok (.aload_n 2, 1) := by decide +kernel
theorem dL_law_328 : decode cL_law 328 = .ok (.aload_n 0, 1) := by decide +kernel
theorem dL_law_329 : decode cL_law 329 = .ok (.iload 4, 2) := by decide +kernel
theorem dL_law_331 : decode cL_law 331 = .ok (.iconst 1, 1) := by decide +kernel
theorem dL_law_332 : decode cL_law 332 = .ok (.iadd, 1) := by decide +kernel
theorem dL_law_333 : decode cL_law 333 = .ok (.iaload, 1) := by decide +kernel
theorem dL_law_334 : decode cL_law 334 = .ok (.aload_n 0, 1) := by decide +kernel
theorem dL_law_335 : decode cL_law 335 = .ok (.iload 4, 2) := by decide +kernel
theorem dL_law_337 : decode cL_law 337 = .ok (.iconst 2, 1) := by decide +kernel
theorem dL_law_338 : decode cL_law 338 = .ok (.iadd, 1) := by decide +kernel
theorem dL_law_339 : decode cL_law 339 = .ok (.iaload, 1) := by decide +kernel
theorem dL_law_340 : decode cL_law 340 = .ok (.aload_n 0, 1) := by decide +kernel
theorem dL_law_341 : decode cL_law 341 = .ok (.iload 4, 2) := by decide +kernel
theorem dL_law_343 : decode cL_law 343 = .ok (.iconst 3, 1) := by decide +kernel
theorem dL_law_344 : decode cL_law 344 = .ok (.iadd, 1) := by decide +kernel
theorem dL_law_345 : decode cL_law 345 = .ok (.iaload, 1) := by decide +kernel
theorem dL_law_346 : decode cL_law 346 = .ok (.invokevirtual 99, 3) := by decide +kernel
theorem dL_law_349 : decode cL_law 349 = .ok (.istore 6, 2) := by decide +kernel
theorem dL_law_351 : decode cL_law 351 = .ok (.aload_n 2, 1) := by decide +kernel
theorem dL_law_352 : decode cL_law 352 = .ok (.invokevirtual 89, 3) := by decide +kernel
theorem dL_law_355 : decode cL_law 355 = .ok (.iload 5, 2) := by decide +kernel
theorem dL_law_357 : decode cL_law 357 = .ok (.if_icmp .eq 5, 3) := by decide +kernel
theorem dL_law_360 : decode cL_law 360 = .ok (.iconst 0, 1) := by decide +kernel
theorem dL_law_361 : decode cL_law 361 = .ok (.ireturn, 1) := by decide +kernel
theorem dL_law_362 : decode cL_law 362 = .ok (.iload 5, 2) := by decide +kernel
theorem dL_law_364 : decode cL_law 364 = .ok (.ifCond .ne 15, 3) := by decide +kernel
theorem dL_law_367 : decode cL_law 367 = .ok (.aload_n 3, 1) := by decide +kernel
theorem dL_law_368 : decode cL_law 368 = .ok (.iconst 0, 1) := by decide +kernel
theorem dL_law_369 : decode cL_law 369 = .ok (.laload, 1) := by decide +kernel
theorem dL_law_370 : decode cL_law 370 = .ok (.iload 6, 2) := by decide +kernel
theorem dL_law_372 : decode cL_law 372 = .ok (.i2l, 1) := by decide +kernel
theorem dL_law_373 : decode cL_law 373 = .ok (.lcmp, 1) := by decide +kernel
theorem dL_law_374 : decode cL_law 374 = .ok (.ifCond .eq 5, 3) := by decide +kernel
theorem dL_law_377 : decode cL_law 377 = .ok (.iconst 0, 1) := by decide +kernel
theorem dL_law_378 : decode cL_law 378 = .ok (.ireturn, 1) := by decide +kernel
theorem dL_law_379 : decode cL_law 379 = .ok (.goto 1210, 3) := by decide +kernel
theorem dL_law_382 : decode cL_law 382 = .ok (.aload_n 1, 1) := by decide +kernel
theorem dL_law_383 : decode cL_law 383 = .ok (.aload_n 0, 1) := by decide +kernel
theorem dL_law_384 : decode cL_law 384 = .ok (.iload 4, 2) := by decide +kernel
theorem dL_law_386 : decode cL_law 386 = .ok (.iconst 1, 1) := by decide +kernel
theorem dL_law_387 : decode cL_law 387 = .ok (.iadd, 1) := by decide +kernel
theorem dL_law_388 : decode cL_law 388 = .ok (.iaload, 1) := by decide +kernel
theorem dL_law_389 : decode cL_law 389 = .ok (.aload_n 0, 1) := by decide +kernel
theorem dL_law_390 : decode cL_law 390 = .ok (.iload 4, 2) := by decide +kernel
theorem dL_law_392 : decode cL_law 392 = .ok (.iconst 2, 1) := by decide +kernel
theorem dL_law_393 : decode cL_law 393 = .ok (.iadd, 1) := by decide +kernel
theorem dL_law_394 : decode cL_law 394 = .ok (.iaload, 1) := by decide +kernel
theorem dL_law_395 : decode cL_law 395 = .ok (.aload_n 0, 1) := by decide +kernel
theorem dL_law_396 : decode cL_law 396 = .ok (.iload 4, 2) := by decide +kernel
theorem dL_law_398 : decode cL_law 398 = .ok (.iconst 3, 1) := by decide +kernel
theorem dL_law_399 : decode cL_law 399 = .ok (.iadd, 1) := by decide +kernel
theorem dL_law_400 : decode cL_law 400 = .ok (.iaload, 1) := by decide +kernel
theorem dL_law_401 : decode cL_law 401 = .ok (.aload_n 3, 1) := by decide +kernel
theorem dL_law_402 : decode cL_law 402 = .ok (.invokestatic 100, 3) := by decide +kernel
theorem dL_law_405 : decode cL_law 405 = .ok (.istore 5, 2) := by decide +kernel
theorem dL_law_407 : decode cL_law 407 = .ok (.aload_n 2, 1) := by decide +kernel
theorem dL_law_408 : decode cL_law 408 = .ok (.aload_n 0, 1) := by decide +kernel
theorem dL_law_409 : decode cL_law 409 = .ok (.iload 4, 2) := by decide +kernel
theorem dL_law_411 : decode cL_law 411 = .ok (.iconst 1, 1) := by decide +kernel
theorem dL_law_412 : decode cL_law 412 = .ok (.iadd, 1) := by decide +kernel
theorem dL_law_413 : decode cL_law 413 = .ok (.iaload, 1) := by decide +kernel
theorem dL_law_414 : decode cL_law 414 = .ok (.aload_n 0, 1) := by decide +kernel
theorem dL_law_415 : decode cL_law 415 = .ok (.iload 4, 2) := by decide +kernel
theorem dL_law_417 : decode cL_law 417 = .ok (.iconst 2, 1) := by decide +kernel
theorem dL_law_418 : decode cL_law 418 = .ok (.iadd, 1) := by decide +kernel
theorem dL_law_419 : decode cL_law 419 = .ok (.iaload, 1) := by decide +kernel
theorem dL_law_420 : decode cL_law 420 = .ok (.aload_n 0, 1) := by decide +kernel
theorem dL_law_421 : decode cL_law 421 = .ok (.iload 4, 2) := by decide +kernel
theorem dL_law_423 : decode cL_law 423 = .ok (.iconst 3, 1) := by decide +kernel
theorem dL_law_424 : decode cL_law 424 = .ok (.iadd, 1) := by decide +kernel
theorem dL_law_425 : decode cL_law 425 = .ok (.iaload, 1) := by decide +kernel
theorem dL_law_426 : decode cL_law 426 = .ok (.invokevirtual 102, 3) := by decide +kernel
theorem dL_law_429 : decode cL_law 429 = .ok (.istore 6, 2) := by decide +kernel
theorem dL_law_431 : decode cL_law 431 = .ok (.aload_n 2, 1) := by decide +kernel
theorem dL_law_432 : decode cL_law 432 = .ok (.invokevirtual 89, 3) := by decide +kernel
theorem dL_law_435 : decode cL_law 435 = .ok (.iload 5, 2) := by decide +kernel
theorem dL_law_437 : decode cL_law 437 = .ok (.if_icmp .eq 5, 3) := by decide +kernel
theorem dL_law_440 : decode cL_law 440 = .ok (.iconst 0, 1) := by decide +kernel
theorem dL_law_441 : decode cL_law 441 = .ok (.ireturn, 1) := by decide +kernel
theorem dL_law_442 : decode cL_law 442 = .ok (.iload 5, 2) := by decide +kernel
theorem dL_law_444 : decode cL_law 444 = .ok (.ifCond .ne 15, 3) := by decide +kernel
theorem dL_law_447 : decode cL_law 447 = .ok (.aload_n 3, 1) := by decide +kernel
theorem dL_law_448 : decode cL_law 448 = .ok (.iconst 0, 1) := by decide +kernel
theorem dL_law_449 : decode cL_law 449 = .ok (.laload, 1) := by decide +kernel
theorem dL_law_450 : decode cL_law 450 = .ok (.iload 6, 2) := by decide +kernel
theorem dL_law_452 : decode cL_law 452 = .ok (.i2l, 1) := by decide +kernel
theorem dL_law_453 : decode cL_law 453 = .ok (.lcmp, 1) := by decide +kernel
theorem dL_law_454 : decode cL_law 454 = .ok (.ifCond .eq 5, 3) := by decide +kernel
theorem dL_law_457 : decode cL_law 457 = .ok (.iconst 0, 1) := by decide +kernel
theorem dL_law_458 : decode cL_law 458 = .ok (.ireturn, 1) := by decide +kernel
theorem dL_law_459 : decode cL_law 459 = .ok (.goto 1130, 3) := by decide +kernel
theorem dL_law_462 : decode cL_law 462 = .ok (.aload_n 1, 1) := by decide +kernel
theorem dL_law_463 : decode cL_law 463 = .ok (.aload_n 0, 1) := by decide +kernel
theorem dL_law_464 : decode cL_law 464 = .ok (.iload 4, 2) := by decide +kernel
theorem dL_law_466 : decode cL_law 466 = .ok (.iconst 1, 1) := by decide +kernel
theorem dL_law_467 : decode cL_law 467 = .ok (.iadd, 1) := by decide +kernel
theorem dL_law_468 : decode cL_law 468 = .ok (.iaload, 1) := by decide +kernel
theorem dL_law_469 : decode cL_law 469 = .ok (.aload_n 0, 1) := by decide +kernel
theorem dL_law_470 : decode cL_law 470 = .ok (.iload 4, 2) := by decide +kernel
theorem dL_law_472 : decode cL_law 472 = .ok (.iconst 2, 1) := by decide +kernel
theorem dL_law_473 : decode cL_law 473 = .ok (.iadd, 1) := by decide +kernel
theorem dL_law_474 : decode cL_law 474 = .ok (.iaload, 1) := by decide +kernel
theorem dL_law_475 : decode cL_law 475 = .ok (.aload_n 3, 1) := by decide +kernel
theorem dL_law_476 : decode cL_law 476 = .ok (.invokestatic 103, 3) := by decide +kernel
theorem dL_law_479 : decode cL_law 479 = .ok (.istore 5, 2) := by decide +kernel
theorem dL_law_481 : decode cL_law 481 = .ok (.aload_n 2, 1) := by decide +kernel
theorem dL_law_482 : decode cL_law 482 = .ok (.aload_n 0, 1) := by decide +kernel
theorem dL_law_483 : decode cL_law 483 = .ok (.iload 4, 2) := by decide +kernel
theorem dL_law_485 : decode cL_law 485 = .ok (.iconst 1, 1) := by decide +kernel
theorem dL_law_486 : decode cL_law 486 = .ok (.iadd, 1) := by decide +kernel
theorem dL_law_487 : decode cL_law 487 = .ok (.iaload, 1) := by decide +kernel
theorem dL_law_488 : decode cL_law 488 = .ok (.aload_n 0, 1) := by decide +kernel
theorem dL_law_489 : decode cL_law 489 = .ok (.iload 4, 2) := by decide +kernel
theorem dL_law_491 : decode cL_law 491 = .ok (.iconst 2, 1) := by decide +kernel
theorem dL_law_492 : decode cL_law 492 = .ok (.iadd, 1) := by decide +kernel
theorem dL_law_493 : decode cL_law 493 = .ok (.iaload, 1) := by decide +kernel
theorem dL_law_494 : decode cL_law 494 = .ok (.invokevirtual 106, 3) := by decide +kernel
theorem dL_law_497 : decode cL_law 497 = .ok (.istore 6, 2) := by decide +kernel
theorem dL_law_499 : decode cL_law 499 = .ok (.aload_n 2, 1) := by decide +kernel
theorem dL_law_500 : decode cL_law 500 = .ok (.invokevirtual 89, 3) := by decide +kernel
theorem dL_law_503 : decode cL_law 503 = .ok (.iload 5, 2) := by decide +kernel
theorem dL_law_505 : decode cL_law 505 = .ok (.if_icmp .eq 5, 3) := by decide +kernel
theorem dL_law_508 : decode cL_law 508 = .ok (.iconst 0, 1) := by decide +kernel
theorem dL_law_509 : decode cL_law 509 = .ok (.ireturn, 1) := by decide +kernel
theorem dL_law_510 : decode cL_law 510 = .ok (.iload 5, 2) := by decide +kernel
theorem dL_law_512 : decode cL_law 512 = .ok (.ifCond .ne 15, 3) := by decide +kernel
theorem dL_law_515 : decode cL_law 515 = .ok (.aload_n 3, 1) := by decide +kernel
theorem dL_law_516 : decode cL_law 516 = .ok (.iconst 0, 1) := by decide +kernel
theorem dL_law_517 : decode cL_law 517 = .ok (.laload, 1) := by decide +kernel
theorem dL_law_518 : decode cL_law 518 = .ok (.iload 6, 2) := by decide +kernel
theorem dL_law_520 : decode cL_law 520 = .ok (.i2l, 1) := by decide +kernel
theorem dL_law_521 : decode cL_law 521 = .ok (.lcmp, 1) := by decide +kernel
theorem dL_law_522 : decode cL_law 522 = .ok (.ifCond .eq 5, 3) := by decide +kernel
theorem dL_law_525 : decode cL_law 525 = .ok (.iconst 0, 1) := by decide +kernel
theorem dL_law_526 : decode cL_law 526 = .ok (.ireturn, 1) := by decide +kernel
theorem dL_law_527 : decode cL_law 527 = .ok (.goto 1062, 3) := by decide +kernel
theorem dL_law_530 : decode cL_law 530 = .ok (.aload_n 1, 1) := by decide +kernel
theorem dL_law_531 : decode cL_law 531 = .ok (.aload_n 0, 1) := by decide +kernel
theorem dL_law_532 : decode cL_law 532 = .ok (.iload 4, 2) := by decide +kernel
theorem dL_law_534 : decode cL_law 534 = .ok (.iconst 1, 1) := by decide +kernel
theorem dL_law_535 : decode cL_law 535 = .ok (.iadd, 1) := by decide +kernel
theorem dL_law_536 : decode cL_law 536 = .ok (.iaload, 1) := by decide +kernel
theorem dL_law_537 : decode cL_law 537 = .ok (.aload_n 0, 1) := by decide +kernel
theorem dL_law_538 : decode cL_law 538 = .ok (.iload 4, 2) := by decide +kernel
theorem dL_law_540 : decode cL_law 540 = .ok (.iconst 2, 1) := by decide +kernel
theorem dL_law_541 : decode cL_law 541 = .ok (.iadd, 1) := by decide +kernel
theorem dL_law_542 : decode cL_law 542 = .ok (.iaload, 1) := by decide +kernel
theorem dL_law_543 : decode cL_law 543 = .ok (.aload_n 3, 1) := by decide +kernel
theorem dL_law_544 : decode cL_law 544 = .ok (.invokestatic 107, 3) := by decide +kernel
theorem dL_law_547 : decode cL_law 547 = .ok (.istore 5, 2) := by decide +kernel
theorem dL_law_549 : decode cL_law 549 = .ok (.aload_n 2, 1) := by decide +kernel
theorem dL_law_550 : decode cL_law 550 = .ok (.aload_n 0, 1) := by decide +kernel
theorem dL_law_551 : decode cL_law 551 = .ok (.iload 4, 2) := by decide +kernel
theorem dL_law_553 : decode cL_law 553 = .ok (.iconst 1, 1) := by decide +kernel
theorem dL_law_554 : decode cL_law 554 = .ok (.iadd, 1) := by decide +kernel
theorem dL_law_555 : decode cL_law 555 = .ok (.iaload, 1) := by decide +kernel
theorem dL_law_556 : decode cL_law 556 = .ok (.aload_n 0, 1) := by decide +kernel
theorem dL_law_557 : decode cL_law 557 = .ok (.iload 4, 2) := by decide +kernel
theorem dL_law_559 : decode cL_law 559 = .ok (.iconst 2, 1) := by decide +kernel
theorem dL_law_560 : decode cL_law 560 = .ok (.iadd, 1) := by decide +kernel
theorem dL_law_561 : decode cL_law 561 = .ok (.iaload, 1) := by decide +kernel
theorem dL_law_562 : decode cL_law 562 = .ok (.invokevirtual 109, 3) := by decide +kernel
theorem dL_law_565 : decode cL_law 565 = .ok (.istore 6, 2) := by decide +kernel
theorem dL_law_567 : decode cL_law 567 = .ok (.aload_n 2, 1) := by decide +kernel
theorem dL_law_568 : decode cL_law 568 = .ok (.invokevirtual 89, 3) := by decide +kernel
theorem dL_law_571 : decode cL_law 571 = .ok (.iload 5, 2) := by decide +kernel
theorem dL_law_573 : decode cL_law 573 = .ok (.if_icmp .eq 5, 3) := by decide +kernel
theorem dL_law_576 : decode cL_law 576 = .ok (.iconst 0, 1) := by decide +kernel
theorem dL_law_577 : decode cL_law 577 = .ok (.ireturn, 1) := by decide +kernel
theorem dL_law_578 : decode cL_law 578 = .ok (.iload 5, 2) := by decide +kernel
theorem dL_law_580 : decode cL_law 580 = .ok (.ifCond .ne 15, 3) := by decide +kernel
theorem dL_law_583 : decode cL_law 583 = .ok (.aload_n 3, 1) := by decide +kernel
theorem dL_law_584 : decode cL_law 584 = .ok (.iconst 0, 1) := by decide +kernel
theorem dL_law_585 : decode cL_law 585 = .ok (.laload, 1) := by decide +kernel
theorem dL_law_586 : decode cL_law 586 = .ok (.iload 6, 2) := by decide +kernel
theorem dL_law_588 : decode cL_law 588 = .ok (.i2l, 1) := by decide +kernel
theorem dL_law_589 : decode cL_law 589 = .ok (.lcmp, 1) := by decide +kernel
theorem dL_law_590 : decode cL_law 590 = .ok (.ifCond .eq 5, 3) := by decide +kernel
theorem dL_law_593 : decode cL_law 593 = .ok (.iconst 0, 1) := by decide +kernel
theorem dL_law_594 : decode cL_law 594 = .ok (.ireturn, 1) := by decide +kernel
theorem dL_law_595 : decode cL_law 595 = .ok (.goto 994, 3) := by decide +kernel
theorem dL_law_598 : decode cL_law 598 = .ok (.aload_n 1, 1) := by decide +kernel
theorem dL_law_599 : decode cL_law 599 = .ok (.aload_n 0, 1) := by decide +kernel
theorem dL_law_600 : decode cL_law 600 = .ok (.iload 4, 2) := by decide +kernel
theorem dL_law_602 : decode cL_law 602 = .ok (.iconst 1, 1) := by decide +kernel
theorem dL_law_603 : decode cL_law 603 = .ok (.iadd, 1) := by decide +kernel
theorem dL_law_604 : decode cL_law 604 = .ok (.iaload, 1) := by decide +kernel
theorem dL_law_605 : decode cL_law 605 = .ok (.aload_n 0, 1) := by decide +kernel
theorem dL_law_606 : decode cL_law 606 = .ok (.iload 4, 2) := by decide +kernel
theorem dL_law_608 : decode cL_law 608 = .ok (.iconst 2, 1) := by decide +kernel
theorem dL_law_609 : decode cL_law 609 = .ok (.iadd, 1) := by decide +kernel
theorem dL_law_610 : decode cL_law 610 = .ok (.iaload, 1) := by decide +kernel
theorem dL_law_611 : decode cL_law 611 = .ok (.aload_n 3, 1) := by decide +kernel
theorem dL_law_612 : decode cL_law 612 = .ok (.invokestatic 110, 3) := by decide +kernel
theorem dL_law_615 : decode cL_law 615 = .ok (.istore 5, 2) := by decide +kernel
theorem dL_law_617 : decode cL_law 617 = .ok (.aload_n 2, 1) := by decide +kernel
theorem dL_law_618 : decode cL_law 618 = .ok (.aload_n 0, 1) := by decide +kernel
theorem dL_law_619 : decode cL_law 619 = .ok (.iload 4, 2) := by decide +kernel
theorem dL_law_621 : decode cL_law 621 = .ok (.iconst 1, 1) := by decide +kernel
theorem dL_law_622 : decode cL_law 622 = .ok (.iadd, 1) := by decide +kernel
theorem dL_law_623 : decode cL_law 623 = .ok (.iaload, 1) := by decide +kernel
theorem dL_law_624 : decode cL_law 624 = .ok (.aload_n 0, 1) := by decide +kernel
theorem dL_law_625 : decode cL_law 625 = .ok (.iload 4, 2) := by decide +kernel
theorem dL_law_627 : decode cL_law 627 = .ok (.iconst 2, 1) := by decide +kernel
theorem dL_law_628 : decode cL_law 628 = .ok (.iadd, 1) := by decide +kernel
theorem dL_law_629 : decode cL_law 629 = .ok (.iaload, 1) := by decide +kernel
theorem dL_law_630 : decode cL_law 630 = .ok (.invokevirtual 112, 3) := by decide +kernel
theorem dL_law_633 : decode cL_law 633 = .ok (.istore 6, 2) := by decide +kernel
theorem dL_law_635 : decode cL_law 635 = .ok (.aload_n 2, 1) := by decide +kernel
theorem dL_law_636 : decode cL_law 636 = .ok (.invokevirtual 89, 3) := by decide +kernel
theorem dL_law_639 : decode cL_law 639 = .ok (.iload 5, 2) := by decide +kernel
theorem dL_law_641 : decode cL_law 641 = .ok (.if_icmp .eq 5, 3) := by decide +kernel
theorem dL_law_644 : decode cL_law 644 = .ok (.iconst 0, 1) := by decide +kernel
theorem dL_law_645 : decode cL_law 645 = .ok (.ireturn, 1) := by decide +kernel
theorem dL_law_646 : decode cL_law 646 = .ok (.iload 5, 2) := by decide +kernel
theorem dL_law_648 : decode cL_law 648 = .ok (.ifCond .ne 15, 3) := by decide +kernel
theorem dL_law_651 : decode cL_law 651 = .ok (.aload_n 3, 1) := by decide +kernel
theorem dL_law_652 : decode cL_law 652 = .ok (.iconst 0, 1) := by decide +kernel
theorem dL_law_653 : decode cL_law 653 = .ok (.laload, 1) := by decide +kernel
theorem dL_law_654 : decode cL_law 654 = .ok (.iload 6, 2) := by decide +kernel
theorem dL_law_656 : decode cL_law 656 = .ok (.i2l, 1) := by decide +kernel
theorem dL_law_657 : decode cL_law 657 = .ok (.lcmp, 1) := by decide +kernel
theorem dL_law_658 : decode cL_law 658 = .ok (.ifCond .eq 5, 3) := by decide +kernel
theorem dL_law_661 : decode cL_law 661 = .ok (.iconst 0, 1) := by decide +kernel
theorem dL_law_662 : decode cL_law 662 = .ok (.ireturn, 1) := by decide +kernel
theorem dL_law_663 : decode cL_law 663 = .ok (.goto 926, 3) := by decide +kernel
theorem dL_law_666 : decode cL_law 666 = .ok (.aload_n 1, 1) := by decide +kernel
theorem dL_law_667 : decode cL_law 667 = .ok (.aload_n 0, 1) := by decide +kernel
theorem dL_law_668 : decode cL_law 668 = .ok (.iload 4, 2) := by decide +kernel
theorem dL_law_670 : decode cL_law 670 = .ok (.iconst 1, 1) := by decide +kernel
theorem dL_law_671 : decode cL_law 671 = .ok (.iadd, 1) := by decide +kernel
theorem dL_law_672 : decode cL_law 672 = .ok (.iaload, 1) := by decide +kernel
theorem dL_law_673 : decode cL_law 673 = .ok (.aload_n 0, 1) := by decide +kernel
theorem dL_law_674 : decode cL_law 674 = .ok (.iload 4, 2) := by decide +kernel
theorem dL_law_676 : decode cL_law 676 = .ok (.iconst 2, 1) := by decide +kernel
theorem dL_law_677 : decode cL_law 677 = .ok (.iadd, 1) := by decide +kernel
theorem dL_law_678 : decode cL_law 678 = .ok (.iaload, 1) := by decide +kernel
theorem dL_law_679 : decode cL_law 679 = .ok (.aload_n 3, 1) := by decide +kernel
theorem dL_law_680 : decode cL_law 680 = .ok (.invokestatic 113, 3) := by decide +kernel
theorem dL_law_683 : decode cL_law 683 = .ok (.istore 5, 2) := by decide +kernel
theorem dL_law_685 : decode cL_law 685 = .ok (.aload_n 2, 1) := by decide +kernel
theorem dL_law_686 : decode cL_law 686 = .ok (.aload_n 0, 1) := by decide +kernel
theorem dL_law_687 : decode cL_law 687 = .ok (.iload 4, 2) := by decide +kernel
theorem dL_law_689 : decode cL_law 689 = .ok (.iconst 1, 1) := by decide +kernel
theorem dL_law_690 : decode cL_law 690 = .ok (.iadd, 1) := by decide +kernel
theorem dL_law_691 : decode cL_law 691 = .ok (.iaload, 1) := by decide +kernel
theorem dL_law_692 : decode cL_law 692 = .ok (.aload_n 0, 1) := by decide +kernel
theorem dL_law_693 : decode cL_law 693 = .ok (.iload 4, 2) := by decide +kernel
theorem dL_law_695 : decode cL_law 695 = .ok (.iconst 2, 1) := by decide +kernel
theorem dL_law_696 : decode cL_law 696 = .ok (.iadd, 1) := by decide +kernel
theorem dL_law_697 : decode cL_law 697 = .ok (.iaload, 1) := by decide +kernel
theorem dL_law_698 : decode cL_law 698 = .ok (.invokevirtual 115, 3) := by decide +kernel
theorem dL_law_701 : decode cL_law 701 = .ok (.istore 6, 2) := by decide +kernel
theorem dL_law_703 : decode cL_law 703 = .ok (.aload_n 2, 1) := by decide +kernel
theorem dL_law_704 : decode cL_law 704 = .ok (.invokevirtual 89, 3) := by decide +kernel
theorem dL_law_707 : decode cL_law 707 = .ok (.iload 5, 2) := by decide +kernel
theorem dL_law_709 : decode cL_law 709 = .ok (.if_icmp .eq 5, 3) := by decide +kernel
theorem dL_law_712 : decode cL_law 712 = .ok (.iconst 0, 1) := by decide +kernel
theorem dL_law_713 : decode cL_law 713 = .ok (.ireturn, 1) := by decide +kernel
theorem dL_law_714 : decode cL_law 714 = .ok (.iload 5, 2) := by decide +kernel
theorem dL_law_716 : decode cL_law 716 = .ok (.ifCond .ne 15, 3) := by decide +kernel
theorem dL_law_719 : decode cL_law 719 = .ok (.aload_n 3, 1) := by decide +kernel
theorem dL_law_720 : decode cL_law 720 = .ok (.iconst 0, 1) := by decide +kernel
theorem dL_law_721 : decode cL_law 721 = .ok (.laload, 1) := by decide +kernel
theorem dL_law_722 : decode cL_law 722 = .ok (.iload 6, 2) := by decide +kernel
theorem dL_law_724 : decode cL_law 724 = .ok (.i2l, 1) := by decide +kernel
theorem dL_law_725 : decode cL_law 725 = .ok (.lcmp, 1) := by decide +kernel
theorem dL_law_726 : decode cL_law 726 = .ok (.ifCond .eq 5, 3) := by decide +kernel
theorem dL_law_729 : decode cL_law 729 = .ok (.iconst 0, 1) := by decide +kernel
theorem dL_law_730 : decode cL_law 730 = .ok (.ireturn, 1) := by decide +kernel
theorem dL_law_731 : decode cL_law 731 = .ok (.goto 858, 3) := by decide +kernel
theorem dL_law_734 : decode cL_law 734 = .ok (.aload_n 1, 1) := by decide +kernel
theorem dL_law_735 : decode cL_law 735 = .ok (.aload_n 0, 1) := by decide +kernel
theorem dL_law_736 : decode cL_law 736 = .ok (.iload 4, 2) := by decide +kernel
theorem dL_law_738 : decode cL_law 738 = .ok (.iconst 1, 1) := by decide +kernel
theorem dL_law_739 : decode cL_law 739 = .ok (.iadd, 1) := by decide +kernel
theorem dL_law_740 : decode cL_law 740 = .ok (.iaload, 1) := by decide +kernel
theorem dL_law_741 : decode cL_law 741 = .ok (.aload_n 0, 1) := by decide +kernel
theorem dL_law_742 : decode cL_law 742 = .ok (.iload 4, 2) := by decide +kernel
theorem dL_law_744 : decode cL_law 744 = .ok (.iconst 2, 1) := by decide +kernel
theorem dL_law_745 : decode cL_law 745 = .ok (.iadd, 1) := by decide +kernel
theorem dL_law_746 : decode cL_law 746 = .ok (.iaload, 1) := by decide +kernel
theorem dL_law_747 : decode cL_law 747 = .ok (.aload_n 3, 1) := by decide +kernel
theorem dL_law_748 : decode cL_law 748 = .ok (.invokestatic 116, 3) := by decide +kernel
theorem dL_law_751 : decode cL_law 751 = .ok (.istore 5, 2) := by decide +kernel
theorem dL_law_753 : decode cL_law 753 = .ok (.aload_n 2, 1) := by decide +kernel
theorem dL_law_754 : decode cL_law 754 = .ok (.aload_n 0, 1) := by decide +kernel
theorem dL_law_755 : decode cL_law 755 = .ok (.iload 4, 2) := by decide +kernel
theorem dL_law_757 : decode cL_law 757 = .ok (.iconst 1, 1) := by decide +kernel
theorem dL_law_758 : decode cL_law 758 = .ok (.iadd, 1) := by decide +kernel
theorem dL_law_759 : decode cL_law 759 = .ok (.iaload, 1) := by decide +kernel
theorem dL_law_760 : decode cL_law 760 = .ok (.aload_n 0, 1) := by decide +kernel
theorem dL_law_761 : decode cL_law 761 = .ok (.iload 4, 2) := by decide +kernel
theorem dL_law_763 : decode cL_law 763 = .ok (.iconst 2, 1) := by decide +kernel
theorem dL_law_764 : decode cL_law 764 = .ok (.iadd, 1) := by decide +kernel
theorem dL_law_765 : decode cL_law 765 = .ok (.iaload, 1) := by decide +kernel
theorem dL_law_766 : decode cL_law 766 = .ok (.invokevirtual 118, 3) := by decide +kernel
theorem dL_law_769 : decode cL_law 769 = .ok (.istore 6, 2) := by decide +kernel
theorem dL_law_771 : decode cL_law 771 = .ok (.aload_n 2, 1) := by decide +kernel
theorem dL_law_772 : decode cL_law 772 = .ok (.invokevirtual 89, 3) := by decide +kernel
theorem dL_law_775 : decode cL_law 775 = .ok (.iload 5, 2) := by decide +kernel
theorem dL_law_777 : decode cL_law 777 = .ok (.if_icmp .eq 5, 3) := by decide +kernel
theorem dL_law_780 : decode cL_law 780 = .ok (.iconst 0, 1) := by decide +kernel
theorem dL_law_781 : decode cL_law 781 = .ok (.ireturn, 1) := by decide +kernel
theorem dL_law_782 : decode cL_law 782 = .ok (.iload 5, 2) := by decide +kernel
theorem dL_law_784 : decode cL_law 784 = .ok (.ifCond .ne 15, 3) := by decide +kernel
theorem dL_law_787 : decode cL_law 787 = .ok (.aload_n 3, 1) := by decide +kernel
theorem dL_law_788 : decode cL_law 788 = .ok (.iconst 0, 1) := by decide +kernel
theorem dL_law_789 : decode cL_law 789 = .ok (.laload, 1) := by decide +kernel
theorem dL_law_790 : decode cL_law 790 = .ok (.iload 6, 2) := by decide +kernel
theorem dL_law_792 : decode cL_law 792 = .ok (.i2l, 1) := by decide +kernel
theorem dL_law_793 : decode cL_law 793 = .ok (.lcmp, 1) := by decide +kernel
theorem dL_law_794 : decode cL_law 794 = .ok (.ifCond .eq 5, 3) := by decide +kernel
theorem dL_law_797 : decode cL_law 797 = .ok (.iconst 0, 1) := by decide +kernel
theorem dL_law_798 : decode cL_law 798 = .ok (.ireturn, 1) := by decide +kernel
theorem dL_law_799 : decode cL_law 799 = .ok (.goto 790, 3) := by decide +kernel
theorem dL_law_802 : decode cL_law 802 = .ok (.aload_n 1, 1) := by decide +kernel
theorem dL_law_803 : decode cL_law 803 = .ok (.aload_n 0, 1) := by decide +kernel
theorem dL_law_804 : decode cL_law 804 = .ok (.iload 4, 2) := by decide +kernel
theorem dL_law_806 : decode cL_law 806 = .ok (.iconst 1, 1) := by decide +kernel
theorem dL_law_807 : decode cL_law 807 = .ok (.iadd, 1) := by decide +kernel
theorem dL_law_808 : decode cL_law 808 = .ok (.iaload, 1) := by decide +kernel
theorem dL_law_809 : decode cL_law 809 = .ok (.aload_n 0, 1) := by decide +kernel
theorem dL_law_810 : decode cL_law 810 = .ok (.iload 4, 2) := by decide +kernel
theorem dL_law_812 : decode cL_law 812 = .ok (.iconst 2, 1) := by decide +kernel
theorem dL_law_813 : decode cL_law 813 = .ok (.iadd, 1) := by decide +kernel
theorem dL_law_814 : decode cL_law 814 = .ok (.iaload, 1) := by decide +kernel
theorem dL_law_815 : decode cL_law 815 = .ok (.aload_n 3, 1) := by decide +kernel
theorem dL_law_816 : decode cL_law 816 = .ok (.invokestatic 119, 3) := by decide +kernel
theorem dL_law_819 : decode cL_law 819 = .ok (.istore 5, 2) := by decide +kernel
theorem dL_law_821 : decode cL_law 821 = .ok (.aload_n 2, 1) := by decide +kernel
theorem dL_law_822 : decode cL_law 822 = .ok (.aload_n 0, 1) := by decide +kernel
theorem dL_law_823 : decode cL_law 823 = .ok (.iload 4, 2) := by decide +kernel
theorem dL_law_825 : decode cL_law 825 = .ok (.iconst 1, 1) := by decide +kernel
theorem dL_law_826 : decode cL_law 826 = .ok (.iadd, 1) := by decide +kernel
theorem dL_law_827 : decode cL_law 827 = .ok (.iaload, 1) := by decide +kernel
theorem dL_law_828 : decode cL_law 828 = .ok (.aload_n 0, 1) := by decide +kernel
theorem dL_law_829 : decode cL_law 829 = .ok (.iload 4, 2) := by decide +kernel
theorem dL_law_831 : decode cL_law 831 = .ok (.iconst 2, 1) := by decide +kernel
theorem dL_law_832 : decode cL_law 832 = .ok (.iadd, 1) := by decide +kernel
theorem dL_law_833 : decode cL_law 833 = .ok (.iaload, 1) := by decide +kernel
theorem dL_law_834 : decode cL_law 834 = .ok (.invokevirtual 121, 3) := by decide +kernel
theorem dL_law_837 : decode cL_law 837 = .ok (.istore 6, 2) := by decide +kernel
theorem dL_law_839 : decode cL_law 839 = .ok (.aload_n 2, 1) := by decide +kernel
theorem dL_law_840 : decode cL_law 840 = .ok (.invokevirtual 89, 3) := by decide +kernel
theorem dL_law_843 : decode cL_law 843 = .ok (.iload 5, 2) := by decide +kernel
theorem dL_law_845 : decode cL_law 845 = .ok (.if_icmp .eq 5, 3) := by decide +kernel
theorem dL_law_848 : decode cL_law 848 = .ok (.iconst 0, 1) := by decide +kernel
theorem dL_law_849 : decode cL_law 849 = .ok (.ireturn, 1) := by decide +kernel
theorem dL_law_850 : decode cL_law 850 = .ok (.iload 5, 2) := by decide +kernel
theorem dL_law_852 : decode cL_law 852 = .ok (.ifCond .ne 15, 3) := by decide +kernel
theorem dL_law_855 : decode cL_law 855 = .ok (.aload_n 3, 1) := by decide +kernel
theorem dL_law_856 : decode cL_law 856 = .ok (.iconst 0, 1) := by decide +kernel
theorem dL_law_857 : decode cL_law 857 = .ok (.laload, 1) := by decide +kernel
theorem dL_law_858 : decode cL_law 858 = .ok (.iload 6, 2) := by decide +kernel
theorem dL_law_860 : decode cL_law 860 = .ok (.i2l, 1) := by decide +kernel
theorem dL_law_861 : decode cL_law 861 = .ok (.lcmp, 1) := by decide +kernel
theorem dL_law_862 : decode cL_law 862 = .ok (.ifCond .eq 5, 3) := by decide +kernel
theorem dL_law_865 : decode cL_law 865 = .ok (.iconst 0, 1) := by decide +kernel
theorem dL_law_866 : decode cL_law 866 = .ok (.ireturn, 1) := by decide +kernel
theorem dL_law_867 : decode cL_law 867 = .ok (.goto 722, 3) := by decide +kernel
theorem dL_law_870 : decode cL_law 870 = .ok (.aload_n 1, 1) := by decide +kernel
theorem dL_law_871 : decode cL_law 871 = .ok (.aload_n 0, 1) := by decide +kernel
theorem dL_law_872 : decode cL_law 872 = .ok (.iload 4, 2) := by decide +kernel
theorem dL_law_874 : decode cL_law 874 = .ok (.iconst 1, 1) := by decide +kernel
theorem dL_law_875 : decode cL_law 875 = .ok (.iadd, 1) := by decide +kernel
theorem dL_law_876 : decode cL_law 876 = .ok (.iaload, 1) := by decide +kernel
theorem dL_law_877 : decode cL_law 877 = .ok (.aload_n 0, 1) := by decide +kernel
theorem dL_law_878 : decode cL_law 878 = .ok (.iload 4, 2) := by decide +kernel
theorem dL_law_880 : decode cL_law 880 = .ok (.iconst 2, 1) := by decide +kernel
theorem dL_law_881 : decode cL_law 881 = .ok (.iadd, 1) := by decide +kernel
theorem dL_law_882 : decode cL_law 882 = .ok (.iaload, 1) := by decide +kernel
theorem dL_law_883 : decode cL_law 883 = .ok (.aload_n 0, 1) := by decide +kernel
theorem dL_law_884 : decode cL_law 884 = .ok (.iload 4, 2) := by decide +kernel
theorem dL_law_886 : decode cL_law 886 = .ok (.iconst 3, 1) := by decide +kernel
theorem dL_law_887 : decode cL_law 887 = .ok (.iadd, 1) := by decide +kernel
theorem dL_law_888 : decode cL_law 888 = .ok (.iaload, 1) := by decide +kernel
theorem dL_law_889 : decode cL_law 889 = .ok (.ifCond .eq 7, 3) := by decide +kernel
theorem dL_law_892 : decode cL_law 892 = .ok (.iconst 1, 1) := by decide +kernel
theorem dL_law_893 : decode cL_law 893 = .ok (.goto 4, 3) := by decide +kernel
theorem dL_law_896 : decode cL_law 896 = .ok (.iconst 0, 1) := by decide +kernel
theorem dL_law_897 : decode cL_law 897 = .ok (.aload_n 3, 1) := by decide +kernel
theorem dL_law_898 : decode cL_law 898 = .ok (.invokestatic 122, 3) := by decide +kernel
theorem dL_law_901 : decode cL_law 901 = .ok (.istore 5, 2) := by decide +kernel
theorem dL_law_903 : decode cL_law 903 = .ok (.aload_n 2, 1) := by decide +kernel
theorem dL_law_904 : decode cL_law 904 = .ok (.aload_n 0, 1) := by decide +kernel
theorem dL_law_905 : decode cL_law 905 = .ok (.iload 4, 2) := by decide +kernel
theorem dL_law_907 : decode cL_law 907 = .ok (.iconst 1, 1) := by decide +kernel
theorem dL_law_908 : decode cL_law 908 = .ok (.iadd, 1) := by decide +kernel
theorem dL_law_909 : decode cL_law 909 = .ok (.iaload, 1) := by decide +kernel
theorem dL_law_910 : decode cL_law 910 = .ok (.aload_n 0, 1) := by decide +kernel
theorem dL_law_911 : decode cL_law 911 = .ok (.iload 4, 2) := by decide +kernel
theorem dL_law_913 : decode cL_law 913 = .ok (.iconst 2, 1) := by decide +kernel
theorem dL_law_914 : decode cL_law 914 = .ok (.iadd, 1) := by decide +kernel
theorem dL_law_915 : decode cL_law 915 = .ok (.iaload, 1) := by decide +kernel
theorem dL_law_916 : decode cL_law 916 = .ok (.aload_n 0, 1) := by decide +kernel
theorem dL_law_917 : decode cL_law 917 = .ok (.iload 4, 2) := by decide +kernel
theorem dL_law_919 : decode cL_law 919 = .ok (.iconst 3, 1) := by decide +kernel
theorem dL_law_920 : decode cL_law 920 = .ok (.iadd, 1) := by decide +kernel
theorem dL_law_921 : decode cL_law 921 = .ok (.iaload, 1) := by decide +kernel
theorem dL_law_922 : decode cL_law 922 = .ok (.ifCond .eq 7, 3) := by decide +kernel
theorem dL_law_925 : decode cL_law 925 = .ok (.iconst 1, 1) := by decide +kernel
theorem dL_law_926 : decode cL_law 926 = .ok (.goto 4, 3) := by decide +kernel
theorem dL_law_929 : decode cL_law 929 = .ok (.iconst 0, 1) := by decide +kernel
theorem dL_law_930 : decode cL_law 930 = .ok (.invokevirtual 125, 3) := by decide +kernel
theorem dL_law_933 : decode cL_law 933 = .ok (.istore 6, 2) := by decide +kernel
theorem dL_law_935 : decode cL_law 935 = .ok (.aload_n 2, 1) := by decide +kernel
theorem dL_law_936 : decode cL_law 936 = .ok (.invokevirtual 89, 3) := by decide +kernel
theorem dL_law_939 : decode cL_law 939 = .ok (.iload 5, 2) := by decide +kernel
theorem dL_law_941 : decode cL_law 941 = .ok (.if_icmp .eq 5, 3) := by decide +kernel
theorem dL_law_944 : decode cL_law 944 = .ok (.iconst 0, 1) := by decide +kernel
theorem dL_law_945 : decode cL_law 945 = .ok (.ireturn, 1) := by decide +kernel
theorem dL_law_946 : decode cL_law 946 = .ok (.iload 5, 2) := by decide +kernel
theorem dL_law_948 : decode cL_law 948 = .ok (.ifCond .ne 15, 3) := by decide +kernel
theorem dL_law_951 : decode cL_law 951 = .ok (.aload_n 3, 1) := by decide +kernel
theorem dL_law_952 : decode cL_law 952 = .ok (.iconst 0, 1) := by decide +kernel
theorem dL_law_953 : decode cL_law 953 = .ok (.laload, 1) := by decide +kernel
theorem dL_law_954 : decode cL_law 954 = .ok (.iload 6, 2) := by decide +kernel
theorem dL_law_956 : decode cL_law 956 = .ok (.i2l, 1) := by decide +kernel
theorem dL_law_957 : decode cL_law 957 = .ok (.lcmp, 1) := by decide +kernel
theorem dL_law_958 : decode cL_law 958 = .ok (.ifCond .eq 5, 3) := by decide +kernel
theorem dL_law_961 : decode cL_law 961 = .ok (.iconst 0, 1) := by decide +kernel
theorem dL_law_962 : decode cL_law 962 = .ok (.ireturn, 1) := by decide +kernel
theorem dL_law_963 : decode cL_law 963 = .ok (.goto 626, 3) := by decide +kernel
theorem dL_law_966 : decode cL_law 966 = .ok (.aload_n 1, 1) := by decide +kernel
theorem dL_law_967 : decode cL_law 967 = .ok (.aload_n 0, 1) := by decide +kernel
theorem dL_law_968 : decode cL_law 968 = .ok (.iload 4, 2) := by decide +kernel
theorem dL_law_970 : decode cL_law 970 = .ok (.iconst 1, 1) := by decide +kernel
theorem dL_law_971 : decode cL_law 971 = .ok (.iadd, 1) := by decide +kernel
theorem dL_law_972 : decode cL_law 972 = .ok (.iaload, 1) := by decide +kernel
theorem dL_law_973 : decode cL_law 973 = .ok (.aload_n 0, 1) := by decide +kernel
theorem dL_law_974 : decode cL_law 974 = .ok (.iload 4, 2) := by decide +kernel
theorem dL_law_976 : decode cL_law 976 = .ok (.iconst 2, 1) := by decide +kernel
theorem dL_law_977 : decode cL_law 977 = .ok (.iadd, 1) := by decide +kernel
theorem dL_law_978 : decode cL_law 978 = .ok (.iaload, 1) := by decide +kernel
theorem dL_law_979 : decode cL_law 979 = .ok (.aload_n 3, 1) := by decide +kernel
theorem dL_law_980 : decode cL_law 980 = .ok (.invokestatic 126, 3) := by decide +kernel
theorem dL_law_983 : decode cL_law 983 = .ok (.istore 5, 2) := by decide +kernel
theorem dL_law_985 : decode cL_law 985 = .ok (.aload_n 2, 1) := by decide +kernel
theorem dL_law_986 : decode cL_law 986 = .ok (.aload_n 0, 1) := by decide +kernel
theorem dL_law_987 : decode cL_law 987 = .ok (.iload 4, 2) := by decide +kernel
theorem dL_law_989 : decode cL_law 989 = .ok (.iconst 1, 1) := by decide +kernel
theorem dL_law_990 : decode cL_law 990 = .ok (.iadd, 1) := by decide +kernel
theorem dL_law_991 : decode cL_law 991 = .ok (.iaload, 1) := by decide +kernel
theorem dL_law_992 : decode cL_law 992 = .ok (.aload_n 0, 1) := by decide +kernel
theorem dL_law_993 : decode cL_law 993 = .ok (.iload 4, 2) := by decide +kernel
theorem dL_law_995 : decode cL_law 995 = .ok (.iconst 2, 1) := by decide +kernel
theorem dL_law_996 : decode cL_law 996 = .ok (.iadd, 1) := by decide +kernel
theorem dL_law_997 : decode cL_law 997 = .ok (.iaload, 1) := by decide +kernel
theorem dL_law_998 : decode cL_law 998 = .ok (.invokevirtual 128, 3) := by decide +kernel
theorem dL_law_1001 : decode cL_law 1001 = .ok (.istore 6, 2) := by decide +kernel
theorem dL_law_1003 : decode cL_law 1003 = .ok (.aload_n 2, 1) := by decide +kernel
theorem dL_law_1004 : decode cL_law 1004 = .ok (.invokevirtual 89, 3) := by decide +kernel
theorem dL_law_1007 : decode cL_law 1007 = .ok (.iload 5, 2) := by decide +kernel
theorem dL_law_1009 : decode cL_law 1009 = .ok (.if_icmp .eq 5, 3) := by decide +kernel
theorem dL_law_1012 : decode cL_law 1012 = .ok (.iconst 0, 1) := by decide +kernel
theorem dL_law_1013 : decode cL_law 1013 = .ok (.ireturn, 1) := by decide +kernel
theorem dL_law_1014 : decode cL_law 1014 = .ok (.iload 5, 2) := by decide +kernel
theorem dL_law_1016 : decode cL_law 1016 = .ok (.ifCond .ne 15, 3) := by decide +kernel
theorem dL_law_1019 : decode cL_law 1019 = .ok (.aload_n 3, 1) := by decide +kernel
theorem dL_law_1020 : decode cL_law 1020 = .ok (.iconst 0, 1) := by decide +kernel
theorem dL_law_1021 : decode cL_law 1021 = .ok (.laload, 1) := by decide +kernel
theorem dL_law_1022 : decode cL_law 1022 = .ok (.iload 6, 2) := by decide +kernel
theorem dL_law_1024 : decode cL_law 1024 = .ok (.i2l, 1) := by decide +kernel
theorem dL_law_1025 : decode cL_law 1025 = .ok (.lcmp, 1) := by decide +kernel
theorem dL_law_1026 : decode cL_law 1026 = .ok (.ifCond .eq 5, 3) := by decide +kernel
theorem dL_law_1029 : decode cL_law 1029 = .ok (.iconst 0, 1) := by decide +kernel
theorem dL_law_1030 : decode cL_law 1030 = .ok (.ireturn, 1) := by decide +kernel
theorem dL_law_1031 : decode cL_law 1031 = .ok (.goto 558, 3) := by decide +kernel
theorem dL_law_1034 : decode cL_law 1034 = .ok (.aload_n 1, 1) := by decide +kernel
theorem dL_law_1035 : decode cL_law 1035 = .ok (.aload_n 0, 1) := by decide +kernel
theorem dL_law_1036 : decode cL_law 1036 = .ok (.iload 4, 2) := by decide +kernel
theorem dL_law_1038 : decode cL_law 1038 = .ok (.iconst 1, 1) := by decide +kernel
theorem dL_law_1039 : decode cL_law 1039 = .ok (.iadd, 1) := by decide +kernel
theorem dL_law_1040 : decode cL_law 1040 = .ok (.iaload, 1) := by decide +kernel
theorem dL_law_1041 : decode cL_law 1041 = .ok (.aload_n 0, 1) := by decide +kernel
theorem dL_law_1042 : decode cL_law 1042 = .ok (.iload 4, 2) := by decide +kernel
theorem dL_law_1044 : decode cL_law 1044 = .ok (.iconst 2, 1) := by decide +kernel
theorem dL_law_1045 : decode cL_law 1045 = .ok (.iadd, 1) := by decide +kernel
theorem dL_law_1046 : decode cL_law 1046 = .ok (.iaload, 1) := by decide +kernel
theorem dL_law_1047 : decode cL_law 1047 = .ok (.aload_n 0, 1) := by decide +kernel
theorem dL_law_1048 : decode cL_law 1048 = .ok (.iload 4, 2) := by decide +kernel
theorem dL_law_1050 : decode cL_law 1050 = .ok (.iconst 3, 1) := by decide +kernel
theorem dL_law_1051 : decode cL_law 1051 = .ok (.iadd, 1) := by decide +kernel
theorem dL_law_1052 : decode cL_law 1052 = .ok (.iaload, 1) := by decide +kernel
theorem dL_law_1053 : decode cL_law 1053 = .ok (.aload_n 3, 1) := by decide +kernel
theorem dL_law_1054 : decode cL_law 1054 = .ok (.invokestatic 129, 3) := by decide +kernel
theorem dL_law_1057 : decode cL_law 1057 = .ok (.istore 5, 2) := by decide +kernel
theorem dL_law_1059 : decode cL_law 1059 = .ok (.aload_n 2, 1) := by decide +kernel
theorem dL_law_1060 : decode cL_law 1060 = .ok (.aload_n 0, 1) := by decide +kernel
theorem dL_law_1061 : decode cL_law 1061 = .ok (.iload 4, 2) := by decide +kernel
theorem dL_law_1063 : decode cL_law 1063 = .ok (.iconst 1, 1) := by decide +kernel
theorem dL_law_1064 : decode cL_law 1064 = .ok (.iadd, 1) := by decide +kernel
theorem dL_law_1065 : decode cL_law 1065 = .ok (.iaload, 1) := by decide +kernel
theorem dL_law_1066 : decode cL_law 1066 = .ok (.aload_n 0, 1) := by decide +kernel
theorem dL_law_1067 : decode cL_law 1067 = .ok (.iload 4, 2) := by decide +kernel
theorem dL_law_1069 : decode cL_law 1069 = .ok (.iconst 2, 1) := by decide +kernel
theorem dL_law_1070 : decode cL_law 1070 = .ok (.iadd, 1) := by decide +kernel
theorem dL_law_1071 : decode cL_law 1071 = .ok (.iaload, 1) := by decide +kernel
theorem dL_law_1072 : decode cL_law 1072 = .ok (.aload_n 0, 1) := by decide +kernel
theorem dL_law_1073 : decode cL_law 1073 = .ok (.iload 4, 2) := by decide +kernel
theorem dL_law_1075 : decode cL_law 1075 = .ok (.iconst 3, 1) := by decide +kernel
theorem dL_law_1076 : decode cL_law 1076 = .ok (.iadd, 1) := by decide +kernel
theorem dL_law_1077 : decode cL_law 1077 = .ok (.iaload, 1) := by decide +kernel
theorem dL_law_1078 : decode cL_law 1078 = .ok (.invokevirtual 131, 3) := by decide +kernel
theorem dL_law_1081 : decode cL_law 1081 = .ok (.istore 6, 2) := by decide +kernel
theorem dL_law_1083 : decode cL_law 1083 = .ok (.aload_n 2, 1) := by decide +kernel
theorem dL_law_1084 : decode cL_law 1084 = .ok (.invokevirtual 89, 3) := by decide +kernel
theorem dL_law_1087 : decode cL_law 1087 = .ok (.iload 5, 2) := by decide +kernel
theorem dL_law_1089 : decode cL_law 1089 = .ok (.if_icmp .eq 5, 3) := by decide +kernel
theorem dL_law_1092 : decode cL_law 1092 = .ok (.iconst 0, 1) := by decide +kernel
theorem dL_law_1093 : decode cL_law 1093 = .ok (.ireturn, 1) := by decide +kernel
theorem dL_law_1094 : decode cL_law 1094 = .ok (.iload 5, 2) := by decide +kernel
theorem dL_law_1096 : decode cL_law 1096 = .ok (.ifCond .ne 15, 3) := by decide +kernel
theorem dL_law_1099 : decode cL_law 1099 = .ok (.aload_n 3, 1) := by decide +kernel
theorem dL_law_1100 : decode cL_law 1100 = .ok (.iconst 0, 1) := by decide +kernel
theorem dL_law_1101 : decode cL_law 1101 = .ok (.laload, 1) := by decide +kernel
theorem dL_law_1102 : decode cL_law 1102 = .ok (.iload 6, 2) := by decide +kernel
theorem dL_law_1104 : decode cL_law 1104 = .ok (.i2l, 1) := by decide +kernel
theorem dL_law_1105 : decode cL_law 1105 = .ok (.lcmp, 1) := by decide +kernel
theorem dL_law_1106 : decode cL_law 1106 = .ok (.ifCond .eq 5, 3) := by decide +kernel
theorem dL_law_1109 : decode cL_law 1109 = .ok (.iconst 0, 1) := by decide +kernel
theorem dL_law_1110 : decode cL_law 1110 = .ok (.ireturn, 1) := by decide +kernel
theorem dL_law_1111 : decode cL_law 1111 = .ok (.goto 478, 3) := by decide +kernel
theorem dL_law_1114 : decode cL_law 1114 = .ok (.aload_n 1, 1) := by decide +kernel
theorem dL_law_1115 : decode cL_law 1115 = .ok (.aload_n 0, 1) := by decide +kernel
theorem dL_law_1116 : decode cL_law 1116 = .ok (.iload 4, 2) := by decide +kernel
theorem dL_law_1118 : decode cL_law 1118 = .ok (.iconst 1, 1) := by decide +kernel
theorem dL_law_1119 : decode cL_law 1119 = .ok (.iadd, 1) := by decide +kernel
theorem dL_law_1120 : decode cL_law 1120 = .ok (.iaload, 1) := by decide +kernel
theorem dL_law_1121 : decode cL_law 1121 = .ok (.aload_n 0, 1) := by decide +kernel
theorem dL_law_1122 : decode cL_law 1122 = .ok (.iload 4, 2) := by decide +kernel
theorem dL_law_1124 : decode cL_law 1124 = .ok (.iconst 2, 1) := by decide +kernel
theorem dL_law_1125 : decode cL_law 1125 = .ok (.iadd, 1) := by decide +kernel
theorem dL_law_1126 : decode cL_law 1126 = .ok (.iaload, 1) := by decide +kernel
theorem dL_law_1127 : decode cL_law 1127 = .ok (.aload_n 3, 1) := by decide +kernel
theorem dL_law_1128 : decode cL_law 1128 = .ok (.invokestatic 132, 3) := by decide +kernel
theorem dL_law_1131 : decode cL_law 1131 = .ok (.istore 5, 2) := by decide +kernel
theorem dL_law_1133 : decode cL_law 1133 = .ok (.aload_n 2, 1) := by decide +kernel
theorem dL_law_1134 : decode cL_law 1134 = .ok (.aload_n 0, 1) := by decide +kernel
theorem dL_law_1135 : decode cL_law 1135 = .ok (.iload 4, 2) := by decide +kernel
theorem dL_law_1137 : decode cL_law 1137 = .ok (.iconst 1, 1) := by decide +kernel
theorem dL_law_1138 : decode cL_law 1138 = .ok (.iadd, 1) := by decide +kernel
theorem dL_law_1139 : decode cL_law 1139 = .ok (.iaload, 1) := by decide +kernel
theorem dL_law_1140 : decode cL_law 1140 = .ok (.aload_n 0, 1) := by decide +kernel
theorem dL_law_1141 : decode cL_law 1141 = .ok (.iload 4, 2) := by decide +kernel
theorem dL_law_1143 : decode cL_law 1143 = .ok (.iconst 2, 1) := by decide +kernel
theorem dL_law_1144 : decode cL_law 1144 = .ok (.iadd, 1) := by decide +kernel
theorem dL_law_1145 : decode cL_law 1145 = .ok (.iaload, 1) := by decide +kernel
theorem dL_law_1146 : decode cL_law 1146 = .ok (.invokevirtual 134, 3) := by decide +kernel
theorem dL_law_1149 : decode cL_law 1149 = .ok (.istore 6, 2) := by decide +kernel
theorem dL_law_1151 : decode cL_law 1151 = .ok (.aload_n 2, 1) := by decide +kernel
theorem dL_law_1152 : decode cL_law 1152 = .ok (.invokevirtual 89, 3) := by decide +kernel
theorem dL_law_1155 : decode cL_law 1155 = .ok (.iload 5, 2) := by decide +kernel
theorem dL_law_1157 : decode cL_law 1157 = .ok (.if_icmp .eq 5, 3) := by decide +kernel
theorem dL_law_1160 : decode cL_law 1160 = .ok (.iconst 0, 1) := by decide +kernel
theorem dL_law_1161 : decode cL_law 1161 = .ok (.ireturn, 1) := by decide +kernel
theorem dL_law_1162 : decode cL_law 1162 = .ok (.iload 5, 2) := by decide +kernel
theorem dL_law_1164 : decode cL_law 1164 = .ok (.ifCond .ne 15, 3) := by decide +kernel
theorem dL_law_1167 : decode cL_law 1167 = .ok (.aload_n 3, 1) := by decide +kernel
theorem dL_law_1168 : decode cL_law 1168 = .ok (.iconst 0, 1) := by decide +kernel
theorem dL_law_1169 : decode cL_law 1169 = .ok (.laload, 1) := by decide +kernel
theorem dL_law_1170 : decode cL_law 1170 = .ok (.iload 6, 2) := by decide +kernel
theorem dL_law_1172 : decode cL_law 1172 = .ok (.i2l, 1) := by decide +kernel
theorem dL_law_1173 : decode cL_law 1173 = .ok (.lcmp, 1) := by decide +kernel
theorem dL_law_1174 : decode cL_law 1174 = .ok (.ifCond .eq 5, 3) := by decide +kernel
theorem dL_law_1177 : decode cL_law 1177 = .ok (.iconst 0, 1) := by decide +kernel
theorem dL_law_1178 : decode cL_law 1178 = .ok (.ireturn, 1) := by decide +kernel
theorem dL_law_1179 : decode cL_law 1179 = .ok (.goto 410, 3) := by decide +kernel
theorem dL_law_1182 : decode cL_law 1182 = .ok (.aload_n 1, 1) := by decide +kernel
theorem dL_law_1183 : decode cL_law 1183 = .ok (.aload_n 0, 1) := by decide +kernel
theorem dL_law_1184 : decode cL_law 1184 = .ok (.iload 4, 2) := by decide +kernel
theorem dL_law_1186 : decode cL_law 1186 = .ok (.iconst 1, 1) := by decide +kernel
theorem dL_law_1187 : decode cL_law 1187 = .ok (.iadd, 1) := by decide +kernel
theorem dL_law_1188 : decode cL_law 1188 = .ok (.iaload, 1) := by decide +kernel
theorem dL_law_1189 : decode cL_law 1189 = .ok (.aload_n 0, 1) := by decide +kernel
theorem dL_law_1190 : decode cL_law 1190 = .ok (.iload 4, 2) := by decide +kernel
theorem dL_law_1192 : decode cL_law 1192 = .ok (.iconst 2, 1) := by decide +kernel
theorem dL_law_1193 : decode cL_law 1193 = .ok (.iadd, 1) := by decide +kernel
theorem dL_law_1194 : decode cL_law 1194 = .ok (.iaload, 1) := by decide +kernel
theorem dL_law_1195 : decode cL_law 1195 = .ok (.aload_n 0, 1) := by decide +kernel
theorem dL_law_1196 : decode cL_law 1196 = .ok (.iload 4, 2) := by decide +kernel
theorem dL_law_1198 : decode cL_law 1198 = .ok (.iconst 3, 1) := by decide +kernel
theorem dL_law_1199 : decode cL_law 1199 = .ok (.iadd, 1) := by decide +kernel
theorem dL_law_1200 : decode cL_law 1200 = .ok (.iaload, 1) := by decide +kernel
theorem dL_law_1201 : decode cL_law 1201 = .ok (.aload_n 3, 1) := by decide +kernel
theorem dL_law_1202 : decode cL_law 1202 = .ok (.invokestatic 135, 3) := by decide +kernel
theorem dL_law_1205 : decode cL_law 1205 = .ok (.istore 5, 2) := by decide +kernel
theorem dL_law_1207 : decode cL_law 1207 = .ok (.aload_n 2, 1) := by decide +kernel
theorem dL_law_1208 : decode cL_law 1208 = .ok (.aload_n 0, 1) := by decide +kernel
theorem dL_law_1209 : decode cL_law 1209 = .ok (.iload 4, 2) := by decide +kernel
theorem dL_law_1211 : decode cL_law 1211 = .ok (.iconst 1, 1) := by decide +kernel
theorem dL_law_1212 : decode cL_law 1212 = .ok (.iadd, 1) := by decide +kernel
theorem dL_law_1213 : decode cL_law 1213 = .ok (.iaload, 1) := by decide +kernel
theorem dL_law_1214 : decode cL_law 1214 = .ok (.aload_n 0, 1) := by decide +kernel
theorem dL_law_1215 : decode cL_law 1215 = .ok (.iload 4, 2) := by decide +kernel
theorem dL_law_1217 : decode cL_law 1217 = .ok (.iconst 2, 1) := by decide +kernel
theorem dL_law_1218 : decode cL_law 1218 = .ok (.iadd, 1) := by decide +kernel
theorem dL_law_1219 : decode cL_law 1219 = .ok (.iaload, 1) := by decide +kernel
theorem dL_law_1220 : decode cL_law 1220 = .ok (.aload_n 0, 1) := by decide +kernel
theorem dL_law_1221 : decode cL_law 1221 = .ok (.iload 4, 2) := by decide +kernel
theorem dL_law_1223 : decode cL_law 1223 = .ok (.iconst 3, 1) := by decide +kernel
theorem dL_law_1224 : decode cL_law 1224 = .ok (.iadd, 1) := by decide +kernel
theorem dL_law_1225 : decode cL_law 1225 = .ok (.iaload, 1) := by decide +kernel
theorem dL_law_1226 : decode cL_law 1226 = .ok (.invokevirtual 137, 3) := by decide +kernel
theorem dL_law_1229 : decode cL_law 1229 = .ok (.istore 6, 2) := by decide +kernel
theorem dL_law_1231 : decode cL_law 1231 = .ok (.aload_n 2, 1) := by decide +kernel
theorem dL_law_1232 : decode cL_law 1232 = .ok (.invokevirtual 89, 3) := by decide +kernel
theorem dL_law_1235 : decode cL_law 1235 = .ok (.iload 5, 2) := by decide +kernel
theorem dL_law_1237 : decode cL_law 1237 = .ok (.if_icmp .eq 5, 3) := by decide +kernel
theorem dL_law_1240 : decode cL_law 1240 = .ok (.iconst 0, 1) := by decide +kernel
theorem dL_law_1241 : decode cL_law 1241 = .ok (.ireturn, 1) := by decide +kernel
theorem dL_law_1242 : decode cL_law 1242 = .ok (.iload 5, 2) := by decide +kernel
theorem dL_law_1244 : decode cL_law 1244 = .ok (.ifCond .ne 15, 3) := by decide +kernel
theorem dL_law_1247 : decode cL_law 1247 = .ok (.aload_n 3, 1) := by decide +kernel
theorem dL_law_1248 : decode cL_law 1248 = .ok (.iconst 0, 1) := by decide +kernel
theorem dL_law_1249 : decode cL_law 1249 = .ok (.laload, 1) := by decide +kernel
theorem dL_law_1250 : decode cL_law 1250 = .ok (.iload 6, 2) := by decide +kernel
theorem dL_law_1252 : decode cL_law 1252 = .ok (.i2l, 1) := by decide +kernel
theorem dL_law_1253 : decode cL_law 1253 = .ok (.lcmp, 1) := by decide +kernel
theorem dL_law_1254 : decode cL_law 1254 = .ok (.ifCond .eq 5, 3) := by decide +kernel
theorem dL_law_1257 : decode cL_law 1257 = .ok (.iconst 0, 1) := by decide +kernel
theorem dL_law_1258 : decode cL_law 1258 = .ok (.ireturn, 1) := by decide +kernel
theorem dL_law_1259 : decode cL_law 1259 = .ok (.goto 330, 3) := by decide +kernel
theorem dL_law_1262 : decode cL_law 1262 = .ok (.aload_n 1, 1) := by decide +kernel
theorem dL_law_1263 : decode cL_law 1263 = .ok (.aload_n 0, 1) := by decide +kernel
theorem dL_law_1264 : decode cL_law 1264 = .ok (.iload 4, 2) := by decide +kernel
theorem dL_law_1266 : decode cL_law 1266 = .ok (.iconst 1, 1) := by decide +kernel
theorem dL_law_1267 : decode cL_law 1267 = .ok (.iadd, 1) := by decide +kernel
theorem dL_law_1268 : decode cL_law 1268 = .ok (.iaload, 1) := by decide +kernel
theorem dL_law_1269 : decode cL_law 1269 = .ok (.aload_n 3, 1) := by decide +kernel
theorem dL_law_1270 : decode cL_law 1270 = .ok (.invokestatic 138, 3) := by decide +kernel
theorem dL_law_1273 : decode cL_law 1273 = .ok (.istore 5, 2) := by decide +kernel
theorem dL_law_1275 : decode cL_law 1275 = .ok (.aload_n 2, 1) := by decide +kernel
theorem dL_law_1276 : decode cL_law 1276 = .ok (.aload_n 0, 1) := by decide +kernel
theorem dL_law_1277 : decode cL_law 1277 = .ok (.iload 4, 2) := by decide +kernel
theorem dL_law_1279 : decode cL_law 1279 = .ok (.iconst 1, 1) := by decide +kernel
theorem dL_law_1280 : decode cL_law 1280 = .ok (.iadd, 1) := by decide +kernel
theorem dL_law_1281 : decode cL_law 1281 = .ok (.iaload, 1) := by decide +kernel
theorem dL_law_1282 : decode cL_law 1282 = .ok (.invokevirtual 141, 3) := by decide +kernel
theorem dL_law_1285 : decode cL_law 1285 = .ok (.istore 6, 2) := by decide +kernel
theorem dL_law_1287 : decode cL_law 1287 = .ok (.aload_n 2, 1) := by decide +kernel
theorem dL_law_1288 : decode cL_law 1288 = .ok (.invokevirtual 89, 3) := by decide +kernel
theorem dL_law_1291 : decode cL_law 1291 = .ok (.iload 5, 2) := by decide +kernel
theorem dL_law_1293 : decode cL_law 1293 = .ok (.if_icmp .eq 5, 3) := by decide +kernel
theorem dL_law_1296 : decode cL_law 1296 = .ok (.iconst 0, 1) := by decide +kernel
theorem dL_law_1297 : decode cL_law 1297 = .ok (.ireturn, 1) := by decide +kernel
theorem dL_law_1298 : decode cL_law 1298 = .ok (.iload 5, 2) := by decide +kernel
theorem dL_law_1300 : decode cL_law 1300 = .ok (.ifCond .ne 15, 3) := by decide +kernel
theorem dL_law_1303 : decode cL_law 1303 = .ok (.aload_n 3, 1) := by decide +kernel
theorem dL_law_1304 : decode cL_law 1304 = .ok (.iconst 0, 1) := by decide +kernel
theorem dL_law_1305 : decode cL_law 1305 = .ok (.laload, 1) := by decide +kernel
theorem dL_law_1306 : decode cL_law 1306 = .ok (.iload 6, 2) := by decide +kernel
theorem dL_law_1308 : decode cL_law 1308 = .ok (.i2l, 1) := by decide +kernel
theorem dL_law_1309 : decode cL_law 1309 = .ok (.lcmp, 1) := by decide +kernel
theorem dL_law_1310 : decode cL_law 1310 = .ok (.ifCond .eq 5, 3) := by decide +kernel
theorem dL_law_1313 : decode cL_law 1313 = .ok (.iconst 0, 1) := by decide +kernel
theorem dL_law_1314 : decode cL_law 1314 = .ok (.ireturn, 1) := by decide +kernel
theorem dL_law_1315 : decode cL_law 1315 = .ok (.goto 274, 3) := by decide +kernel
theorem dL_law_1318 : decode cL_law 1318 = .ok (.aload_n 1, 1) := by decide +kernel
theorem dL_law_1319 : decode cL_law 1319 = .ok (.aload_n 0, 1) := by decide +kernel
theorem dL_law_1320 : decode cL_law 1320 = .ok (.iload 4, 2) := by decide +kernel
theorem dL_law_1322 : decode cL_law 1322 = .ok (.iconst 1, 1) := by decide +kernel
theorem dL_law_1323 : decode cL_law 1323 = .ok (.iadd, 1) := by decide +kernel
theorem dL_law_1324 : decode cL_law 1324 = .ok (.iaload, 1) := by decide +kernel
theorem dL_law_1325 : decode cL_law 1325 = .ok (.aload_n 3, 1) := by decide +kernel
theorem dL_law_1326 : decode cL_law 1326 = .ok (.invokestatic 142, 3) := by decide +kernel
theorem dL_law_1329 : decode cL_law 1329 = .ok (.istore 5, 2) := by decide +kernel
theorem dL_law_1331 : decode cL_law 1331 = .ok (.aload_n 2, 1) := by decide +kernel
theorem dL_law_1332 : decode cL_law 1332 = .ok (.aload_n 0, 1) := by decide +kernel
theorem dL_law_1333 : decode cL_law 1333 = .ok (.iload 4, 2) := by decide +kernel
theorem dL_law_1335 : decode cL_law 1335 = .ok (.iconst 1, 1) := by decide +kernel
theorem dL_law_1336 : decode cL_law 1336 = .ok (.iadd, 1) := by decide +kernel
theorem dL_law_1337 : decode cL_law 1337 = .ok (.iaload, 1) := by decide +kernel
theorem dL_law_1338 : decode cL_law 1338 = .ok (.invokevirtual 144, 3) := by decide +kernel
theorem dL_law_1341 : decode cL_law 1341 = .ok (.istore 6, 2) := by decide +kernel
theorem dL_law_1343 : decode cL_law 1343 = .ok (.aload_n 2, 1) := by decide +kernel
theorem dL_law_1344 : decode cL_law 1344 = .ok (.invokevirtual 89, 3) := by decide +kernel
theorem dL_law_1347 : decode cL_law 1347 = .ok (.iload 5, 2) := by decide +kernel
theorem dL_law_1349 : decode cL_law 1349 = .ok (.if_icmp .eq 5, 3) := by decide +kernel
theorem dL_law_1352 : decode cL_law 1352 = .ok (.iconst 0, 1) := by decide +kernel
theorem dL_law_1353 : decode cL_law 1353 = .ok (.ireturn, 1) := by decide +kernel
theorem dL_law_1354 : decode cL_law 1354 = .ok (.iload 5, 2) := by decide +kernel
theorem dL_law_1356 : decode cL_law 1356 = .ok (.ifCond .ne 15, 3) := by decide +kernel
theorem dL_law_1359 : decode cL_law 1359 = .ok (.aload_n 3, 1) := by decide +kernel
theorem dL_law_1360 : decode cL_law 1360 = .ok (.iconst 0, 1) := by decide +kernel
theorem dL_law_1361 : decode cL_law 1361 = .ok (.laload, 1) := by decide +kernel
theorem dL_law_1362 : decode cL_law 1362 = .ok (.iload 6, 2) := by decide +kernel
theorem dL_law_1364 : decode cL_law 1364 = .ok (.i2l, 1) := by decide +kernel
theorem dL_law_1365 : decode cL_law 1365 = .ok (.lcmp, 1) := by decide +kernel
theorem dL_law_1366 : decode cL_law 1366 = .ok (.ifCond .eq 5, 3) := by decide +kernel
theorem dL_law_1369 : decode cL_law 1369 = .ok (.iconst 0, 1) := by decide +kernel
theorem dL_law_1370 : decode cL_law 1370 = .ok (.ireturn, 1) := by decide +kernel
theorem dL_law_1371 : decode cL_law 1371 = .ok (.goto 218, 3) := by decide +kernel
theorem dL_law_1374 : decode cL_law 1374 = .ok (.aload_n 1, 1) := by decide +kernel
theorem dL_law_1375 : decode cL_law 1375 = .ok (.aload_n 0, 1) := by decide +kernel
theorem dL_law_1376 : decode cL_law 1376 = .ok (.iload 4, 2) := by decide +kernel
theorem dL_law_1378 : decode cL_law 1378 = .ok (.iconst 1, 1) := by decide +kernel
theorem dL_law_1379 : decode cL_law 1379 = .ok (.iadd, 1) := by decide +kernel
theorem dL_law_1380 : decode cL_law 1380 = .ok (.iaload, 1) := by decide +kernel
theorem dL_law_1381 : decode cL_law 1381 = .ok (.aload_n 0, 1) := by decide +kernel
theorem dL_law_1382 : decode cL_law 1382 = .ok (.iload 4, 2) := by decide +kernel
theorem dL_law_1384 : decode cL_law 1384 = .ok (.iconst 2, 1) := by decide +kernel
theorem dL_law_1385 : decode cL_law 1385 = .ok (.iadd, 1) := by decide +kernel
theorem dL_law_1386 : decode cL_law 1386 = .ok (.iaload, 1) := by decide +kernel
theorem dL_law_1387 : decode cL_law 1387 = .ok (.aload_n 0, 1) := by decide +kernel
theorem dL_law_1388 : decode cL_law 1388 = .ok (.iload 4, 2) := by decide +kernel
theorem dL_law_1390 : decode cL_law 1390 = .ok (.iconst 3, 1) := by decide +kernel
theorem dL_law_1391 : decode cL_law 1391 = .ok (.iadd, 1) := by decide +kernel
theorem dL_law_1392 : decode cL_law 1392 = .ok (.iaload, 1) := by decide +kernel
theorem dL_law_1393 : decode cL_law 1393 = .ok (.aload_n 0, 1) := by decide +kernel
theorem dL_law_1394 : decode cL_law 1394 = .ok (.iload 4, 2) := by decide +kernel
theorem dL_law_1396 : decode cL_law 1396 = .ok (.iconst 4, 1) := by decide +kernel
theorem dL_law_1397 : decode cL_law 1397 = .ok (.iadd, 1) := by decide +kernel
theorem dL_law_1398 : decode cL_law 1398 = .ok (.iaload, 1) := by decide +kernel
theorem dL_law_1399 : decode cL_law 1399 = .ok (.aload_n 3, 1) := by decide +kernel
theorem dL_law_1400 : decode cL_law 1400 = .ok (.invokestatic 145, 3) := by decide +kernel
theorem dL_law_1403 : decode cL_law 1403 = .ok (.istore 5, 2) := by decide +kernel
theorem dL_law_1405 : decode cL_law 1405 = .ok (.aload_n 2, 1) := by decide +kernel
theorem dL_law_1406 : decode cL_law 1406 = .ok (.aload_n 0, 1) := by decide +kernel
theorem dL_law_1407 : decode cL_law 1407 = .ok (.iload 4, 2) := by decide +kernel
theorem dL_law_1409 : decode cL_law 1409 = .ok (.iconst 1, 1) := by decide +kernel
theorem dL_law_1410 : decode cL_law 1410 = .ok (.iadd, 1) := by decide +kernel
theorem dL_law_1411 : decode cL_law 1411 = .ok (.iaload, 1) := by decide +kernel
theorem dL_law_1412 : decode cL_law 1412 = .ok (.aload_n 0, 1) := by decide +kernel
theorem dL_law_1413 : decode cL_law 1413 = .ok (.iload 4, 2) := by decide +kernel
theorem dL_law_1415 : decode cL_law 1415 = .ok (.iconst 2, 1) := by decide +kernel
theorem dL_law_1416 : decode cL_law 1416 = .ok (.iadd, 1) := by decide +kernel
theorem dL_law_1417 : decode cL_law 1417 = .ok (.iaload, 1) := by decide +kernel
theorem dL_law_1418 : decode cL_law 1418 = .ok (.aload_n 0, 1) := by decide +kernel
theorem dL_law_1419 : decode cL_law 1419 = .ok (.iload 4, 2) := by decide +kernel
theorem dL_law_1421 : decode cL_law 1421 = .ok (.iconst 3, 1) := by decide +kernel
theorem dL_law_1422 : decode cL_law 1422 = .ok (.iadd, 1) := by decide +kernel
theorem dL_law_1423 : decode cL_law 1423 = .ok (.iaload, 1) := by decide +kernel
theorem dL_law_1424 : decode cL_law 1424 = .ok (.aload_n 0, 1) := by decide +kernel
theorem dL_law_1425 : decode cL_law 1425 = .ok (.iload 4, 2) := by decide +kernel
theorem dL_law_1427 : decode cL_law 1427 = .ok (.iconst 4, 1) := by decide +kernel
theorem dL_law_1428 : decode cL_law 1428 = .ok (.iadd, 1) := by decide +kernel
theorem dL_law_1429 : decode cL_law 1429 = .ok (.iaload, 1) := by decide +kernel
theorem dL_law_1430 : decode cL_law 1430 = .ok (.invokevirtual 148, 3) := by decide +kernel
theorem dL_law_1433 : decode cL_law 1433 = .ok (.istore 6, 2) := by decide +kernel
theorem dL_law_1435 : decode cL_law 1435 = .ok (.aload_n 2, 1) := by decide +kernel
theorem dL_law_1436 : decode cL_law 1436 = .ok (.invokevirtual 89, 3) := by decide +kernel
theorem dL_law_1439 : decode cL_law 1439 = .ok (.iload 5, 2) := by decide +kernel
theorem dL_law_1441 : decode cL_law 1441 = .ok (.if_icmp .eq 5, 3) := by decide +kernel
theorem dL_law_1444 : decode cL_law 1444 = .ok (.iconst 0, 1) := by decide +kernel
theorem dL_law_1445 : decode cL_law 1445 = .ok (.ireturn, 1) := by decide +kernel
theorem dL_law_1446 : decode cL_law 1446 = .ok (.iload 5, 2) := by decide +kernel
theorem dL_law_1448 : decode cL_law 1448 = .ok (.ifCond .ne 15, 3) := by decide +kernel
theorem dL_law_1451 : decode cL_law 1451 = .ok (.aload_n 3, 1) := by decide +kernel
theorem dL_law_1452 : decode cL_law 1452 = .ok (.iconst 0, 1) := by decide +kernel
theorem dL_law_1453 : decode cL_law 1453 = .ok (.laload, 1) := by decide +kernel
theorem dL_law_1454 : decode cL_law 1454 = .ok (.iload 6, 2) := by decide +kernel
theorem dL_law_1456 : decode cL_law 1456 = .ok (.i2l, 1) := by decide +kernel
theorem dL_law_1457 : decode cL_law 1457 = .ok (.lcmp, 1) := by decide +kernel
theorem dL_law_1458 : decode cL_law 1458 = .ok (.ifCond .eq 5, 3) := by decide +kernel
theorem dL_law_1461 : decode cL_law 1461 = .ok (.iconst 0, 1) := by decide +kernel
theorem dL_law_1462 : decode cL_law 1462 = .ok (.ireturn, 1) := by decide +kernel
theorem dL_law_1463 : decode cL_law 1463 = .ok (.goto 126, 3) := by decide +kernel
theorem dL_law_1466 : decode cL_law 1466 = .ok (.aload_n 1, 1) := by decide +kernel
theorem dL_law_1467 : decode cL_law 1467 = .ok (.aload_n 0, 1) := by decide +kernel
theorem dL_law_1468 : decode cL_law 1468 = .ok (.iload 4, 2) := by decide +kernel
theorem dL_law_1470 : decode cL_law 1470 = .ok (.iconst 1, 1) := by decide +kernel
theorem dL_law_1471 : decode cL_law 1471 = .ok (.iadd, 1) := by decide +kernel
theorem dL_law_1472 : decode cL_law 1472 = .ok (.iaload, 1) := by decide +kernel
theorem dL_law_1473 : decode cL_law 1473 = .ok (.aload_n 0, 1) := by decide +kernel
theorem dL_law_1474 : decode cL_law 1474 = .ok (.iload 4, 2) := by decide +kernel
theorem dL_law_1476 : decode cL_law 1476 = .ok (.iconst 2, 1) := by decide +kernel
theorem dL_law_1477 : decode cL_law 1477 = .ok (.iadd, 1) := by decide +kernel
theorem dL_law_1478 : decode cL_law 1478 = .ok (.iaload, 1) := by decide +kernel
theorem dL_law_1479 : decode cL_law 1479 = .ok (.aload_n 3, 1) := by decide +kernel
theorem dL_law_1480 : decode cL_law 1480 = .ok (.invokestatic 149, 3) := by decide +kernel
theorem dL_law_1483 : decode cL_law 1483 = .ok (.istore 5, 2) := by decide +kernel
theorem dL_law_1485 : decode cL_law 1485 = .ok (.aload_n 2, 1) := by decide +kernel
theorem dL_law_1486 : decode cL_law 1486 = .ok (.aload_n 0, 1) := by decide +kernel
theorem dL_law_1487 : decode cL_law 1487 = .ok (.iload 4, 2) := by decide +kernel
theorem dL_law_1489 : decode cL_law 1489 = .ok (.iconst 1, 1) := by decide +kernel
theorem dL_law_1490 : decode cL_law 1490 = .ok (.iadd, 1) := by decide +kernel
theorem dL_law_1491 : decode cL_law 1491 = .ok (.iaload, 1) := by decide +kernel
theorem dL_law_1492 : decode cL_law 1492 = .ok (.aload_n 0, 1) := by decide +kernel
theorem dL_law_1493 : decode cL_law 1493 = .ok (.iload 4, 2) := by decide +kernel
theorem dL_law_1495 : decode cL_law 1495 = .ok (.iconst 2, 1) := by decide +kernel
theorem dL_law_1496 : decode cL_law 1496 = .ok (.iadd, 1) := by decide +kernel
theorem dL_law_1497 : decode cL_law 1497 = .ok (.iaload, 1) := by decide +kernel
theorem dL_law_1498 : decode cL_law 1498 = .ok (.invokevirtual 151, 3) := by decide +kernel
theorem dL_law_1501 : decode cL_law 1501 = .ok (.istore 6, 2) := by decide +kernel
theorem dL_law_1503 : decode cL_law 1503 = .ok (.aload_n 2, 1) := by decide +kernel
theorem dL_law_1504 : decode cL_law 1504 = .ok (.invokevirtual 89, 3) := by decide +kernel
theorem dL_law_1507 : decode cL_law 1507 = .ok (.iload 5, 2) := by decide +kernel
theorem dL_law_1509 : decode cL_law 1509 = .ok (.if_icmp .eq 5, 3) := by decide +kernel
theorem dL_law_1512 : decode cL_law 1512 = .ok (.iconst 0, 1) := by decide +kernel
theorem dL_law_1513 : decode cL_law 1513 = .ok (.ireturn, 1) := by decide +kernel
theorem dL_law_1514 : decode cL_law 1514 = .ok (.iload 5, 2) := by decide +kernel
theorem dL_law_1516 : decode cL_law 1516 = .ok (.ifCond .ne 15, 3) := by decide +kernel
theorem dL_law_1519 : decode cL_law 1519 = .ok (.aload_n 3, 1) := by decide +kernel
theorem dL_law_1520 : decode cL_law 1520 = .ok (.iconst 0, 1) := by decide +kernel
theorem dL_law_1521 : decode cL_law 1521 = .ok (.laload, 1) := by decide +kernel
theorem dL_law_1522 : decode cL_law 1522 = .ok (.iload 6, 2) := by decide +kernel
theorem dL_law_1524 : decode cL_law 1524 = .ok (.i2l, 1) := by decide +kernel
theorem dL_law_1525 : decode cL_law 1525 = .ok (.lcmp, 1) := by decide +kernel
theorem dL_law_1526 : decode cL_law 1526 = .ok (.ifCond .eq 5, 3) := by decide +kernel
theorem dL_law_1529 : decode cL_law 1529 = .ok (.iconst 0, 1) := by decide +kernel
theorem dL_law_1530 : decode cL_law 1530 = .ok (.ireturn, 1) := by decide +kernel
theorem dL_law_1531 : decode cL_law 1531 = .ok (.goto 58, 3) := by decide +kernel
theorem dL_law_1534 : decode cL_law 1534 = .ok (.aload_n 1, 1) := by decide +kernel
theorem dL_law_1535 : decode cL_law 1535 = .ok (.invokevirtual 152, 3) := by decide +kernel
theorem dL_law_1538 : decode cL_law 1538 = .ok (.dstore 5, 2) := by decide +kernel
theorem dL_law_1540 : decode cL_law 1540 = .ok (.aload_n 2, 1) := by decide +kernel
theorem dL_law_1541 : decode cL_law 1541 = .ok (.invokevirtual 156, 3) := by decide +kernel
theorem dL_law_1544 : decode cL_law 1544 = .ok (.dstore 7, 2) := by decide +kernel
theorem dL_law_1546 : decode cL_law 1546 = .ok (.dload 5, 2) := by decide +kernel
theorem dL_law_1548 : decode cL_law 1548 = .ok (.dload 7, 2) := by decide +kernel
theorem dL_law_1550 : decode cL_law 1550 = .ok (.dcmp .l, 1) := by decide +kernel
theorem dL_law_1551 : decode cL_law 1551 = .ok (.ifCond .eq 21, 3) := by decide +kernel
theorem dL_law_1554 : decode cL_law 1554 = .ok (.dload 5, 2) := by decide +kernel
theorem dL_law_1556 : decode cL_law 1556 = .ok (.dload 5, 2) := by decide +kernel
theorem dL_law_1558 : decode cL_law 1558 = .ok (.dcmp .l, 1) := by decide +kernel
theorem dL_law_1559 : decode cL_law 1559 = .ok (.ifCond .eq 11, 3) := by decide +kernel
theorem dL_law_1562 : decode cL_law 1562 = .ok (.dload 7, 2) := by decide +kernel
theorem dL_law_1564 : decode cL_law 1564 = .ok (.dload 7, 2) := by decide +kernel
theorem dL_law_1566 : decode cL_law 1566 = .ok (.dcmp .l, 1) := by decide +kernel
theorem dL_law_1567 : decode cL_law 1567 = .ok (.ifCond .ne 5, 3) := by decide +kernel
theorem dL_law_1570 : decode cL_law 1570 = .ok (.iconst 0, 1) := by decide +kernel
theorem dL_law_1571 : decode cL_law 1571 = .ok (.ireturn, 1) := by decide +kernel
theorem dL_law_1572 : decode cL_law 1572 = .ok (.goto 17, 3) := by decide +kernel
theorem dL_law_1575 : decode cL_law 1575 = .ok (.aload_n 1, 1) := by decide +kernel
theorem dL_law_1576 : decode cL_law 1576 = .ok (.invokevirtual 157, 3) := by decide +kernel
theorem dL_law_1579 : decode cL_law 1579 = .ok (.aload_n 2, 1) := by decide +kernel
theorem dL_law_1580 : decode cL_law 1580 = .ok (.invokevirtual 161, 3) := by decide +kernel
theorem dL_law_1583 : decode cL_law 1583 = .ok (.lcmp, 1) := by decide +kernel
theorem dL_law_1584 : decode cL_law 1584 = .ok (.ifCond .eq 5, 3) := by decide +kernel
theorem dL_law_1587 : decode cL_law 1587 = .ok (.iconst 0, 1) := by decide +kernel
theorem dL_law_1588 : decode cL_law 1588 = .ok (.ireturn, 1) := by decide +kernel
theorem dL_law_1589 : decode cL_law 1589 = .ok (.iinc 4 7, 3) := by decide +kernel
theorem dL_law_1592 : decode cL_law 1592 = .ok (.goto (-1569), 3) := by decide +kernel
theorem dL_law_1595 : decode cL_law 1595 = .ok (.iconst 1, 1) := by decide +kernel
theorem dL_law_1596 : decode cL_law 1596 = .ok (.ireturn, 1) := by decide +kernel
end
section
def GW : List Cond := lw_tbl.filter goodWord
theorem gw {w : Cond} (i : Nat) (h : lw_tbl[i]? = some w) (g : goodWord w = true) : w ∈ GW := List.mem_filter.mpr ⟨List.mem_of_getElem? h, g⟩
theorem gwt : ∀ w ∈ GW, w ∈ lw_tbl := fun w h => (List.mem_filter.mp h).1
theorem gwg : ∀ w ∈ GW, goodWord w = true := fun w h => (List.mem_filter.mp h).2
set_option maxRecDepth 20000 in
theorem w_0 : Cond.selects "RumourCustoms" yX5_figureOfLand yX5_figureOfLand ∈ GW := gw 0 rfl rfl
set_option maxRecDepth 20000 in
theorem w_1 : Cond.selects "RumourCustoms" yX5_goneRumours yX5_goneRumours ∈ GW := gw 1 rfl rfl
set_option maxRecDepth 20000 in
theorem w_2 : Cond.selects "RumourCustoms" yX5_carriersOnTheWay yX5_carriersOnTheWay ∈ GW := gw 2 rfl rfl
set_option maxRecDepth 20000 in
theorem w_3 : Cond.selects "RumourCustoms" yX5_digestRoads yX5_digestRoads ∈ GW := gw 3 rfl rfl
set_option maxRecDepth 20000 in
theorem w_4 : Cond.selects "RumourCustoms" yX5_digestRumours yX5_digestRumours ∈ GW := gw 4 rfl rfl
set_option maxRecDepth 20000 in
theorem w_5 : Cond.selects "RumourCustoms" yX5_digestCarriers yX5_digestCarriers ∈ GW := gw 5 rfl rfl
set_option maxRecDepth 20000 in
theorem w_6 : Cond.selects "RumourCustoms" yX5_figureOf yX5_figureOf ∈ GW := gw 6 rfl rfl
set_option maxRecDepth 20000 in
theorem w_7 : Cond.selects "RumourCustoms" yX5_inBag yX5_inBag ∈ GW := gw 7 rfl rfl
set_option maxRecDepth 20000 in
theorem w_8 : Cond.selects "RumourCustoms" yX5_hiddenInBag yX5_hiddenInBag ∈ GW := gw 8 rfl rfl
set_option maxRecDepth 20000 in
theorem w_9 : Cond.selects "java/lang/Throwable" ⟨"java/lang/Throwable", "fillInStackTrace", "(I)Ljava/lang/Throwable;"⟩ ⟨"java/lang/Throwable", "fillInStackTrace", "(I)Ljava/lang/Throwable;"⟩ ∈ GW := gw 9 rfl rfl
set_option maxRecDepth 20000 in
theorem w_10 : Cond.selects "RumourCustoms" yX5_requireTown yX5_requireTown ∈ GW := gw 10 rfl rfl
set_option maxRecDepth 20000 in
theorem w_11 : Cond.selects "java/util/ArrayList" yJx4a65c_add_72be8 yJx4a65c_add_72be8 ∈ GW := gw 11 rfl rfl
set_option maxRecDepth 20000 in
theorem w_12 : Cond.selects "java/util/ArrayList" yJx4a65c_grow_d5877 yJx4a65c_grow_d5877 ∈ GW := gw 12 rfl rfl
set_option maxRecDepth 20000 in
theorem w_13 : Cond.selects "java/util/ArrayList" yJx4a65c_grow_92f84 yJx4a65c_grow_92f84 ∈ GW := gw 13 rfl rfl
set_option maxRecDepth 20000 in
theorem w_14 : Cond.selects "RumourCustoms" yX5_rumourAt yX5_rumourAt ∈ GW := gw 14 rfl rfl
set_option maxRecDepth 20000 in
theorem w_15 : Cond.selects "RumourCustoms" yX5_rumoursIn yX5_rumoursIn ∈ GW := gw 15 rfl rfl
set_option maxRecDepth 20000 in
theorem w_16 : Cond.selects "RumourCustoms" yX5_familiesIn yX5_familiesIn ∈ GW := gw 16 rfl rfl
set_option maxRecDepth 20000 in
theorem w_17 : Cond.selects "RumourCustoms" yX5_deepestIn yX5_deepestIn ∈ GW := gw 17 rfl rfl
set_option maxRecDepth 20000 in
theorem w_18 : Cond.selects "RumourCustoms" yX5_carriersIn yX5_carriersIn ∈ GW := gw 18 rfl rfl
set_option maxRecDepth 20000 in
theorem w_19 : Cond.selects "RumourCustoms" yX5_leastDeepIn yX5_leastDeepIn ∈ GW := gw 19 rfl rfl
set_option maxRecDepth 20000 in
theorem w_20 : Cond.selects "RumourCustoms" yX5_carrierAt yX5_carrierAt ∈ GW := gw 20 rfl rfl
set_option maxRecDepth 20000 in
theorem w_21 : Cond.selects "RumourCustoms$Rumour" yX3_move yX3_move ∈ GW := gw 21 rfl rfl
set_option maxRecDepth 20000 in
theorem w_22 : Cond.selects "RumourCustoms" yX5_owedBy yX5_owedBy ∈ GW := gw 22 rfl rfl
set_option maxRecDepth 20000 in
theorem w_23 : Cond.selects "RumourCustoms" yX5_fineOf yX5_fineOf ∈ GW := gw 23 rfl rfl
set_option maxRecDepth 20000 in
theorem w_24 : Cond.selects "RumourCustoms" yX5_burnProofs yX5_burnProofs ∈ GW := gw 24 rfl rfl
set_option maxRecDepth 20000 in
theorem w_25 : Cond.selects "RumourCustoms" yX5_inspect yX5_inspect ∈ GW := gw 25 rfl rfl
set_option maxRecDepth 20000 in
theorem w_26 : Cond.selects "RumourCustoms" yX5_takeHidden yX5_takeHidden ∈ GW := gw 26 rfl rfl
set_option maxRecDepth 20000 in
theorem w_27 : Cond.selects "RumourCustoms" yX5_pay yX5_pay ∈ GW := gw 27 rfl rfl
set_option maxRecDepth 20000 in
theorem w_28 : Cond.selects "RumourCustoms$WaySearch" yX4_startIn yX4_startIn ∈ GW := gw 28 rfl rfl
set_option maxRecDepth 20000 in
theorem w_29 : Cond.selects "RumourCustoms$WaySearch" yX4_nextStage yX4_nextStage ∈ GW := gw 29 rfl rfl
set_option maxRecDepth 20000 in
theorem w_30 : Cond.selects "RumourCustoms$WaySearch" yX4_goOnFrom yX4_goOnFrom ∈ GW := gw 30 rfl rfl
set_option maxRecDepth 20000 in
theorem w_31 : Cond.selects "RumourCustoms$WaySearch" yX4_goBy yX4_goBy ∈ GW := gw 31 rfl rfl
set_option maxRecDepth 20000 in
theorem w_32 : Cond.selects "RumourCustoms" yX5_townsThatKnow yX5_townsThatKnow ∈ GW := gw 32 rfl rfl
set_option maxRecDepth 20000 in
theorem w_33 : Cond.selects "RumourCustoms" yX5_greatestDepthInTowns yX5_greatestDepthInTowns ∈ GW := gw 33 rfl rfl
set_option maxRecDepth 20000 in
theorem w_34 : Cond.selects "RumourCustoms" yX5_notGoneOf yX5_notGoneOf ∈ GW := gw 34 rfl rfl
set_option maxRecDepth 20000 in
theorem w_35 : Cond.selects "RumourCustomsModel" yX6_fail yX6_fail ∈ GW := gw 35 rfl rfl
set_option maxRecDepth 20000 in
theorem w_36 : Cond.selects "RumourCustomsModel" yX6_isTown yX6_isTown ∈ GW := gw 36 rfl rfl
set_option maxRecDepth 20000 in
theorem w_37 : Cond.selects "RumourCustomsModel" yX6_add yX6_add ∈ GW := gw 37 rfl rfl
set_option maxRecDepth 20000 in
theorem w_38 : Cond.selects "RumourCustomsModel" yX6_isRumour yX6_isRumour ∈ GW := gw 38 rfl rfl
set_option maxRecDepth 20000 in
theorem w_39 : Cond.selects "RumourCustomsModel" yX6_get yX6_get ∈ GW := gw 39 rfl rfl
set_option maxRecDepth 20000 in
theorem w_40 : Cond.selects "RumourCustomsModel" yX6_townTold yX6_townTold ∈ GW := gw 40 rfl rfl
set_option maxRecDepth 20000 in
theorem w_41 : Cond.selects "RumourCustomsModel" yX6_knows yX6_knows ∈ GW := gw 41 rfl rfl
set_option maxRecDepth 20000 in
theorem w_42 : Cond.selects "RumourCustomsModel" yX6_heardOf yX6_heardOf ∈ GW := gw 42 rfl rfl
set_option maxRecDepth 20000 in
theorem w_43 : Cond.selects "RumourCustomsModel" yX6_man yX6_man ∈ GW := gw 43 rfl rfl
set_option maxRecDepth 20000 in
theorem w_44 : Cond.selects "RumourCustomsModel" yX6_isCarrier yX6_isCarrier ∈ GW := gw 44 rfl rfl
set_option maxRecDepth 20000 in
theorem w_45 : Cond.selects "RumourCustomsModel" yX6_inBag yX6_inBag ∈ GW := gw 45 rfl rfl
set_option maxRecDepth 20000 in
theorem w_46 : Cond.selects "RumourCustomsModel" yX6_lay yX6_lay ∈ GW := gw 46 rfl rfl
set_option maxRecDepth 20000 in
theorem w_47 : Cond.selects "RumourCustomsModel" yX6_set yX6_set ∈ GW := gw 47 rfl rfl
set_option maxRecDepth 20000 in
theorem w_48 : Cond.selects "RumourCustomsModel" yX6_has yX6_has ∈ GW := gw 48 rfl rfl
set_option maxRecDepth 20000 in
theorem w_49 : Cond.selects "RumourCustomsModel" yX6_owed yX6_owed ∈ GW := gw 49 rfl rfl
set_option maxRecDepth 20000 in
theorem w_50 : Cond.selects "RumourCustomsModel" yX6_dutyAt yX6_dutyAt ∈ GW := gw 50 rfl rfl
set_option maxRecDepth 20000 in
theorem w_51 : Cond.selects "RumourCustomsModel" yX6_fine yX6_fine ∈ GW := gw 51 rfl rfl
set_option maxRecDepth 20000 in
theorem w_52 : Cond.selects "RumourCustomsModel" yX6_isSearched yX6_isSearched ∈ GW := gw 52 rfl rfl
set_option maxRecDepth 20000 in
theorem w_53 : Cond.selects "RumourCustomsModel" yX6_setMan yX6_setMan ∈ GW := gw 53 rfl rfl
set_option maxRecDepth 20000 in
theorem w_54 : Cond.selects "RumourCustomsModel" yX6_carrierTold yX6_carrierTold ∈ GW := gw 54 rfl rfl
set_option maxRecDepth 20000 in
theorem w_55 : Cond.selects "RumourCustomsModel" yX6_counted yX6_counted ∈ GW := gw 55 rfl rfl
set_option maxRecDepth 20000 in
theorem w_56 : Cond.selects "RumourCustomsModel" yX6_gone yX6_gone ∈ GW := gw 56 rfl rfl
set_option maxRecDepth 20000 in
theorem w_57 : Cond.selects "RumourCustomsModel" yX6_goOn yX6_goOn ∈ GW := gw 57 rfl rfl
set_option maxRecDepth 20000 in
theorem w_58 : Cond.initialized "RumourCustomsLaw" ∈ GW := gw 58 rfl rfl
set_option maxRecDepth 20000 in
theorem w_59 : Cond.initialized "RumourCustoms" ∈ GW := gw 59 rfl rfl
set_option maxRecDepth 20000 in
theorem w_60 : Cond.initialized "RumourCustoms$RoadMap" ∈ GW := gw 60 rfl rfl
set_option maxRecDepth 20000 in
theorem w_61 : Cond.initialized "RumourCustoms$WaySearch" ∈ GW := gw 61 rfl rfl
set_option maxRecDepth 20000 in
theorem w_62 : Cond.initialized "java/util/AbstractCollection" ∈ GW := gw 62 rfl rfl
set_option maxRecDepth 20000 in
theorem w_63 : Cond.initialized "java/util/AbstractList" ∈ GW := gw 63 rfl rfl
set_option maxRecDepth 20000 in
theorem w_64 : Cond.initialized "java/util/ArrayList" ∈ GW := gw 64 rfl rfl
set_option maxRecDepth 20000 in
theorem w_65 : Cond.initialized "RumourCustomsModel" ∈ GW := gw 65 rfl rfl
set_option maxRecDepth 20000 in
theorem w_66 : Cond.initialized "java/lang/Throwable" ∈ GW := gw 66 rfl rfl
set_option maxRecDepth 20000 in
theorem w_67 : Cond.initialized "java/lang/Exception" ∈ GW := gw 67 rfl rfl
set_option maxRecDepth 20000 in
theorem w_68 : Cond.initialized "java/lang/RuntimeException" ∈ GW := gw 68 rfl rfl
set_option maxRecDepth 20000 in
theorem w_69 : Cond.initialized "java/lang/IllegalStateException" ∈ GW := gw 69 rfl rfl
set_option maxRecDepth 20000 in
theorem w_70 : Cond.initialized "java/lang/IndexOutOfBoundsException" ∈ GW := gw 70 rfl rfl
set_option maxRecDepth 20000 in
theorem w_71 : Cond.initialized "java/lang/IllegalArgumentException" ∈ GW := gw 71 rfl rfl
set_option maxRecDepth 20000 in
theorem w_72 : Cond.initialized "RumourCustoms$Road" ∈ GW := gw 72 rfl rfl
set_option maxRecDepth 20000 in
theorem w_73 : Cond.initialized "java/lang/Math" ∈ GW := gw 73 rfl rfl
set_option maxRecDepth 20000 in
theorem w_74 : Cond.initialized "java/lang/System" ∈ GW := gw 74 rfl rfl
set_option maxRecDepth 20000 in
theorem w_75 : Cond.initialized "RumourCustoms$Rumour" ∈ GW := gw 75 rfl rfl
set_option maxRecDepth 20000 in
theorem w_76 : Cond.initialized "jdk/internal/util/ArraysSupport" ∈ GW := gw 76 rfl rfl
set_option maxRecDepth 20000 in
theorem w_77 : Cond.initialized "java/util/Arrays" ∈ GW := gw 77 rfl rfl
set_option maxRecDepth 20000 in
theorem w_78 : Cond.initialized "java/util/Objects" ∈ GW := gw 78 rfl rfl
set_option maxRecDepth 20000 in
theorem w_79 : Cond.initialized "jdk/internal/util/Preconditions" ∈ GW := gw 79 rfl rfl
set_option maxRecDepth 20000 in
theorem w_80 : Cond.initialized "java/lang/Long" ∈ GW := gw 80 rfl rfl
set_option maxRecDepth 20000 in
theorem w_81 : Cond.initialized "RumourCustoms$Carrier" ∈ GW := gw 81 rfl rfl
set_option maxRecDepth 20000 in
theorem w_82 : Cond.initialized "java/lang/Integer" ∈ GW := gw 82 rfl rfl
set_option maxRecDepth 20000 in
theorem w_83 : Cond.classLink "RumourCustomsLaw" 8 "RumourCustoms" ∈ GW := gw 83 rfl rfl
set_option maxRecDepth 20000 in
theorem w_84 : Cond.instantiable "RumourCustoms" 11 ∈ GW := gw 84 rfl rfl
set_option maxRecDepth 20000 in
theorem w_85 : Cond.methodLink "RumourCustomsLaw" 79 yX5_init ∈ GW := gw 85 rfl rfl
set_option maxRecDepth 20000 in
theorem w_86 : Cond.instanceMethod yX5_init ∈ GW := gw 86 rfl rfl
set_option maxRecDepth 20000 in
theorem w_87 : Cond.code yX5_init cX5_init 1 none ∈ GW := gw 87 rfl rfl
set_option maxRecDepth 20000 in
theorem w_88 : Cond.methodLink "RumourCustoms" 1 objectInit ∈ GW := gw 88 rfl rfl
set_option maxRecDepth 20000 in
theorem w_89 : Cond.instanceMethod objectInit ∈ GW := gw 89 rfl rfl
set_option maxRecDepth 20000 in
theorem w_90 : Cond.code objectInit object_method_1_code 1 none ∈ GW := gw 90 rfl rfl
set_option maxRecDepth 20000 in
theorem w_91 : Cond.classLink "RumourCustoms" 7 "RumourCustoms$RoadMap" ∈ GW := gw 91 rfl rfl
set_option maxRecDepth 20000 in
theorem w_92 : Cond.instantiable "RumourCustoms$RoadMap" 1 ∈ GW := gw 92 rfl rfl
set_option maxRecDepth 20000 in
theorem w_93 : Cond.methodLink "RumourCustoms" 9 yX2_init ∈ GW := gw 93 rfl rfl
set_option maxRecDepth 20000 in
theorem w_94 : Cond.instanceMethod yX2_init ∈ GW := gw 94 rfl rfl
set_option maxRecDepth 20000 in
theorem w_95 : Cond.code yX2_init cX2_init 1 none ∈ GW := gw 95 rfl rfl
set_option maxRecDepth 20000 in
theorem w_96 : Cond.methodLink "RumourCustoms$RoadMap" 3 objectInit ∈ GW := gw 96 rfl rfl
set_option maxRecDepth 20000 in
theorem w_97 : Cond.classLink "RumourCustoms$RoadMap" 9 "RumourCustoms$Road" ∈ GW := gw 97 rfl rfl
set_option maxRecDepth 20000 in
theorem w_99 : Cond.fieldLink "RumourCustoms$RoadMap" 11 "RumourCustoms$RoadMap" "roads" "[LRumourCustoms$Road;" ∈ GW := gw 99 rfl rfl
set_option maxRecDepth 20000 in
theorem w_100 : Cond.laysFinal "RumourCustoms$RoadMap" "RumourCustoms$RoadMap" "roads" "[LRumourCustoms$Road;" ∈ GW := gw 100 rfl rfl
set_option maxRecDepth 20000 in
theorem w_101 : Cond.soleField "RumourCustoms$RoadMap" "roads" ∈ GW := gw 101 rfl rfl
set_option maxRecDepth 20000 in
theorem w_102 : Cond.superclass "RumourCustoms$RoadMap" "java/lang/Object" ∈ GW := gw 102 rfl rfl
set_option maxRecDepth 20000 in
theorem w_103 : Cond.classLink "RumourCustoms" 16 "RumourCustoms$WaySearch" ∈ GW := gw 103 rfl rfl
set_option maxRecDepth 20000 in
theorem w_104 : Cond.instantiable "RumourCustoms$WaySearch" 3 ∈ GW := gw 104 rfl rfl
set_option maxRecDepth 20000 in
theorem w_105 : Cond.methodLink "RumourCustoms" 18 yX4_init ∈ GW := gw 105 rfl rfl
set_option maxRecDepth 20000 in
theorem w_106 : Cond.instanceMethod yX4_init ∈ GW := gw 106 rfl rfl
set_option maxRecDepth 20000 in
theorem w_107 : Cond.code yX4_init cX4_init 2 none ∈ GW := gw 107 rfl rfl
set_option maxRecDepth 20000 in
theorem w_108 : Cond.methodLink "RumourCustoms$WaySearch" 3 objectInit ∈ GW := gw 108 rfl rfl
set_option maxRecDepth 20000 in
theorem w_109 : Cond.fieldLink "RumourCustoms$WaySearch" 9 "RumourCustoms$WaySearch" "map" "LRumourCustoms$RoadMap;" ∈ GW := gw 109 rfl rfl
set_option maxRecDepth 20000 in
theorem w_110 : Cond.fieldLink "RumourCustoms$WaySearch" 15 "RumourCustoms$WaySearch" "prices" "[I" ∈ GW := gw 110 rfl rfl
set_option maxRecDepth 20000 in
theorem w_111 : Cond.fieldLink "RumourCustoms$WaySearch" 19 "RumourCustoms$WaySearch" "areSettled" "[Z" ∈ GW := gw 111 rfl rfl
set_option maxRecDepth 20000 in
theorem w_112 : Cond.laysFinal "RumourCustoms$WaySearch" "RumourCustoms$WaySearch" "map" "LRumourCustoms$RoadMap;" ∈ GW := gw 112 rfl rfl
set_option maxRecDepth 20000 in
theorem w_113 : Cond.soleField "RumourCustoms$WaySearch" "map" ∈ GW := gw 113 rfl rfl
set_option maxRecDepth 20000 in
theorem w_114 : Cond.laysFinal "RumourCustoms$WaySearch" "RumourCustoms$WaySearch" "prices" "[I" ∈ GW := gw 114 rfl rfl
set_option maxRecDepth 20000 in
theorem w_115 : Cond.soleField "RumourCustoms$WaySearch" "prices" ∈ GW := gw 115 rfl rfl
set_option maxRecDepth 20000 in
theorem w_116 : Cond.laysFinal "RumourCustoms$WaySearch" "RumourCustoms$WaySearch" "areSettled" "[Z" ∈ GW := gw 116 rfl rfl
set_option maxRecDepth 20000 in
theorem w_117 : Cond.soleField "RumourCustoms$WaySearch" "areSettled" ∈ GW := gw 117 rfl rfl
set_option maxRecDepth 20000 in
theorem w_118 : Cond.superclass "RumourCustoms$WaySearch" "java/lang/Object" ∈ GW := gw 118 rfl rfl
set_option maxRecDepth 20000 in
theorem w_119 : Cond.arrayClass .int ∈ GW := gw 119 rfl rfl
set_option maxRecDepth 20000 in
theorem w_120 : Cond.arrayClass .boolean ∈ GW := gw 120 rfl rfl
set_option maxRecDepth 20000 in
theorem w_121 : Cond.classLink "RumourCustoms" 25 "java/util/ArrayList" ∈ GW := gw 121 rfl rfl
set_option maxRecDepth 20000 in
theorem w_122 : Cond.instantiable "java/util/ArrayList" 3 ∈ GW := gw 122 rfl rfl
set_option maxRecDepth 20000 in
theorem w_123 : Cond.methodLink "RumourCustoms" 27 yJx4a65c_init_da8c8 ∈ GW := gw 123 rfl rfl
set_option maxRecDepth 20000 in
theorem w_124 : Cond.instanceMethod yJx4a65c_init_da8c8 ∈ GW := gw 124 rfl rfl
set_option maxRecDepth 20000 in
theorem w_125 : Cond.code yJx4a65c_init_da8c8 cJx4a65c_init_da8c8 1 none ∈ GW := gw 125 rfl rfl
set_option maxRecDepth 20000 in
theorem w_126 : Cond.methodLink "java/util/ArrayList" 1 yJxc12de_init_da8c8 ∈ GW := gw 126 rfl rfl
set_option maxRecDepth 20000 in
theorem w_127 : Cond.instanceMethod yJxc12de_init_da8c8 ∈ GW := gw 127 rfl rfl
set_option maxRecDepth 20000 in
theorem w_128 : Cond.code yJxc12de_init_da8c8 cJxc12de_init_da8c8 1 none ∈ GW := gw 128 rfl rfl
set_option maxRecDepth 20000 in
theorem w_129 : Cond.methodLink "java/util/AbstractList" 1 yJxa1e45_init_da8c8 ∈ GW := gw 129 rfl rfl
set_option maxRecDepth 20000 in
theorem w_130 : Cond.instanceMethod yJxa1e45_init_da8c8 ∈ GW := gw 130 rfl rfl
set_option maxRecDepth 20000 in
theorem w_131 : Cond.code yJxa1e45_init_da8c8 cJxa1e45_init_da8c8 1 none ∈ GW := gw 131 rfl rfl
set_option maxRecDepth 20000 in
theorem w_132 : Cond.methodLink "java/util/AbstractCollection" 1 objectInit ∈ GW := gw 132 rfl rfl
set_option maxRecDepth 20000 in
theorem w_133 : Cond.fieldLink "java/util/ArrayList" 39 "java/util/ArrayList" "DEFAULTCAPACITY_EMPTY_ELEMENTDATA" "[Ljava/lang/Object;" ∈ GW := gw 133 rfl rfl
set_option maxRecDepth 20000 in
theorem w_135 : Cond.fieldLink "java/util/ArrayList" 9 "java/util/ArrayList" "elementData" "[Ljava/lang/Object;" ∈ GW := gw 135 rfl rfl
set_option maxRecDepth 20000 in
theorem w_136 : Cond.fieldLink "java/util/ArrayList" 48 "java/util/ArrayList" "size" "I" ∈ GW := gw 136 rfl rfl
set_option maxRecDepth 20000 in
theorem w_137 : Cond.fieldLink "java/util/AbstractList" 7 "java/util/AbstractList" "modCount" "I" ∈ GW := gw 137 rfl rfl
set_option maxRecDepth 20000 in
theorem w_138 : Cond.fieldLink "java/util/ArrayList" 63 "java/util/ArrayList" "modCount" "I" ∈ GW := gw 138 rfl rfl
set_option maxRecDepth 20000 in
theorem w_139 : Cond.sameField "java/util/ArrayList" "java/util/AbstractList" "modCount" "I" ∈ GW := gw 139 rfl rfl
set_option maxRecDepth 20000 in
theorem w_140 : Cond.lays "java/util/ArrayList" "java/util/ArrayList" "elementData" "[Ljava/lang/Object;" ∈ GW := gw 140 rfl rfl
set_option maxRecDepth 20000 in
theorem w_141 : Cond.soleField "java/util/ArrayList" "elementData" ∈ GW := gw 141 rfl rfl
set_option maxRecDepth 20000 in
theorem w_142 : Cond.lays "java/util/ArrayList" "java/util/ArrayList" "size" "I" ∈ GW := gw 142 rfl rfl
set_option maxRecDepth 20000 in
theorem w_143 : Cond.soleField "java/util/ArrayList" "size" ∈ GW := gw 143 rfl rfl
set_option maxRecDepth 20000 in
theorem w_144 : Cond.lays "java/util/ArrayList" "java/util/AbstractList" "modCount" "I" ∈ GW := gw 144 rfl rfl
set_option maxRecDepth 20000 in
theorem w_145 : Cond.soleField "java/util/AbstractList" "modCount" ∈ GW := gw 145 rfl rfl
set_option maxRecDepth 20000 in
theorem w_146 : Cond.superclass "java/util/ArrayList" "java/util/AbstractList" ∈ GW := gw 146 rfl rfl
set_option maxRecDepth 20000 in
theorem w_147 : Cond.fieldLink "RumourCustoms" 10 "RumourCustoms" "map" "LRumourCustoms$RoadMap;" ∈ GW := gw 147 rfl rfl
set_option maxRecDepth 20000 in
theorem w_148 : Cond.fieldLink "RumourCustoms" 21 "RumourCustoms" "ways" "LRumourCustoms$WaySearch;" ∈ GW := gw 148 rfl rfl
set_option maxRecDepth 20000 in
theorem w_149 : Cond.fieldLink "RumourCustoms" 28 "RumourCustoms" "rumours" "Ljava/util/ArrayList;" ∈ GW := gw 149 rfl rfl
set_option maxRecDepth 20000 in
theorem w_150 : Cond.fieldLink "RumourCustoms" 32 "RumourCustoms" "carriers" "Ljava/util/ArrayList;" ∈ GW := gw 150 rfl rfl
set_option maxRecDepth 20000 in
theorem w_151 : Cond.fieldLink "RumourCustoms" 35 "RumourCustoms" "townCount" "I" ∈ GW := gw 151 rfl rfl
set_option maxRecDepth 20000 in
theorem w_152 : Cond.fieldLink "RumourCustoms" 74 "RumourCustoms" "roadCount" "I" ∈ GW := gw 152 rfl rfl
set_option maxRecDepth 20000 in
theorem w_153 : Cond.fieldLink "RumourCustoms" 218 "RumourCustoms" "hour" "I" ∈ GW := gw 153 rfl rfl
set_option maxRecDepth 20000 in
theorem w_154 : Cond.fieldLink "RumourCustoms" 321 "RumourCustoms" "proofsBurnt" "I" ∈ GW := gw 154 rfl rfl
set_option maxRecDepth 20000 in
theorem w_155 : Cond.fieldLink "RumourCustoms" 341 "RumourCustoms" "dutiesPaid" "I" ∈ GW := gw 155 rfl rfl
set_option maxRecDepth 20000 in
theorem w_156 : Cond.fieldLink "RumourCustoms" 344 "RumourCustoms" "finesPaid" "I" ∈ GW := gw 156 rfl rfl
set_option maxRecDepth 20000 in
theorem w_157 : Cond.fieldLink "RumourCustoms" 327 "RumourCustoms" "searches" "I" ∈ GW := gw 157 rfl rfl
set_option maxRecDepth 20000 in
theorem w_158 : Cond.laysFinal "RumourCustoms" "RumourCustoms" "map" "LRumourCustoms$RoadMap;" ∈ GW := gw 158 rfl rfl
set_option maxRecDepth 20000 in
theorem w_159 : Cond.soleField "RumourCustoms" "map" ∈ GW := gw 159 rfl rfl
set_option maxRecDepth 20000 in
theorem w_160 : Cond.laysFinal "RumourCustoms" "RumourCustoms" "ways" "LRumourCustoms$WaySearch;" ∈ GW := gw 160 rfl rfl
set_option maxRecDepth 20000 in
theorem w_161 : Cond.soleField "RumourCustoms" "ways" ∈ GW := gw 161 rfl rfl
set_option maxRecDepth 20000 in
theorem w_162 : Cond.laysFinal "RumourCustoms" "RumourCustoms" "rumours" "Ljava/util/ArrayList;" ∈ GW := gw 162 rfl rfl
set_option maxRecDepth 20000 in
theorem w_163 : Cond.soleField "RumourCustoms" "rumours" ∈ GW := gw 163 rfl rfl
set_option maxRecDepth 20000 in
theorem w_164 : Cond.laysFinal "RumourCustoms" "RumourCustoms" "carriers" "Ljava/util/ArrayList;" ∈ GW := gw 164 rfl rfl
set_option maxRecDepth 20000 in
theorem w_165 : Cond.soleField "RumourCustoms" "carriers" ∈ GW := gw 165 rfl rfl
set_option maxRecDepth 20000 in
theorem w_166 : Cond.lays "RumourCustoms" "RumourCustoms" "townCount" "I" ∈ GW := gw 166 rfl rfl
set_option maxRecDepth 20000 in
theorem w_167 : Cond.soleField "RumourCustoms" "townCount" ∈ GW := gw 167 rfl rfl
set_option maxRecDepth 20000 in
theorem w_168 : Cond.lays "RumourCustoms" "RumourCustoms" "roadCount" "I" ∈ GW := gw 168 rfl rfl
set_option maxRecDepth 20000 in
theorem w_169 : Cond.soleField "RumourCustoms" "roadCount" ∈ GW := gw 169 rfl rfl
set_option maxRecDepth 20000 in
theorem w_170 : Cond.lays "RumourCustoms" "RumourCustoms" "hour" "I" ∈ GW := gw 170 rfl rfl
set_option maxRecDepth 20000 in
theorem w_171 : Cond.soleField "RumourCustoms" "hour" ∈ GW := gw 171 rfl rfl
set_option maxRecDepth 20000 in
theorem w_172 : Cond.lays "RumourCustoms" "RumourCustoms" "proofsBurnt" "I" ∈ GW := gw 172 rfl rfl
set_option maxRecDepth 20000 in
theorem w_173 : Cond.soleField "RumourCustoms" "proofsBurnt" ∈ GW := gw 173 rfl rfl
set_option maxRecDepth 20000 in
theorem w_174 : Cond.lays "RumourCustoms" "RumourCustoms" "dutiesPaid" "I" ∈ GW := gw 174 rfl rfl
set_option maxRecDepth 20000 in
theorem w_175 : Cond.soleField "RumourCustoms" "dutiesPaid" ∈ GW := gw 175 rfl rfl
set_option maxRecDepth 20000 in
theorem w_176 : Cond.lays "RumourCustoms" "RumourCustoms" "finesPaid" "I" ∈ GW := gw 176 rfl rfl
set_option maxRecDepth 20000 in
theorem w_177 : Cond.soleField "RumourCustoms" "finesPaid" ∈ GW := gw 177 rfl rfl
set_option maxRecDepth 20000 in
theorem w_178 : Cond.lays "RumourCustoms" "RumourCustoms" "searches" "I" ∈ GW := gw 178 rfl rfl
set_option maxRecDepth 20000 in
theorem w_179 : Cond.soleField "RumourCustoms" "searches" ∈ GW := gw 179 rfl rfl
set_option maxRecDepth 20000 in
theorem w_180 : Cond.superclass "RumourCustoms" "java/lang/Object" ∈ GW := gw 180 rfl rfl
set_option maxRecDepth 20000 in
theorem w_181 : Cond.methodLink "RumourCustomsLaw" 152 yX5_hearsay ∈ GW := gw 181 rfl rfl
set_option maxRecDepth 20000 in
theorem w_182 : Cond.instanceMethod yX5_hearsay ∈ GW := gw 182 rfl rfl
set_option maxRecDepth 20000 in
theorem w_183 : Cond.selects "RumourCustoms" yX5_hearsay yX5_hearsay ∈ GW := gw 183 rfl rfl
set_option maxRecDepth 20000 in
theorem w_184 : Cond.code yX5_hearsay cX5_hearsay 5 (some .double) ∈ GW := gw 184 rfl rfl
set_option maxRecDepth 20000 in
theorem w_185 : Cond.methodLink "RumourCustoms" 85 yJx4a65c_size_8abf5 ∈ GW := gw 185 rfl rfl
set_option maxRecDepth 20000 in
theorem w_186 : Cond.instanceMethod yJx4a65c_size_8abf5 ∈ GW := gw 186 rfl rfl
set_option maxRecDepth 20000 in
theorem w_187 : Cond.selects "java/util/ArrayList" yJx4a65c_size_8abf5 yJx4a65c_size_8abf5 ∈ GW := gw 187 rfl rfl
set_option maxRecDepth 20000 in
theorem w_188 : Cond.code yJx4a65c_size_8abf5 cJx4a65c_size_8abf5 1 (some .int) ∈ GW := gw 188 rfl rfl
set_option maxRecDepth 20000 in
theorem w_189 : Cond.methodLink "RumourCustoms" 221 yJx4a65c_get_915e3 ∈ GW := gw 189 rfl rfl
set_option maxRecDepth 20000 in
theorem w_190 : Cond.instanceMethod yJx4a65c_get_915e3 ∈ GW := gw 190 rfl rfl
set_option maxRecDepth 20000 in
theorem w_191 : Cond.selects "java/util/ArrayList" yJx4a65c_get_915e3 yJx4a65c_get_915e3 ∈ GW := gw 191 rfl rfl
set_option maxRecDepth 20000 in
theorem w_192 : Cond.code yJx4a65c_get_915e3 cJx4a65c_get_915e3 2 (some (.object "java/lang/Object")) ∈ GW := gw 192 rfl rfl
set_option maxRecDepth 20000 in
theorem w_193 : Cond.methodLink "java/util/ArrayList" 118 yJ15_checkIndex_7cf53 ∈ GW := gw 193 rfl rfl
set_option maxRecDepth 20000 in
theorem w_194 : Cond.static yJ15_checkIndex_7cf53 ∈ GW := gw 194 rfl rfl
set_option maxRecDepth 20000 in
theorem w_195 : Cond.code yJ15_checkIndex_7cf53 cJ15_checkIndex_7cf53 2 (some .int) ∈ GW := gw 195 rfl rfl
set_option maxRecDepth 20000 in
theorem w_196 : Cond.methodLink "java/util/Objects" 105 yJ3_checkIndex_8e157 ∈ GW := gw 196 rfl rfl
set_option maxRecDepth 20000 in
theorem w_197 : Cond.static yJ3_checkIndex_8e157 ∈ GW := gw 197 rfl rfl
set_option maxRecDepth 20000 in
theorem w_198 : Cond.code yJ3_checkIndex_8e157 cJ3_checkIndex_8e157 3 (some .int) ∈ GW := gw 198 rfl rfl
set_option maxRecDepth 20000 in
theorem w_199 : Cond.methodLink "java/util/ArrayList" 123 yJx4a65c_elementData_915e3 ∈ GW := gw 199 rfl rfl
set_option maxRecDepth 20000 in
theorem w_200 : Cond.instanceMethod yJx4a65c_elementData_915e3 ∈ GW := gw 200 rfl rfl
set_option maxRecDepth 20000 in
theorem w_201 : Cond.selects "java/util/ArrayList" yJx4a65c_elementData_915e3 yJx4a65c_elementData_915e3 ∈ GW := gw 201 rfl rfl
set_option maxRecDepth 20000 in
theorem w_202 : Cond.code yJx4a65c_elementData_915e3 cJx4a65c_elementData_915e3 2 (some (.object "java/lang/Object")) ∈ GW := gw 202 rfl rfl
set_option maxRecDepth 20000 in
theorem w_203 : Cond.classLink "RumourCustoms" 91 "RumourCustoms$Rumour" ∈ GW := gw 203 rfl rfl
set_option maxRecDepth 20000 in
theorem w_204 : Cond.methodLink "RumourCustomsLaw" 157 yX5_digest ∈ GW := gw 204 rfl rfl
set_option maxRecDepth 20000 in
theorem w_205 : Cond.instanceMethod yX5_digest ∈ GW := gw 205 rfl rfl
set_option maxRecDepth 20000 in
theorem w_206 : Cond.selects "RumourCustoms" yX5_digest yX5_digest ∈ GW := gw 206 rfl rfl
set_option maxRecDepth 20000 in
theorem w_207 : Cond.code yX5_digest cX5_digest 4 (some .long) ∈ GW := gw 207 rfl rfl
set_option maxRecDepth 20000 in
theorem w_208 : Cond.constantLong "RumourCustoms" 251 (499 : Int64) ∈ GW := gw 208 rfl rfl
set_option maxRecDepth 20000 in
theorem w_209 : Cond.constantLong "RumourCustoms" 253 (31 : Int64) ∈ GW := gw 209 rfl rfl
set_option maxRecDepth 20000 in
theorem w_210 : Cond.methodLink "RumourCustoms" 229 yX5_figureOfLand ∈ GW := gw 210 rfl rfl
set_option maxRecDepth 20000 in
theorem w_212 : Cond.instanceMethod yX5_figureOfLand ∈ GW := gw 212 rfl rfl
set_option maxRecDepth 20000 in
theorem w_213 : Cond.code yX5_figureOfLand cX5_figureOfLand 2 (some .int) ∈ GW := gw 213 rfl rfl
set_option maxRecDepth 20000 in
theorem w_214 : Cond.methodLink "RumourCustoms" 358 yX5_goneRumours ∈ GW := gw 214 rfl rfl
set_option maxRecDepth 20000 in
theorem w_216 : Cond.instanceMethod yX5_goneRumours ∈ GW := gw 216 rfl rfl
set_option maxRecDepth 20000 in
theorem w_217 : Cond.code yX5_goneRumours cX5_goneRumours 3 (some .int) ∈ GW := gw 217 rfl rfl
set_option maxRecDepth 20000 in
theorem w_218 : Cond.methodLink "RumourCustoms" 351 yX3_isGone ∈ GW := gw 218 rfl rfl
set_option maxRecDepth 20000 in
theorem w_219 : Cond.instanceMethod yX3_isGone ∈ GW := gw 219 rfl rfl
set_option maxRecDepth 20000 in
theorem w_220 : Cond.selects "RumourCustoms$Rumour" yX3_isGone yX3_isGone ∈ GW := gw 220 rfl rfl
set_option maxRecDepth 20000 in
theorem w_221 : Cond.code yX3_isGone cX3_isGone 1 (some .boolean) ∈ GW := gw 221 rfl rfl
set_option maxRecDepth 20000 in
theorem w_222 : Cond.methodLink "RumourCustoms" 361 yX5_carriersOnTheWay ∈ GW := gw 222 rfl rfl
set_option maxRecDepth 20000 in
theorem w_224 : Cond.instanceMethod yX5_carriersOnTheWay ∈ GW := gw 224 rfl rfl
set_option maxRecDepth 20000 in
theorem w_225 : Cond.code yX5_carriersOnTheWay cX5_carriersOnTheWay 3 (some .int) ∈ GW := gw 225 rfl rfl
set_option maxRecDepth 20000 in
theorem w_226 : Cond.classLink "RumourCustoms" 130 "RumourCustoms$Carrier" ∈ GW := gw 226 rfl rfl
set_option maxRecDepth 20000 in
theorem w_227 : Cond.methodLink "RumourCustoms" 278 yX0_isOnTheWay ∈ GW := gw 227 rfl rfl
set_option maxRecDepth 20000 in
theorem w_228 : Cond.instanceMethod yX0_isOnTheWay ∈ GW := gw 228 rfl rfl
set_option maxRecDepth 20000 in
theorem w_229 : Cond.selects "RumourCustoms$Carrier" yX0_isOnTheWay yX0_isOnTheWay ∈ GW := gw 229 rfl rfl
set_option maxRecDepth 20000 in
theorem w_230 : Cond.code yX0_isOnTheWay cX0_isOnTheWay 1 (some .boolean) ∈ GW := gw 230 rfl rfl
set_option maxRecDepth 20000 in
theorem w_231 : Cond.methodLink "RumourCustoms" 255 yX5_digestRoads ∈ GW := gw 231 rfl rfl
set_option maxRecDepth 20000 in
theorem w_233 : Cond.instanceMethod yX5_digestRoads ∈ GW := gw 233 rfl rfl
set_option maxRecDepth 20000 in
theorem w_234 : Cond.code yX5_digestRoads cX5_digestRoads 8 (some .long) ∈ GW := gw 234 rfl rfl
set_option maxRecDepth 20000 in
theorem w_235 : Cond.methodLink "RumourCustoms" 59 yX2_between ∈ GW := gw 235 rfl rfl
set_option maxRecDepth 20000 in
theorem w_236 : Cond.instanceMethod yX2_between ∈ GW := gw 236 rfl rfl
set_option maxRecDepth 20000 in
theorem w_237 : Cond.selects "RumourCustoms$RoadMap" yX2_between yX2_between ∈ GW := gw 237 rfl rfl
set_option maxRecDepth 20000 in
theorem w_238 : Cond.code yX2_between cX2_between 3 (some (.object "RumourCustoms$Road")) ∈ GW := gw 238 rfl rfl
set_option maxRecDepth 20000 in
theorem w_239 : Cond.methodLink "RumourCustoms$RoadMap" 17 yX2_isOnMap ∈ GW := gw 239 rfl rfl
set_option maxRecDepth 20000 in
theorem w_240 : Cond.static yX2_isOnMap ∈ GW := gw 240 rfl rfl
set_option maxRecDepth 20000 in
theorem w_241 : Cond.code yX2_isOnMap cX2_isOnMap 1 (some .boolean) ∈ GW := gw 241 rfl rfl
set_option maxRecDepth 20000 in
theorem w_242 : Cond.methodLink "RumourCustoms" 364 yX5_digestRoad ∈ GW := gw 242 rfl rfl
set_option maxRecDepth 20000 in
theorem w_243 : Cond.static yX5_digestRoad ∈ GW := gw 243 rfl rfl
set_option maxRecDepth 20000 in
theorem w_244 : Cond.code yX5_digestRoad cX5_digestRoad 6 (some .long) ∈ GW := gw 244 rfl rfl
set_option maxRecDepth 20000 in
theorem w_245 : Cond.methodLink "RumourCustoms" 81 yX1_figure ∈ GW := gw 245 rfl rfl
set_option maxRecDepth 20000 in
theorem w_246 : Cond.instanceMethod yX1_figure ∈ GW := gw 246 rfl rfl
set_option maxRecDepth 20000 in
theorem w_247 : Cond.selects "RumourCustoms$Road" yX1_figure yX1_figure ∈ GW := gw 247 rfl rfl
set_option maxRecDepth 20000 in
theorem w_248 : Cond.code yX1_figure cX1_figure 2 (some .int) ∈ GW := gw 248 rfl rfl
set_option maxRecDepth 20000 in
theorem w_249 : Cond.methodLink "RumourCustoms" 259 yX5_digestRumours ∈ GW := gw 249 rfl rfl
set_option maxRecDepth 20000 in
theorem w_251 : Cond.instanceMethod yX5_digestRumours ∈ GW := gw 251 rfl rfl
set_option maxRecDepth 20000 in
theorem w_252 : Cond.code yX5_digestRumours cX5_digestRumours 8 (some .long) ∈ GW := gw 252 rfl rfl
set_option maxRecDepth 20000 in
theorem w_253 : Cond.methodLink "RumourCustoms" 104 yX3_figure ∈ GW := gw 253 rfl rfl
set_option maxRecDepth 20000 in
theorem w_254 : Cond.instanceMethod yX3_figure ∈ GW := gw 254 rfl rfl
set_option maxRecDepth 20000 in
theorem w_255 : Cond.selects "RumourCustoms$Rumour" yX3_figure yX3_figure ∈ GW := gw 255 rfl rfl
set_option maxRecDepth 20000 in
theorem w_256 : Cond.code yX3_figure cX3_figure 2 (some .int) ∈ GW := gw 256 rfl rfl
set_option maxRecDepth 20000 in
theorem w_257 : Cond.methodLink "RumourCustoms" 262 yX5_digestCarriers ∈ GW := gw 257 rfl rfl
set_option maxRecDepth 20000 in
theorem w_259 : Cond.instanceMethod yX5_digestCarriers ∈ GW := gw 259 rfl rfl
set_option maxRecDepth 20000 in
theorem w_260 : Cond.code yX5_digestCarriers cX5_digestCarriers 8 (some .long) ∈ GW := gw 260 rfl rfl
set_option maxRecDepth 20000 in
theorem w_261 : Cond.methodLink "RumourCustoms" 214 yX5_figureOf ∈ GW := gw 261 rfl rfl
set_option maxRecDepth 20000 in
theorem w_263 : Cond.instanceMethod yX5_figureOf ∈ GW := gw 263 rfl rfl
set_option maxRecDepth 20000 in
theorem w_264 : Cond.code yX5_figureOf cX5_figureOf 3 (some .int) ∈ GW := gw 264 rfl rfl
set_option maxRecDepth 20000 in
theorem w_265 : Cond.methodLink "RumourCustoms" 148 yX5_inBag ∈ GW := gw 265 rfl rfl
set_option maxRecDepth 20000 in
theorem w_267 : Cond.instanceMethod yX5_inBag ∈ GW := gw 267 rfl rfl
set_option maxRecDepth 20000 in
theorem w_268 : Cond.code yX5_inBag cX5_inBag 4 (some .int) ∈ GW := gw 268 rfl rfl
set_option maxRecDepth 20000 in
theorem w_269 : Cond.methodLink "RumourCustoms" 284 yX3_isInBagOf ∈ GW := gw 269 rfl rfl
set_option maxRecDepth 20000 in
theorem w_270 : Cond.instanceMethod yX3_isInBagOf ∈ GW := gw 270 rfl rfl
set_option maxRecDepth 20000 in
theorem w_271 : Cond.selects "RumourCustoms$Rumour" yX3_isInBagOf yX3_isInBagOf ∈ GW := gw 271 rfl rfl
set_option maxRecDepth 20000 in
theorem w_272 : Cond.code yX3_isInBagOf cX3_isInBagOf 2 (some .boolean) ∈ GW := gw 272 rfl rfl
set_option maxRecDepth 20000 in
theorem w_273 : Cond.methodLink "RumourCustoms" 168 yX5_hiddenInBag ∈ GW := gw 273 rfl rfl
set_option maxRecDepth 20000 in
theorem w_275 : Cond.instanceMethod yX5_hiddenInBag ∈ GW := gw 275 rfl rfl
set_option maxRecDepth 20000 in
theorem w_276 : Cond.code yX5_hiddenInBag cX5_hiddenInBag 4 (some .int) ∈ GW := gw 276 rfl rfl
set_option maxRecDepth 20000 in
theorem w_277 : Cond.methodLink "RumourCustoms" 296 yX3_isHiddenBy ∈ GW := gw 277 rfl rfl
set_option maxRecDepth 20000 in
theorem w_278 : Cond.instanceMethod yX3_isHiddenBy ∈ GW := gw 278 rfl rfl
set_option maxRecDepth 20000 in
theorem w_279 : Cond.selects "RumourCustoms$Rumour" yX3_isHiddenBy yX3_isHiddenBy ∈ GW := gw 279 rfl rfl
set_option maxRecDepth 20000 in
theorem w_280 : Cond.code yX3_isHiddenBy cX3_isHiddenBy 2 (some .boolean) ∈ GW := gw 280 rfl rfl
set_option maxRecDepth 20000 in
theorem w_281 : Cond.methodLink "RumourCustoms$Rumour" 44 yX3_isInBagOf ∈ GW := gw 281 rfl rfl
set_option maxRecDepth 20000 in
theorem w_282 : Cond.methodLink "RumourCustomsLaw" 83 yL_addTown ∈ GW := gw 282 rfl rfl
set_option maxRecDepth 20000 in
theorem w_283 : Cond.static yL_addTown ∈ GW := gw 283 rfl rfl
set_option maxRecDepth 20000 in
theorem w_284 : Cond.codeWith yL_addTown cL_addTown 3 (some .int) [(0, 8, 11, 13)] ∈ GW := gw 284 rfl rfl
set_option maxRecDepth 20000 in
theorem w_285 : Cond.classLink "RumourCustomsLaw" 13 "java/lang/IllegalStateException" ∈ GW := gw 285 rfl rfl
set_option maxRecDepth 20000 in
theorem w_286 : Cond.methodLink "RumourCustomsLaw" 7 yX5_addTown ∈ GW := gw 286 rfl rfl
set_option maxRecDepth 20000 in
theorem w_287 : Cond.instanceMethod yX5_addTown ∈ GW := gw 287 rfl rfl
set_option maxRecDepth 20000 in
theorem w_288 : Cond.selects "RumourCustoms" yX5_addTown yX5_addTown ∈ GW := gw 288 rfl rfl
set_option maxRecDepth 20000 in
theorem w_289 : Cond.code yX5_addTown cX5_addTown 1 (some .int) ∈ GW := gw 289 rfl rfl
set_option maxRecDepth 20000 in
theorem w_290 : Cond.classLink "RumourCustoms" 39 "java/lang/IllegalStateException" ∈ GW := gw 290 rfl rfl
set_option maxRecDepth 20000 in
theorem w_291 : Cond.instantiable "java/lang/IllegalStateException" 6 ∈ GW := gw 291 rfl rfl
set_option maxRecDepth 20000 in
theorem w_299 : Cond.selects "java/lang/IllegalStateException" ⟨"java/lang/Throwable", "fillInStackTrace", "(I)Ljava/lang/Throwable;"⟩ ⟨"java/lang/Throwable", "fillInStackTrace", "(I)Ljava/lang/Throwable;"⟩ ∈ GW := gw 299 rfl rfl
set_option maxRecDepth 20000 in
theorem w_300 : Cond.selects "java/lang/IllegalStateException" ⟨"java/lang/Throwable", "fillInStackTrace", "()Ljava/lang/Throwable;"⟩ ⟨"java/lang/Throwable", "fillInStackTrace", "()Ljava/lang/Throwable;"⟩ ∈ GW := gw 300 rfl rfl
set_option maxRecDepth 20000 in
theorem w_301 : Cond.lays "java/lang/IllegalStateException" "java/lang/Throwable" "cause" "Ljava/lang/Throwable;" ∈ GW := gw 301 rfl rfl
set_option maxRecDepth 20000 in
theorem w_302 : Cond.lays "java/lang/Throwable" "java/lang/Throwable" "cause" "Ljava/lang/Throwable;" ∈ GW := gw 302 rfl rfl
set_option maxRecDepth 20000 in
theorem w_303 : Cond.lays "java/lang/IllegalStateException" "java/lang/Throwable" "stackTrace" "[Ljava/lang/StackTraceElement;" ∈ GW := gw 303 rfl rfl
set_option maxRecDepth 20000 in
theorem w_304 : Cond.lays "java/lang/Throwable" "java/lang/Throwable" "stackTrace" "[Ljava/lang/StackTraceElement;" ∈ GW := gw 304 rfl rfl
set_option maxRecDepth 20000 in
theorem w_305 : Cond.lays "java/lang/IllegalStateException" "java/lang/Throwable" "suppressedExceptions" "Ljava/util/List;" ∈ GW := gw 305 rfl rfl
set_option maxRecDepth 20000 in
theorem w_306 : Cond.lays "java/lang/Throwable" "java/lang/Throwable" "suppressedExceptions" "Ljava/util/List;" ∈ GW := gw 306 rfl rfl
set_option maxRecDepth 20000 in
theorem w_307 : Cond.lays "java/lang/IllegalStateException" "java/lang/Throwable" "detailMessage" "Ljava/lang/String;" ∈ GW := gw 307 rfl rfl
set_option maxRecDepth 20000 in
theorem w_308 : Cond.lays "java/lang/Throwable" "java/lang/Throwable" "detailMessage" "Ljava/lang/String;" ∈ GW := gw 308 rfl rfl
set_option maxRecDepth 20000 in
theorem w_309 : Cond.lays "java/lang/IllegalStateException" "java/lang/Throwable" "backtrace" "Ljava/lang/Object;" ∈ GW := gw 309 rfl rfl
set_option maxRecDepth 20000 in
theorem w_310 : Cond.lays "java/lang/Throwable" "java/lang/Throwable" "backtrace" "Ljava/lang/Object;" ∈ GW := gw 310 rfl rfl
set_option maxRecDepth 20000 in
theorem w_311 : Cond.fieldLink "java/lang/Throwable" 198 "java/lang/Throwable" "backtrace" "Ljava/lang/Object;" ∈ GW := gw 311 rfl rfl
set_option maxRecDepth 20000 in
theorem w_312 : Cond.superclass "java/lang/Throwable" "java/lang/Object" ∈ GW := gw 312 rfl rfl
set_option maxRecDepth 20000 in
theorem w_313 : Cond.instanceMethod ⟨"java/lang/Throwable", "<init>", "()V"⟩ ∈ GW := gw 313 rfl rfl
set_option maxRecDepth 20000 in
theorem w_314 : Cond.code ⟨"java/lang/Throwable", "<init>", "()V"⟩ prog_22_method_1_code 1 none ∈ GW := gw 314 rfl rfl
set_option maxRecDepth 20000 in
theorem w_315 : Cond.methodLink "java/lang/Throwable" 1 objectInit ∈ GW := gw 315 rfl rfl
set_option maxRecDepth 20000 in
theorem w_316 : Cond.fieldLink "java/lang/Throwable" 13 "java/lang/Throwable" "UNASSIGNED_STACK" "[Ljava/lang/StackTraceElement;" ∈ GW := gw 316 rfl rfl
set_option maxRecDepth 20000 in
theorem w_318 : Cond.fieldLink "java/lang/Throwable" 20 "java/lang/Throwable" "SUPPRESSED_SENTINEL" "Ljava/util/List;" ∈ GW := gw 318 rfl rfl
set_option maxRecDepth 20000 in
theorem w_320 : Cond.methodLink "java/lang/Throwable" 27 ⟨"java/lang/Throwable", "fillInStackTrace", "()Ljava/lang/Throwable;"⟩ ∈ GW := gw 320 rfl rfl
set_option maxRecDepth 20000 in
theorem w_321 : Cond.instanceMethod ⟨"java/lang/Throwable", "fillInStackTrace", "()Ljava/lang/Throwable;"⟩ ∈ GW := gw 321 rfl rfl
set_option maxRecDepth 20000 in
theorem w_322 : Cond.sameMethod "java/lang/Throwable" "java/lang/Throwable" "fillInStackTrace" "()Ljava/lang/Throwable;" ∈ GW := gw 322 rfl rfl
set_option maxRecDepth 20000 in
theorem w_323 : Cond.selects "java/lang/IllegalArgumentException" ⟨"java/lang/Throwable", "fillInStackTrace", "()Ljava/lang/Throwable;"⟩ ⟨"java/lang/Throwable", "fillInStackTrace", "()Ljava/lang/Throwable;"⟩ ∈ GW := gw 323 rfl rfl
set_option maxRecDepth 20000 in
theorem w_324 : Cond.selects "java/lang/IndexOutOfBoundsException" ⟨"java/lang/Throwable", "fillInStackTrace", "()Ljava/lang/Throwable;"⟩ ⟨"java/lang/Throwable", "fillInStackTrace", "()Ljava/lang/Throwable;"⟩ ∈ GW := gw 324 rfl rfl
set_option maxRecDepth 20000 in
theorem w_326 : Cond.methodLink "java/lang/Throwable" 202 ⟨"java/lang/Throwable", "fillInStackTrace", "(I)Ljava/lang/Throwable;"⟩ ∈ GW := gw 326 rfl rfl
set_option maxRecDepth 20000 in
theorem w_328 : Cond.instanceMethod ⟨"java/lang/Throwable", "fillInStackTrace", "(I)Ljava/lang/Throwable;"⟩ ∈ GW := gw 328 rfl rfl
set_option maxRecDepth 20000 in
theorem w_329 : Cond.instantiable "java/lang/Throwable" 6 ∈ GW := gw 329 rfl rfl
set_option maxRecDepth 20000 in
theorem w_330 : Cond.native ⟨"java/lang/Throwable", "fillInStackTrace", "(I)Ljava/lang/Throwable;"⟩ ∈ GW := gw 330 rfl rfl
set_option maxRecDepth 20000 in
theorem w_332 : Cond.methodLink "RumourCustoms" 43 ⟨"java/lang/IllegalStateException", "<init>", "(Ljava/lang/String;)V"⟩ ∈ GW := gw 332 rfl rfl
set_option maxRecDepth 20000 in
theorem w_333 : Cond.instanceMethod ⟨"java/lang/IllegalStateException", "<init>", "(Ljava/lang/String;)V"⟩ ∈ GW := gw 333 rfl rfl
set_option maxRecDepth 20000 in
theorem w_334 : Cond.code ⟨"java/lang/IllegalStateException", "<init>", "(Ljava/lang/String;)V"⟩ prog_13_method_2_code 2 none ∈ GW := gw 334 rfl rfl
set_option maxRecDepth 20000 in
theorem w_335 : Cond.methodLink "java/lang/IllegalStateException" 7 ⟨"java/lang/RuntimeException", "<init>", "(Ljava/lang/String;)V"⟩ ∈ GW := gw 335 rfl rfl
set_option maxRecDepth 20000 in
theorem w_336 : Cond.instanceMethod ⟨"java/lang/RuntimeException", "<init>", "(Ljava/lang/String;)V"⟩ ∈ GW := gw 336 rfl rfl
set_option maxRecDepth 20000 in
theorem w_337 : Cond.code ⟨"java/lang/RuntimeException", "<init>", "(Ljava/lang/String;)V"⟩ prog_19_method_2_code 2 none ∈ GW := gw 337 rfl rfl
set_option maxRecDepth 20000 in
theorem w_338 : Cond.methodLink "java/lang/RuntimeException" 7 ⟨"java/lang/Exception", "<init>", "(Ljava/lang/String;)V"⟩ ∈ GW := gw 338 rfl rfl
set_option maxRecDepth 20000 in
theorem w_339 : Cond.instanceMethod ⟨"java/lang/Exception", "<init>", "(Ljava/lang/String;)V"⟩ ∈ GW := gw 339 rfl rfl
set_option maxRecDepth 20000 in
theorem w_340 : Cond.code ⟨"java/lang/Exception", "<init>", "(Ljava/lang/String;)V"⟩ prog_11_method_2_code 2 none ∈ GW := gw 340 rfl rfl
set_option maxRecDepth 20000 in
theorem w_341 : Cond.methodLink "java/lang/Exception" 7 ⟨"java/lang/Throwable", "<init>", "(Ljava/lang/String;)V"⟩ ∈ GW := gw 341 rfl rfl
set_option maxRecDepth 20000 in
theorem w_342 : Cond.instanceMethod ⟨"java/lang/Throwable", "<init>", "(Ljava/lang/String;)V"⟩ ∈ GW := gw 342 rfl rfl
set_option maxRecDepth 20000 in
theorem w_343 : Cond.code ⟨"java/lang/Throwable", "<init>", "(Ljava/lang/String;)V"⟩ prog_22_method_2_code 2 none ∈ GW := gw 343 rfl rfl
set_option maxRecDepth 20000 in
theorem w_344 : Cond.fieldLink "java/lang/Throwable" 198 "java/lang/Throwable" "backtrace" "Ljava/lang/Object;" ∈ GW := gw 344 rfl rfl
set_option maxRecDepth 20000 in
theorem w_345 : Cond.fieldLink "java/lang/Throwable" 31 "java/lang/Throwable" "detailMessage" "Ljava/lang/String;" ∈ GW := gw 345 rfl rfl
set_option maxRecDepth 20000 in
theorem w_346 : Cond.fieldLink "java/lang/Throwable" 7 "java/lang/Throwable" "cause" "Ljava/lang/Throwable;" ∈ GW := gw 346 rfl rfl
set_option maxRecDepth 20000 in
theorem w_347 : Cond.fieldLink "java/lang/Throwable" 17 "java/lang/Throwable" "stackTrace" "[Ljava/lang/StackTraceElement;" ∈ GW := gw 347 rfl rfl
set_option maxRecDepth 20000 in
theorem w_348 : Cond.fieldLink "java/lang/Throwable" 24 "java/lang/Throwable" "suppressedExceptions" "Ljava/util/List;" ∈ GW := gw 348 rfl rfl
set_option maxRecDepth 20000 in
theorem w_349 : Cond.soleField "java/lang/Throwable" "backtrace" ∈ GW := gw 349 rfl rfl
set_option maxRecDepth 20000 in
theorem w_350 : Cond.soleField "java/lang/Throwable" "detailMessage" ∈ GW := gw 350 rfl rfl
set_option maxRecDepth 20000 in
theorem w_351 : Cond.soleField "java/lang/Throwable" "cause" ∈ GW := gw 351 rfl rfl
set_option maxRecDepth 20000 in
theorem w_352 : Cond.soleField "java/lang/Throwable" "stackTrace" ∈ GW := gw 352 rfl rfl
set_option maxRecDepth 20000 in
theorem w_353 : Cond.lays "java/lang/IllegalStateException" "java/lang/Throwable" "depth" "I" ∈ GW := gw 353 rfl rfl
set_option maxRecDepth 20000 in
theorem w_354 : Cond.soleField "java/lang/Throwable" "depth" ∈ GW := gw 354 rfl rfl
set_option maxRecDepth 20000 in
theorem w_355 : Cond.soleField "java/lang/Throwable" "suppressedExceptions" ∈ GW := gw 355 rfl rfl
set_option maxRecDepth 20000 in
theorem w_356 : Cond.superclass "java/lang/IllegalStateException" "java/lang/RuntimeException" ∈ GW := gw 356 rfl rfl
set_option maxRecDepth 20000 in
theorem w_357 : Cond.arrayClass .byte ∈ GW := gw 357 rfl rfl
set_option maxRecDepth 20000 in
theorem w_358 : Cond.methodLink "RumourCustomsLaw" 92 yL_build ∈ GW := gw 358 rfl rfl
set_option maxRecDepth 20000 in
theorem w_359 : Cond.static yL_build ∈ GW := gw 359 rfl rfl
set_option maxRecDepth 20000 in
theorem w_360 : Cond.codeWith yL_build cL_build 9 (some .int) [(0, 18, 21, 19), (0, 18, 25, 21), (0, 18, 29, 13)] ∈ GW := gw 360 rfl rfl
set_option maxRecDepth 20000 in
theorem w_361 : Cond.classLink "RumourCustomsLaw" 19 "java/lang/IndexOutOfBoundsException" ∈ GW := gw 361 rfl rfl
set_option maxRecDepth 20000 in
theorem w_362 : Cond.classLink "RumourCustomsLaw" 21 "java/lang/IllegalArgumentException" ∈ GW := gw 362 rfl rfl
set_option maxRecDepth 20000 in
theorem w_363 : Cond.methodLink "RumourCustomsLaw" 15 yX5_build ∈ GW := gw 363 rfl rfl
set_option maxRecDepth 20000 in
theorem w_364 : Cond.instanceMethod yX5_build ∈ GW := gw 364 rfl rfl
set_option maxRecDepth 20000 in
theorem w_365 : Cond.selects "RumourCustoms" yX5_build yX5_build ∈ GW := gw 365 rfl rfl
set_option maxRecDepth 20000 in
theorem w_366 : Cond.code yX5_build cX5_build 7 (some .int) ∈ GW := gw 366 rfl rfl
set_option maxRecDepth 20000 in
theorem w_367 : Cond.methodLink "RumourCustoms" 46 yX5_requireTown ∈ GW := gw 367 rfl rfl
set_option maxRecDepth 20000 in
theorem w_369 : Cond.instanceMethod yX5_requireTown ∈ GW := gw 369 rfl rfl
set_option maxRecDepth 20000 in
theorem w_370 : Cond.code yX5_requireTown cX5_requireTown 2 none ∈ GW := gw 370 rfl rfl
set_option maxRecDepth 20000 in
theorem w_371 : Cond.classLink "RumourCustoms" 267 "java/lang/IndexOutOfBoundsException" ∈ GW := gw 371 rfl rfl
set_option maxRecDepth 20000 in
theorem w_372 : Cond.instantiable "java/lang/IndexOutOfBoundsException" 6 ∈ GW := gw 372 rfl rfl
set_option maxRecDepth 20000 in
theorem w_374 : Cond.selects "java/lang/IndexOutOfBoundsException" ⟨"java/lang/Throwable", "fillInStackTrace", "(I)Ljava/lang/Throwable;"⟩ ⟨"java/lang/Throwable", "fillInStackTrace", "(I)Ljava/lang/Throwable;"⟩ ∈ GW := gw 374 rfl rfl
set_option maxRecDepth 20000 in
theorem w_375 : Cond.lays "java/lang/IndexOutOfBoundsException" "java/lang/Throwable" "cause" "Ljava/lang/Throwable;" ∈ GW := gw 375 rfl rfl
set_option maxRecDepth 20000 in
theorem w_376 : Cond.lays "java/lang/IndexOutOfBoundsException" "java/lang/Throwable" "stackTrace" "[Ljava/lang/StackTraceElement;" ∈ GW := gw 376 rfl rfl
set_option maxRecDepth 20000 in
theorem w_377 : Cond.lays "java/lang/IndexOutOfBoundsException" "java/lang/Throwable" "suppressedExceptions" "Ljava/util/List;" ∈ GW := gw 377 rfl rfl
set_option maxRecDepth 20000 in
theorem w_378 : Cond.lays "java/lang/IndexOutOfBoundsException" "java/lang/Throwable" "detailMessage" "Ljava/lang/String;" ∈ GW := gw 378 rfl rfl
set_option maxRecDepth 20000 in
theorem w_379 : Cond.lays "java/lang/IndexOutOfBoundsException" "java/lang/Throwable" "backtrace" "Ljava/lang/Object;" ∈ GW := gw 379 rfl rfl
set_option maxRecDepth 20000 in
theorem w_381 : Cond.methodLink "RumourCustoms" 271 ⟨"java/lang/IndexOutOfBoundsException", "<init>", "(Ljava/lang/String;)V"⟩ ∈ GW := gw 381 rfl rfl
set_option maxRecDepth 20000 in
theorem w_382 : Cond.instanceMethod ⟨"java/lang/IndexOutOfBoundsException", "<init>", "(Ljava/lang/String;)V"⟩ ∈ GW := gw 382 rfl rfl
set_option maxRecDepth 20000 in
theorem w_383 : Cond.code ⟨"java/lang/IndexOutOfBoundsException", "<init>", "(Ljava/lang/String;)V"⟩ prog_14_method_2_code 2 none ∈ GW := gw 383 rfl rfl
set_option maxRecDepth 20000 in
theorem w_384 : Cond.methodLink "java/lang/IndexOutOfBoundsException" 7 ⟨"java/lang/RuntimeException", "<init>", "(Ljava/lang/String;)V"⟩ ∈ GW := gw 384 rfl rfl
set_option maxRecDepth 20000 in
theorem w_385 : Cond.lays "java/lang/IndexOutOfBoundsException" "java/lang/Throwable" "depth" "I" ∈ GW := gw 385 rfl rfl
set_option maxRecDepth 20000 in
theorem w_386 : Cond.superclass "java/lang/IndexOutOfBoundsException" "java/lang/RuntimeException" ∈ GW := gw 386 rfl rfl
set_option maxRecDepth 20000 in
theorem w_387 : Cond.classLink "RumourCustoms" 50 "java/lang/IllegalArgumentException" ∈ GW := gw 387 rfl rfl
set_option maxRecDepth 20000 in
theorem w_388 : Cond.instantiable "java/lang/IllegalArgumentException" 6 ∈ GW := gw 388 rfl rfl
set_option maxRecDepth 20000 in
theorem w_390 : Cond.selects "java/lang/IllegalArgumentException" ⟨"java/lang/Throwable", "fillInStackTrace", "(I)Ljava/lang/Throwable;"⟩ ⟨"java/lang/Throwable", "fillInStackTrace", "(I)Ljava/lang/Throwable;"⟩ ∈ GW := gw 390 rfl rfl
set_option maxRecDepth 20000 in
theorem w_391 : Cond.lays "java/lang/IllegalArgumentException" "java/lang/Throwable" "cause" "Ljava/lang/Throwable;" ∈ GW := gw 391 rfl rfl
set_option maxRecDepth 20000 in
theorem w_392 : Cond.lays "java/lang/IllegalArgumentException" "java/lang/Throwable" "stackTrace" "[Ljava/lang/StackTraceElement;" ∈ GW := gw 392 rfl rfl
set_option maxRecDepth 20000 in
theorem w_393 : Cond.lays "java/lang/IllegalArgumentException" "java/lang/Throwable" "suppressedExceptions" "Ljava/util/List;" ∈ GW := gw 393 rfl rfl
set_option maxRecDepth 20000 in
theorem w_394 : Cond.lays "java/lang/IllegalArgumentException" "java/lang/Throwable" "detailMessage" "Ljava/lang/String;" ∈ GW := gw 394 rfl rfl
set_option maxRecDepth 20000 in
theorem w_395 : Cond.lays "java/lang/IllegalArgumentException" "java/lang/Throwable" "backtrace" "Ljava/lang/Object;" ∈ GW := gw 395 rfl rfl
set_option maxRecDepth 20000 in
theorem w_397 : Cond.methodLink "RumourCustoms" 54 ⟨"java/lang/IllegalArgumentException", "<init>", "(Ljava/lang/String;)V"⟩ ∈ GW := gw 397 rfl rfl
set_option maxRecDepth 20000 in
theorem w_398 : Cond.instanceMethod ⟨"java/lang/IllegalArgumentException", "<init>", "(Ljava/lang/String;)V"⟩ ∈ GW := gw 398 rfl rfl
set_option maxRecDepth 20000 in
theorem w_399 : Cond.code ⟨"java/lang/IllegalArgumentException", "<init>", "(Ljava/lang/String;)V"⟩ prog_12_method_2_code 2 none ∈ GW := gw 399 rfl rfl
set_option maxRecDepth 20000 in
theorem w_400 : Cond.methodLink "java/lang/IllegalArgumentException" 7 ⟨"java/lang/RuntimeException", "<init>", "(Ljava/lang/String;)V"⟩ ∈ GW := gw 400 rfl rfl
set_option maxRecDepth 20000 in
theorem w_401 : Cond.lays "java/lang/IllegalArgumentException" "java/lang/Throwable" "depth" "I" ∈ GW := gw 401 rfl rfl
set_option maxRecDepth 20000 in
theorem w_402 : Cond.superclass "java/lang/IllegalArgumentException" "java/lang/RuntimeException" ∈ GW := gw 402 rfl rfl
set_option maxRecDepth 20000 in
theorem w_403 : Cond.methodLink "RumourCustoms" 55 yX5_requireWithin ∈ GW := gw 403 rfl rfl
set_option maxRecDepth 20000 in
theorem w_404 : Cond.static yX5_requireWithin ∈ GW := gw 404 rfl rfl
set_option maxRecDepth 20000 in
theorem w_405 : Cond.code yX5_requireWithin cX5_requireWithin 3 none ∈ GW := gw 405 rfl rfl
set_option maxRecDepth 20000 in
theorem w_408 : Cond.classLink "RumourCustoms" 65 "RumourCustoms$Road" ∈ GW := gw 408 rfl rfl
set_option maxRecDepth 20000 in
theorem w_409 : Cond.instantiable "RumourCustoms$Road" 6 ∈ GW := gw 409 rfl rfl
set_option maxRecDepth 20000 in
theorem w_410 : Cond.methodLink "RumourCustoms" 67 yX1_init ∈ GW := gw 410 rfl rfl
set_option maxRecDepth 20000 in
theorem w_411 : Cond.instanceMethod yX1_init ∈ GW := gw 411 rfl rfl
set_option maxRecDepth 20000 in
theorem w_412 : Cond.code yX1_init cX1_init 5 none ∈ GW := gw 412 rfl rfl
set_option maxRecDepth 20000 in
theorem w_413 : Cond.methodLink "RumourCustoms$Road" 1 objectInit ∈ GW := gw 413 rfl rfl
set_option maxRecDepth 20000 in
theorem w_414 : Cond.fieldLink "RumourCustoms$Road" 7 "RumourCustoms$Road" "hours" "I" ∈ GW := gw 414 rfl rfl
set_option maxRecDepth 20000 in
theorem w_415 : Cond.fieldLink "RumourCustoms$WaySearch" 65 "RumourCustoms$Road" "hours" "I" ∈ GW := gw 415 rfl rfl
set_option maxRecDepth 20000 in
theorem w_416 : Cond.fieldLink "RumourCustoms" 208 "RumourCustoms$Road" "hours" "I" ∈ GW := gw 416 rfl rfl
set_option maxRecDepth 20000 in
theorem w_417 : Cond.fieldLink "RumourCustoms$Road" 13 "RumourCustoms$Road" "tariff" "I" ∈ GW := gw 417 rfl rfl
set_option maxRecDepth 20000 in
theorem w_418 : Cond.fieldLink "RumourCustoms$Road" 16 "RumourCustoms$Road" "surcharge" "I" ∈ GW := gw 418 rfl rfl
set_option maxRecDepth 20000 in
theorem w_419 : Cond.fieldLink "RumourCustoms$Road" 19 "RumourCustoms$Road" "strictness" "I" ∈ GW := gw 419 rfl rfl
set_option maxRecDepth 20000 in
theorem w_420 : Cond.fieldLink "RumourCustoms$Road" 30 "RumourCustoms$Road" "attention" "I" ∈ GW := gw 420 rfl rfl
set_option maxRecDepth 20000 in
theorem w_421 : Cond.fieldLink "RumourCustoms" 324 "RumourCustoms$Road" "attention" "I" ∈ GW := gw 421 rfl rfl
set_option maxRecDepth 20000 in
theorem w_422 : Cond.fieldLink "RumourCustoms$Road" 33 "RumourCustoms$Road" "paid" "I" ∈ GW := gw 422 rfl rfl
set_option maxRecDepth 20000 in
theorem w_423 : Cond.fieldLink "RumourCustoms" 338 "RumourCustoms$Road" "paid" "I" ∈ GW := gw 423 rfl rfl
set_option maxRecDepth 20000 in
theorem w_424 : Cond.laysFinal "RumourCustoms$Road" "RumourCustoms$Road" "hours" "I" ∈ GW := gw 424 rfl rfl
set_option maxRecDepth 20000 in
theorem w_425 : Cond.soleField "RumourCustoms$Road" "hours" ∈ GW := gw 425 rfl rfl
set_option maxRecDepth 20000 in
theorem w_426 : Cond.laysFinal "RumourCustoms$Road" "RumourCustoms$Road" "tariff" "I" ∈ GW := gw 426 rfl rfl
set_option maxRecDepth 20000 in
theorem w_427 : Cond.soleField "RumourCustoms$Road" "tariff" ∈ GW := gw 427 rfl rfl
set_option maxRecDepth 20000 in
theorem w_428 : Cond.laysFinal "RumourCustoms$Road" "RumourCustoms$Road" "surcharge" "I" ∈ GW := gw 428 rfl rfl
set_option maxRecDepth 20000 in
theorem w_429 : Cond.soleField "RumourCustoms$Road" "surcharge" ∈ GW := gw 429 rfl rfl
set_option maxRecDepth 20000 in
theorem w_430 : Cond.laysFinal "RumourCustoms$Road" "RumourCustoms$Road" "strictness" "I" ∈ GW := gw 430 rfl rfl
set_option maxRecDepth 20000 in
theorem w_431 : Cond.soleField "RumourCustoms$Road" "strictness" ∈ GW := gw 431 rfl rfl
set_option maxRecDepth 20000 in
theorem w_432 : Cond.lays "RumourCustoms$Road" "RumourCustoms$Road" "attention" "I" ∈ GW := gw 432 rfl rfl
set_option maxRecDepth 20000 in
theorem w_433 : Cond.soleField "RumourCustoms$Road" "attention" ∈ GW := gw 433 rfl rfl
set_option maxRecDepth 20000 in
theorem w_434 : Cond.lays "RumourCustoms$Road" "RumourCustoms$Road" "paid" "I" ∈ GW := gw 434 rfl rfl
set_option maxRecDepth 20000 in
theorem w_435 : Cond.soleField "RumourCustoms$Road" "paid" ∈ GW := gw 435 rfl rfl
set_option maxRecDepth 20000 in
theorem w_436 : Cond.superclass "RumourCustoms$Road" "java/lang/Object" ∈ GW := gw 436 rfl rfl
set_option maxRecDepth 20000 in
theorem w_437 : Cond.methodLink "RumourCustoms" 70 yX2_put ∈ GW := gw 437 rfl rfl
set_option maxRecDepth 20000 in
theorem w_438 : Cond.instanceMethod yX2_put ∈ GW := gw 438 rfl rfl
set_option maxRecDepth 20000 in
theorem w_439 : Cond.selects "RumourCustoms$RoadMap" yX2_put yX2_put ∈ GW := gw 439 rfl rfl
set_option maxRecDepth 20000 in
theorem w_440 : Cond.code yX2_put cX2_put 4 none ∈ GW := gw 440 rfl rfl
set_option maxRecDepth 20000 in
theorem w_441 : Cond.methodLink "RumourCustomsLaw" 96 yL_road ∈ GW := gw 441 rfl rfl
set_option maxRecDepth 20000 in
theorem w_442 : Cond.static yL_road ∈ GW := gw 442 rfl rfl
set_option maxRecDepth 20000 in
theorem w_443 : Cond.codeWith yL_road cL_road 6 (some .int) [(0, 12, 15, 19)] ∈ GW := gw 443 rfl rfl
set_option maxRecDepth 20000 in
theorem w_444 : Cond.methodLink "RumourCustomsLaw" 23 yX5_road ∈ GW := gw 444 rfl rfl
set_option maxRecDepth 20000 in
theorem w_445 : Cond.instanceMethod yX5_road ∈ GW := gw 445 rfl rfl
set_option maxRecDepth 20000 in
theorem w_446 : Cond.selects "RumourCustoms" yX5_road yX5_road ∈ GW := gw 446 rfl rfl
set_option maxRecDepth 20000 in
theorem w_447 : Cond.code yX5_road cX5_road 5 (some .int) ∈ GW := gw 447 rfl rfl
set_option maxRecDepth 20000 in
theorem w_448 : Cond.methodLink "RumourCustoms" 77 yX5_requireWhat ∈ GW := gw 448 rfl rfl
set_option maxRecDepth 20000 in
theorem w_449 : Cond.static yX5_requireWhat ∈ GW := gw 449 rfl rfl
set_option maxRecDepth 20000 in
theorem w_450 : Cond.code yX5_requireWhat cX5_requireWhat 2 none ∈ GW := gw 450 rfl rfl
set_option maxRecDepth 20000 in
theorem w_452 : Cond.methodLink "RumourCustomsLaw" 100 yL_makeUp ∈ GW := gw 452 rfl rfl
set_option maxRecDepth 20000 in
theorem w_453 : Cond.static yL_makeUp ∈ GW := gw 453 rfl rfl
set_option maxRecDepth 20000 in
theorem w_454 : Cond.codeWith yL_makeUp cL_makeUp 6 (some .int) [(0, 12, 15, 19), (0, 12, 19, 21), (0, 12, 23, 13)] ∈ GW := gw 454 rfl rfl
set_option maxRecDepth 20000 in
theorem w_455 : Cond.methodLink "RumourCustomsLaw" 27 yX5_makeUp ∈ GW := gw 455 rfl rfl
set_option maxRecDepth 20000 in
theorem w_456 : Cond.instanceMethod yX5_makeUp ∈ GW := gw 456 rfl rfl
set_option maxRecDepth 20000 in
theorem w_457 : Cond.selects "RumourCustoms" yX5_makeUp yX5_makeUp ∈ GW := gw 457 rfl rfl
set_option maxRecDepth 20000 in
theorem w_458 : Cond.code yX5_makeUp cX5_makeUp 5 (some .int) ∈ GW := gw 458 rfl rfl
set_option maxRecDepth 20000 in
theorem w_460 : Cond.instantiable "RumourCustoms$Rumour" 8 ∈ GW := gw 460 rfl rfl
set_option maxRecDepth 20000 in
theorem w_461 : Cond.methodLink "RumourCustoms" 93 yX3_init ∈ GW := gw 461 rfl rfl
set_option maxRecDepth 20000 in
theorem w_462 : Cond.instanceMethod yX3_init ∈ GW := gw 462 rfl rfl
set_option maxRecDepth 20000 in
theorem w_463 : Cond.code yX3_init cX3_init 7 none ∈ GW := gw 463 rfl rfl
set_option maxRecDepth 20000 in
theorem w_464 : Cond.methodLink "RumourCustoms$Rumour" 3 objectInit ∈ GW := gw 464 rfl rfl
set_option maxRecDepth 20000 in
theorem w_465 : Cond.fieldLink "RumourCustoms$Rumour" 9 "RumourCustoms$Rumour" "number" "I" ∈ GW := gw 465 rfl rfl
set_option maxRecDepth 20000 in
theorem w_466 : Cond.fieldLink "RumourCustoms" 124 "RumourCustoms$Rumour" "number" "I" ∈ GW := gw 466 rfl rfl
set_option maxRecDepth 20000 in
theorem w_467 : Cond.fieldLink "RumourCustoms$Rumour" 15 "RumourCustoms$Rumour" "family" "I" ∈ GW := gw 467 rfl rfl
set_option maxRecDepth 20000 in
theorem w_468 : Cond.fieldLink "RumourCustoms" 117 "RumourCustoms$Rumour" "family" "I" ∈ GW := gw 468 rfl rfl
set_option maxRecDepth 20000 in
theorem w_469 : Cond.fieldLink "RumourCustoms$Rumour" 18 "RumourCustoms$Rumour" "length" "I" ∈ GW := gw 469 rfl rfl
set_option maxRecDepth 20000 in
theorem w_470 : Cond.fieldLink "RumourCustoms$Road" 22 "RumourCustoms$Rumour" "length" "I" ∈ GW := gw 470 rfl rfl
set_option maxRecDepth 20000 in
theorem w_471 : Cond.fieldLink "RumourCustoms" 176 "RumourCustoms$Rumour" "length" "I" ∈ GW := gw 471 rfl rfl
set_option maxRecDepth 20000 in
theorem w_472 : Cond.fieldLink "RumourCustoms$Rumour" 21 "RumourCustoms$Rumour" "depth" "I" ∈ GW := gw 472 rfl rfl
set_option maxRecDepth 20000 in
theorem w_473 : Cond.fieldLink "RumourCustoms$Road" 27 "RumourCustoms$Rumour" "depth" "I" ∈ GW := gw 473 rfl rfl
set_option maxRecDepth 20000 in
theorem w_474 : Cond.fieldLink "RumourCustoms" 171 "RumourCustoms$Rumour" "depth" "I" ∈ GW := gw 474 rfl rfl
set_option maxRecDepth 20000 in
theorem w_475 : Cond.fieldLink "RumourCustoms$Rumour" 24 "RumourCustoms$Rumour" "proofs" "I" ∈ GW := gw 475 rfl rfl
set_option maxRecDepth 20000 in
theorem w_476 : Cond.fieldLink "RumourCustoms$WaySearch" 53 "RumourCustoms$Rumour" "proofs" "I" ∈ GW := gw 476 rfl rfl
set_option maxRecDepth 20000 in
theorem w_477 : Cond.fieldLink "RumourCustoms" 179 "RumourCustoms$Rumour" "proofs" "I" ∈ GW := gw 477 rfl rfl
set_option maxRecDepth 20000 in
theorem w_478 : Cond.fieldLink "RumourCustoms$Rumour" 27 "RumourCustoms$Rumour" "town" "I" ∈ GW := gw 478 rfl rfl
set_option maxRecDepth 20000 in
theorem w_479 : Cond.fieldLink "RumourCustoms" 142 "RumourCustoms$Rumour" "town" "I" ∈ GW := gw 479 rfl rfl
set_option maxRecDepth 20000 in
theorem w_480 : Cond.fieldLink "RumourCustoms$Rumour" 30 "RumourCustoms$Rumour" "bagOf" "I" ∈ GW := gw 480 rfl rfl
set_option maxRecDepth 20000 in
theorem w_481 : Cond.fieldLink "RumourCustoms$Rumour" 40 "RumourCustoms$Rumour" "isHidden" "Z" ∈ GW := gw 481 rfl rfl
set_option maxRecDepth 20000 in
theorem w_482 : Cond.fieldLink "RumourCustoms" 164 "RumourCustoms$Rumour" "isHidden" "Z" ∈ GW := gw 482 rfl rfl
set_option maxRecDepth 20000 in
theorem w_483 : Cond.laysFinal "RumourCustoms$Rumour" "RumourCustoms$Rumour" "number" "I" ∈ GW := gw 483 rfl rfl
set_option maxRecDepth 20000 in
theorem w_484 : Cond.soleField "RumourCustoms$Rumour" "number" ∈ GW := gw 484 rfl rfl
set_option maxRecDepth 20000 in
theorem w_485 : Cond.laysFinal "RumourCustoms$Rumour" "RumourCustoms$Rumour" "family" "I" ∈ GW := gw 485 rfl rfl
set_option maxRecDepth 20000 in
theorem w_486 : Cond.soleField "RumourCustoms$Rumour" "family" ∈ GW := gw 486 rfl rfl
set_option maxRecDepth 20000 in
theorem w_487 : Cond.laysFinal "RumourCustoms$Rumour" "RumourCustoms$Rumour" "length" "I" ∈ GW := gw 487 rfl rfl
set_option maxRecDepth 20000 in
theorem w_488 : Cond.soleField "RumourCustoms$Rumour" "length" ∈ GW := gw 488 rfl rfl
set_option maxRecDepth 20000 in
theorem w_489 : Cond.laysFinal "RumourCustoms$Rumour" "RumourCustoms$Rumour" "depth" "I" ∈ GW := gw 489 rfl rfl
set_option maxRecDepth 20000 in
theorem w_490 : Cond.soleField "RumourCustoms$Rumour" "depth" ∈ GW := gw 490 rfl rfl
set_option maxRecDepth 20000 in
theorem w_491 : Cond.lays "RumourCustoms$Rumour" "RumourCustoms$Rumour" "proofs" "I" ∈ GW := gw 491 rfl rfl
set_option maxRecDepth 20000 in
theorem w_492 : Cond.soleField "RumourCustoms$Rumour" "proofs" ∈ GW := gw 492 rfl rfl
set_option maxRecDepth 20000 in
theorem w_493 : Cond.lays "RumourCustoms$Rumour" "RumourCustoms$Rumour" "town" "I" ∈ GW := gw 493 rfl rfl
set_option maxRecDepth 20000 in
theorem w_494 : Cond.soleField "RumourCustoms$Rumour" "town" ∈ GW := gw 494 rfl rfl
set_option maxRecDepth 20000 in
theorem w_495 : Cond.lays "RumourCustoms$Rumour" "RumourCustoms$Rumour" "bagOf" "I" ∈ GW := gw 495 rfl rfl
set_option maxRecDepth 20000 in
theorem w_496 : Cond.soleField "RumourCustoms$Rumour" "bagOf" ∈ GW := gw 496 rfl rfl
set_option maxRecDepth 20000 in
theorem w_497 : Cond.lays "RumourCustoms$Rumour" "RumourCustoms$Rumour" "isHidden" "Z" ∈ GW := gw 497 rfl rfl
set_option maxRecDepth 20000 in
theorem w_498 : Cond.soleField "RumourCustoms$Rumour" "isHidden" ∈ GW := gw 498 rfl rfl
set_option maxRecDepth 20000 in
theorem w_499 : Cond.superclass "RumourCustoms$Rumour" "java/lang/Object" ∈ GW := gw 499 rfl rfl
set_option maxRecDepth 20000 in
theorem w_500 : Cond.methodLink "RumourCustoms" 96 yJx4a65c_add_9ea2d ∈ GW := gw 500 rfl rfl
set_option maxRecDepth 20000 in
theorem w_501 : Cond.instanceMethod yJx4a65c_add_9ea2d ∈ GW := gw 501 rfl rfl
set_option maxRecDepth 20000 in
theorem w_502 : Cond.selects "java/util/ArrayList" yJx4a65c_add_9ea2d yJx4a65c_add_9ea2d ∈ GW := gw 502 rfl rfl
set_option maxRecDepth 20000 in
theorem w_503 : Cond.code yJx4a65c_add_9ea2d cJx4a65c_add_9ea2d 2 (some .boolean) ∈ GW := gw 503 rfl rfl
set_option maxRecDepth 20000 in
theorem w_504 : Cond.methodLink "java/util/ArrayList" 131 yJx4a65c_add_72be8 ∈ GW := gw 504 rfl rfl
set_option maxRecDepth 20000 in
theorem w_506 : Cond.instanceMethod yJx4a65c_add_72be8 ∈ GW := gw 506 rfl rfl
set_option maxRecDepth 20000 in
theorem w_507 : Cond.code yJx4a65c_add_72be8 cJx4a65c_add_72be8 4 none ∈ GW := gw 507 rfl rfl
set_option maxRecDepth 20000 in
theorem w_508 : Cond.methodLink "java/util/ArrayList" 129 yJx4a65c_grow_d5877 ∈ GW := gw 508 rfl rfl
set_option maxRecDepth 20000 in
theorem w_510 : Cond.instanceMethod yJx4a65c_grow_d5877 ∈ GW := gw 510 rfl rfl
set_option maxRecDepth 20000 in
theorem w_511 : Cond.code yJx4a65c_grow_d5877 cJx4a65c_grow_d5877 1 (some (.array (.object "java/lang/Object"))) ∈ GW := gw 511 rfl rfl
set_option maxRecDepth 20000 in
theorem w_512 : Cond.methodLink "java/util/ArrayList" 69 yJx4a65c_grow_92f84 ∈ GW := gw 512 rfl rfl
set_option maxRecDepth 20000 in
theorem w_514 : Cond.instanceMethod yJx4a65c_grow_92f84 ∈ GW := gw 514 rfl rfl
set_option maxRecDepth 20000 in
theorem w_515 : Cond.code yJx4a65c_grow_92f84 cJx4a65c_grow_92f84 4 (some (.array (.object "java/lang/Object"))) ∈ GW := gw 515 rfl rfl
set_option maxRecDepth 20000 in
theorem w_516 : Cond.methodLink "java/util/ArrayList" 73 yJ8_newLength_cabcc ∈ GW := gw 516 rfl rfl
set_option maxRecDepth 20000 in
theorem w_517 : Cond.static yJ8_newLength_cabcc ∈ GW := gw 517 rfl rfl
set_option maxRecDepth 20000 in
theorem w_518 : Cond.code yJ8_newLength_cabcc cJ8_newLength_cabcc 4 (some .int) ∈ GW := gw 518 rfl rfl
set_option maxRecDepth 20000 in
theorem w_519 : Cond.methodLink "jdk/internal/util/ArraysSupport" 194 yJ9_max_7cf53 ∈ GW := gw 519 rfl rfl
set_option maxRecDepth 20000 in
theorem w_520 : Cond.static yJ9_max_7cf53 ∈ GW := gw 520 rfl rfl
set_option maxRecDepth 20000 in
theorem w_521 : Cond.code yJ9_max_7cf53 cJ9_max_7cf53 2 (some .int) ∈ GW := gw 521 rfl rfl
set_option maxRecDepth 20000 in
theorem w_522 : Cond.constant "jdk/internal/util/ArraysSupport" 200 (2147483639 : Int32) ∈ GW := gw 522 rfl rfl
set_option maxRecDepth 20000 in
theorem w_523 : Cond.methodLink "jdk/internal/util/ArraysSupport" 201 yJ8_hugeLength_7cf53 ∈ GW := gw 523 rfl rfl
set_option maxRecDepth 20000 in
theorem w_524 : Cond.static yJ8_hugeLength_7cf53 ∈ GW := gw 524 rfl rfl
set_option maxRecDepth 20000 in
theorem w_525 : Cond.code yJ8_hugeLength_7cf53 cJ8_hugeLength_7cf53 3 (some .int) ∈ GW := gw 525 rfl rfl
set_option maxRecDepth 20000 in
theorem w_526 : Cond.methodLink "java/util/ArrayList" 66 yJ7_copyOf_1904c ∈ GW := gw 526 rfl rfl
set_option maxRecDepth 20000 in
theorem w_527 : Cond.static yJ7_copyOf_1904c ∈ GW := gw 527 rfl rfl
set_option maxRecDepth 20000 in
theorem w_528 : Cond.code yJ7_copyOf_1904c cJ7_copyOf_1904c 2 (some (.array (.object "java/lang/Object"))) ∈ GW := gw 528 rfl rfl
set_option maxRecDepth 20000 in
theorem w_529 : Cond.methodLink "java/util/Arrays" 86 ⟨"java/lang/Object", "getClass", "()Ljava/lang/Class;"⟩ ∈ GW := gw 529 rfl rfl
set_option maxRecDepth 20000 in
theorem w_530 : Cond.instanceMethod ⟨"java/lang/Object", "getClass", "()Ljava/lang/Class;"⟩ ∈ GW := gw 530 rfl rfl
set_option maxRecDepth 20000 in
theorem w_531 : Cond.sameMethod "java/lang/Object" "java/lang/Object" "getClass" "()Ljava/lang/Class;" ∈ GW := gw 531 rfl rfl
set_option maxRecDepth 20000 in
theorem w_532 : Cond.selects "RumourCustoms" ⟨"java/lang/Object", "getClass", "()Ljava/lang/Class;"⟩ ⟨"java/lang/Object", "getClass", "()Ljava/lang/Class;"⟩ ∈ GW := gw 532 rfl rfl
set_option maxRecDepth 20000 in
theorem w_533 : Cond.selects "RumourCustoms$Carrier" ⟨"java/lang/Object", "getClass", "()Ljava/lang/Class;"⟩ ⟨"java/lang/Object", "getClass", "()Ljava/lang/Class;"⟩ ∈ GW := gw 533 rfl rfl
set_option maxRecDepth 20000 in
theorem w_534 : Cond.selects "RumourCustoms$Road" ⟨"java/lang/Object", "getClass", "()Ljava/lang/Class;"⟩ ⟨"java/lang/Object", "getClass", "()Ljava/lang/Class;"⟩ ∈ GW := gw 534 rfl rfl
set_option maxRecDepth 20000 in
theorem w_535 : Cond.selects "RumourCustoms$RoadMap" ⟨"java/lang/Object", "getClass", "()Ljava/lang/Class;"⟩ ⟨"java/lang/Object", "getClass", "()Ljava/lang/Class;"⟩ ∈ GW := gw 535 rfl rfl
set_option maxRecDepth 20000 in
theorem w_536 : Cond.selects "RumourCustoms$Rumour" ⟨"java/lang/Object", "getClass", "()Ljava/lang/Class;"⟩ ⟨"java/lang/Object", "getClass", "()Ljava/lang/Class;"⟩ ∈ GW := gw 536 rfl rfl
set_option maxRecDepth 20000 in
theorem w_537 : Cond.selects "RumourCustoms$WaySearch" ⟨"java/lang/Object", "getClass", "()Ljava/lang/Class;"⟩ ⟨"java/lang/Object", "getClass", "()Ljava/lang/Class;"⟩ ∈ GW := gw 537 rfl rfl
set_option maxRecDepth 20000 in
theorem w_538 : Cond.selects "RumourCustomsModel" ⟨"java/lang/Object", "getClass", "()Ljava/lang/Class;"⟩ ⟨"java/lang/Object", "getClass", "()Ljava/lang/Class;"⟩ ∈ GW := gw 538 rfl rfl
set_option maxRecDepth 20000 in
theorem w_539 : Cond.selects "java/lang/IllegalArgumentException" ⟨"java/lang/Object", "getClass", "()Ljava/lang/Class;"⟩ ⟨"java/lang/Object", "getClass", "()Ljava/lang/Class;"⟩ ∈ GW := gw 539 rfl rfl
set_option maxRecDepth 20000 in
theorem w_540 : Cond.selects "java/lang/IllegalStateException" ⟨"java/lang/Object", "getClass", "()Ljava/lang/Class;"⟩ ⟨"java/lang/Object", "getClass", "()Ljava/lang/Class;"⟩ ∈ GW := gw 540 rfl rfl
set_option maxRecDepth 20000 in
theorem w_541 : Cond.selects "java/lang/IndexOutOfBoundsException" ⟨"java/lang/Object", "getClass", "()Ljava/lang/Class;"⟩ ⟨"java/lang/Object", "getClass", "()Ljava/lang/Class;"⟩ ∈ GW := gw 541 rfl rfl
set_option maxRecDepth 20000 in
theorem w_542 : Cond.selects "java/util/ArrayList" ⟨"java/lang/Object", "getClass", "()Ljava/lang/Class;"⟩ ⟨"java/lang/Object", "getClass", "()Ljava/lang/Class;"⟩ ∈ GW := gw 542 rfl rfl
set_option maxRecDepth 20000 in
theorem w_543 : Cond.native ⟨"java/lang/Object", "getClass", "()Ljava/lang/Class;"⟩ ∈ GW := gw 543 rfl rfl
set_option maxRecDepth 20000 in
theorem w_544 : Cond.methodLink "java/util/Arrays" 300 yJ7_copyOf_6403c ∈ GW := gw 544 rfl rfl
set_option maxRecDepth 20000 in
theorem w_545 : Cond.static yJ7_copyOf_6403c ∈ GW := gw 545 rfl rfl
set_option maxRecDepth 20000 in
theorem w_546 : Cond.code yJ7_copyOf_6403c cJ7_copyOf_6403c 4 (some (.array (.object "java/lang/Object"))) ∈ GW := gw 546 rfl rfl
set_option maxRecDepth 20000 in
theorem w_547 : Cond.classLink "java/util/Arrays" 110 "[Ljava/lang/Object;" ∈ GW := gw 547 rfl rfl
set_option maxRecDepth 20000 in
theorem w_549 : Cond.classLink "java/util/Arrays" 2 "java/lang/Object" ∈ GW := gw 549 rfl rfl
set_option maxRecDepth 20000 in
theorem w_550 : Cond.methodLink "java/util/Arrays" 304 yJ9_min_7cf53 ∈ GW := gw 550 rfl rfl
set_option maxRecDepth 20000 in
theorem w_551 : Cond.static yJ9_min_7cf53 ∈ GW := gw 551 rfl rfl
set_option maxRecDepth 20000 in
theorem w_552 : Cond.code yJ9_min_7cf53 cJ9_min_7cf53 2 (some .int) ∈ GW := gw 552 rfl rfl
set_option maxRecDepth 20000 in
theorem w_553 : Cond.methodLink "java/util/Arrays" 150 ⟨"java/lang/System", "arraycopy", "(Ljava/lang/Object;ILjava/lang/Object;II)V"⟩ ∈ GW := gw 553 rfl rfl
set_option maxRecDepth 20000 in
theorem w_554 : Cond.static ⟨"java/lang/System", "arraycopy", "(Ljava/lang/Object;ILjava/lang/Object;II)V"⟩ ∈ GW := gw 554 rfl rfl
set_option maxRecDepth 20000 in
theorem w_555 : Cond.native ⟨"java/lang/System", "arraycopy", "(Ljava/lang/Object;ILjava/lang/Object;II)V"⟩ ∈ GW := gw 555 rfl rfl
set_option maxRecDepth 20000 in
theorem w_556 : Cond.methodLink "java/util/ArrayList" 79 yJ9_max_7cf53 ∈ GW := gw 556 rfl rfl
set_option maxRecDepth 20000 in
theorem w_557 : Cond.classLink "java/util/ArrayList" 7 "java/lang/Object" ∈ GW := gw 557 rfl rfl
set_option maxRecDepth 20000 in
theorem w_558 : Cond.methodLink "RumourCustomsLaw" 103 yL_rumour ∈ GW := gw 558 rfl rfl
set_option maxRecDepth 20000 in
theorem w_559 : Cond.static yL_rumour ∈ GW := gw 559 rfl rfl
set_option maxRecDepth 20000 in
theorem w_560 : Cond.codeWith yL_rumour cL_rumour 5 (some .int) [(0, 10, 13, 19)] ∈ GW := gw 560 rfl rfl
set_option maxRecDepth 20000 in
theorem w_561 : Cond.methodLink "RumourCustomsLaw" 30 yX5_rumour ∈ GW := gw 561 rfl rfl
set_option maxRecDepth 20000 in
theorem w_562 : Cond.instanceMethod yX5_rumour ∈ GW := gw 562 rfl rfl
set_option maxRecDepth 20000 in
theorem w_563 : Cond.selects "RumourCustoms" yX5_rumour yX5_rumour ∈ GW := gw 563 rfl rfl
set_option maxRecDepth 20000 in
theorem w_564 : Cond.code yX5_rumour cX5_rumour 4 (some .int) ∈ GW := gw 564 rfl rfl
set_option maxRecDepth 20000 in
theorem w_565 : Cond.methodLink "RumourCustoms" 100 yX5_rumourAt ∈ GW := gw 565 rfl rfl
set_option maxRecDepth 20000 in
theorem w_567 : Cond.instanceMethod yX5_rumourAt ∈ GW := gw 567 rfl rfl
set_option maxRecDepth 20000 in
theorem w_568 : Cond.code yX5_rumourAt cX5_rumourAt 2 (some (.object "RumourCustoms$Rumour")) ∈ GW := gw 568 rfl rfl
set_option maxRecDepth 20000 in
theorem w_570 : Cond.methodLink "RumourCustomsLaw" 107 yL_town ∈ GW := gw 570 rfl rfl
set_option maxRecDepth 20000 in
theorem w_571 : Cond.static yL_town ∈ GW := gw 571 rfl rfl
set_option maxRecDepth 20000 in
theorem w_572 : Cond.codeWith yL_town cL_town 5 (some .int) [(0, 10, 13, 19)] ∈ GW := gw 572 rfl rfl
set_option maxRecDepth 20000 in
theorem w_573 : Cond.methodLink "RumourCustomsLaw" 34 yX5_town ∈ GW := gw 573 rfl rfl
set_option maxRecDepth 20000 in
theorem w_574 : Cond.instanceMethod yX5_town ∈ GW := gw 574 rfl rfl
set_option maxRecDepth 20000 in
theorem w_575 : Cond.selects "RumourCustoms" yX5_town yX5_town ∈ GW := gw 575 rfl rfl
set_option maxRecDepth 20000 in
theorem w_576 : Cond.code yX5_town cX5_town 3 (some .int) ∈ GW := gw 576 rfl rfl
set_option maxRecDepth 20000 in
theorem w_577 : Cond.methodLink "RumourCustoms" 105 yX5_rumoursIn ∈ GW := gw 577 rfl rfl
set_option maxRecDepth 20000 in
theorem w_579 : Cond.instanceMethod yX5_rumoursIn ∈ GW := gw 579 rfl rfl
set_option maxRecDepth 20000 in
theorem w_580 : Cond.code yX5_rumoursIn cX5_rumoursIn 4 (some .int) ∈ GW := gw 580 rfl rfl
set_option maxRecDepth 20000 in
theorem w_581 : Cond.methodLink "RumourCustoms" 108 yX5_familiesIn ∈ GW := gw 581 rfl rfl
set_option maxRecDepth 20000 in
theorem w_583 : Cond.instanceMethod yX5_familiesIn ∈ GW := gw 583 rfl rfl
set_option maxRecDepth 20000 in
theorem w_584 : Cond.code yX5_familiesIn cX5_familiesIn 6 (some .int) ∈ GW := gw 584 rfl rfl
set_option maxRecDepth 20000 in
theorem w_585 : Cond.methodLink "RumourCustoms" 290 yJ13_bitCount_95d88 ∈ GW := gw 585 rfl rfl
set_option maxRecDepth 20000 in
theorem w_586 : Cond.static yJ13_bitCount_95d88 ∈ GW := gw 586 rfl rfl
set_option maxRecDepth 20000 in
theorem w_587 : Cond.code yJ13_bitCount_95d88 cJ13_bitCount_95d88 2 (some .int) ∈ GW := gw 587 rfl rfl
set_option maxRecDepth 20000 in
theorem w_588 : Cond.constantLong "java/lang/Long" 314 (6148914691236517205 : Int64) ∈ GW := gw 588 rfl rfl
set_option maxRecDepth 20000 in
theorem w_589 : Cond.constantLong "java/lang/Long" 316 (3689348814741910323 : Int64) ∈ GW := gw 589 rfl rfl
set_option maxRecDepth 20000 in
theorem w_590 : Cond.constantLong "java/lang/Long" 318 (1085102592571150095 : Int64) ∈ GW := gw 590 rfl rfl
set_option maxRecDepth 20000 in
theorem w_591 : Cond.methodLink "RumourCustoms" 111 yX5_deepestIn ∈ GW := gw 591 rfl rfl
set_option maxRecDepth 20000 in
theorem w_593 : Cond.instanceMethod yX5_deepestIn ∈ GW := gw 593 rfl rfl
set_option maxRecDepth 20000 in
theorem w_594 : Cond.code yX5_deepestIn cX5_deepestIn 6 (some .int) ∈ GW := gw 594 rfl rfl
set_option maxRecDepth 20000 in
theorem w_595 : Cond.methodLink "RumourCustoms" 114 yX5_carriersIn ∈ GW := gw 595 rfl rfl
set_option maxRecDepth 20000 in
theorem w_597 : Cond.instanceMethod yX5_carriersIn ∈ GW := gw 597 rfl rfl
set_option maxRecDepth 20000 in
theorem w_598 : Cond.code yX5_carriersIn cX5_carriersIn 5 (some .int) ∈ GW := gw 598 rfl rfl
set_option maxRecDepth 20000 in
theorem w_599 : Cond.methodLink "RumourCustomsLaw" 110 yL_heard ∈ GW := gw 599 rfl rfl
set_option maxRecDepth 20000 in
theorem w_600 : Cond.static yL_heard ∈ GW := gw 600 rfl rfl
set_option maxRecDepth 20000 in
theorem w_601 : Cond.codeWith yL_heard cL_heard 5 (some .int) [(0, 10, 13, 19)] ∈ GW := gw 601 rfl rfl
set_option maxRecDepth 20000 in
theorem w_602 : Cond.methodLink "RumourCustomsLaw" 37 yX5_heard ∈ GW := gw 602 rfl rfl
set_option maxRecDepth 20000 in
theorem w_603 : Cond.instanceMethod yX5_heard ∈ GW := gw 603 rfl rfl
set_option maxRecDepth 20000 in
theorem w_604 : Cond.selects "RumourCustoms" yX5_heard yX5_heard ∈ GW := gw 604 rfl rfl
set_option maxRecDepth 20000 in
theorem w_605 : Cond.code yX5_heard cX5_heard 4 (some .int) ∈ GW := gw 605 rfl rfl
set_option maxRecDepth 20000 in
theorem w_606 : Cond.methodLink "RumourCustoms" 120 yX5_leastDeepIn ∈ GW := gw 606 rfl rfl
set_option maxRecDepth 20000 in
theorem w_608 : Cond.instanceMethod yX5_leastDeepIn ∈ GW := gw 608 rfl rfl
set_option maxRecDepth 20000 in
theorem w_609 : Cond.code yX5_leastDeepIn cX5_leastDeepIn 6 (some (.object "RumourCustoms$Rumour")) ∈ GW := gw 609 rfl rfl
set_option maxRecDepth 20000 in
theorem w_610 : Cond.methodLink "RumourCustomsLaw" 113 yL_addCarrier ∈ GW := gw 610 rfl rfl
set_option maxRecDepth 20000 in
theorem w_611 : Cond.static yL_addCarrier ∈ GW := gw 611 rfl rfl
set_option maxRecDepth 20000 in
theorem w_612 : Cond.codeWith yL_addCarrier cL_addCarrier 5 (some .int) [(0, 10, 13, 19), (0, 10, 17, 21), (0, 10, 21, 13)] ∈ GW := gw 612 rfl rfl
set_option maxRecDepth 20000 in
theorem w_613 : Cond.methodLink "RumourCustomsLaw" 40 yX5_addCarrier ∈ GW := gw 613 rfl rfl
set_option maxRecDepth 20000 in
theorem w_614 : Cond.instanceMethod yX5_addCarrier ∈ GW := gw 614 rfl rfl
set_option maxRecDepth 20000 in
theorem w_615 : Cond.selects "RumourCustoms" yX5_addCarrier yX5_addCarrier ∈ GW := gw 615 rfl rfl
set_option maxRecDepth 20000 in
theorem w_616 : Cond.code yX5_addCarrier cX5_addCarrier 4 (some .int) ∈ GW := gw 616 rfl rfl
set_option maxRecDepth 20000 in
theorem w_617 : Cond.constant "RumourCustoms" 127 (1000000 : Int32) ∈ GW := gw 617 rfl rfl
set_option maxRecDepth 20000 in
theorem w_619 : Cond.instantiable "RumourCustoms$Carrier" 5 ∈ GW := gw 619 rfl rfl
set_option maxRecDepth 20000 in
theorem w_620 : Cond.methodLink "RumourCustoms" 132 yX0_init ∈ GW := gw 620 rfl rfl
set_option maxRecDepth 20000 in
theorem w_621 : Cond.instanceMethod yX0_init ∈ GW := gw 621 rfl rfl
set_option maxRecDepth 20000 in
theorem w_622 : Cond.code yX0_init cX0_init 4 none ∈ GW := gw 622 rfl rfl
set_option maxRecDepth 20000 in
theorem w_623 : Cond.methodLink "RumourCustoms$Carrier" 1 objectInit ∈ GW := gw 623 rfl rfl
set_option maxRecDepth 20000 in
theorem w_624 : Cond.fieldLink "RumourCustoms$Carrier" 7 "RumourCustoms$Carrier" "number" "I" ∈ GW := gw 624 rfl rfl
set_option maxRecDepth 20000 in
theorem w_625 : Cond.fieldLink "RumourCustoms$Rumour" 33 "RumourCustoms$Carrier" "number" "I" ∈ GW := gw 625 rfl rfl
set_option maxRecDepth 20000 in
theorem w_626 : Cond.fieldLink "RumourCustoms$Carrier" 13 "RumourCustoms$Carrier" "town" "I" ∈ GW := gw 626 rfl rfl
set_option maxRecDepth 20000 in
theorem w_627 : Cond.fieldLink "RumourCustoms" 145 "RumourCustoms$Carrier" "town" "I" ∈ GW := gw 627 rfl rfl
set_option maxRecDepth 20000 in
theorem w_628 : Cond.fieldLink "RumourCustoms$Carrier" 19 "RumourCustoms$Carrier" "hoursLeft" "I" ∈ GW := gw 628 rfl rfl
set_option maxRecDepth 20000 in
theorem w_629 : Cond.fieldLink "RumourCustoms" 354 "RumourCustoms$Carrier" "hoursLeft" "I" ∈ GW := gw 629 rfl rfl
set_option maxRecDepth 20000 in
theorem w_630 : Cond.fieldLink "RumourCustoms$Carrier" 16 "RumourCustoms$Carrier" "purse" "I" ∈ GW := gw 630 rfl rfl
set_option maxRecDepth 20000 in
theorem w_631 : Cond.fieldLink "RumourCustoms" 188 "RumourCustoms$Carrier" "purse" "I" ∈ GW := gw 631 rfl rfl
set_option maxRecDepth 20000 in
theorem w_632 : Cond.fieldLink "RumourCustoms$Carrier" 22 "RumourCustoms$Carrier" "paid" "I" ∈ GW := gw 632 rfl rfl
set_option maxRecDepth 20000 in
theorem w_633 : Cond.fieldLink "RumourCustoms" 357 "RumourCustoms$Carrier" "paid" "I" ∈ GW := gw 633 rfl rfl
set_option maxRecDepth 20000 in
theorem w_634 : Cond.laysFinal "RumourCustoms$Carrier" "RumourCustoms$Carrier" "number" "I" ∈ GW := gw 634 rfl rfl
set_option maxRecDepth 20000 in
theorem w_635 : Cond.soleField "RumourCustoms$Carrier" "number" ∈ GW := gw 635 rfl rfl
set_option maxRecDepth 20000 in
theorem w_636 : Cond.lays "RumourCustoms$Carrier" "RumourCustoms$Carrier" "town" "I" ∈ GW := gw 636 rfl rfl
set_option maxRecDepth 20000 in
theorem w_637 : Cond.soleField "RumourCustoms$Carrier" "town" ∈ GW := gw 637 rfl rfl
set_option maxRecDepth 20000 in
theorem w_638 : Cond.lays "RumourCustoms$Carrier" "RumourCustoms$Carrier" "hoursLeft" "I" ∈ GW := gw 638 rfl rfl
set_option maxRecDepth 20000 in
theorem w_639 : Cond.soleField "RumourCustoms$Carrier" "hoursLeft" ∈ GW := gw 639 rfl rfl
set_option maxRecDepth 20000 in
theorem w_640 : Cond.lays "RumourCustoms$Carrier" "RumourCustoms$Carrier" "purse" "I" ∈ GW := gw 640 rfl rfl
set_option maxRecDepth 20000 in
theorem w_641 : Cond.soleField "RumourCustoms$Carrier" "purse" ∈ GW := gw 641 rfl rfl
set_option maxRecDepth 20000 in
theorem w_642 : Cond.lays "RumourCustoms$Carrier" "RumourCustoms$Carrier" "paid" "I" ∈ GW := gw 642 rfl rfl
set_option maxRecDepth 20000 in
theorem w_643 : Cond.soleField "RumourCustoms$Carrier" "paid" ∈ GW := gw 643 rfl rfl
set_option maxRecDepth 20000 in
theorem w_644 : Cond.superclass "RumourCustoms$Carrier" "java/lang/Object" ∈ GW := gw 644 rfl rfl
set_option maxRecDepth 20000 in
theorem w_645 : Cond.methodLink "RumourCustomsLaw" 116 yL_take ∈ GW := gw 645 rfl rfl
set_option maxRecDepth 20000 in
theorem w_646 : Cond.static yL_take ∈ GW := gw 646 rfl rfl
set_option maxRecDepth 20000 in
theorem w_647 : Cond.codeWith yL_take cL_take 5 (some .int) [(0, 10, 13, 19), (0, 10, 17, 13)] ∈ GW := gw 647 rfl rfl
set_option maxRecDepth 20000 in
theorem w_648 : Cond.methodLink "RumourCustomsLaw" 43 yX5_take ∈ GW := gw 648 rfl rfl
set_option maxRecDepth 20000 in
theorem w_649 : Cond.instanceMethod yX5_take ∈ GW := gw 649 rfl rfl
set_option maxRecDepth 20000 in
theorem w_650 : Cond.selects "RumourCustoms" yX5_take yX5_take ∈ GW := gw 650 rfl rfl
set_option maxRecDepth 20000 in
theorem w_651 : Cond.code yX5_take cX5_take 5 (some .int) ∈ GW := gw 651 rfl rfl
set_option maxRecDepth 20000 in
theorem w_652 : Cond.methodLink "RumourCustoms" 134 yX5_carrierAt ∈ GW := gw 652 rfl rfl
set_option maxRecDepth 20000 in
theorem w_654 : Cond.instanceMethod yX5_carrierAt ∈ GW := gw 654 rfl rfl
set_option maxRecDepth 20000 in
theorem w_655 : Cond.code yX5_carrierAt cX5_carrierAt 2 (some (.object "RumourCustoms$Carrier")) ∈ GW := gw 655 rfl rfl
set_option maxRecDepth 20000 in
theorem w_657 : Cond.methodLink "RumourCustoms" 138 yX5_requireInTown ∈ GW := gw 657 rfl rfl
set_option maxRecDepth 20000 in
theorem w_658 : Cond.static yX5_requireInTown ∈ GW := gw 658 rfl rfl
set_option maxRecDepth 20000 in
theorem w_659 : Cond.code yX5_requireInTown cX5_requireInTown 1 none ∈ GW := gw 659 rfl rfl
set_option maxRecDepth 20000 in
theorem w_663 : Cond.methodLink "RumourCustoms" 154 yX3_putIntoBag ∈ GW := gw 663 rfl rfl
set_option maxRecDepth 20000 in
theorem w_664 : Cond.instanceMethod yX3_putIntoBag ∈ GW := gw 664 rfl rfl
set_option maxRecDepth 20000 in
theorem w_665 : Cond.selects "RumourCustoms$Rumour" yX3_putIntoBag yX3_putIntoBag ∈ GW := gw 665 rfl rfl
set_option maxRecDepth 20000 in
theorem w_666 : Cond.code yX3_putIntoBag cX3_putIntoBag 2 none ∈ GW := gw 666 rfl rfl
set_option maxRecDepth 20000 in
theorem w_667 : Cond.methodLink "RumourCustoms$Rumour" 36 yX3_move ∈ GW := gw 667 rfl rfl
set_option maxRecDepth 20000 in
theorem w_669 : Cond.instanceMethod yX3_move ∈ GW := gw 669 rfl rfl
set_option maxRecDepth 20000 in
theorem w_670 : Cond.code yX3_move cX3_move 3 none ∈ GW := gw 670 rfl rfl
set_option maxRecDepth 20000 in
theorem w_671 : Cond.methodLink "RumourCustomsLaw" 119 yL_leave ∈ GW := gw 671 rfl rfl
set_option maxRecDepth 20000 in
theorem w_672 : Cond.static yL_leave ∈ GW := gw 672 rfl rfl
set_option maxRecDepth 20000 in
theorem w_673 : Cond.codeWith yL_leave cL_leave 5 (some .int) [(0, 10, 13, 19), (0, 10, 17, 13)] ∈ GW := gw 673 rfl rfl
set_option maxRecDepth 20000 in
theorem w_674 : Cond.methodLink "RumourCustomsLaw" 46 yX5_leave ∈ GW := gw 674 rfl rfl
set_option maxRecDepth 20000 in
theorem w_675 : Cond.instanceMethod yX5_leave ∈ GW := gw 675 rfl rfl
set_option maxRecDepth 20000 in
theorem w_676 : Cond.selects "RumourCustoms" yX5_leave yX5_leave ∈ GW := gw 676 rfl rfl
set_option maxRecDepth 20000 in
theorem w_677 : Cond.code yX5_leave cX5_leave 5 (some .int) ∈ GW := gw 677 rfl rfl
set_option maxRecDepth 20000 in
theorem w_678 : Cond.methodLink "RumourCustoms" 157 yX5_requireHas ∈ GW := gw 678 rfl rfl
set_option maxRecDepth 20000 in
theorem w_679 : Cond.static yX5_requireHas ∈ GW := gw 679 rfl rfl
set_option maxRecDepth 20000 in
theorem w_680 : Cond.code yX5_requireHas cX5_requireHas 2 none ∈ GW := gw 680 rfl rfl
set_option maxRecDepth 20000 in
theorem w_682 : Cond.methodLink "RumourCustoms" 161 yX3_putIntoTown ∈ GW := gw 682 rfl rfl
set_option maxRecDepth 20000 in
theorem w_683 : Cond.instanceMethod yX3_putIntoTown ∈ GW := gw 683 rfl rfl
set_option maxRecDepth 20000 in
theorem w_684 : Cond.selects "RumourCustoms$Rumour" yX3_putIntoTown yX3_putIntoTown ∈ GW := gw 684 rfl rfl
set_option maxRecDepth 20000 in
theorem w_685 : Cond.code yX3_putIntoTown cX3_putIntoTown 2 none ∈ GW := gw 685 rfl rfl
set_option maxRecDepth 20000 in
theorem w_686 : Cond.methodLink "RumourCustomsLaw" 122 yL_hide ∈ GW := gw 686 rfl rfl
set_option maxRecDepth 20000 in
theorem w_687 : Cond.static yL_hide ∈ GW := gw 687 rfl rfl
set_option maxRecDepth 20000 in
theorem w_688 : Cond.codeWith yL_hide cL_hide 6 (some .int) [(0, 12, 15, 19), (0, 12, 19, 13)] ∈ GW := gw 688 rfl rfl
set_option maxRecDepth 20000 in
theorem w_689 : Cond.methodLink "RumourCustomsLaw" 49 yX5_hide ∈ GW := gw 689 rfl rfl
set_option maxRecDepth 20000 in
theorem w_690 : Cond.instanceMethod yX5_hide ∈ GW := gw 690 rfl rfl
set_option maxRecDepth 20000 in
theorem w_691 : Cond.selects "RumourCustoms" yX5_hide yX5_hide ∈ GW := gw 691 rfl rfl
set_option maxRecDepth 20000 in
theorem w_692 : Cond.code yX5_hide cX5_hide 6 (some .int) ∈ GW := gw 692 rfl rfl
set_option maxRecDepth 20000 in
theorem w_693 : Cond.methodLink "RumourCustomsLaw" 126 yL_tell ∈ GW := gw 693 rfl rfl
set_option maxRecDepth 20000 in
theorem w_694 : Cond.static yL_tell ∈ GW := gw 694 rfl rfl
set_option maxRecDepth 20000 in
theorem w_695 : Cond.codeWith yL_tell cL_tell 5 (some .int) [(0, 10, 13, 19), (0, 10, 17, 13)] ∈ GW := gw 695 rfl rfl
set_option maxRecDepth 20000 in
theorem w_696 : Cond.methodLink "RumourCustomsLaw" 53 yX5_tell ∈ GW := gw 696 rfl rfl
set_option maxRecDepth 20000 in
theorem w_697 : Cond.instanceMethod yX5_tell ∈ GW := gw 697 rfl rfl
set_option maxRecDepth 20000 in
theorem w_698 : Cond.selects "RumourCustoms" yX5_tell yX5_tell ∈ GW := gw 698 rfl rfl
set_option maxRecDepth 20000 in
theorem w_699 : Cond.code yX5_tell cX5_tell 8 (some .int) ∈ GW := gw 699 rfl rfl
set_option maxRecDepth 20000 in
theorem w_701 : Cond.methodLink "RumourCustomsLaw" 129 yL_go ∈ GW := gw 701 rfl rfl
set_option maxRecDepth 20000 in
theorem w_702 : Cond.static yL_go ∈ GW := gw 702 rfl rfl
set_option maxRecDepth 20000 in
theorem w_703 : Cond.codeWith yL_go cL_go 6 (some .int) [(0, 12, 15, 19), (0, 12, 19, 21), (0, 12, 23, 13)] ∈ GW := gw 703 rfl rfl
set_option maxRecDepth 20000 in
theorem w_704 : Cond.methodLink "RumourCustomsLaw" 56 yX5_go ∈ GW := gw 704 rfl rfl
set_option maxRecDepth 20000 in
theorem w_705 : Cond.instanceMethod yX5_go ∈ GW := gw 705 rfl rfl
set_option maxRecDepth 20000 in
theorem w_706 : Cond.selects "RumourCustoms" yX5_go yX5_go ∈ GW := gw 706 rfl rfl
set_option maxRecDepth 20000 in
theorem w_707 : Cond.code yX5_go cX5_go 8 (some .int) ∈ GW := gw 707 rfl rfl
set_option maxRecDepth 20000 in
theorem w_709 : Cond.methodLink "RumourCustoms" 184 yX5_owedBy ∈ GW := gw 709 rfl rfl
set_option maxRecDepth 20000 in
theorem w_711 : Cond.instanceMethod yX5_owedBy ∈ GW := gw 711 rfl rfl
set_option maxRecDepth 20000 in
theorem w_712 : Cond.code yX5_owedBy cX5_owedBy 7 (some .int) ∈ GW := gw 712 rfl rfl
set_option maxRecDepth 20000 in
theorem w_713 : Cond.methodLink "RumourCustoms" 299 yX3_isShownBy ∈ GW := gw 713 rfl rfl
set_option maxRecDepth 20000 in
theorem w_714 : Cond.instanceMethod yX3_isShownBy ∈ GW := gw 714 rfl rfl
set_option maxRecDepth 20000 in
theorem w_715 : Cond.selects "RumourCustoms$Rumour" yX3_isShownBy yX3_isShownBy ∈ GW := gw 715 rfl rfl
set_option maxRecDepth 20000 in
theorem w_716 : Cond.code yX3_isShownBy cX3_isShownBy 2 (some .boolean) ∈ GW := gw 716 rfl rfl
set_option maxRecDepth 20000 in
theorem w_717 : Cond.methodLink "RumourCustoms" 302 yX3_burnable ∈ GW := gw 717 rfl rfl
set_option maxRecDepth 20000 in
theorem w_718 : Cond.instanceMethod yX3_burnable ∈ GW := gw 718 rfl rfl
set_option maxRecDepth 20000 in
theorem w_719 : Cond.selects "RumourCustoms$Rumour" yX3_burnable yX3_burnable ∈ GW := gw 719 rfl rfl
set_option maxRecDepth 20000 in
theorem w_720 : Cond.code yX3_burnable cX3_burnable 2 (some .int) ∈ GW := gw 720 rfl rfl
set_option maxRecDepth 20000 in
theorem w_721 : Cond.methodLink "RumourCustoms$Rumour" 48 yJ9_min_7cf53 ∈ GW := gw 721 rfl rfl
set_option maxRecDepth 20000 in
theorem w_722 : Cond.methodLink "RumourCustoms" 305 yX1_dutyOf ∈ GW := gw 722 rfl rfl
set_option maxRecDepth 20000 in
theorem w_723 : Cond.instanceMethod yX1_dutyOf ∈ GW := gw 723 rfl rfl
set_option maxRecDepth 20000 in
theorem w_724 : Cond.selects "RumourCustoms$Road" yX1_dutyOf yX1_dutyOf ∈ GW := gw 724 rfl rfl
set_option maxRecDepth 20000 in
theorem w_725 : Cond.code yX1_dutyOf cX1_dutyOf 3 (some .int) ∈ GW := gw 725 rfl rfl
set_option maxRecDepth 20000 in
theorem w_727 : Cond.methodLink "RumourCustoms" 193 yX5_fineOf ∈ GW := gw 727 rfl rfl
set_option maxRecDepth 20000 in
theorem w_729 : Cond.instanceMethod yX5_fineOf ∈ GW := gw 729 rfl rfl
set_option maxRecDepth 20000 in
theorem w_730 : Cond.code yX5_fineOf cX5_fineOf 7 (some .int) ∈ GW := gw 730 rfl rfl
set_option maxRecDepth 20000 in
theorem w_731 : Cond.methodLink "RumourCustoms" 309 yX1_attentionBehind ∈ GW := gw 731 rfl rfl
set_option maxRecDepth 20000 in
theorem w_732 : Cond.instanceMethod yX1_attentionBehind ∈ GW := gw 732 rfl rfl
set_option maxRecDepth 20000 in
theorem w_733 : Cond.selects "RumourCustoms$Road" yX1_attentionBehind yX1_attentionBehind ∈ GW := gw 733 rfl rfl
set_option maxRecDepth 20000 in
theorem w_734 : Cond.code yX1_attentionBehind cX1_attentionBehind 2 (some .int) ∈ GW := gw 734 rfl rfl
set_option maxRecDepth 20000 in
theorem w_735 : Cond.methodLink "RumourCustoms" 312 yJ9_min_7cf53 ∈ GW := gw 735 rfl rfl
set_option maxRecDepth 20000 in
theorem w_736 : Cond.methodLink "RumourCustoms" 318 yJ9_max_7cf53 ∈ GW := gw 736 rfl rfl
set_option maxRecDepth 20000 in
theorem w_737 : Cond.methodLink "RumourCustoms" 196 yX5_burnProofs ∈ GW := gw 737 rfl rfl
set_option maxRecDepth 20000 in
theorem w_739 : Cond.instanceMethod yX5_burnProofs ∈ GW := gw 739 rfl rfl
set_option maxRecDepth 20000 in
theorem w_740 : Cond.code yX5_burnProofs cX5_burnProofs 6 none ∈ GW := gw 740 rfl rfl
set_option maxRecDepth 20000 in
theorem w_741 : Cond.methodLink "RumourCustoms" 200 yX5_inspect ∈ GW := gw 741 rfl rfl
set_option maxRecDepth 20000 in
theorem w_743 : Cond.instanceMethod yX5_inspect ∈ GW := gw 743 rfl rfl
set_option maxRecDepth 20000 in
theorem w_744 : Cond.code yX5_inspect cX5_inspect 3 none ∈ GW := gw 744 rfl rfl
set_option maxRecDepth 20000 in
theorem w_745 : Cond.methodLink "RumourCustoms" 330 yX5_takeHidden ∈ GW := gw 745 rfl rfl
set_option maxRecDepth 20000 in
theorem w_747 : Cond.instanceMethod yX5_takeHidden ∈ GW := gw 747 rfl rfl
set_option maxRecDepth 20000 in
theorem w_748 : Cond.code yX5_takeHidden cX5_takeHidden 4 none ∈ GW := gw 748 rfl rfl
set_option maxRecDepth 20000 in
theorem w_749 : Cond.methodLink "RumourCustoms" 333 yX3_vanish ∈ GW := gw 749 rfl rfl
set_option maxRecDepth 20000 in
theorem w_750 : Cond.instanceMethod yX3_vanish ∈ GW := gw 750 rfl rfl
set_option maxRecDepth 20000 in
theorem w_751 : Cond.selects "RumourCustoms$Rumour" yX3_vanish yX3_vanish ∈ GW := gw 751 rfl rfl
set_option maxRecDepth 20000 in
theorem w_752 : Cond.code yX3_vanish cX3_vanish 1 none ∈ GW := gw 752 rfl rfl
set_option maxRecDepth 20000 in
theorem w_753 : Cond.methodLink "RumourCustoms" 204 yX5_pay ∈ GW := gw 753 rfl rfl
set_option maxRecDepth 20000 in
theorem w_755 : Cond.instanceMethod yX5_pay ∈ GW := gw 755 rfl rfl
set_option maxRecDepth 20000 in
theorem w_756 : Cond.code yX5_pay cX5_pay 5 none ∈ GW := gw 756 rfl rfl
set_option maxRecDepth 20000 in
theorem w_757 : Cond.methodLink "RumourCustoms" 336 yX0_pay ∈ GW := gw 757 rfl rfl
set_option maxRecDepth 20000 in
theorem w_758 : Cond.instanceMethod yX0_pay ∈ GW := gw 758 rfl rfl
set_option maxRecDepth 20000 in
theorem w_759 : Cond.selects "RumourCustoms$Carrier" yX0_pay yX0_pay ∈ GW := gw 759 rfl rfl
set_option maxRecDepth 20000 in
theorem w_760 : Cond.code yX0_pay cX0_pay 2 none ∈ GW := gw 760 rfl rfl
set_option maxRecDepth 20000 in
theorem w_761 : Cond.methodLink "RumourCustoms" 211 yX0_setOut ∈ GW := gw 761 rfl rfl
set_option maxRecDepth 20000 in
theorem w_762 : Cond.instanceMethod yX0_setOut ∈ GW := gw 762 rfl rfl
set_option maxRecDepth 20000 in
theorem w_763 : Cond.selects "RumourCustoms$Carrier" yX0_setOut yX0_setOut ∈ GW := gw 763 rfl rfl
set_option maxRecDepth 20000 in
theorem w_764 : Cond.code yX0_setOut cX0_setOut 3 none ∈ GW := gw 764 rfl rfl
set_option maxRecDepth 20000 in
theorem w_765 : Cond.methodLink "RumourCustomsLaw" 132 yL_carrier ∈ GW := gw 765 rfl rfl
set_option maxRecDepth 20000 in
theorem w_766 : Cond.static yL_carrier ∈ GW := gw 766 rfl rfl
set_option maxRecDepth 20000 in
theorem w_767 : Cond.codeWith yL_carrier cL_carrier 5 (some .int) [(0, 10, 13, 19)] ∈ GW := gw 767 rfl rfl
set_option maxRecDepth 20000 in
theorem w_768 : Cond.methodLink "RumourCustomsLaw" 59 yX5_carrier ∈ GW := gw 768 rfl rfl
set_option maxRecDepth 20000 in
theorem w_769 : Cond.instanceMethod yX5_carrier ∈ GW := gw 769 rfl rfl
set_option maxRecDepth 20000 in
theorem w_770 : Cond.selects "RumourCustoms" yX5_carrier yX5_carrier ∈ GW := gw 770 rfl rfl
set_option maxRecDepth 20000 in
theorem w_771 : Cond.code yX5_carrier cX5_carrier 4 (some .int) ∈ GW := gw 771 rfl rfl
set_option maxRecDepth 20000 in
theorem w_772 : Cond.methodLink "RumourCustomsLaw" 135 yL_wouldPay ∈ GW := gw 772 rfl rfl
set_option maxRecDepth 20000 in
theorem w_773 : Cond.static yL_wouldPay ∈ GW := gw 773 rfl rfl
set_option maxRecDepth 20000 in
theorem w_774 : Cond.codeWith yL_wouldPay cL_wouldPay 6 (some .int) [(0, 12, 15, 19), (0, 12, 19, 21), (0, 12, 23, 13)] ∈ GW := gw 774 rfl rfl
set_option maxRecDepth 20000 in
theorem w_775 : Cond.methodLink "RumourCustomsLaw" 62 yX5_wouldPay ∈ GW := gw 775 rfl rfl
set_option maxRecDepth 20000 in
theorem w_776 : Cond.instanceMethod yX5_wouldPay ∈ GW := gw 776 rfl rfl
set_option maxRecDepth 20000 in
theorem w_777 : Cond.selects "RumourCustoms" yX5_wouldPay yX5_wouldPay ∈ GW := gw 777 rfl rfl
set_option maxRecDepth 20000 in
theorem w_778 : Cond.code yX5_wouldPay cX5_wouldPay 7 (some .int) ∈ GW := gw 778 rfl rfl
set_option maxRecDepth 20000 in
theorem w_779 : Cond.methodLink "RumourCustomsLaw" 138 yL_pass ∈ GW := gw 779 rfl rfl
set_option maxRecDepth 20000 in
theorem w_780 : Cond.static yL_pass ∈ GW := gw 780 rfl rfl
set_option maxRecDepth 20000 in
theorem w_781 : Cond.codeWith yL_pass cL_pass 4 (some .int) [(0, 9, 12, 21)] ∈ GW := gw 781 rfl rfl
set_option maxRecDepth 20000 in
theorem w_782 : Cond.methodLink "RumourCustomsLaw" 65 yX5_pass ∈ GW := gw 782 rfl rfl
set_option maxRecDepth 20000 in
theorem w_783 : Cond.instanceMethod yX5_pass ∈ GW := gw 783 rfl rfl
set_option maxRecDepth 20000 in
theorem w_784 : Cond.selects "RumourCustoms" yX5_pass yX5_pass ∈ GW := gw 784 rfl rfl
set_option maxRecDepth 20000 in
theorem w_785 : Cond.code yX5_pass cX5_pass 4 (some .int) ∈ GW := gw 785 rfl rfl
set_option maxRecDepth 20000 in
theorem w_786 : Cond.methodLink "RumourCustoms" 225 yX0_comesWithin ∈ GW := gw 786 rfl rfl
set_option maxRecDepth 20000 in
theorem w_787 : Cond.instanceMethod yX0_comesWithin ∈ GW := gw 787 rfl rfl
set_option maxRecDepth 20000 in
theorem w_788 : Cond.selects "RumourCustoms$Carrier" yX0_comesWithin yX0_comesWithin ∈ GW := gw 788 rfl rfl
set_option maxRecDepth 20000 in
theorem w_789 : Cond.code yX0_comesWithin cX0_comesWithin 2 (some .boolean) ∈ GW := gw 789 rfl rfl
set_option maxRecDepth 20000 in
theorem w_790 : Cond.methodLink "RumourCustoms$Carrier" 25 yX0_isOnTheWay ∈ GW := gw 790 rfl rfl
set_option maxRecDepth 20000 in
theorem w_791 : Cond.methodLink "RumourCustoms$Carrier" 29 yJ9_max_7cf53 ∈ GW := gw 791 rfl rfl
set_option maxRecDepth 20000 in
theorem w_792 : Cond.methodLink "RumourCustomsLaw" 142 yL_count ∈ GW := gw 792 rfl rfl
set_option maxRecDepth 20000 in
theorem w_793 : Cond.static yL_count ∈ GW := gw 793 rfl rfl
set_option maxRecDepth 20000 in
theorem w_794 : Cond.codeWith yL_count cL_count 4 (some .int) [(0, 9, 12, 19)] ∈ GW := gw 794 rfl rfl
set_option maxRecDepth 20000 in
theorem w_795 : Cond.methodLink "RumourCustomsLaw" 69 yX5_count ∈ GW := gw 795 rfl rfl
set_option maxRecDepth 20000 in
theorem w_796 : Cond.instanceMethod yX5_count ∈ GW := gw 796 rfl rfl
set_option maxRecDepth 20000 in
theorem w_797 : Cond.selects "RumourCustoms" yX5_count yX5_count ∈ GW := gw 797 rfl rfl
set_option maxRecDepth 20000 in
theorem w_798 : Cond.code yX5_count cX5_count 2 (some .int) ∈ GW := gw 798 rfl rfl
set_option maxRecDepth 20000 in
theorem w_799 : Cond.methodLink "RumourCustomsLaw" 145 yL_cheapest ∈ GW := gw 799 rfl rfl
set_option maxRecDepth 20000 in
theorem w_800 : Cond.static yL_cheapest ∈ GW := gw 800 rfl rfl
set_option maxRecDepth 20000 in
theorem w_801 : Cond.codeWith yL_cheapest cL_cheapest 7 (some .int) [(0, 14, 17, 19)] ∈ GW := gw 801 rfl rfl
set_option maxRecDepth 20000 in
theorem w_802 : Cond.methodLink "RumourCustomsLaw" 72 yX5_cheapest ∈ GW := gw 802 rfl rfl
set_option maxRecDepth 20000 in
theorem w_803 : Cond.instanceMethod yX5_cheapest ∈ GW := gw 803 rfl rfl
set_option maxRecDepth 20000 in
theorem w_804 : Cond.selects "RumourCustoms" yX5_cheapest yX5_cheapest ∈ GW := gw 804 rfl rfl
set_option maxRecDepth 20000 in
theorem w_805 : Cond.code yX5_cheapest cX5_cheapest 7 (some .int) ∈ GW := gw 805 rfl rfl
set_option maxRecDepth 20000 in
theorem w_806 : Cond.methodLink "RumourCustoms" 232 yX4_leastPrice ∈ GW := gw 806 rfl rfl
set_option maxRecDepth 20000 in
theorem w_807 : Cond.instanceMethod yX4_leastPrice ∈ GW := gw 807 rfl rfl
set_option maxRecDepth 20000 in
theorem w_808 : Cond.selects "RumourCustoms$WaySearch" yX4_leastPrice yX4_leastPrice ∈ GW := gw 808 rfl rfl
set_option maxRecDepth 20000 in
theorem w_809 : Cond.code yX4_leastPrice cX4_leastPrice 6 (some .int) ∈ GW := gw 809 rfl rfl
set_option maxRecDepth 20000 in
theorem w_810 : Cond.methodLink "RumourCustoms$WaySearch" 23 yX4_startIn ∈ GW := gw 810 rfl rfl
set_option maxRecDepth 20000 in
theorem w_812 : Cond.instanceMethod yX4_startIn ∈ GW := gw 812 rfl rfl
set_option maxRecDepth 20000 in
theorem w_813 : Cond.code yX4_startIn cX4_startIn 3 none ∈ GW := gw 813 rfl rfl
set_option maxRecDepth 20000 in
theorem w_814 : Cond.constant "RumourCustoms$WaySearch" 39 (1000000000 : Int32) ∈ GW := gw 814 rfl rfl
set_option maxRecDepth 20000 in
theorem w_815 : Cond.methodLink "RumourCustoms$WaySearch" 27 yX4_nextStage ∈ GW := gw 815 rfl rfl
set_option maxRecDepth 20000 in
theorem w_817 : Cond.instanceMethod yX4_nextStage ∈ GW := gw 817 rfl rfl
set_option maxRecDepth 20000 in
theorem w_818 : Cond.code yX4_nextStage cX4_nextStage 4 (some .int) ∈ GW := gw 818 rfl rfl
set_option maxRecDepth 20000 in
theorem w_819 : Cond.methodLink "RumourCustoms$WaySearch" 31 yX4_townOf ∈ GW := gw 819 rfl rfl
set_option maxRecDepth 20000 in
theorem w_820 : Cond.static yX4_townOf ∈ GW := gw 820 rfl rfl
set_option maxRecDepth 20000 in
theorem w_821 : Cond.code yX4_townOf cX4_townOf 1 (some .int) ∈ GW := gw 821 rfl rfl
set_option maxRecDepth 20000 in
theorem w_822 : Cond.methodLink "RumourCustoms$WaySearch" 35 yX4_goOnFrom ∈ GW := gw 822 rfl rfl
set_option maxRecDepth 20000 in
theorem w_824 : Cond.instanceMethod yX4_goOnFrom ∈ GW := gw 824 rfl rfl
set_option maxRecDepth 20000 in
theorem w_825 : Cond.code yX4_goOnFrom cX4_goOnFrom 5 none ∈ GW := gw 825 rfl rfl
set_option maxRecDepth 20000 in
theorem w_826 : Cond.methodLink "RumourCustoms$WaySearch" 40 yX2_between ∈ GW := gw 826 rfl rfl
set_option maxRecDepth 20000 in
theorem w_827 : Cond.methodLink "RumourCustoms$WaySearch" 46 yX4_goBy ∈ GW := gw 827 rfl rfl
set_option maxRecDepth 20000 in
theorem w_829 : Cond.instanceMethod yX4_goBy ∈ GW := gw 829 rfl rfl
set_option maxRecDepth 20000 in
theorem w_830 : Cond.code yX4_goBy cX4_goBy 9 none ∈ GW := gw 830 rfl rfl
set_option maxRecDepth 20000 in
theorem w_831 : Cond.methodLink "RumourCustoms$WaySearch" 50 yX4_burntAt ∈ GW := gw 831 rfl rfl
set_option maxRecDepth 20000 in
theorem w_832 : Cond.static yX4_burntAt ∈ GW := gw 832 rfl rfl
set_option maxRecDepth 20000 in
theorem w_833 : Cond.code yX4_burntAt cX4_burntAt 1 (some .int) ∈ GW := gw 833 rfl rfl
set_option maxRecDepth 20000 in
theorem w_834 : Cond.methodLink "RumourCustoms$WaySearch" 59 yX1_dutyOf ∈ GW := gw 834 rfl rfl
set_option maxRecDepth 20000 in
theorem w_835 : Cond.methodLink "RumourCustoms" 236 yX4_dutiesOf ∈ GW := gw 835 rfl rfl
set_option maxRecDepth 20000 in
theorem w_836 : Cond.static yX4_dutiesOf ∈ GW := gw 836 rfl rfl
set_option maxRecDepth 20000 in
theorem w_837 : Cond.code yX4_dutiesOf cX4_dutiesOf 1 (some .int) ∈ GW := gw 837 rfl rfl
set_option maxRecDepth 20000 in
theorem w_838 : Cond.methodLink "RumourCustoms" 239 yX4_hoursOf ∈ GW := gw 838 rfl rfl
set_option maxRecDepth 20000 in
theorem w_839 : Cond.static yX4_hoursOf ∈ GW := gw 839 rfl rfl
set_option maxRecDepth 20000 in
theorem w_840 : Cond.code yX4_hoursOf cX4_hoursOf 1 (some .int) ∈ GW := gw 840 rfl rfl
set_option maxRecDepth 20000 in
theorem w_841 : Cond.methodLink "RumourCustomsLaw" 149 yL_spread ∈ GW := gw 841 rfl rfl
set_option maxRecDepth 20000 in
theorem w_842 : Cond.static yL_spread ∈ GW := gw 842 rfl rfl
set_option maxRecDepth 20000 in
theorem w_843 : Cond.codeWith yL_spread cL_spread 5 (some .int) [(0, 10, 13, 19)] ∈ GW := gw 843 rfl rfl
set_option maxRecDepth 20000 in
theorem w_844 : Cond.methodLink "RumourCustomsLaw" 76 yX5_spread ∈ GW := gw 844 rfl rfl
set_option maxRecDepth 20000 in
theorem w_845 : Cond.instanceMethod yX5_spread ∈ GW := gw 845 rfl rfl
set_option maxRecDepth 20000 in
theorem w_846 : Cond.selects "RumourCustoms" yX5_spread yX5_spread ∈ GW := gw 846 rfl rfl
set_option maxRecDepth 20000 in
theorem w_847 : Cond.code yX5_spread cX5_spread 4 (some .int) ∈ GW := gw 847 rfl rfl
set_option maxRecDepth 20000 in
theorem w_848 : Cond.methodLink "RumourCustoms" 242 yX5_townsThatKnow ∈ GW := gw 848 rfl rfl
set_option maxRecDepth 20000 in
theorem w_850 : Cond.instanceMethod yX5_townsThatKnow ∈ GW := gw 850 rfl rfl
set_option maxRecDepth 20000 in
theorem w_851 : Cond.code yX5_townsThatKnow cX5_townsThatKnow 5 (some .int) ∈ GW := gw 851 rfl rfl
set_option maxRecDepth 20000 in
theorem w_852 : Cond.methodLink "RumourCustoms" 347 yJ6_bitCount_0f7a4 ∈ GW := gw 852 rfl rfl
set_option maxRecDepth 20000 in
theorem w_853 : Cond.static yJ6_bitCount_0f7a4 ∈ GW := gw 853 rfl rfl
set_option maxRecDepth 20000 in
theorem w_854 : Cond.code yJ6_bitCount_0f7a4 cJ6_bitCount_0f7a4 1 (some .int) ∈ GW := gw 854 rfl rfl
set_option maxRecDepth 20000 in
theorem w_855 : Cond.constant "java/lang/Integer" 265 (1431655765 : Int32) ∈ GW := gw 855 rfl rfl
set_option maxRecDepth 20000 in
theorem w_856 : Cond.constant "java/lang/Integer" 266 (858993459 : Int32) ∈ GW := gw 856 rfl rfl
set_option maxRecDepth 20000 in
theorem w_857 : Cond.constant "java/lang/Integer" 267 (252645135 : Int32) ∈ GW := gw 857 rfl rfl
set_option maxRecDepth 20000 in
theorem w_858 : Cond.methodLink "RumourCustoms" 245 yX5_greatestDepthInTowns ∈ GW := gw 858 rfl rfl
set_option maxRecDepth 20000 in
theorem w_860 : Cond.instanceMethod yX5_greatestDepthInTowns ∈ GW := gw 860 rfl rfl
set_option maxRecDepth 20000 in
theorem w_861 : Cond.code yX5_greatestDepthInTowns cX5_greatestDepthInTowns 5 (some .int) ∈ GW := gw 861 rfl rfl
set_option maxRecDepth 20000 in
theorem w_862 : Cond.methodLink "RumourCustoms" 248 yX5_notGoneOf ∈ GW := gw 862 rfl rfl
set_option maxRecDepth 20000 in
theorem w_864 : Cond.instanceMethod yX5_notGoneOf ∈ GW := gw 864 rfl rfl
set_option maxRecDepth 20000 in
theorem w_865 : Cond.code yX5_notGoneOf cX5_notGoneOf 5 (some .int) ∈ GW := gw 865 rfl rfl
set_option maxRecDepth 20000 in
theorem w_866 : Cond.classLink "RumourCustomsLaw" 80 "RumourCustomsModel" ∈ GW := gw 866 rfl rfl
set_option maxRecDepth 20000 in
theorem w_867 : Cond.instantiable "RumourCustomsModel" 14 ∈ GW := gw 867 rfl rfl
set_option maxRecDepth 20000 in
theorem w_868 : Cond.methodLink "RumourCustomsLaw" 82 yX6_init ∈ GW := gw 868 rfl rfl
set_option maxRecDepth 20000 in
theorem w_869 : Cond.instanceMethod yX6_init ∈ GW := gw 869 rfl rfl
set_option maxRecDepth 20000 in
theorem w_870 : Cond.code yX6_init cX6_init 1 none ∈ GW := gw 870 rfl rfl
set_option maxRecDepth 20000 in
theorem w_871 : Cond.methodLink "RumourCustomsModel" 1 objectInit ∈ GW := gw 871 rfl rfl
set_option maxRecDepth 20000 in
theorem w_872 : Cond.fieldLink "RumourCustomsModel" 23 "RumourCustomsModel" "thrown" "I" ∈ GW := gw 872 rfl rfl
set_option maxRecDepth 20000 in
theorem w_873 : Cond.fieldLink "RumourCustomsModel" 141 "RumourCustomsModel" "hour" "I" ∈ GW := gw 873 rfl rfl
set_option maxRecDepth 20000 in
theorem w_874 : Cond.fieldLink "RumourCustomsModel" 27 "RumourCustomsModel" "towns" "I" ∈ GW := gw 874 rfl rfl
set_option maxRecDepth 20000 in
theorem w_875 : Cond.fieldLink "RumourCustomsModel" 66 "RumourCustomsModel" "roads" "I" ∈ GW := gw 875 rfl rfl
set_option maxRecDepth 20000 in
theorem w_876 : Cond.fieldLink "RumourCustomsModel" 34 "RumourCustomsModel" "rumours" "I" ∈ GW := gw 876 rfl rfl
set_option maxRecDepth 20000 in
theorem w_877 : Cond.fieldLink "RumourCustomsModel" 37 "RumourCustomsModel" "carriers" "I" ∈ GW := gw 877 rfl rfl
set_option maxRecDepth 20000 in
theorem w_878 : Cond.fieldLink "RumourCustomsModel" 126 "RumourCustomsModel" "burnt" "I" ∈ GW := gw 878 rfl rfl
set_option maxRecDepth 20000 in
theorem w_879 : Cond.fieldLink "RumourCustomsModel" 129 "RumourCustomsModel" "duties" "I" ∈ GW := gw 879 rfl rfl
set_option maxRecDepth 20000 in
theorem w_880 : Cond.fieldLink "RumourCustomsModel" 132 "RumourCustomsModel" "fines" "I" ∈ GW := gw 880 rfl rfl
set_option maxRecDepth 20000 in
theorem w_881 : Cond.fieldLink "RumourCustomsModel" 123 "RumourCustomsModel" "searches" "I" ∈ GW := gw 881 rfl rfl
set_option maxRecDepth 20000 in
theorem w_882 : Cond.fieldLink "RumourCustomsModel" 9 "RumourCustomsModel" "roadTable" "[I" ∈ GW := gw 882 rfl rfl
set_option maxRecDepth 20000 in
theorem w_883 : Cond.fieldLink "RumourCustomsModel" 13 "RumourCustomsModel" "table" "[I" ∈ GW := gw 883 rfl rfl
set_option maxRecDepth 20000 in
theorem w_884 : Cond.fieldLink "RumourCustomsModel" 16 "RumourCustomsModel" "people" "[I" ∈ GW := gw 884 rfl rfl
set_option maxRecDepth 20000 in
theorem w_885 : Cond.fieldLink "RumourCustomsModel" 19 "RumourCustomsModel" "best" "[J" ∈ GW := gw 885 rfl rfl
set_option maxRecDepth 20000 in
theorem w_886 : Cond.lays "RumourCustomsModel" "RumourCustomsModel" "thrown" "I" ∈ GW := gw 886 rfl rfl
set_option maxRecDepth 20000 in
theorem w_887 : Cond.soleField "RumourCustomsModel" "thrown" ∈ GW := gw 887 rfl rfl
set_option maxRecDepth 20000 in
theorem w_888 : Cond.lays "RumourCustomsModel" "RumourCustomsModel" "hour" "I" ∈ GW := gw 888 rfl rfl
set_option maxRecDepth 20000 in
theorem w_889 : Cond.soleField "RumourCustomsModel" "hour" ∈ GW := gw 889 rfl rfl
set_option maxRecDepth 20000 in
theorem w_890 : Cond.lays "RumourCustomsModel" "RumourCustomsModel" "towns" "I" ∈ GW := gw 890 rfl rfl
set_option maxRecDepth 20000 in
theorem w_891 : Cond.soleField "RumourCustomsModel" "towns" ∈ GW := gw 891 rfl rfl
set_option maxRecDepth 20000 in
theorem w_892 : Cond.lays "RumourCustomsModel" "RumourCustomsModel" "roads" "I" ∈ GW := gw 892 rfl rfl
set_option maxRecDepth 20000 in
theorem w_893 : Cond.soleField "RumourCustomsModel" "roads" ∈ GW := gw 893 rfl rfl
set_option maxRecDepth 20000 in
theorem w_894 : Cond.lays "RumourCustomsModel" "RumourCustomsModel" "rumours" "I" ∈ GW := gw 894 rfl rfl
set_option maxRecDepth 20000 in
theorem w_895 : Cond.soleField "RumourCustomsModel" "rumours" ∈ GW := gw 895 rfl rfl
set_option maxRecDepth 20000 in
theorem w_896 : Cond.lays "RumourCustomsModel" "RumourCustomsModel" "carriers" "I" ∈ GW := gw 896 rfl rfl
set_option maxRecDepth 20000 in
theorem w_897 : Cond.soleField "RumourCustomsModel" "carriers" ∈ GW := gw 897 rfl rfl
set_option maxRecDepth 20000 in
theorem w_898 : Cond.lays "RumourCustomsModel" "RumourCustomsModel" "burnt" "I" ∈ GW := gw 898 rfl rfl
set_option maxRecDepth 20000 in
theorem w_899 : Cond.soleField "RumourCustomsModel" "burnt" ∈ GW := gw 899 rfl rfl
set_option maxRecDepth 20000 in
theorem w_900 : Cond.lays "RumourCustomsModel" "RumourCustomsModel" "duties" "I" ∈ GW := gw 900 rfl rfl
set_option maxRecDepth 20000 in
theorem w_901 : Cond.soleField "RumourCustomsModel" "duties" ∈ GW := gw 901 rfl rfl
set_option maxRecDepth 20000 in
theorem w_902 : Cond.lays "RumourCustomsModel" "RumourCustomsModel" "fines" "I" ∈ GW := gw 902 rfl rfl
set_option maxRecDepth 20000 in
theorem w_903 : Cond.soleField "RumourCustomsModel" "fines" ∈ GW := gw 903 rfl rfl
set_option maxRecDepth 20000 in
theorem w_904 : Cond.lays "RumourCustomsModel" "RumourCustomsModel" "searches" "I" ∈ GW := gw 904 rfl rfl
set_option maxRecDepth 20000 in
theorem w_905 : Cond.soleField "RumourCustomsModel" "searches" ∈ GW := gw 905 rfl rfl
set_option maxRecDepth 20000 in
theorem w_906 : Cond.laysFinal "RumourCustomsModel" "RumourCustomsModel" "roadTable" "[I" ∈ GW := gw 906 rfl rfl
set_option maxRecDepth 20000 in
theorem w_907 : Cond.soleField "RumourCustomsModel" "roadTable" ∈ GW := gw 907 rfl rfl
set_option maxRecDepth 20000 in
theorem w_908 : Cond.laysFinal "RumourCustomsModel" "RumourCustomsModel" "table" "[I" ∈ GW := gw 908 rfl rfl
set_option maxRecDepth 20000 in
theorem w_909 : Cond.soleField "RumourCustomsModel" "table" ∈ GW := gw 909 rfl rfl
set_option maxRecDepth 20000 in
theorem w_910 : Cond.laysFinal "RumourCustomsModel" "RumourCustomsModel" "people" "[I" ∈ GW := gw 910 rfl rfl
set_option maxRecDepth 20000 in
theorem w_911 : Cond.soleField "RumourCustomsModel" "people" ∈ GW := gw 911 rfl rfl
set_option maxRecDepth 20000 in
theorem w_912 : Cond.laysFinal "RumourCustomsModel" "RumourCustomsModel" "best" "[J" ∈ GW := gw 912 rfl rfl
set_option maxRecDepth 20000 in
theorem w_913 : Cond.soleField "RumourCustomsModel" "best" ∈ GW := gw 913 rfl rfl
set_option maxRecDepth 20000 in
theorem w_914 : Cond.superclass "RumourCustomsModel" "java/lang/Object" ∈ GW := gw 914 rfl rfl
set_option maxRecDepth 20000 in
theorem w_915 : Cond.arrayClass .long ∈ GW := gw 915 rfl rfl
set_option maxRecDepth 20000 in
theorem w_916 : Cond.methodLink "RumourCustomsLaw" 89 yX6_thrown ∈ GW := gw 916 rfl rfl
set_option maxRecDepth 20000 in
theorem w_917 : Cond.instanceMethod yX6_thrown ∈ GW := gw 917 rfl rfl
set_option maxRecDepth 20000 in
theorem w_918 : Cond.selects "RumourCustomsModel" yX6_thrown yX6_thrown ∈ GW := gw 918 rfl rfl
set_option maxRecDepth 20000 in
theorem w_919 : Cond.code yX6_thrown cX6_thrown 1 (some .int) ∈ GW := gw 919 rfl rfl
set_option maxRecDepth 20000 in
theorem w_920 : Cond.methodLink "RumourCustomsLaw" 88 yX6_addTown ∈ GW := gw 920 rfl rfl
set_option maxRecDepth 20000 in
theorem w_921 : Cond.instanceMethod yX6_addTown ∈ GW := gw 921 rfl rfl
set_option maxRecDepth 20000 in
theorem w_922 : Cond.selects "RumourCustomsModel" yX6_addTown yX6_addTown ∈ GW := gw 922 rfl rfl
set_option maxRecDepth 20000 in
theorem w_923 : Cond.code yX6_addTown cX6_addTown 1 (some .int) ∈ GW := gw 923 rfl rfl
set_option maxRecDepth 20000 in
theorem w_924 : Cond.methodLink "RumourCustomsModel" 49 yX6_fail ∈ GW := gw 924 rfl rfl
set_option maxRecDepth 20000 in
theorem w_926 : Cond.instanceMethod yX6_fail ∈ GW := gw 926 rfl rfl
set_option maxRecDepth 20000 in
theorem w_927 : Cond.code yX6_fail cX6_fail 2 (some .int) ∈ GW := gw 927 rfl rfl
set_option maxRecDepth 20000 in
theorem w_928 : Cond.methodLink "RumourCustomsLaw" 95 yX6_build ∈ GW := gw 928 rfl rfl
set_option maxRecDepth 20000 in
theorem w_929 : Cond.instanceMethod yX6_build ∈ GW := gw 929 rfl rfl
set_option maxRecDepth 20000 in
theorem w_930 : Cond.selects "RumourCustomsModel" yX6_build yX6_build ∈ GW := gw 930 rfl rfl
set_option maxRecDepth 20000 in
theorem w_931 : Cond.code yX6_build cX6_build 8 (some .int) ∈ GW := gw 931 rfl rfl
set_option maxRecDepth 20000 in
theorem w_932 : Cond.methodLink "RumourCustomsModel" 53 yX6_isTown ∈ GW := gw 932 rfl rfl
set_option maxRecDepth 20000 in
theorem w_934 : Cond.instanceMethod yX6_isTown ∈ GW := gw 934 rfl rfl
set_option maxRecDepth 20000 in
theorem w_935 : Cond.code yX6_isTown cX6_isTown 2 (some .boolean) ∈ GW := gw 935 rfl rfl
set_option maxRecDepth 20000 in
theorem w_936 : Cond.methodLink "RumourCustomsModel" 30 yX6_isIn ∈ GW := gw 936 rfl rfl
set_option maxRecDepth 20000 in
theorem w_937 : Cond.static yX6_isIn ∈ GW := gw 937 rfl rfl
set_option maxRecDepth 20000 in
theorem w_938 : Cond.code yX6_isIn cX6_isIn 3 (some .boolean) ∈ GW := gw 938 rfl rfl
set_option maxRecDepth 20000 in
theorem w_939 : Cond.methodLink "RumourCustomsModel" 57 yX6_base ∈ GW := gw 939 rfl rfl
set_option maxRecDepth 20000 in
theorem w_940 : Cond.static yX6_base ∈ GW := gw 940 rfl rfl
set_option maxRecDepth 20000 in
theorem w_941 : Cond.code yX6_base cX6_base 2 (some .int) ∈ GW := gw 941 rfl rfl
set_option maxRecDepth 20000 in
theorem w_942 : Cond.methodLink "RumourCustomsModel" 40 yJ9_min_7cf53 ∈ GW := gw 942 rfl rfl
set_option maxRecDepth 20000 in
theorem w_943 : Cond.methodLink "RumourCustomsModel" 46 yJ9_max_7cf53 ∈ GW := gw 943 rfl rfl
set_option maxRecDepth 20000 in
theorem w_944 : Cond.methodLink "RumourCustomsModel" 60 ⟨"java/lang/System", "arraycopy", "(Ljava/lang/Object;ILjava/lang/Object;II)V"⟩ ∈ GW := gw 944 rfl rfl
set_option maxRecDepth 20000 in
theorem w_945 : Cond.methodLink "RumourCustomsLaw" 99 yX6_road ∈ GW := gw 945 rfl rfl
set_option maxRecDepth 20000 in
theorem w_946 : Cond.instanceMethod yX6_road ∈ GW := gw 946 rfl rfl
set_option maxRecDepth 20000 in
theorem w_947 : Cond.selects "RumourCustomsModel" yX6_road yX6_road ∈ GW := gw 947 rfl rfl
set_option maxRecDepth 20000 in
theorem w_948 : Cond.code yX6_road cX6_road 4 (some .int) ∈ GW := gw 948 rfl rfl
set_option maxRecDepth 20000 in
theorem w_949 : Cond.methodLink "RumourCustomsLaw" 102 yX6_makeUp ∈ GW := gw 949 rfl rfl
set_option maxRecDepth 20000 in
theorem w_950 : Cond.instanceMethod yX6_makeUp ∈ GW := gw 950 rfl rfl
set_option maxRecDepth 20000 in
theorem w_951 : Cond.selects "RumourCustomsModel" yX6_makeUp yX6_makeUp ∈ GW := gw 951 rfl rfl
set_option maxRecDepth 20000 in
theorem w_952 : Cond.code yX6_makeUp cX6_makeUp 4 (some .int) ∈ GW := gw 952 rfl rfl
set_option maxRecDepth 20000 in
theorem w_953 : Cond.methodLink "RumourCustomsModel" 69 yX6_add ∈ GW := gw 953 rfl rfl
set_option maxRecDepth 20000 in
theorem w_955 : Cond.instanceMethod yX6_add ∈ GW := gw 955 rfl rfl
set_option maxRecDepth 20000 in
theorem w_956 : Cond.code yX6_add cX6_add 7 (some .int) ∈ GW := gw 956 rfl rfl
set_option maxRecDepth 20000 in
theorem w_957 : Cond.methodLink "RumourCustomsLaw" 106 yX6_rumour ∈ GW := gw 957 rfl rfl
set_option maxRecDepth 20000 in
theorem w_958 : Cond.instanceMethod yX6_rumour ∈ GW := gw 958 rfl rfl
set_option maxRecDepth 20000 in
theorem w_959 : Cond.selects "RumourCustomsModel" yX6_rumour yX6_rumour ∈ GW := gw 959 rfl rfl
set_option maxRecDepth 20000 in
theorem w_960 : Cond.code yX6_rumour cX6_rumour 3 (some .int) ∈ GW := gw 960 rfl rfl
set_option maxRecDepth 20000 in
theorem w_961 : Cond.methodLink "RumourCustomsModel" 73 yX6_isRumour ∈ GW := gw 961 rfl rfl
set_option maxRecDepth 20000 in
theorem w_963 : Cond.instanceMethod yX6_isRumour ∈ GW := gw 963 rfl rfl
set_option maxRecDepth 20000 in
theorem w_964 : Cond.code yX6_isRumour cX6_isRumour 2 (some .boolean) ∈ GW := gw 964 rfl rfl
set_option maxRecDepth 20000 in
theorem w_965 : Cond.methodLink "RumourCustomsModel" 76 yX6_get ∈ GW := gw 965 rfl rfl
set_option maxRecDepth 20000 in
theorem w_967 : Cond.instanceMethod yX6_get ∈ GW := gw 967 rfl rfl
set_option maxRecDepth 20000 in
theorem w_968 : Cond.code yX6_get cX6_get 3 (some .int) ∈ GW := gw 968 rfl rfl
set_option maxRecDepth 20000 in
theorem w_969 : Cond.methodLink "RumourCustomsLaw" 109 yX6_town ∈ GW := gw 969 rfl rfl
set_option maxRecDepth 20000 in
theorem w_970 : Cond.instanceMethod yX6_town ∈ GW := gw 970 rfl rfl
set_option maxRecDepth 20000 in
theorem w_971 : Cond.selects "RumourCustomsModel" yX6_town yX6_town ∈ GW := gw 971 rfl rfl
set_option maxRecDepth 20000 in
theorem w_972 : Cond.code yX6_town cX6_town 3 (some .int) ∈ GW := gw 972 rfl rfl
set_option maxRecDepth 20000 in
theorem w_973 : Cond.methodLink "RumourCustomsModel" 89 yX6_townTold ∈ GW := gw 973 rfl rfl
set_option maxRecDepth 20000 in
theorem w_975 : Cond.instanceMethod yX6_townTold ∈ GW := gw 975 rfl rfl
set_option maxRecDepth 20000 in
theorem w_976 : Cond.code yX6_townTold cX6_townTold 6 (some .int) ∈ GW := gw 976 rfl rfl
set_option maxRecDepth 20000 in
theorem w_977 : Cond.methodLink "RumourCustomsModel" 82 yX6_knows ∈ GW := gw 977 rfl rfl
set_option maxRecDepth 20000 in
theorem w_979 : Cond.instanceMethod yX6_knows ∈ GW := gw 979 rfl rfl
set_option maxRecDepth 20000 in
theorem w_980 : Cond.code yX6_knows cX6_knows 3 (some .boolean) ∈ GW := gw 980 rfl rfl
set_option maxRecDepth 20000 in
theorem w_981 : Cond.methodLink "RumourCustomsModel" 79 yX6_heardOf ∈ GW := gw 981 rfl rfl
set_option maxRecDepth 20000 in
theorem w_983 : Cond.instanceMethod yX6_heardOf ∈ GW := gw 983 rfl rfl
set_option maxRecDepth 20000 in
theorem w_984 : Cond.code yX6_heardOf cX6_heardOf 5 (some .int) ∈ GW := gw 984 rfl rfl
set_option maxRecDepth 20000 in
theorem w_985 : Cond.methodLink "RumourCustomsModel" 86 yX6_man ∈ GW := gw 985 rfl rfl
set_option maxRecDepth 20000 in
theorem w_987 : Cond.instanceMethod yX6_man ∈ GW := gw 987 rfl rfl
set_option maxRecDepth 20000 in
theorem w_988 : Cond.code yX6_man cX6_man 3 (some .int) ∈ GW := gw 988 rfl rfl
set_option maxRecDepth 20000 in
theorem w_989 : Cond.methodLink "RumourCustomsLaw" 112 yX6_heard ∈ GW := gw 989 rfl rfl
set_option maxRecDepth 20000 in
theorem w_990 : Cond.instanceMethod yX6_heard ∈ GW := gw 990 rfl rfl
set_option maxRecDepth 20000 in
theorem w_991 : Cond.selects "RumourCustomsModel" yX6_heard yX6_heard ∈ GW := gw 991 rfl rfl
set_option maxRecDepth 20000 in
theorem w_992 : Cond.code yX6_heard cX6_heard 3 (some .int) ∈ GW := gw 992 rfl rfl
set_option maxRecDepth 20000 in
theorem w_993 : Cond.methodLink "RumourCustomsLaw" 115 yX6_addCarrier ∈ GW := gw 993 rfl rfl
set_option maxRecDepth 20000 in
theorem w_994 : Cond.instanceMethod yX6_addCarrier ∈ GW := gw 994 rfl rfl
set_option maxRecDepth 20000 in
theorem w_995 : Cond.selects "RumourCustomsModel" yX6_addCarrier yX6_addCarrier ∈ GW := gw 995 rfl rfl
set_option maxRecDepth 20000 in
theorem w_996 : Cond.code yX6_addCarrier cX6_addCarrier 4 (some .int) ∈ GW := gw 996 rfl rfl
set_option maxRecDepth 20000 in
theorem w_997 : Cond.constant "RumourCustomsModel" 92 (1000000 : Int32) ∈ GW := gw 997 rfl rfl
set_option maxRecDepth 20000 in
theorem w_998 : Cond.methodLink "RumourCustomsLaw" 118 yX6_take ∈ GW := gw 998 rfl rfl
set_option maxRecDepth 20000 in
theorem w_999 : Cond.instanceMethod yX6_take ∈ GW := gw 999 rfl rfl
set_option maxRecDepth 20000 in
theorem w_1000 : Cond.selects "RumourCustomsModel" yX6_take yX6_take ∈ GW := gw 1000 rfl rfl
set_option maxRecDepth 20000 in
theorem w_1001 : Cond.code yX6_take cX6_take 3 (some .int) ∈ GW := gw 1001 rfl rfl
set_option maxRecDepth 20000 in
theorem w_1002 : Cond.methodLink "RumourCustomsModel" 97 yX6_isCarrier ∈ GW := gw 1002 rfl rfl
set_option maxRecDepth 20000 in
theorem w_1004 : Cond.instanceMethod yX6_isCarrier ∈ GW := gw 1004 rfl rfl
set_option maxRecDepth 20000 in
theorem w_1005 : Cond.code yX6_isCarrier cX6_isCarrier 2 (some .boolean) ∈ GW := gw 1005 rfl rfl
set_option maxRecDepth 20000 in
theorem w_1006 : Cond.methodLink "RumourCustomsModel" 100 yX6_inBag ∈ GW := gw 1006 rfl rfl
set_option maxRecDepth 20000 in
theorem w_1008 : Cond.instanceMethod yX6_inBag ∈ GW := gw 1008 rfl rfl
set_option maxRecDepth 20000 in
theorem w_1009 : Cond.code yX6_inBag cX6_inBag 5 (some .int) ∈ GW := gw 1009 rfl rfl
set_option maxRecDepth 20000 in
theorem w_1010 : Cond.methodLink "RumourCustomsModel" 104 yX6_lay ∈ GW := gw 1010 rfl rfl
set_option maxRecDepth 20000 in
theorem w_1012 : Cond.instanceMethod yX6_lay ∈ GW := gw 1012 rfl rfl
set_option maxRecDepth 20000 in
theorem w_1013 : Cond.code yX6_lay cX6_lay 4 none ∈ GW := gw 1013 rfl rfl
set_option maxRecDepth 20000 in
theorem w_1014 : Cond.methodLink "RumourCustomsModel" 93 yX6_set ∈ GW := gw 1014 rfl rfl
set_option maxRecDepth 20000 in
theorem w_1016 : Cond.instanceMethod yX6_set ∈ GW := gw 1016 rfl rfl
set_option maxRecDepth 20000 in
theorem w_1017 : Cond.code yX6_set cX6_set 4 none ∈ GW := gw 1017 rfl rfl
set_option maxRecDepth 20000 in
theorem w_1018 : Cond.methodLink "RumourCustomsLaw" 121 yX6_leave ∈ GW := gw 1018 rfl rfl
set_option maxRecDepth 20000 in
theorem w_1019 : Cond.instanceMethod yX6_leave ∈ GW := gw 1019 rfl rfl
set_option maxRecDepth 20000 in
theorem w_1020 : Cond.selects "RumourCustomsModel" yX6_leave yX6_leave ∈ GW := gw 1020 rfl rfl
set_option maxRecDepth 20000 in
theorem w_1021 : Cond.code yX6_leave cX6_leave 3 (some .int) ∈ GW := gw 1021 rfl rfl
set_option maxRecDepth 20000 in
theorem w_1022 : Cond.methodLink "RumourCustomsModel" 107 yX6_has ∈ GW := gw 1022 rfl rfl
set_option maxRecDepth 20000 in
theorem w_1024 : Cond.instanceMethod yX6_has ∈ GW := gw 1024 rfl rfl
set_option maxRecDepth 20000 in
theorem w_1025 : Cond.code yX6_has cX6_has 3 (some .boolean) ∈ GW := gw 1025 rfl rfl
set_option maxRecDepth 20000 in
theorem w_1026 : Cond.methodLink "RumourCustomsLaw" 125 yX6_hide ∈ GW := gw 1026 rfl rfl
set_option maxRecDepth 20000 in
theorem w_1027 : Cond.instanceMethod yX6_hide ∈ GW := gw 1027 rfl rfl
set_option maxRecDepth 20000 in
theorem w_1028 : Cond.selects "RumourCustomsModel" yX6_hide yX6_hide ∈ GW := gw 1028 rfl rfl
set_option maxRecDepth 20000 in
theorem w_1029 : Cond.code yX6_hide cX6_hide 4 (some .int) ∈ GW := gw 1029 rfl rfl
set_option maxRecDepth 20000 in
theorem w_1030 : Cond.methodLink "RumourCustomsLaw" 128 yX6_tell ∈ GW := gw 1030 rfl rfl
set_option maxRecDepth 20000 in
theorem w_1031 : Cond.instanceMethod yX6_tell ∈ GW := gw 1031 rfl rfl
set_option maxRecDepth 20000 in
theorem w_1032 : Cond.selects "RumourCustomsModel" yX6_tell yX6_tell ∈ GW := gw 1032 rfl rfl
set_option maxRecDepth 20000 in
theorem w_1033 : Cond.code yX6_tell cX6_tell 5 (some .int) ∈ GW := gw 1033 rfl rfl
set_option maxRecDepth 20000 in
theorem w_1034 : Cond.methodLink "RumourCustomsLaw" 131 yX6_go ∈ GW := gw 1034 rfl rfl
set_option maxRecDepth 20000 in
theorem w_1035 : Cond.instanceMethod yX6_go ∈ GW := gw 1035 rfl rfl
set_option maxRecDepth 20000 in
theorem w_1036 : Cond.selects "RumourCustomsModel" yX6_go yX6_go ∈ GW := gw 1036 rfl rfl
set_option maxRecDepth 20000 in
theorem w_1037 : Cond.code yX6_go cX6_go 10 (some .int) ∈ GW := gw 1037 rfl rfl
set_option maxRecDepth 20000 in
theorem w_1038 : Cond.methodLink "RumourCustomsModel" 117 yX6_owed ∈ GW := gw 1038 rfl rfl
set_option maxRecDepth 20000 in
theorem w_1040 : Cond.instanceMethod yX6_owed ∈ GW := gw 1040 rfl rfl
set_option maxRecDepth 20000 in
theorem w_1041 : Cond.code yX6_owed cX6_owed 6 (some .int) ∈ GW := gw 1041 rfl rfl
set_option maxRecDepth 20000 in
theorem w_1042 : Cond.methodLink "RumourCustomsModel" 110 yX6_dutyAt ∈ GW := gw 1042 rfl rfl
set_option maxRecDepth 20000 in
theorem w_1044 : Cond.instanceMethod yX6_dutyAt ∈ GW := gw 1044 rfl rfl
set_option maxRecDepth 20000 in
theorem w_1045 : Cond.code yX6_dutyAt cX6_dutyAt 4 (some .int) ∈ GW := gw 1045 rfl rfl
set_option maxRecDepth 20000 in
theorem w_1046 : Cond.methodLink "RumourCustomsModel" 120 yX6_fine ∈ GW := gw 1046 rfl rfl
set_option maxRecDepth 20000 in
theorem w_1048 : Cond.instanceMethod yX6_fine ∈ GW := gw 1048 rfl rfl
set_option maxRecDepth 20000 in
theorem w_1049 : Cond.code yX6_fine cX6_fine 6 (some .int) ∈ GW := gw 1049 rfl rfl
set_option maxRecDepth 20000 in
theorem w_1050 : Cond.methodLink "RumourCustomsModel" 114 yX6_isSearched ∈ GW := gw 1050 rfl rfl
set_option maxRecDepth 20000 in
theorem w_1052 : Cond.instanceMethod yX6_isSearched ∈ GW := gw 1052 rfl rfl
set_option maxRecDepth 20000 in
theorem w_1053 : Cond.code yX6_isSearched cX6_isSearched 3 (some .boolean) ∈ GW := gw 1053 rfl rfl
set_option maxRecDepth 20000 in
theorem w_1054 : Cond.methodLink "RumourCustomsModel" 135 yX6_setMan ∈ GW := gw 1054 rfl rfl
set_option maxRecDepth 20000 in
theorem w_1056 : Cond.instanceMethod yX6_setMan ∈ GW := gw 1056 rfl rfl
set_option maxRecDepth 20000 in
theorem w_1057 : Cond.code yX6_setMan cX6_setMan 4 none ∈ GW := gw 1057 rfl rfl
set_option maxRecDepth 20000 in
theorem w_1058 : Cond.methodLink "RumourCustomsLaw" 134 yX6_carrier ∈ GW := gw 1058 rfl rfl
set_option maxRecDepth 20000 in
theorem w_1059 : Cond.instanceMethod yX6_carrier ∈ GW := gw 1059 rfl rfl
set_option maxRecDepth 20000 in
theorem w_1060 : Cond.selects "RumourCustomsModel" yX6_carrier yX6_carrier ∈ GW := gw 1060 rfl rfl
set_option maxRecDepth 20000 in
theorem w_1061 : Cond.code yX6_carrier cX6_carrier 3 (some .int) ∈ GW := gw 1061 rfl rfl
set_option maxRecDepth 20000 in
theorem w_1062 : Cond.methodLink "RumourCustomsModel" 138 yX6_carrierTold ∈ GW := gw 1062 rfl rfl
set_option maxRecDepth 20000 in
theorem w_1064 : Cond.instanceMethod yX6_carrierTold ∈ GW := gw 1064 rfl rfl
set_option maxRecDepth 20000 in
theorem w_1065 : Cond.code yX6_carrierTold cX6_carrierTold 3 (some .int) ∈ GW := gw 1065 rfl rfl
set_option maxRecDepth 20000 in
theorem w_1066 : Cond.methodLink "RumourCustomsLaw" 137 yX6_wouldPay ∈ GW := gw 1066 rfl rfl
set_option maxRecDepth 20000 in
theorem w_1067 : Cond.instanceMethod yX6_wouldPay ∈ GW := gw 1067 rfl rfl
set_option maxRecDepth 20000 in
theorem w_1068 : Cond.selects "RumourCustomsModel" yX6_wouldPay yX6_wouldPay ∈ GW := gw 1068 rfl rfl
set_option maxRecDepth 20000 in
theorem w_1069 : Cond.code yX6_wouldPay cX6_wouldPay 6 (some .int) ∈ GW := gw 1069 rfl rfl
set_option maxRecDepth 20000 in
theorem w_1070 : Cond.methodLink "RumourCustomsLaw" 141 yX6_pass ∈ GW := gw 1070 rfl rfl
set_option maxRecDepth 20000 in
theorem w_1071 : Cond.instanceMethod yX6_pass ∈ GW := gw 1071 rfl rfl
set_option maxRecDepth 20000 in
theorem w_1072 : Cond.selects "RumourCustomsModel" yX6_pass yX6_pass ∈ GW := gw 1072 rfl rfl
set_option maxRecDepth 20000 in
theorem w_1073 : Cond.code yX6_pass cX6_pass 4 (some .int) ∈ GW := gw 1073 rfl rfl
set_option maxRecDepth 20000 in
theorem w_1074 : Cond.methodLink "RumourCustomsLaw" 144 yX6_count ∈ GW := gw 1074 rfl rfl
set_option maxRecDepth 20000 in
theorem w_1075 : Cond.instanceMethod yX6_count ∈ GW := gw 1075 rfl rfl
set_option maxRecDepth 20000 in
theorem w_1076 : Cond.selects "RumourCustomsModel" yX6_count yX6_count ∈ GW := gw 1076 rfl rfl
set_option maxRecDepth 20000 in
theorem w_1077 : Cond.code yX6_count cX6_count 2 (some .int) ∈ GW := gw 1077 rfl rfl
set_option maxRecDepth 20000 in
theorem w_1078 : Cond.methodLink "RumourCustomsModel" 148 yX6_counted ∈ GW := gw 1078 rfl rfl
set_option maxRecDepth 20000 in
theorem w_1080 : Cond.instanceMethod yX6_counted ∈ GW := gw 1080 rfl rfl
set_option maxRecDepth 20000 in
theorem w_1081 : Cond.code yX6_counted cX6_counted 4 (some .int) ∈ GW := gw 1081 rfl rfl
set_option maxRecDepth 20000 in
theorem w_1082 : Cond.methodLink "RumourCustomsModel" 144 yX6_gone ∈ GW := gw 1082 rfl rfl
set_option maxRecDepth 20000 in
theorem w_1084 : Cond.instanceMethod yX6_gone ∈ GW := gw 1084 rfl rfl
set_option maxRecDepth 20000 in
theorem w_1085 : Cond.code yX6_gone cX6_gone 3 (some .int) ∈ GW := gw 1085 rfl rfl
set_option maxRecDepth 20000 in
theorem w_1086 : Cond.methodLink "RumourCustomsLaw" 148 yX6_cheapest ∈ GW := gw 1086 rfl rfl
set_option maxRecDepth 20000 in
theorem w_1087 : Cond.instanceMethod yX6_cheapest ∈ GW := gw 1087 rfl rfl
set_option maxRecDepth 20000 in
theorem w_1088 : Cond.selects "RumourCustomsModel" yX6_cheapest yX6_cheapest ∈ GW := gw 1088 rfl rfl
set_option maxRecDepth 20000 in
theorem w_1089 : Cond.code yX6_cheapest cX6_cheapest 11 (some .int) ∈ GW := gw 1089 rfl rfl
set_option maxRecDepth 20000 in
theorem w_1090 : Cond.constantLong "RumourCustomsModel" 151 (-1 : Int64) ∈ GW := gw 1090 rfl rfl
set_option maxRecDepth 20000 in
theorem w_1091 : Cond.methodLink "RumourCustomsModel" 153 yX6_goOn ∈ GW := gw 1091 rfl rfl
set_option maxRecDepth 20000 in
theorem w_1093 : Cond.instanceMethod yX6_goOn ∈ GW := gw 1093 rfl rfl
set_option maxRecDepth 20000 in
theorem w_1094 : Cond.code yX6_goOn cX6_goOn 13 (some .boolean) ∈ GW := gw 1094 rfl rfl
set_option maxRecDepth 20000 in
theorem w_1095 : Cond.constantLong "RumourCustomsModel" 156 (1000000 : Int64) ∈ GW := gw 1095 rfl rfl
set_option maxRecDepth 20000 in
theorem w_1096 : Cond.methodLink "RumourCustomsLaw" 151 yX6_spread ∈ GW := gw 1096 rfl rfl
set_option maxRecDepth 20000 in
theorem w_1097 : Cond.instanceMethod yX6_spread ∈ GW := gw 1097 rfl rfl
set_option maxRecDepth 20000 in
theorem w_1098 : Cond.selects "RumourCustomsModel" yX6_spread yX6_spread ∈ GW := gw 1098 rfl rfl
set_option maxRecDepth 20000 in
theorem w_1099 : Cond.code yX6_spread cX6_spread 7 (some .int) ∈ GW := gw 1099 rfl rfl
set_option maxRecDepth 20000 in
theorem w_1100 : Cond.methodLink "RumourCustomsLaw" 156 yX6_hearsay ∈ GW := gw 1100 rfl rfl
set_option maxRecDepth 20000 in
theorem w_1101 : Cond.instanceMethod yX6_hearsay ∈ GW := gw 1101 rfl rfl
set_option maxRecDepth 20000 in
theorem w_1102 : Cond.selects "RumourCustomsModel" yX6_hearsay yX6_hearsay ∈ GW := gw 1102 rfl rfl
set_option maxRecDepth 20000 in
theorem w_1103 : Cond.code yX6_hearsay cX6_hearsay 4 (some .double) ∈ GW := gw 1103 rfl rfl
set_option maxRecDepth 20000 in
theorem w_1104 : Cond.methodLink "RumourCustomsLaw" 161 yX6_digest ∈ GW := gw 1104 rfl rfl
set_option maxRecDepth 20000 in
theorem w_1105 : Cond.instanceMethod yX6_digest ∈ GW := gw 1105 rfl rfl
set_option maxRecDepth 20000 in
theorem w_1106 : Cond.selects "RumourCustomsModel" yX6_digest yX6_digest ∈ GW := gw 1106 rfl rfl
set_option maxRecDepth 20000 in
theorem w_1107 : Cond.code yX6_digest cX6_digest 6 (some .long) ∈ GW := gw 1107 rfl rfl
set_option maxRecDepth 20000 in
theorem w_1108 : Cond.constantLong "RumourCustomsModel" 158 (499 : Int64) ∈ GW := gw 1108 rfl rfl
set_option maxRecDepth 20000 in
theorem w_1109 : Cond.constantLong "RumourCustomsModel" 160 (31 : Int64) ∈ GW := gw 1109 rfl rfl
set_option maxRecDepth 20000 in
theorem w_1110 : Cond.sameMethod "java/lang/Throwable" "java/lang/Throwable" "fillInStackTrace" "(I)Ljava/lang/Throwable;" ∈ GW := gw 1110 rfl rfl
set_option maxRecDepth 20000 in
theorem w_1124 : Cond.sameMethod "[Ljava/lang/Object;" "java/lang/Object" "getClass" "()Ljava/lang/Class;" ∈ GW := gw 1124 rfl rfl
set_option maxRecDepth 20000 in
theorem w_1125 : Cond.selects "[Ljava/lang/Object;" ⟨"java/lang/Object", "getClass", "()Ljava/lang/Class;"⟩ ⟨"java/lang/Object", "getClass", "()Ljava/lang/Class;"⟩ ∈ GW := gw 1125 rfl rfl
end
section
theorem inGJx4a65c : ∀ w ∈ u_ws RJx4a65c TJx4a65c 3, w ∈ GW := (List.forall_mem_cons.mpr ⟨w_144, List.forall_mem_cons.mpr ⟨w_140, List.forall_mem_cons.mpr ⟨w_142, fun _ h => absurd h List.not_mem_nil⟩⟩⟩ : ∀ w ∈ ([Cond.lays "java/util/ArrayList" "java/util/AbstractList" "modCount" "I", Cond.lays "java/util/ArrayList" "java/util/ArrayList" "elementData" "[Ljava/lang/Object;", Cond.lays "java/util/ArrayList" "java/util/ArrayList" "size" "I"] : List Cond), w ∈ GW)
theorem inGX0 : ∀ w ∈ u_ws RX0 TX0 5, w ∈ GW := (List.forall_mem_cons.mpr ⟨w_634, List.forall_mem_cons.mpr ⟨w_636, List.forall_mem_cons.mpr ⟨w_638, List.forall_mem_cons.mpr ⟨w_640, List.forall_mem_cons.mpr ⟨w_642, fun _ h => absurd h List.not_mem_nil⟩⟩⟩⟩⟩ : ∀ w ∈ ([Cond.laysFinal "RumourCustoms$Carrier" "RumourCustoms$Carrier" "number" "I", Cond.lays "RumourCustoms$Carrier" "RumourCustoms$Carrier" "town" "I", Cond.lays "RumourCustoms$Carrier" "RumourCustoms$Carrier" "hoursLeft" "I", Cond.lays "RumourCustoms$Carrier" "RumourCustoms$Carrier" "purse" "I", Cond.lays "RumourCustoms$Carrier" "RumourCustoms$Carrier" "paid" "I"] : List Cond), w ∈ GW)
theorem inGX1 : ∀ w ∈ u_ws RX1 TX1 6, w ∈ GW := (List.forall_mem_cons.mpr ⟨w_424, List.forall_mem_cons.mpr ⟨w_426, List.forall_mem_cons.mpr ⟨w_428, List.forall_mem_cons.mpr ⟨w_430, List.forall_mem_cons.mpr ⟨w_432, List.forall_mem_cons.mpr ⟨w_434, fun _ h => absurd h List.not_mem_nil⟩⟩⟩⟩⟩⟩ : ∀ w ∈ ([Cond.laysFinal "RumourCustoms$Road" "RumourCustoms$Road" "hours" "I", Cond.laysFinal "RumourCustoms$Road" "RumourCustoms$Road" "tariff" "I", Cond.laysFinal "RumourCustoms$Road" "RumourCustoms$Road" "surcharge" "I", Cond.laysFinal "RumourCustoms$Road" "RumourCustoms$Road" "strictness" "I", Cond.lays "RumourCustoms$Road" "RumourCustoms$Road" "attention" "I", Cond.lays "RumourCustoms$Road" "RumourCustoms$Road" "paid" "I"] : List Cond), w ∈ GW)
theorem inGX2 : ∀ w ∈ u_ws RX2 TX2 1, w ∈ GW := (List.forall_mem_cons.mpr ⟨w_100, fun _ h => absurd h List.not_mem_nil⟩ : ∀ w ∈ ([Cond.laysFinal "RumourCustoms$RoadMap" "RumourCustoms$RoadMap" "roads" "[LRumourCustoms$Road;"] : List Cond), w ∈ GW)
theorem inGX3 : ∀ w ∈ u_ws RX3 TX3 8, w ∈ GW := (List.forall_mem_cons.mpr ⟨w_483, List.forall_mem_cons.mpr ⟨w_485, List.forall_mem_cons.mpr ⟨w_487, List.forall_mem_cons.mpr ⟨w_489, List.forall_mem_cons.mpr ⟨w_491, List.forall_mem_cons.mpr ⟨w_493, List.forall_mem_cons.mpr ⟨w_495, List.forall_mem_cons.mpr ⟨w_497, fun _ h => absurd h List.not_mem_nil⟩⟩⟩⟩⟩⟩⟩⟩ : ∀ w ∈ ([Cond.laysFinal "RumourCustoms$Rumour" "RumourCustoms$Rumour" "number" "I", Cond.laysFinal "RumourCustoms$Rumour" "RumourCustoms$Rumour" "family" "I", Cond.laysFinal "RumourCustoms$Rumour" "RumourCustoms$Rumour" "length" "I", Cond.laysFinal "RumourCustoms$Rumour" "RumourCustoms$Rumour" "depth" "I", Cond.lays "RumourCustoms$Rumour" "RumourCustoms$Rumour" "proofs" "I", Cond.lays "RumourCustoms$Rumour" "RumourCustoms$Rumour" "town" "I", Cond.lays "RumourCustoms$Rumour" "RumourCustoms$Rumour" "bagOf" "I", Cond.lays "RumourCustoms$Rumour" "RumourCustoms$Rumour" "isHidden" "Z"] : List Cond), w ∈ GW)
theorem inGX4 : ∀ w ∈ u_ws RX4 TX4 3, w ∈ GW := (List.forall_mem_cons.mpr ⟨w_112, List.forall_mem_cons.mpr ⟨w_114, List.forall_mem_cons.mpr ⟨w_116, fun _ h => absurd h List.not_mem_nil⟩⟩⟩ : ∀ w ∈ ([Cond.laysFinal "RumourCustoms$WaySearch" "RumourCustoms$WaySearch" "map" "LRumourCustoms$RoadMap;", Cond.laysFinal "RumourCustoms$WaySearch" "RumourCustoms$WaySearch" "prices" "[I", Cond.laysFinal "RumourCustoms$WaySearch" "RumourCustoms$WaySearch" "areSettled" "[Z"] : List Cond), w ∈ GW)
theorem inGX5 : ∀ w ∈ u_ws RX5 TX5 11, w ∈ GW := (List.forall_mem_cons.mpr ⟨w_158, List.forall_mem_cons.mpr ⟨w_160, List.forall_mem_cons.mpr ⟨w_162, List.forall_mem_cons.mpr ⟨w_164, List.forall_mem_cons.mpr ⟨w_166, List.forall_mem_cons.mpr ⟨w_168, List.forall_mem_cons.mpr ⟨w_170, List.forall_mem_cons.mpr ⟨w_172, List.forall_mem_cons.mpr ⟨w_174, List.forall_mem_cons.mpr ⟨w_176, List.forall_mem_cons.mpr ⟨w_178, fun _ h => absurd h List.not_mem_nil⟩⟩⟩⟩⟩⟩⟩⟩⟩⟩⟩ : ∀ w ∈ ([Cond.laysFinal "RumourCustoms" "RumourCustoms" "map" "LRumourCustoms$RoadMap;", Cond.laysFinal "RumourCustoms" "RumourCustoms" "ways" "LRumourCustoms$WaySearch;", Cond.laysFinal "RumourCustoms" "RumourCustoms" "rumours" "Ljava/util/ArrayList;", Cond.laysFinal "RumourCustoms" "RumourCustoms" "carriers" "Ljava/util/ArrayList;", Cond.lays "RumourCustoms" "RumourCustoms" "townCount" "I", Cond.lays "RumourCustoms" "RumourCustoms" "roadCount" "I", Cond.lays "RumourCustoms" "RumourCustoms" "hour" "I", Cond.lays "RumourCustoms" "RumourCustoms" "proofsBurnt" "I", Cond.lays "RumourCustoms" "RumourCustoms" "dutiesPaid" "I", Cond.lays "RumourCustoms" "RumourCustoms" "finesPaid" "I", Cond.lays "RumourCustoms" "RumourCustoms" "searches" "I"] : List Cond), w ∈ GW)
theorem inGX6 : ∀ w ∈ u_ws RX6 TX6 14, w ∈ GW := (List.forall_mem_cons.mpr ⟨w_886, List.forall_mem_cons.mpr ⟨w_888, List.forall_mem_cons.mpr ⟨w_890, List.forall_mem_cons.mpr ⟨w_892, List.forall_mem_cons.mpr ⟨w_894, List.forall_mem_cons.mpr ⟨w_896, List.forall_mem_cons.mpr ⟨w_898, List.forall_mem_cons.mpr ⟨w_900, List.forall_mem_cons.mpr ⟨w_902, List.forall_mem_cons.mpr ⟨w_904, List.forall_mem_cons.mpr ⟨w_906, List.forall_mem_cons.mpr ⟨w_908, List.forall_mem_cons.mpr ⟨w_910, List.forall_mem_cons.mpr ⟨w_912, fun _ h => absurd h List.not_mem_nil⟩⟩⟩⟩⟩⟩⟩⟩⟩⟩⟩⟩⟩⟩ : ∀ w ∈ ([Cond.lays "RumourCustomsModel" "RumourCustomsModel" "thrown" "I", Cond.lays "RumourCustomsModel" "RumourCustomsModel" "hour" "I", Cond.lays "RumourCustomsModel" "RumourCustomsModel" "towns" "I", Cond.lays "RumourCustomsModel" "RumourCustomsModel" "roads" "I", Cond.lays "RumourCustomsModel" "RumourCustomsModel" "rumours" "I", Cond.lays "RumourCustomsModel" "RumourCustomsModel" "carriers" "I", Cond.lays "RumourCustomsModel" "RumourCustomsModel" "burnt" "I", Cond.lays "RumourCustomsModel" "RumourCustomsModel" "duties" "I", Cond.lays "RumourCustomsModel" "RumourCustomsModel" "fines" "I", Cond.lays "RumourCustomsModel" "RumourCustomsModel" "searches" "I", Cond.laysFinal "RumourCustomsModel" "RumourCustomsModel" "roadTable" "[I", Cond.laysFinal "RumourCustomsModel" "RumourCustomsModel" "table" "[I", Cond.laysFinal "RumourCustomsModel" "RumourCustomsModel" "people" "[I", Cond.laysFinal "RumourCustomsModel" "RumourCustomsModel" "best" "[J"] : List Cond), w ∈ GW)
end
section
/-! THE CORE: what a call sees of the heap, rows for one cell at its address, calls by contract. Z: the cells that a method must leave as they are; GF: what is known of the tables and of those cells. -/
section CORE0
def nZ (Z : Nat → Prop) : Nat → Prop := fun q => ¬ Z q
def Ob (D : va_G) (a ci : Nat) (fs : List Value) (H : Heap) : Prop := va_at D vwCl (a, .inr (ci, fs)) H
def Ar (cA : ClassId) (a : Nat) (x : vp_A) (H : Heap) : Prop := H[a]? = some (vp_cell cA x)
abbrev rI (n : Nat) (f : Nat → Int32) : vp_A := (n, .inl f)
abbrev rJ (n : Nat) (f : Nat → Int64) : vp_A := (n, .inr (.inl f))
abbrev rQ (n : Nat) (f : Nat → Option Nat) : vp_A := (n, .inr (.inr (.inr (.inr f))))
theorem Ob.kept {D : va_G} {a ci : Nat} {fs : List Value} {H H1 : Heap} (h : Ob D a ci fs H) (hq : H1[a]? = H[a]?) : Ob D a ci fs H1 := va_at.kept h hq
theorem Ar.kept {cA : ClassId} {a : Nat} {x : vp_A} {H H1 : Heap} (h : Ar cA a x H) (hq : H1[a]? = H[a]?) : Ar cA a x H1 := hq.trans h
theorem Ob.lt {D : va_G} {a ci : Nat} {fs : List Value} {H : Heap} (h : Ob D a ci fs H) : a < H.size := va_at.lt h
theorem Ar.lt {cA : ClassId} {a : Nat} {x : vp_A} {H : Heap} (h : Ar cA a x H) : a < H.size := (Array.getElem?_eq_some_iff.mp h).1
def KA (H0 H : Heap) : Prop := H0.size ≤ H.size ∧ ∀ q : Nat, q < H0.size → H[q]? = H0[q]?
theorem KA.rf {H : Heap} : KA H H := ⟨Nat.le_refl _, fun _ _ => rfl⟩
theorem KA.tr {H0 H1 H2 : Heap} (h1 : KA H0 H1) (h2 : KA H1 H2) : KA H0 H2 := ⟨Nat.le_trans h1.1 h2.1, fun q h => (h2.2 q (Nat.lt_of_lt_of_le h h1.1)).trans (h1.2 q h)⟩
def strs : List (Nat × String) := [(41, "there are 10 towns"), (272, "there is no such town"), (52, "a road is between two towns"), (265, "a number is out of its limits"), (63, "there is a road between them"), (269, "there is no such thing to tell"), (89, "there are 60 rumours"), (274, "there is no such rumour"), (128, "there are 8 carriers"), (276, "there is no such carrier"), (282, "the carrier is on the way"), (146, "the rumour is not in the same town"), (152, "6 rumours are in the bag"), (288, "the carrier does not have the rumour"), (174, "the depth would be 100"), (182, "there is no road"), (191, "the purse does not hold what is owed")]
abbrev tys5 (ct : Nat → ClassId) : List (ClassId × FieldType) := [(ct 0, .int), (ct 1, .boolean), (ct 2, .object "RumourCustoms$Road"), (ct 3, .object "java/lang/Object"), (ct 4, .long)]
abbrev e3 : List String := ["java/lang/IllegalStateException", "java/lang/IllegalArgumentException", "java/lang/IndexOutOfBoundsException"]
/-- what is known at every call: the tables' part -/
def GT (D : va_G) (ct : Nat → ClassId) (U : State) : Prop :=
  va_K D vwCl (tys5 ct) U ∧ (∀ q ∈ strs, ∃ sa, vk_R "RumourCustoms" q.1 q.2 sa U) ∧
  va_Nw (.castable "RumourCustoms$Rumour" "java/lang/Object") U ∧ va_Nw (.castable "RumourCustoms$Carrier" "java/lang/Object") U ∧ (∀ E ∈ e3, va_Nw (.castable E E) U) ∧
  (∀ E ∈ e3, ∀ F ∈ e3, E ≠ F → va_Nc E F U) ∧ va_Dc U ∧ va_AO "java/lang/Object" U ∧ va_AO "RumourCustoms$Road" U ∧ ∃ mi : Nat, va_Mi "[Ljava/lang/Object;" mi U
/-- .. and the heap's part -/
def GF (D : va_G) (ct : Nat → ClassId) (Z : Nat → Prop) (dc : Nat) (U : State) (H : Heap) : Prop :=
  (∀ q, Z q → q < H.size) ∧ GT D ct U ∧ vx_Zq Bundle.tN "UNASSIGNED_STACK" Bundle.steD (nZ Z) U H ∧ vx_Zq Bundle.tN "SUPPRESSED_SENTINEL" Bundle.listD (nZ Z) U H ∧
  va_Z "java/util/ArrayList" "DEFAULTCAPACITY_EMPTY_ELEMENTDATA" "[Ljava/lang/Object;" (.ref dc) (nZ Z) U H ∧ Z dc ∧ Ar (ct 3) dc (rQ 0 (fun _ => none)) H
theorem GT.warm {D : va_G} {ct : Nat → ClassId} {s U : State} (hW : s.WarmedH U.vm) (h : GT D ct s) : GT D ct U := by
  obtain ⟨h1, h2, h3, h4, h5, h6, h7, h8, h9, mi, h10⟩ := h
  exact ⟨va_K.moved hW.alike h1, fun q hq => (h2 q hq).imp fun sa h => vk_R.warm hW h, va_Nw.warmC hW h3, va_Nw.warmC hW h4, fun E hE => va_Nw.warmC hW (h5 E hE), fun E hE F hF n => va_Nc.moved hW.alike (h6 E hE F hF n), va_Dc.moved hW.alike h7, va_AO.moved hW.alike h8, va_AO.moved hW.alike h9, mi, va_Mi.moved hW.alike h10⟩
theorem GF.mv {D : va_G} {ct : Nat → ClassId} {Z : Nat → Prop} {dc : Nat} {s U : State} {H : Heap} {locs : List Loc} (hW : s.WarmedH U.vm) (hS : va_S (nZ Z) s.heap H locs) (h : GF D ct Z dc s s.heap) : GF D ct Z dc U H := by
  obtain ⟨h1, h2, h3, h4, h5, h6, h7⟩ := h
  have hk : ∀ a : Nat, a < s.heap.size → ¬ nZ Z a → H[a]? = s.heap[a]? := hS.2.1
  refine ⟨fun q hq => Nat.lt_of_lt_of_le (h1 q hq) hS.1, h2.warm hW, (vx_Zq.moved hW.alike h3).kept hk, (vx_Zq.moved hW.alike h4).kept hk, (va_Z.moved hW.alike h5).kept hk, h6, Ar.kept h7 (hk _ (h1 _ h6) (fun z => z h6))⟩
theorem GF.up {D : va_G} {ct : Nat → ClassId} {Z : Nat → Prop} {dc : Nat} {s U : State} {H : Heap} {locs : List Loc} (hW : s.WarmedH U.vm) (hS : va_S (nZ Z) s.heap H locs) (h : GF D ct Z dc s s.heap) (hU : U.heap = H) : GF D ct Z dc U U.heap := by
  rw [hU]; exact h.mv hW hS
/-- a narrower part that must stay -/
theorem GF.sub {D : va_G} {ct : Nat → ClassId} {Z Z' : Nat → Prop} {dc : Nat} {U : State} {H : Heap} (h : GF D ct Z dc U H) (hz : ∀ q, Z q → Z' q) (hs : ∀ q, Z' q → q < H.size) : GF D ct Z' dc U H := by
  obtain ⟨h1, h2, h3, h4, h5, h6, h7⟩ := h
  have hn : ∀ q, nZ Z' q → nZ Z q := fun q h z => h (hz q z)
  exact ⟨hs, h2, h3.narrow hn, h4.narrow hn, h5.narrow hn, hz _ h6, h7⟩
theorem vaS_KA {Z : Nat → Prop} {H0 H : Heap} {locs : List Loc} (hS : va_S (nZ Z) H0 H locs) {H1 : Heap} (hk : KA H H1) : va_S (nZ Z) H0 H1 locs :=
  ⟨Nat.le_trans hS.1 hk.1, fun q h1 h2 => (hk.2 q (Nat.lt_of_lt_of_le h1 hS.1)).trans (hS.2.1 q h1 h2), hS.2.2⟩
/-- ends of methods: nothing changed; something changed, but not in Z -/
def qP (v : Option Value) : Array Value → State → Outcome → State → Prop := fun _ st o t => o = .returned v ∧ t.heap = st.heap
def qS1 (Z : Nat → Prop) (Rl : Value → Heap → Prop) : Array Value → State → Outcome → State → Prop := fun _ st o t => ∃ x, o = .returned (some x) ∧ Rl x t.heap ∧ va_F (nZ Z) st t
def qS0 (Z : Nat → Prop) (Rl : Heap → Prop) : Array Value → State → Outcome → State → Prop := fun _ st o t => o = .returned none ∧ Rl t.heap ∧ va_F (nZ Z) st t
/-- a throw: of which class, and that nothing old has changed -/
def xK (px : String → Prop) : String → State → State → Prop := fun E st t => px E ∧ KA st.heap t.heap
def nF : Addr → Prop := fun _ => False
theorem blindPc {av : List Value} {D : va_G} {ct : Nat → ClassId} {Z : Nat → Prop} {dc : Nat} {P : Heap → Prop} : FrameBlind (va_Pc av (fun U => GF D ct Z dc U U.heap ∧ P U.heap)) := by
  intro a U g mk h
  obtain ⟨h1, h2, h3⟩ := h
  refine ⟨h1, ?_, h3⟩
  have hS : va_S (nZ Z) U.heap U.heap [] := va_S.rf
  exact h2.mv (U := U.calling g mk a) (State.WarmedH.refl U) hS
theorem blindPc0 {av : List Value} {P : Heap → Prop} : FrameBlind (va_Pc av (fun U => P U.heap)) := fun a U g mk h => h
theorem blindPcT {av : List Value} {D : va_G} {ct : Nat → ClassId} {P : Heap → Prop} : FrameBlind (va_Pc av (fun U => GT D ct U ∧ P U.heap)) := by
  intro a U g mk h
  exact ⟨h.1, h.2.1.warm (U := U.calling g mk a) (State.WarmedH.refl U), h.2.2⟩
theorem blindT {av : List Value} {D : va_G} {ct : Nat → ClassId} {F : State → Prop} (hF : ∀ (U : State) (g : JFrame) (mk : MethodId) (a : Array Value), F U → F (U.calling g mk a)) : FrameBlind (va_Pc av (fun U => GT D ct U ∧ F U)) := by
  intro a U g mk h
  exact ⟨h.1, h.2.1.warm (U := U.calling g mk a) (State.WarmedH.refl U), hF U g mk a h.2.2⟩
theorem blindF {av : List Value} {D : va_G} {ct : Nat → ClassId} {Z : Nat → Prop} {dc : Nat} {F : State → Prop} (hF : ∀ (U : State) (g : JFrame) (mk : MethodId) (a : Array Value), F U → F (U.calling g mk a)) : FrameBlind (va_Pc av (fun U => GF D ct Z dc U U.heap ∧ F U)) := by
  intro a U g mk h
  obtain ⟨h1, h2, h3⟩ := h
  have hS : va_S (nZ Z) U.heap U.heap [] := va_S.rf
  exact ⟨h1, h2.mv (U := U.calling g mk a) (State.WarmedH.refl U) hS, hF U g mk a h3⟩
end CORE0
section CORE1
variable {p : Program} {l : Launch} {e : Env} {R : Room} {s : State} {m : MethodId} {args : Array Value} {below : List Frame} {meth : Method} {c : Code} {H : Heap} {locs : List Loc} {cells slots : Nat} {Q : State → Prop}
variable {cc : ByteArray} {pc : Nat} {ls : Array Slot} {rest st0 : List Value} {D : va_G} {ct : Nat → ClassId} {a : Nat} {tys : List (ClassId × FieldType)} {Ts : List Cond} {Z : Nat → Prop} {mc ms : Nat} {free : Addr → Prop} {ar : Array Value} {H0 : Heap}
/-- a field is read -/
theorem k_get (hexec : p.tables.exec = Jvm.exec) (hb : c.code = cc) {own ref C : String} {T : u_T} {N ci index : Nat} (hts : ∀ w ∈ Ts, w.before args s = true) (hin : ∀ w ∈ u_ws C T N, w ∈ Ts) (hown : s.vm.findClass own = some m.cls) (hK : va_K D vwCl tys s) {fs : List Value} (hP : Ob D a ci fs H) (hc : vwCl[ci]? = some (C, T, N)) (k : Nat) (hk : k < N) (hlink : (Cond.fieldLink own index ref (T k).2.1 (T k).2.2.1).before args s = true) (hsame : ∀ x, s.fieldFound? (T k).1 (T k).2.1 (T k).2.2.1 = some x → s.fieldFound? ref (T k).2.1 (T k).2.2.1 = some x) {v : Value} (hv : fs[k]? = some v) (hdg : decode cc pc = .ok (.getfield index, 3))
    (kk : W p l e R s m args below meth c H locs cells slots Q (F0 m (pc + 3) ls (v :: rest))) : W p l e R s m args below meth c H locs cells slots Q (F0 m pc ls (.ref a :: rest)) :=
  va_get (D := D) (ws := [(a, .inr (ci, fs))]) hexec hb hts hin hown hK (fun j q h => by
    have hj : j < 1 := (List.getElem?_eq_some_iff.mp h).1
    have e : j = 0 := by omega
    subst e
    cases h
    exact hP) 0 rfl hc k hk hlink hsame hv hdg kk
/-- a field is written -/
theorem k_put (hexec : p.tables.exec = Jvm.exec) (hb : c.code = cc) {own ref C : String} {T : u_T} {N ci index : Nat} (hts : ∀ w ∈ Ts, w.before args s = true) (hin : ∀ w ∈ u_ws C T N, w ∈ Ts) (ty0 : Nat → FieldType) (hty : ∀ k, k < N → parseFieldDescriptor (T k).2.2.1 = some (ty0 k)) (hnm : ∀ a, a < N → ∀ b, b < N → a ≠ b → (T a).2.1 ≠ (T b).2.1) (hown : s.vm.findClass own = some m.cls) (hK : va_K D vwCl tys s) {fs : List Value} (hP : Ob D a ci fs H) (hS0 : va_S (nZ Z) H0 H locs) (hz : ¬ Z a) (hc : vwCl[ci]? = some (C, T, N)) (k : Nat) (hk : k < N) (hlink : (Cond.fieldLink own index ref (T k).2.1 (T k).2.2.1).before args s = true) (hsame : ∀ x, s.fieldFound? (T k).1 (T k).2.1 (T k).2.2.1 = some x → s.fieldFound? ref (T k).2.1 (T k).2.2.1 = some x) (hfin : (T k).2.2.2 = false) {ty : FieldType} {v : Value} (hd : parseFieldDescriptor (T k).2.2.1 = some ty) (hn : narrow ty v = v) (hfit : fits ty v = true) (hl : k < fs.length)
    (hdg : decode cc pc = .ok (.putfield index, 3)) (kk : ∀ (H1 : Heap) (locs1 : List Loc), Ob D a ci (fs.set k v) H1 → H1.size = H.size → (∀ q : Nat, q ≠ a → H1[q]? = H[q]?) → va_S (nZ Z) H0 H1 locs1 → W p l e R s m args below meth c H1 locs1 cells slots Q (F0 m (pc + 3) ls rest)) : W p l e R s m args below meth c H locs cells slots Q (F0 m pc ls (v :: .ref a :: rest)) := by
  have hap := va_apart (own := own) hts hin ty0 hty hnm hK hc
  obtain ⟨r, h1, cell, q1, q2, q3, q4⟩ := hP
  cases Option.some.inj (h1.symm.trans hc)
  obtain ⟨hSl, hfc, kC, hkC, hkind⟩ := hK.1 ci _ hc
  obtain ⟨cf, kf, fi, f, hi, hsl⟩ := hSl k hk
  have hlay := hts _ (hin _ (u_in_lay hk))
  unfold u_lay at hlay
  rw [if_neg (by rw [hfin]; decide)] at hlay
  refine W.putK hexec hb (f := f) ⟨hown, hlink, ⟨_, _, _, hsame _ hi⟩, (u_facts hfc hkC (u_lays hts hin hk) hi).1⟩ (by rw [q2]; exact u_store hfc hkC hkind hlay hi hd hn hfit) q1 q3 (by rw [hsl]; exact k2_hasslot (q4 k hk)) rfl rfl hdg fun H' e1 e2 e3 => ?_
  rw [hsl] at e1 ⊢
  exact kk H' _ ⟨_, hc, t_OB.to (V := updV (vp_V fs) k v) ⟨_, e1, q2, q3, t_set q4 hap hk v⟩ (fun j _ => vp_updV_set hl v j)⟩ e2 e3 (hS0.put e2 e3 hz)
/-- a final field is written, in a constructor -/
theorem k_putF (hexec : p.tables.exec = Jvm.exec) (hb : c.code = cc) {own ref C : String} {T : u_T} {N ci index : Nat} (hts : ∀ w ∈ Ts, w.before args s = true) (hin : ∀ w ∈ u_ws C T N, w ∈ Ts) (ty0 : Nat → FieldType) (hty : ∀ k, k < N → parseFieldDescriptor (T k).2.2.1 = some (ty0 k)) (hnm : ∀ a, a < N → ∀ b, b < N → a ≠ b → (T a).2.1 ≠ (T b).2.1) (hown : s.vm.findClass own = some m.cls) (hK : va_K D vwCl tys s) {fs : List Value} (hP : Ob D a ci fs H) (hS0 : va_S (nZ Z) H0 H locs) (hz : ¬ Z a) (hc : vwCl[ci]? = some (C, T, N)) (k : Nat) (hk : k < N) (hlink : (Cond.fieldLink own index ref (T k).2.1 (T k).2.2.1).before args s = true) (hsame : ∀ x, s.fieldFound? (T k).1 (T k).2.1 (T k).2.2.1 = some x → s.fieldFound? ref (T k).2.1 (T k).2.2.1 = some x) (hfin : (T k).2.2.2 = true) (hin2 : meth.name = "<init>") (hdecl : (T k).1 = own) {ty : FieldType} {v : Value} (hd : parseFieldDescriptor (T k).2.2.1 = some ty) (hn : narrow ty v = v) (hfit : fits ty v = true) (hl : k < fs.length)
    (hdg : decode cc pc = .ok (.putfield index, 3)) (kk : ∀ (H1 : Heap) (locs1 : List Loc), Ob D a ci (fs.set k v) H1 → H1.size = H.size → (∀ q : Nat, q ≠ a → H1[q]? = H[q]?) → va_S (nZ Z) H0 H1 locs1 → W p l e R s m args below meth c H1 locs1 cells slots Q (F0 m (pc + 3) ls rest)) : W p l e R s m args below meth c H locs cells slots Q (F0 m pc ls (v :: .ref a :: rest)) := by
  have hap := va_apart (own := own) hts hin ty0 hty hnm hK hc
  obtain ⟨r, h1, cell, q1, q2, q3, q4⟩ := hP
  cases Option.some.inj (h1.symm.trans hc)
  obtain ⟨hSl, hfc, kC, hkC, hkind⟩ := hK.1 ci _ hc
  obtain ⟨cf, kf, fi, f, hi, hsl⟩ := hSl k hk
  have hlay := hts _ (hin _ (u_in_lay hk))
  unfold u_lay at hlay
  rw [if_pos hfin] at hlay
  have hcf : m.cls = cf := by
    obtain ⟨_, _, c', _, _, _, -, -, hf', -, -, -, hown2, -⟩ := Cond.laysFinal_spec hlay
    have e1 : c' = cf := by have := hi.symm.trans hf'; simp at this; exact this.1.symm
    rw [hdecl] at hown2
    rw [← e1]; exact Option.some.inj (hown.symm.trans hown2)
  refine W.putFinK hexec hb hown hlink (hsame _ hi) (u_facts hfc hkC (u_lays hts hin hk) hi).1 hcf hin2 (by rw [q2]; exact u_fits hfc hkC hkind (Or.inr hlay) hi hd hn hfit) q1 q3 (by rw [hsl]; exact k2_hasslot (q4 k hk)) rfl rfl hdg fun H' e1 e2 e3 => ?_
  rw [hsl] at e1 ⊢
  exact kk H' _ ⟨_, hc, t_OB.to (V := updV (vp_V fs) k v) ⟨_, e1, q2, q3, t_set q4 hap hk v⟩ (fun j _ => vp_updV_set hl v j)⟩ e2 e3 (hS0.put e2 e3 hz)
/-- an object is made -/
theorem k_new (hexec : p.tables.exec = Jvm.exec) (hb : c.code = cc) {own C : String} {T : u_T} {N ci index : Nat} (hts : ∀ w ∈ Ts, w.before args s = true) (hin : ∀ w ∈ u_ws C T N, w ∈ Ts) (ty : Nat → FieldType) (hty : ∀ k, k < N → parseFieldDescriptor (T k).2.2.1 = some (ty k)) (hown : s.vm.findClass own = some m.cls) (hcl : (Cond.classLink own index C).before args s = true) (hinst : (Cond.instantiable C N).before args s = true) (hini : (Cond.initialized C).before args s = true)
    (hK : va_K D vwCl tys s) (hS : va_S (nZ Z) H0 H locs) (hc : vwCl[ci]? = some (C, T, N)) {fs : List Value} (hfs : ∀ j, j < N → defaultValue (ty j) = vp_V fs j) (hcells : cells + 1 ≤ R.cells) (hslots : slots + N ≤ R.slots) (hdg : decode cc pc = .ok (.new index, 3))
    (kk : ∀ (H1 : Heap), Ob D H.size ci fs H1 → H1.size = H.size + 1 → (∀ q : Nat, q < H.size → H1[q]? = H[q]?) → va_S (nZ Z) H0 H1 locs →
      W p l e R s m args below meth c H1 locs (cells + 1) (slots + N) Q (F0 m (pc + 3) ls (.ref H.size :: rest))) : W p l e R s m args below meth c H locs cells slots Q (F0 m pc ls rest) := by
  have hKn := hK.1 ci _ hc
  refine W.newcK hexec hb hown hcl hinst hini rfl hdg hcells hslots hKn.2.1 rfl fun H1 kC hkC e1 z1 o1 => ?_
  exact kk H1 ⟨_, hc, (u_born ty hts hin hKn hkC e1 hty).to hfs⟩ z1 o1 (vaS_KA hS ⟨by omega, o1⟩)
/-- int arrays, long arrays, boolean arrays, arrays of references -/
theorem Ar.P {cA : ClassId} {x : vp_A} (hA : Ar cA a x H) : va_P D vwCl [(a, .inl (cA, x))] H := fun j q h => by
    have hj : j < 1 := (List.getElem?_eq_some_iff.mp h).1
    have e : j = 0 := by omega
    subst e
    cases h
    exact hA
theorem Ob.P {ci : Nat} {fs : List Value} (hA : Ob D a ci fs H) : va_P D vwCl [(a, .inr (ci, fs))] H := fun j q h => by
    have hj : j < 1 := (List.getElem?_eq_some_iff.mp h).1
    have e : j = 0 := by omega
    subst e
    cases h
    exact hA
theorem k_iald (hexec : p.tables.exec = Jvm.exec) (hb : c.code = cc) (hK : va_K D vwCl (tys5 ct) s) {n : Nat} {f : Nat → Int32} (hA : Ar (ct 0) a (rI n f) H) {i : Int32} (hin : vp_in i n) (hdg : decode cc pc = .ok (.iaload, 1))
    (kk : W p l e R s m args below meth c H locs cells slots Q (F0 m (pc + 1) ls (.int (f i.toNatClampNeg) :: rest))) : W p l e R s m args below meth c H locs cells slots Q (F0 m pc ls (.int i :: .ref a :: rest)) :=
  va_iald (D := D) hexec hb hK hA.P 0 0 rfl rfl hin hdg kk
theorem k_zald (hexec : p.tables.exec = Jvm.exec) (hb : c.code = cc) (hK : va_K D vwCl (tys5 ct) s) {n : Nat} {f : Nat → Int32} (hA : Ar (ct 1) a (rI n f) H) {i : Int32} (hin : vp_in i n) (hdg : decode cc pc = .ok (.baload, 1))
    (kk : W p l e R s m args below meth c H locs cells slots Q (F0 m (pc + 1) ls (.int (f i.toNatClampNeg) :: rest))) : W p l e R s m args below meth c H locs cells slots Q (F0 m pc ls (.int i :: .ref a :: rest)) :=
  va_zald (D := D) hexec hb hK hA.P 0 1 rfl rfl hin hdg kk
theorem k_lald (hexec : p.tables.exec = Jvm.exec) (hb : c.code = cc) (hK : va_K D vwCl (tys5 ct) s) {n : Nat} {f : Nat → Int64} (hA : Ar (ct 4) a (rJ n f) H) {i : Int32} (hin : vp_in i n) (hdg : decode cc pc = .ok (.laload, 1))
    (kk : W p l e R s m args below meth c H locs cells slots Q (F0 m (pc + 1) ls (.long (f i.toNatClampNeg) :: rest))) : W p l e R s m args below meth c H locs cells slots Q (F0 m pc ls (.int i :: .ref a :: rest)) :=
  va_lald (D := D) hexec hb hK hA.P 0 4 rfl rfl hin hdg kk
theorem k_aald2 (hexec : p.tables.exec = Jvm.exec) (hb : c.code = cc) (hK : va_K D vwCl (tys5 ct) s) {n : Nat} {f : Nat → Option Nat} (hA : Ar (ct 2) a (rQ n f) H) {i : Int32} (hin : vp_in i n) (hdg : decode cc pc = .ok (.aaload, 1))
    (kk : W p l e R s m args below meth c H locs cells slots Q (F0 m (pc + 1) ls (va_rf (f i.toNatClampNeg) :: rest))) : W p l e R s m args below meth c H locs cells slots Q (F0 m pc ls (.int i :: .ref a :: rest)) :=
  va_aldq (D := D) hexec hb hK hA.P 0 2 rfl rfl hin hdg kk
theorem k_aald3 (hexec : p.tables.exec = Jvm.exec) (hb : c.code = cc) (hK : va_K D vwCl (tys5 ct) s) {n : Nat} {f : Nat → Option Nat} (hA : Ar (ct 3) a (rQ n f) H) {i : Int32} (hin : vp_in i n) (hdg : decode cc pc = .ok (.aaload, 1))
    (kk : W p l e R s m args below meth c H locs cells slots Q (F0 m (pc + 1) ls (va_rf (f i.toNatClampNeg) :: rest))) : W p l e R s m args below meth c H locs cells slots Q (F0 m pc ls (.int i :: .ref a :: rest)) :=
  va_aldq (D := D) hexec hb hK hA.P 0 3 rfl rfl hin hdg kk
theorem k_alen (hexec : p.tables.exec = Jvm.exec) (hb : c.code = cc) (hK : va_K D vwCl (tys5 ct) s) (t0 : Nat) {cA : ClassId} {x : vp_A} (hA : Ar cA a x H) {ty : FieldType} (ht : (tys5 ct)[t0]? = some (cA, ty)) (hdg : decode cc pc = .ok (.arraylength, 1))
    (kk : W p l e R s m args below meth c H locs cells slots Q (F0 m (pc + 1) ls (.int (nI x.1) :: rest))) : W p l e R s m args below meth c H locs cells slots Q (F0 m pc ls (.ref a :: rest)) :=
  va_alen (D := D) hexec hb hK hA.P 0 t0 rfl ht rfl hdg kk
theorem k_iast (hexec : p.tables.exec = Jvm.exec) (hb : c.code = cc) (hK : va_K D vwCl (tys5 ct) s) (hS : va_S (nZ Z) H0 H locs) (hz : ¬ Z a) {n : Nat} {f : Nat → Int32} (hA : Ar (ct 0) a (rI n f) H) {i x : Int32} (hin : vp_in i n) (hdg : decode cc pc = .ok (.iastore, 1))
    (kk : ∀ (H1 : Heap) (locs1 : List Loc), Ar (ct 0) a (rI n (upd f i.toNatClampNeg x)) H1 → H1.size = H.size → (∀ q : Nat, q ≠ a → H1[q]? = H[q]?) → va_S (nZ Z) H0 H1 locs1 → W p l e R s m args below meth c H1 locs1 cells slots Q (F0 m (pc + 1) ls rest)) : W p l e R s m args below meth c H locs cells slots Q (F0 m pc ls (.int x :: .int i :: .ref a :: rest)) := by
  refine W.iast hexec hb hA ((hK.2 0 _ rfl).1 n (fun j => .int (f j))) (fun q => by cases q) (by show ¬ (i < 0 ∨ (arrV _ _ _).slots.size ≤ _); rw [arrV_size]; exact hin) rfl rfl hdg fun H1 e z oq => ?_
  refine kk H1 _ ?_ z oq (hS.put z oq hz)
  show H1[a]? = some (vp_cell _ _)
  rw [e, vp_cell_i, vp_cell_i, arrV_store]
  congr 2
  funext q
  by_cases hq : q = i.toNatClampNeg
  · simp [updV, upd, hq]
  · simp [updV, upd, hq]
theorem k_zast (hexec : p.tables.exec = Jvm.exec) (hb : c.code = cc) (hK : va_K D vwCl (tys5 ct) s) (hS : va_S (nZ Z) H0 H locs) (hz : ¬ Z a) {n : Nat} {f : Nat → Int32} (hA : Ar (ct 1) a (rI n f) H) {i x : Int32} (hx : narrow .boolean (.int x) = .int x) (hin : vp_in i n) (hdg : decode cc pc = .ok (.bastore, 1))
    (kk : ∀ (H1 : Heap) (locs1 : List Loc), Ar (ct 1) a (rI n (upd f i.toNatClampNeg x)) H1 → H1.size = H.size → (∀ q : Nat, q ≠ a → H1[q]? = H[q]?) → va_S (nZ Z) H0 H1 locs1 → W p l e R s m args below meth c H1 locs1 cells slots Q (F0 m (pc + 1) ls rest)) : W p l e R s m args below meth c H locs cells slots Q (F0 m pc ls (.int x :: .int i :: .ref a :: rest)) := by
  refine W.zast hexec hb hA ((hK.2 1 _ rfl).1 n (fun j => .int (f j))) (fun q => by cases q) (by show ¬ (i < 0 ∨ (arrV _ _ _).slots.size ≤ _); rw [arrV_size]; exact hin) rfl rfl hdg fun H1 e z oq => ?_
  refine kk H1 _ ?_ z oq (hS.put z oq hz)
  show H1[a]? = some (vp_cell _ _)
  rw [e, hx, vp_cell_i, vp_cell_i, arrV_store]
  congr 2
  funext q
  by_cases hq : q = i.toNatClampNeg
  · simp [updV, upd, hq]
  · simp [updV, upd, hq]
theorem k_last (hexec : p.tables.exec = Jvm.exec) (hb : c.code = cc) (hK : va_K D vwCl (tys5 ct) s) (hS : va_S (nZ Z) H0 H locs) (hz : ¬ Z a) {n : Nat} {f : Nat → Int64} (hA : Ar (ct 4) a (rJ n f) H) {i : Int32} {x : Int64} (hin : vp_in i n) (hdg : decode cc pc = .ok (.lastore, 1))
    (kk : ∀ (H1 : Heap) (locs1 : List Loc), Ar (ct 4) a (rJ n (vp_updL f i.toNatClampNeg x)) H1 → H1.size = H.size → (∀ q : Nat, q ≠ a → H1[q]? = H[q]?) → va_S (nZ Z) H0 H1 locs1 → W p l e R s m args below meth c H1 locs1 cells slots Q (F0 m (pc + 1) ls rest)) : W p l e R s m args below meth c H locs cells slots Q (F0 m pc ls (.long x :: .int i :: .ref a :: rest)) := by
  refine W.last hexec hb hA ((hK.2 4 _ rfl).1 n (fun j => .long (f j))) (fun q => by cases q) (by show ¬ (i < 0 ∨ (arrV _ _ _).slots.size ≤ _); rw [arrV_size]; exact hin) rfl rfl hdg fun H1 e z oq => ?_
  refine kk H1 _ ?_ z oq (hS.put z oq hz)
  show H1[a]? = some (vp_cell _ _)
  rw [e, vp_cell_l, vp_cell_l, arrV_store]
  congr 2
  funext q
  by_cases hq : q = i.toNatClampNeg
  · simp [updV, vp_updL, hq]
  · simp [updV, vp_updL, hq]
/-- a made int array is of the known class -/
theorem k_newI (hexec : p.tables.exec = Jvm.exec) (hb : c.code = cc) (harr : (Cond.arrayClass .int).before args s = true) (hK : va_K D vwCl (tys5 ct) s) (hS : va_S (nZ Z) H0 H locs) {n : Int32} {N : Nat} (hn : ¬ n < 0) (hN : n.toNatClampNeg = N) (hbytes : N * 4 ≤ 536870912) (hcells : cells + 1 ≤ R.cells) (hslots : slots + N ≤ R.slots) (hdg : decode cc pc = .ok (.newarray .int, 2))
    (kk : ∀ (H1 : Heap), Ar (ct 0) H.size (rI N (fun _ => 0)) H1 → H1.size = H.size + 1 → (∀ q : Nat, q < H.size → H1[q]? = H[q]?) → va_S (nZ Z) H0 H1 locs → W p l e R s m args below meth c H1 locs (cells + 1) (slots + N) Q (F0 m (pc + 2) ls (.ref H.size :: rest))) : W p l e R s m args below meth c H locs cells slots Q (F0 m pc ls (.int n :: rest)) := by
  refine va_newaK (atype := .int) hexec hb harr rfl hdg rfl hn hN hbytes hcells hslots rfl fun H1 cA e1 z1 o1 _ hNm => ?_
  have hc : cA = ct 0 := by
    have h2 := (hK.2 0 _ rfl).2
    exact Option.some.inj (hNm.symm.trans h2)
  subst hc
  exact kk H1 e1 z1 o1 (vaS_KA hS ⟨by omega, o1⟩)
theorem k_newZ (hexec : p.tables.exec = Jvm.exec) (hb : c.code = cc) (harr : (Cond.arrayClass .boolean).before args s = true) (hK : va_K D vwCl (tys5 ct) s) (hS : va_S (nZ Z) H0 H locs) {n : Int32} {N : Nat} (hn : ¬ n < 0) (hN : n.toNatClampNeg = N) (hbytes : N * 1 ≤ 536870912) (hcells : cells + 1 ≤ R.cells) (hslots : slots + N ≤ R.slots) (hdg : decode cc pc = .ok (.newarray .boolean, 2))
    (kk : ∀ (H1 : Heap), Ar (ct 1) H.size (rI N (fun _ => 0)) H1 → H1.size = H.size + 1 → (∀ q : Nat, q < H.size → H1[q]? = H[q]?) → va_S (nZ Z) H0 H1 locs → W p l e R s m args below meth c H1 locs (cells + 1) (slots + N) Q (F0 m (pc + 2) ls (.ref H.size :: rest))) : W p l e R s m args below meth c H locs cells slots Q (F0 m pc ls (.int n :: rest)) := by
  refine va_newaK (atype := .boolean) hexec hb harr rfl hdg rfl hn hN hbytes hcells hslots rfl fun H1 cA e1 z1 o1 _ hNm => ?_
  have hc : cA = ct 1 := by
    have h2 := (hK.2 1 _ rfl).2
    exact Option.some.inj (hNm.symm.trans h2)
  subst hc
  exact kk H1 e1 z1 o1 (vaS_KA hS ⟨by omega, o1⟩)
theorem k_newJ (hexec : p.tables.exec = Jvm.exec) (hb : c.code = cc) (harr : (Cond.arrayClass .long).before args s = true) (hK : va_K D vwCl (tys5 ct) s) (hS : va_S (nZ Z) H0 H locs) {n : Int32} {N : Nat} (hn : ¬ n < 0) (hN : n.toNatClampNeg = N) (hbytes : N * 8 ≤ 536870912) (hcells : cells + 1 ≤ R.cells) (hslots : slots + N ≤ R.slots) (hdg : decode cc pc = .ok (.newarray .long, 2))
    (kk : ∀ (H1 : Heap), Ar (ct 4) H.size (rJ N (fun _ => 0)) H1 → H1.size = H.size + 1 → (∀ q : Nat, q < H.size → H1[q]? = H[q]?) → va_S (nZ Z) H0 H1 locs → W p l e R s m args below meth c H1 locs (cells + 1) (slots + N) Q (F0 m (pc + 2) ls (.ref H.size :: rest))) : W p l e R s m args below meth c H locs cells slots Q (F0 m pc ls (.int n :: rest)) := by
  refine va_newaK (atype := .long) hexec hb harr rfl hdg rfl hn hN hbytes hcells hslots rfl fun H1 cA e1 z1 o1 _ hNm => ?_
  have hc : cA = ct 4 := by
    have h2 := (hK.2 4 _ rfl).2
    exact Option.some.inj (hNm.symm.trans h2)
  subst hc
  exact kk H1 e1 z1 o1 (vaS_KA hS ⟨by omega, o1⟩)
theorem k_newQ (t0 : Nat) (hexec : p.tables.exec = Jvm.exec) (hb : c.code = cc) {own C : String} {index : Nat} (hown : s.vm.findClass own = some m.cls) (hclink : (Cond.classLink own index C).before args s = true) (hover : va_AO C s) (hK : va_K D vwCl (tys5 ct) s) {cA0 : ClassId} (ht : (tys5 ct)[t0]? = some (cA0, .object C)) (hS : va_S (nZ Z) H0 H locs) {n : Int32} {N : Nat} (hn : ¬ n < 0) (hN : n.toNatClampNeg = N) (hbytes : N * 4 ≤ 536870912) (hcells : cells + 1 ≤ R.cells) (hslots : slots + N ≤ R.slots) (hdg : decode cc pc = .ok (.anewarray index, 3))
    (kk : ∀ (H1 : Heap), Ar cA0 H.size (rQ N (fun _ => none)) H1 → H1.size = H.size + 1 → (∀ q : Nat, q < H.size → H1[q]? = H[q]?) → va_S (nZ Z) H0 H1 locs → W p l e R s m args below meth c H1 locs (cells + 1) (slots + N) Q (F0 m (pc + 3) ls (.ref H.size :: rest))) : W p l e R s m args below meth c H locs cells slots Q (F0 m pc ls (.int n :: rest)) := by
  subst hN
  refine W.anew hexec hb hown hclink (va_AO.use hover) rfl hdg rfl hn hbytes hcells hslots fun cA kA comp f1 f2 f3 f4 => ?_
  have hc : cA = cA0 := by
    obtain ⟨kA', comp', -, -, -, h4⟩ := (hK.2 t0 _ ht).2
    exact Option.some.inj (f1.symm.trans h4)
  subst hc
  generalize hH1 : H.push ({ cls := cA, slots := Array.replicate n.toNatClampNeg .null, vm := .none } : Cell) = H1
  have z1 : H1.size = H.size + 1 := by rw [← hH1, Array.size_push]
  have e1 : H1[H.size]? = some (arrV cA n.toNatClampNeg (fun _ => .null)) := by rw [← hH1, Array.getElem?_push_size, ← arrV_new]
  have o1 : ∀ q : Nat, q < H.size → H1[q]? = H[q]? := fun q hq => by rw [← hH1, Array.getElem?_push, if_neg (Nat.ne_of_lt hq)]
  exact kk H1 e1 z1 o1 (vaS_KA hS ⟨by omega, o1⟩)
/-- an object's class, for a receiver -/
theorem Ob.recv {ci : Nat} {fs : List Value} {q : vw_C} (hK : va_K D vwCl tys s) (hP : Ob D a ci fs H) (hc : vwCl[ci]? = some q) : ∃ cell : Cell, H[a]? = some cell ∧ cell.vm.isStatics = false ∧ s.vm.findClass q.1 = some cell.cls :=
  va_recv (D := D) hK hP.P hc (q0 := 0) rfl
/-- behind a call that changes nothing -/
theorem c_p1 {x : Value} (hr : va_Run p l e R s m args below meth c H locs cells slots 0 0 (F0 m pc ls st0) rest (qP (some x) ar) nF)
    (kk : W p l e R s m args below meth c H locs cells slots Q (F0 m (pc + 3) ls (x :: rest))) : W p l e R s m args below meth c H locs cells slots Q (F0 m pc ls st0) := by
  intro T hT X
  obtain ⟨v, st₀, t, T', L, h0, X', hL, e1, e2, ⟨hv, hh⟩, st⟩ := hr T hT X
  cases hv
  have hL0 : L = [] := by
    cases L with
    | nil => rfl
    | cons q L => exact (hL q List.mem_cons_self).elim
  subst hL0
  rw [List.append_nil] at X'
  obtain ⟨t2, a1, b1⟩ := kk T' (e1.trans (hh.trans h0)) X'
  exact ⟨t2, st t2 a1, b1⟩
theorem c_p0 (hr : va_Run p l e R s m args below meth c H locs cells slots 0 0 (F0 m pc ls st0) rest (qP none ar) nF)
    (kk : W p l e R s m args below meth c H locs cells slots Q (F0 m (pc + 3) ls rest)) : W p l e R s m args below meth c H locs cells slots Q (F0 m pc ls st0) := by
  intro T hT X
  obtain ⟨v, st₀, t, T', L, h0, X', hL, e1, e2, ⟨hv, hh⟩, st⟩ := hr T hT X
  cases hv
  have hL0 : L = [] := by
    cases L with
    | nil => rfl
    | cons q L => exact (hL q List.mem_cons_self).elim
  subst hL0
  rw [List.append_nil] at X'
  obtain ⟨t2, a1, b1⟩ := kk T' (e1.trans (hh.trans h0)) X'
  exact ⟨t2, st t2 a1, b1⟩
theorem vaS_call {st₀ t T' : State} {L : List Loc} (h0 : st₀.heap = H) (e1 : T'.heap = t.heap) (hS : va_S (nZ Z) H0 H locs) (hL : ∀ q ∈ L, nZ Z q.base) (hF : va_F (nZ Z) st₀ t) : va_S (nZ Z) H0 T'.heap (locs ++ L) := by
  obtain ⟨f1, f2⟩ := hF
  rw [h0] at f1 f2
  refine ⟨Nat.le_trans hS.1 (by rw [e1]; exact f1), fun q h1 h2 => ?_, fun q hq => ?_⟩
  · rw [e1, f2 q (Nat.lt_of_lt_of_le h1 hS.1) h2]
    exact hS.2.1 q h1 h2
  · rcases List.mem_append.mp hq with h | h
    · exact hS.2.2 q h
    · exact hL q h
/-- behind a call that changes something -/
theorem c_s1 {Rl : Value → Heap → Prop} (hr : va_Run p l e R s m args below meth c H locs cells slots mc ms (F0 m pc ls st0) rest (qS1 Z Rl ar) (nZ Z)) (hS : va_S (nZ Z) H0 H locs)
    (kk : ∀ (x : Value) (H1 : Heap) (locs1 : List Loc), Rl x H1 → H.size ≤ H1.size → va_S (nZ Z) H0 H1 locs1 → W p l e R s m args below meth c H1 locs1 (cells + mc) (slots + ms) Q (F0 m (pc + 3) ls (x :: rest))) : W p l e R s m args below meth c H locs cells slots Q (F0 m pc ls st0) := by
  intro T hT X
  obtain ⟨v, st₀, t, T', L, h0, X', hL, e1, e2, ⟨x, hv, hq, hF⟩, st⟩ := hr T hT X
  cases hv
  have hz := hF.1
  rw [h0] at hz
  obtain ⟨t2, a1, b1⟩ := kk x T'.heap (locs ++ L) (by rw [e1]; exact hq) (by rw [e1]; exact hz) (vaS_call h0 e1 hS hL hF) T' rfl X'
  exact ⟨t2, st t2 a1, b1⟩
theorem c_s0 {Rl : Heap → Prop} (hr : va_Run p l e R s m args below meth c H locs cells slots mc ms (F0 m pc ls st0) rest (qS0 Z Rl ar) (nZ Z)) (hS : va_S (nZ Z) H0 H locs)
    (kk : ∀ (H1 : Heap) (locs1 : List Loc), Rl H1 → H.size ≤ H1.size → va_S (nZ Z) H0 H1 locs1 → W p l e R s m args below meth c H1 locs1 (cells + mc) (slots + ms) Q (F0 m (pc + 3) ls rest)) : W p l e R s m args below meth c H locs cells slots Q (F0 m pc ls st0) := by
  intro T hT X
  obtain ⟨v, st₀, t, T', L, h0, X', hL, e1, e2, ⟨hv, hq, hF⟩, st⟩ := hr T hT X
  cases hv
  have hz := hF.1
  rw [h0] at hz
  obtain ⟨t2, a1, b1⟩ := kk T'.heap (locs ++ L) (by rw [e1]; exact hq) (by rw [e1]; exact hz) (vaS_call h0 e1 hS hL hF) T' rfl X'
  exact ⟨t2, st t2 a1, b1⟩
/-- words of a callee among the list of all words -/
theorem GG {own C : String} {idx : Nat} {y : MethodName} {bytes : ByteArray} {maxL : Nat} {ret : Option FieldType} (h1 : Cond.methodLink own idx y ∈ GW) (h2 : Cond.instanceMethod y ∈ GW) (h3 : Cond.selects C y y ∈ GW) (h4 : Cond.initialized C ∈ GW) (h5 : Cond.code y bytes maxL ret ∈ GW) : GoodIn GW (wsV own idx C y (.code y bytes maxL ret :: GW)) := by
  intro w hw
  have hm : w ∈ GW := by
    simp only [wsV, List.cons_append, List.nil_append, List.mem_cons] at hw
    rcases hw with rfl | rfl | rfl | rfl | rfl | hw
    · exact h1
    · exact h2
    · exact h3
    · exact h4
    · exact h5
    · exact hw
  exact ⟨hm, good_of_word (gwg w hm)⟩
theorem GGS {own : String} {idx : Nat} {y : MethodName} {bytes : ByteArray} {maxL : Nat} {ret : Option FieldType} (h5 : Cond.code y bytes maxL ret ∈ GW) : GoodIn GW (.code y bytes maxL ret :: GW) := by
  intro w hw
  have hm : w ∈ GW := by
    rcases List.mem_cons.mp hw with rfl | hw
    · exact h5
    · exact hw
  exact ⟨hm, good_of_word (gwg w hm)⟩
/-- a static call's words, the callee's class any -/
theorem k_cwS {own : String} {index maxL mc ms : Nat} {y : MethodName} {bytes : ByteArray} {ret : Option FieldType} {rm : Room} (n : Nat) (ht : ∀ w ∈ GW, w.before args s = true) (hl : Cond.methodLink own index y ∈ GW) (hst : Cond.static y ∈ GW) (hini : Cond.initialized y.cls ∈ GW) (hc : Cond.code y bytes maxL ret ∈ GW) (hrc : rm.cells = mc) (hrs : rm.slots = ms)
    (hd : y.cls ≠ "java/lang/invoke/MethodHandle" ∧ y.cls ≠ "java/lang/invoke/VarHandle" ∧ (parseMethodDescriptor y.desc).map (fun d => d.parameters.length) = some n) (hR : rm.frames + 1 ≤ R.frames ∧ 8 + (maxL + 11) + rm.locals ≤ R.locals) :
    CallB R s args own index y bytes maxL ret (.code y bytes maxL ret :: GW) rm mc ms n ∧ (Cond.static y).before args s = true :=
  ⟨callB_of n ht (GGS (own := own) (idx := index) hc) rfl hrc hrs (ht _ hini) (ht _ hl) hd hR, ht _ hst⟩
/-- from a contract's head to its first instruction -/
theorem m_in {y : MethodName} {maxL : Nat} {ret : Option FieldType} {rm : Room} {Pr : State → Prop} {Qc : Array Value → State → Outcome → State → Prop} (vals : List Value) (own : String) (hown : y.cls = own) (hy : plainName y.cls = true) (hl : (lg_sl vals).length ≤ maxL)
    (body : ∀ (p : Program) (e : Env) (s : State) (m : MethodId) (args : Array Value) (below : List Frame) (meth : Method) (c : Code) (ls : Array Slot), p.tables.exec = Jvm.exec → c.code = cc → c.maxLocals = maxL → s.vm.findClass own = some m.cls → (∀ w ∈ GW, w.before args s = true) → meth.sig.returnType = ret → meth.locks = false → meth.name = y.name → Pr s → lv_has ls maxL (lv_args 0 vals) →
      W p l e rm s m args below meth c s.heap [] 0 0 (MQ below Qc args s mc ms free) (F0 m 0 ls [])) : Met l y (.code y cc maxL ret :: GW) rm (va_Pc vals Pr) Qc mc ms free := by
  refine Met.ofW (cc := cc) (maxL := maxL) (ret := ret) hy rfl ?_
  intro p e s m args below meth c s₁ B hml hv
  obtain ⟨rfl, hPr⟩ := hv
  have hts := atoms_spec (ws := .code y cc maxL ret :: GW) B.pre
  have hl2 := lv_entry vals hl
  rw [lg_entry_eq]
  generalize (lg_sl vals ++ List.replicate (maxL - (lg_sl vals).length) Slot.unset).toArray = ls at hl2 ⊢
  exact body p e s m _ below meth c ls B.exec B.bytes hml (by rw [← hown]; exact findClass_of_methodNamed B.named) (fun w hw => hts w (List.mem_cons_of_mem _ hw)) B.returns B.notSynchronized (name_of_methodNamed B.named B.method).1 hPr hl2
/-- the same for one that may throw (no handlers of its own) -/
theorem mx_in {y : MethodName} {maxL : Nat} {ret : Option FieldType} {rm : Room} {Pr : State → Prop} {Qc : Array Value → State → Outcome → State → Prop} {XC : String → State → State → Prop} (vals : List Value) (own : String) (hown : y.cls = own) (hy : plainName y.cls = true) (hl : (lg_sl vals).length ≤ maxL)
    (body : ∀ (p : Program) (e : Env) (s : State) (m : MethodId) (args : Array Value) (below : List Frame) (meth : Method) (c : Code) (ls : Array Slot), p.tables.exec = Jvm.exec → c.code = cc → c.maxLocals = maxL → s.vm.findClass own = some m.cls → (∀ w ∈ GW, w.before args s = true) → meth.sig.returnType = ret → meth.locks = false → (∀ x ∈ c.exceptionTable.toList, False) → Pr s → lv_has ls maxL (lv_args 0 vals) →
      W p l e rm s m args below meth c s.heap [] 0 0 (vx_MQ below Qc XC args s mc ms free) (F0 m 0 ls [])) : vx_Met l y (.code y cc maxL ret :: GW) rm (va_Pc vals Pr) Qc XC mc ms free := by
  refine vx_ofW (cc := cc) (maxL := maxL) (ret := ret) hy rfl ?_
  intro p e s m args below meth c s₁ B hml hnt hv
  obtain ⟨rfl, hPr⟩ := hv
  have hts := atoms_spec (ws := .code y cc maxL ret :: GW) B.pre
  have hl2 := lv_entry vals hl
  rw [lg_entry_eq]
  generalize (lg_sl vals ++ List.replicate (maxL - (lg_sl vals).length) Slot.unset).toArray = ls at hl2 ⊢
  exact body p e s m _ below meth c ls B.exec B.bytes hml (by rw [← hown]; exact findClass_of_methodNamed B.named) (fun w hw => hts w (List.mem_cons_of_mem _ hw)) B.returns B.notSynchronized hnt hPr hl2
/-- behind a call that may throw -/
theorem c_x0 {px : String → Prop} (hr : vx_Run p l e R s m args below meth c H locs cells slots mc ms (F0 m pc ls st0) rest (qP none ar) (xK px) nF) (hS : va_S (nZ Z) H0 H locs)
    (kx : ∀ (E : String) (ce : Cell) (q9 : Addr) (H1 : Heap), px E → KA H H1 → va_S (nZ Z) H0 H1 locs → H1[q9]? = some ce → ce.vm = .none → s.vm.findClass E = some ce.cls → vx_W p l e R s m args below meth c H1 locs (cells + mc) (slots + ms) Q (F0 m pc ls rest) q9)
    (kk : W p l e R s m args below meth c H locs (cells + mc) (slots + ms) Q (F0 m (pc + 3) ls rest)) : W p l e R s m args below meth c H locs cells slots Q (F0 m pc ls st0) := by
  have hL0 : ∀ {L : List Loc}, (∀ q ∈ L, nF q.base) → L = [] := fun {L} hL => by
    cases L with
    | nil => rfl
    | cons q L => exact (hL q List.mem_cons_self).elim
  intro T hT X
  rcases hr T hT X with ⟨v, st₀, t, T', L, h0, X', hL, e1, e2, ⟨hv, hh⟩, st⟩ | ⟨q, st₀, t, T', L, E, ce, h0, X', hL, e1, e2, ⟨hp, hk⟩, hce, hcv, hcl, st⟩
  · cases hv
    rw [hL0 hL, List.append_nil] at X'
    obtain ⟨t2, a1, b1⟩ := kk T' (e1.trans (hh.trans h0)) X'
    exact ⟨t2, st t2 a1, b1⟩
  · rw [hL0 hL, List.append_nil] at X'
    have hk' : KA H T'.heap := by rw [e1, ← h0]; exact hk
    obtain ⟨t2, a1, b1⟩ := kx E ce q T'.heap hp hk' (vaS_KA hS hk') (by rw [e1]; exact hce) hcv hcl T' rfl X'
    exact ⟨t2, st.trans a1, b1⟩
theorem c_x1 {px : String → Prop} {x : Value} (hr : vx_Run p l e R s m args below meth c H locs cells slots mc ms (F0 m pc ls st0) rest (qP (some x) ar) (xK px) nF) (hS : va_S (nZ Z) H0 H locs)
    (kx : ∀ (E : String) (ce : Cell) (q9 : Addr) (H1 : Heap), px E → KA H H1 → va_S (nZ Z) H0 H1 locs → H1[q9]? = some ce → ce.vm = .none → s.vm.findClass E = some ce.cls → vx_W p l e R s m args below meth c H1 locs (cells + mc) (slots + ms) Q (F0 m pc ls rest) q9)
    (kk : W p l e R s m args below meth c H locs (cells + mc) (slots + ms) Q (F0 m (pc + 3) ls (x :: rest))) : W p l e R s m args below meth c H locs cells slots Q (F0 m pc ls st0) := by
  have hL0 : ∀ {L : List Loc}, (∀ q ∈ L, nF q.base) → L = [] := fun {L} hL => by
    cases L with
    | nil => rfl
    | cons q L => exact (hL q List.mem_cons_self).elim
  intro T hT X
  rcases hr T hT X with ⟨v, st₀, t, T', L, h0, X', hL, e1, e2, ⟨hv, hh⟩, st⟩ | ⟨q, st₀, t, T', L, E, ce, h0, X', hL, e1, e2, ⟨hp, hk⟩, hce, hcv, hcl, st⟩
  · cases hv
    rw [hL0 hL, List.append_nil] at X'
    obtain ⟨t2, a1, b1⟩ := kk T' (e1.trans (hh.trans h0)) X'
    exact ⟨t2, st t2 a1, b1⟩
  · rw [hL0 hL, List.append_nil] at X'
    have hk' : KA H T'.heap := by rw [e1, ← h0]; exact hk
    obtain ⟨t2, a1, b1⟩ := kx E ce q T'.heap hp hk' (vaS_KA hS hk') (by rw [e1]; exact hce) hcv hcl T' rfl X'
    exact ⟨t2, st.trans a1, b1⟩
/-- .. and changes something where it returns -/
theorem c_xs1 {px : String → Prop} {Rl : Value → Heap → Prop} (hr : vx_Run p l e R s m args below meth c H locs cells slots mc ms (F0 m pc ls st0) rest (qS1 Z Rl ar) (xK px) (nZ Z)) (hS : va_S (nZ Z) H0 H locs)
    (kx : ∀ (E : String) (ce : Cell) (q9 : Addr) (H1 : Heap) (locs1 : List Loc), px E → KA H H1 → va_S (nZ Z) H0 H1 locs1 → H1[q9]? = some ce → ce.vm = .none → s.vm.findClass E = some ce.cls → vx_W p l e R s m args below meth c H1 locs1 (cells + mc) (slots + ms) Q (F0 m pc ls rest) q9)
    (kk : ∀ (x : Value) (H1 : Heap) (locs1 : List Loc), Rl x H1 → H.size ≤ H1.size → va_S (nZ Z) H0 H1 locs1 → W p l e R s m args below meth c H1 locs1 (cells + mc) (slots + ms) Q (F0 m (pc + 3) ls (x :: rest))) : W p l e R s m args below meth c H locs cells slots Q (F0 m pc ls st0) := by
  intro T hT X
  rcases hr T hT X with ⟨v, st₀, t, T', L, h0, X', hL, e1, e2, ⟨x, hv, hq, hF⟩, st⟩ | ⟨q, st₀, t, T', L, E, ce, h0, X', hL, e1, e2, ⟨hp, hk⟩, hce, hcv, hcl, st⟩
  · cases hv
    have hz := hF.1
    rw [h0] at hz
    obtain ⟨t2, a1, b1⟩ := kk x T'.heap (locs ++ L) (by rw [e1]; exact hq) (by rw [e1]; exact hz) (vaS_call h0 e1 hS hL hF) T' rfl X'
    exact ⟨t2, st t2 a1, b1⟩
  · have hk' : KA H T'.heap := by rw [e1, ← h0]; exact hk
    have hF : va_F (nZ Z) st₀ t := ⟨hk.1, fun q h _ => hk.2 q h⟩
    obtain ⟨t2, a1, b1⟩ := kx E ce q T'.heap (locs ++ L) hp hk' (vaS_call h0 e1 hS hL hF) (by rw [e1]; exact hce) hcv hcl T' rfl X'
    exact ⟨t2, st.trans a1, b1⟩
end CORE1
end
section
/-! THE STATE, as numbers by kind and place, and the two pictures of it in the heap -/
section STATE0
abbrev Stt : Type := Nat → Nat → Int32
def su (σ : Stt) (k j : Nat) (v : Int32) : Stt := fun a b => if a = k ∧ b = j then v else σ a b
theorem su_s (σ : Stt) (k j : Nat) (v : Int32) : su σ k j v k j = v := by simp [su]
theorem su_k {σ : Stt} {k j a b : Nat} {v : Int32} (h : a ≠ k) : su σ k j v a b = σ a b := by simp [su, h]
theorem su_j {σ : Stt} {k j a b : Nat} {v : Int32} (h : b ≠ j) : su σ k j v a b = σ a b := by simp [su, h]
theorem su_row {σ : Stt} {k j : Nat} {v : Int32} : su σ k j v k = upd (σ k) j v := by funext b; simp [su, upd]
def b2 (P : Prop) [Decidable P] : Int32 := if P then 1 else 0
theorem b2_t {P : Prop} [Decidable P] (h : P) : b2 P = 1 := if_pos h
theorem b2_f {P : Prop} [Decidable P] (h : ¬ P) : b2 P = 0 := if_neg h
theorem b2_z {P : Prop} [Decidable P] (h : b2 P = 0) : ¬ P := fun z => by rw [b2_t z] at h; exact absurd h (by decide)
theorem b2_nz {P : Prop} [Decidable P] (h : ¬ b2 P = 0) : P := Decidable.byContradiction fun z => h (b2_f z)
theorem b2_iff {P R : Prop} [Decidable P] [Decidable R] (h : P ↔ R) : b2 P = b2 R := by
  by_cases z : P
  · rw [b2_t z, b2_t (h.mp z)]
  · rw [b2_f z, b2_f (fun y => z (h.mpr y))]
def sm (f : Nat → Int32) : Nat → Int32
  | 0 => 0
  | n + 1 => sm f n + f n
theorem sm_1 (f : Nat → Int32) (n : Nat) : sm f (n + 1) = sm f n + f n := rfl
theorem sm_cong {f g : Nat → Int32} : ∀ {n : Nat}, (∀ k, k < n → f k = g k) → sm f n = sm g n
  | 0, _ => rfl
  | n + 1, h => by rw [sm_1, sm_1, sm_cong (fun k hk => h k (by omega)), h n (by omega)]
def nT (σ : Stt) : Nat := (σ 0 1).toNatClampNeg
def nR (σ : Stt) : Nat := (σ 0 3).toNatClampNeg
def nC (σ : Stt) : Nat := (σ 0 4).toNatClampNeg
/-- what holds of the numbers always -/
def IRum (σ : Stt) (i : Nat) : Prop := (∃ n, 1 ≤ n ∧ n ≤ 30 ∧ σ 1 (7 * i) = nI n) ∧ (∃ n, n ≤ 99 ∧ σ 1 (7 * i + 1) = nI n) ∧ (∃ n, n ≤ 5 ∧ σ 1 (7 * i + 2) = nI n) ∧ (∃ n, n < nR σ ∧ σ 1 (7 * i + 3) = nI n) ∧ (σ 1 (7 * i + 4) = -1 ∨ ∃ n, n < nT σ ∧ σ 1 (7 * i + 4) = nI n) ∧ (σ 1 (7 * i + 6) = 0 ∨ σ 1 (7 * i + 6) = 1)
def ICar (σ : Stt) (i : Nat) : Prop := (∃ n, n < nT σ ∧ σ 2 (4 * i) = nI n) ∧ ∃ n, n ≤ 9 ∧ σ 2 (4 * i + 1) = nI n
def IRd (σ : Stt) (k : Nat) : Prop := (σ 3 (7 * k) = 1 ∧ k / 10 < k % 10 ∧ k % 10 < nT σ ∧ (∃ n, 1 ≤ n ∧ n ≤ 9 ∧ σ 3 (7 * k + 1) = nI n) ∧ (∃ n, n ≤ 20 ∧ σ 3 (7 * k + 2) = nI n) ∧ (∃ n, n ≤ 30 ∧ σ 3 (7 * k + 3) = nI n) ∧ ∃ n, n ≤ 9 ∧ σ 3 (7 * k + 4) = nI n) ∨ ∀ j, j < 7 → σ 3 (7 * k + j) = 0
def Inv (σ : Stt) : Prop :=
  (σ 0 1 = nI (nT σ) ∧ nT σ ≤ 10) ∧ (σ 0 3 = nI (nR σ) ∧ nR σ ≤ 60) ∧ (σ 0 4 = nI (nC σ) ∧ nC σ ≤ 8) ∧ (∀ i, i < nR σ → IRum σ i) ∧ (∀ i, i < nC σ → ICar σ i) ∧ ∀ k, k < 100 → IRd σ k
/-- the pair of towns a road lies between, as one number -/
def rk (a b : Nat) : Nat := 10 * min a b + max a b
theorem rk_lt {a b : Nat} (ha : a < 10) (hb : b < 10) : rk a b < 100 := by unfold rk; omega
theorem rk_comm (a b : Nat) : rk a b = rk b a := by unfold rk; omega
def rdq (σ : Stt) (ad : Nat → Nat) (j : Nat) : Option Nat := if σ 3 (7 * rk (j / 10) (j % 10)) = 1 then some (ad (300 + rk (j / 10) (j % 10))) else none
def lq (ad : Nat → Nat) (b n j : Nat) : Option Nat := if j < n then some (ad (b + j)) else none
/-- which places of the class's picture are there -/
def us (σ : Stt) (i : Nat) : Prop := i < 8 ∨ (i = 8 ∧ 0 < nR σ) ∨ (i = 9 ∧ 0 < nC σ) ∨ (100 ≤ i ∧ i < 100 + nR σ ∧ i < 200) ∨ (200 ≤ i ∧ i < 200 + nC σ ∧ i < 300) ∨ (300 ≤ i ∧ i < 400 ∧ σ 3 (7 * (i - 300)) = 1)
/-- .. and what they hold -/
def cn (ct : Nat → ClassId) (σ : Stt) (ad : Nat → Nat) (i : Nat) : va_E :=
  if i = 0 then .inr (6, [.ref (ad 1), .ref (ad 3), .ref (ad 6), .ref (ad 7), .int (σ 0 1), .int (σ 0 2), .int (σ 0 0), .int (σ 0 5), .int (σ 0 6), .int (σ 0 7), .int (σ 0 8)])
  else if i = 1 then .inr (3, [.ref (ad 2)])
  else if i = 2 then .inl (ct 2, rQ 100 (rdq σ ad))
  else if i = 3 then .inr (5, [.ref (ad 1), .ref (ad 4), .ref (ad 5)])
  else if i = 4 then .inl (ct 0, rI 60 (σ 4))
  else if i = 5 then .inl (ct 1, rI 60 (σ 5))
  else if i = 6 then .inr (0, [.int (σ 6 0), .ref (ad 8), .int (nI (nR σ))])
  else if i = 7 then .inr (0, [.int (σ 6 1), .ref (ad 9), .int (nI (nC σ))])
  else if i = 8 then .inl (ct 3, rQ (ad 20) (lq ad 100 (nR σ)))
  else if i = 9 then .inl (ct 3, rQ (ad 21) (lq ad 200 (nC σ)))
  else if i < 200 then .inr (4, [.int (nI (i - 100)), .int (σ 1 (7 * (i - 100) + 3)), .int (σ 1 (7 * (i - 100))), .int (σ 1 (7 * (i - 100) + 1)), .int (σ 1 (7 * (i - 100) + 2)), .int (σ 1 (7 * (i - 100) + 4)), .int (σ 1 (7 * (i - 100) + 5)), .int (σ 1 (7 * (i - 100) + 6))])
  else if i < 300 then .inr (1, [.int (nI (i - 200)), .int (σ 2 (4 * (i - 200))), .int (σ 2 (4 * (i - 200) + 1)), .int (σ 2 (4 * (i - 200) + 2)), .int (σ 2 (4 * (i - 200) + 3))])
  else .inr (2, [.int (σ 3 (7 * (i - 300) + 1)), .int (σ 3 (7 * (i - 300) + 2)), .int (σ 3 (7 * (i - 300) + 3)), .int (σ 3 (7 * (i - 300) + 4)), .int (σ 3 (7 * (i - 300) + 5)), .int (σ 3 (7 * (i - 300) + 6))])
def Caps (dc : Nat) (σ : Stt) (ad : Nat → Nat) : Prop := (nR σ ≤ ad 20 ∧ ad 20 ≤ 1000 ∧ (0 < nR σ → 10 ≤ ad 20) ∧ (nR σ = 0 → ad 8 = dc ∧ ad 20 = 0)) ∧ (nC σ ≤ ad 21 ∧ ad 21 ≤ 1000 ∧ (0 < nC σ → 10 ≤ ad 21) ∧ (nC σ = 0 → ad 9 = dc ∧ ad 21 = 0))
/-- THE CLASS'S PICTURE -/
def Pic (D : va_G) (ct : Nat → ClassId) (Z : Nat → Prop) (dc : Nat) (σ : Stt) (ad : Nat → Nat) (H : Heap) : Prop :=
  (∀ i, us σ i → va_at D vwCl (ad i, cn ct σ ad i) H ∧ ¬ Z (ad i)) ∧ (∀ i j, us σ i → us σ j → ad i = ad j → i = j) ∧ Caps dc σ ad ∧ nR σ ≤ 60 ∧ nC σ ≤ 8
/-- THE REFERENCE'S PICTURE -/
def rn (ct : Nat → ClassId) (σ : Stt) (th : Int32) (bst : Nat → Int64) (rf : Nat → Nat) (i : Nat) : va_E :=
  if i = 0 then .inr (7, [.int th, .int (σ 0 0), .int (σ 0 1), .int (σ 0 2), .int (σ 0 3), .int (σ 0 4), .int (σ 0 5), .int (σ 0 6), .int (σ 0 7), .int (σ 0 8), .ref (rf 1), .ref (rf 2), .ref (rf 3), .ref (rf 4)])
  else if i = 1 then .inl (ct 0, rI 700 (σ 3))
  else if i = 2 then .inl (ct 0, rI 420 (σ 1))
  else if i = 3 then .inl (ct 0, rI 32 (σ 2))
  else .inl (ct 4, rJ 60 bst)
def RP (D : va_G) (ct : Nat → ClassId) (Z : Nat → Prop) (σ : Stt) (th : Int32) (bst : Nat → Int64) (rf : Nat → Nat) (H : Heap) : Prop :=
  (∀ i, i < 5 → va_at D vwCl (rf i, rn ct σ th bst rf i) H ∧ ¬ Z (rf i)) ∧ (∀ i j, i < 5 → j < 5 → rf i = rf j → i = j)
variable {D : va_G} {ct : Nat → ClassId} {Z : Nat → Prop} {dc : Nat} {σ σ' : Stt} {ad rf : Nat → Nat} {H H1 : Heap} {th : Int32} {bst : Nat → Int64}
theorem us_lt {i : Nat} (h : i < 8) : us σ i := Or.inl h
theorem us_r {i : Nat} (hn : nR σ ≤ 60) (h : i < nR σ) : us σ (100 + i) := Or.inr (Or.inr (Or.inr (Or.inl ⟨by omega, by omega, by omega⟩)))
theorem us_c {i : Nat} (hn : nC σ ≤ 8) (h : i < nC σ) : us σ (200 + i) := Or.inr (Or.inr (Or.inr (Or.inr (Or.inl ⟨by omega, by omega, by omega⟩))))
theorem us_d {k : Nat} (hk : k < 100) (h : σ 3 (7 * k) = 1) : us σ (300 + k) := Or.inr (Or.inr (Or.inr (Or.inr (Or.inr ⟨by omega, by omega, by rw [show 300 + k - 300 = k by omega]; exact h⟩))))
theorem Pic.o0 (h : Pic D ct Z dc σ ad H) : Ob D (ad 0) 6 [.ref (ad 1), .ref (ad 3), .ref (ad 6), .ref (ad 7), .int (σ 0 1), .int (σ 0 2), .int (σ 0 0), .int (σ 0 5), .int (σ 0 6), .int (σ 0 7), .int (σ 0 8)] H := (h.1 0 (us_lt (by decide))).1
theorem Pic.o1 (h : Pic D ct Z dc σ ad H) : Ob D (ad 1) 3 [.ref (ad 2)] H := (h.1 1 (us_lt (by decide))).1
theorem Pic.o2 (h : Pic D ct Z dc σ ad H) : Ar (ct 2) (ad 2) (rQ 100 (rdq σ ad)) H := (h.1 2 (us_lt (by decide))).1
theorem Pic.o3 (h : Pic D ct Z dc σ ad H) : Ob D (ad 3) 5 [.ref (ad 1), .ref (ad 4), .ref (ad 5)] H := (h.1 3 (us_lt (by decide))).1
theorem Pic.o4 (h : Pic D ct Z dc σ ad H) : Ar (ct 0) (ad 4) (rI 60 (σ 4)) H := (h.1 4 (us_lt (by decide))).1
theorem Pic.o5 (h : Pic D ct Z dc σ ad H) : Ar (ct 1) (ad 5) (rI 60 (σ 5)) H := (h.1 5 (us_lt (by decide))).1
theorem Pic.o6 (h : Pic D ct Z dc σ ad H) : Ob D (ad 6) 0 [.int (σ 6 0), .ref (ad 8), .int (nI (nR σ))] H := (h.1 6 (us_lt (by decide))).1
theorem Pic.o7 (h : Pic D ct Z dc σ ad H) : Ob D (ad 7) 0 [.int (σ 6 1), .ref (ad 9), .int (nI (nC σ))] H := (h.1 7 (us_lt (by decide))).1
theorem Pic.o8 (h : Pic D ct Z dc σ ad H) (h0 : 0 < nR σ) : Ar (ct 3) (ad 8) (rQ (ad 20) (lq ad 100 (nR σ))) H := (h.1 8 (Or.inr (Or.inl ⟨rfl, h0⟩))).1
theorem Pic.o9 (h : Pic D ct Z dc σ ad H) (h0 : 0 < nC σ) : Ar (ct 3) (ad 9) (rQ (ad 21) (lq ad 200 (nC σ))) H := (h.1 9 (Or.inr (Or.inr (Or.inl ⟨rfl, h0⟩)))).1
theorem cn_r {i : Nat} (hi : i < 100) : cn ct σ ad (100 + i) = .inr (4, [.int (nI i), .int (σ 1 (7 * i + 3)), .int (σ 1 (7 * i)), .int (σ 1 (7 * i + 1)), .int (σ 1 (7 * i + 2)), .int (σ 1 (7 * i + 4)), .int (σ 1 (7 * i + 5)), .int (σ 1 (7 * i + 6))]) := by
  unfold cn
  rw [if_neg (by omega), if_neg (by omega), if_neg (by omega), if_neg (by omega), if_neg (by omega), if_neg (by omega), if_neg (by omega), if_neg (by omega), if_neg (by omega), if_neg (by omega), if_pos (by omega), show 100 + i - 100 = i by omega]
theorem cn_c {i : Nat} (hi : i < 100) : cn ct σ ad (200 + i) = .inr (1, [.int (nI i), .int (σ 2 (4 * i)), .int (σ 2 (4 * i + 1)), .int (σ 2 (4 * i + 2)), .int (σ 2 (4 * i + 3))]) := by
  unfold cn
  rw [if_neg (by omega), if_neg (by omega), if_neg (by omega), if_neg (by omega), if_neg (by omega), if_neg (by omega), if_neg (by omega), if_neg (by omega), if_neg (by omega), if_neg (by omega), if_neg (by omega), if_pos (by omega), show 200 + i - 200 = i by omega]
theorem cn_d {i : Nat} : cn ct σ ad (300 + i) = .inr (2, [.int (σ 3 (7 * i + 1)), .int (σ 3 (7 * i + 2)), .int (σ 3 (7 * i + 3)), .int (σ 3 (7 * i + 4)), .int (σ 3 (7 * i + 5)), .int (σ 3 (7 * i + 6))]) := by
  unfold cn
  rw [if_neg (by omega), if_neg (by omega), if_neg (by omega), if_neg (by omega), if_neg (by omega), if_neg (by omega), if_neg (by omega), if_neg (by omega), if_neg (by omega), if_neg (by omega), if_neg (by omega), if_neg (by omega), show 300 + i - 300 = i by omega]
theorem Pic.r (h : Pic D ct Z dc σ ad H) {i : Nat} (hi : i < nR σ) : Ob D (ad (100 + i)) 4 [.int (nI i), .int (σ 1 (7 * i + 3)), .int (σ 1 (7 * i)), .int (σ 1 (7 * i + 1)), .int (σ 1 (7 * i + 2)), .int (σ 1 (7 * i + 4)), .int (σ 1 (7 * i + 5)), .int (σ 1 (7 * i + 6))] H := by
  have h1 := (h.1 (100 + i) (us_r h.2.2.2.1 hi)).1
  rw [cn_r (by have := h.2.2.2.1; omega)] at h1
  exact h1
theorem Pic.c (h : Pic D ct Z dc σ ad H) {i : Nat} (hi : i < nC σ) : Ob D (ad (200 + i)) 1 [.int (nI i), .int (σ 2 (4 * i)), .int (σ 2 (4 * i + 1)), .int (σ 2 (4 * i + 2)), .int (σ 2 (4 * i + 3))] H := by
  have h1 := (h.1 (200 + i) (us_c h.2.2.2.2 hi)).1
  rw [cn_c (by have := h.2.2.2.2; omega)] at h1
  exact h1
theorem Pic.d (h : Pic D ct Z dc σ ad H) {k : Nat} (hk : k < 100) (h1 : σ 3 (7 * k) = 1) : Ob D (ad (300 + k)) 2 [.int (σ 3 (7 * k + 1)), .int (σ 3 (7 * k + 2)), .int (σ 3 (7 * k + 3)), .int (σ 3 (7 * k + 4)), .int (σ 3 (7 * k + 5)), .int (σ 3 (7 * k + 6))] H := by
  have h2 := (h.1 (300 + k) (us_d hk h1)).1
  rw [cn_d] at h2
  exact h2
theorem Pic.nz (h : Pic D ct Z dc σ ad H) {i : Nat} (hi : us σ i) : ¬ Z (ad i) := (h.1 i hi).2
theorem Pic.kept (h : Pic D ct Z dc σ ad H) (hq : ∀ q, q < H.size → H1[q]? = H[q]?) : Pic D ct Z dc σ ad H1 := by
  refine ⟨fun i hi => ⟨va_at.kept (h.1 i hi).1 (hq _ (va_at.lt (h.1 i hi).1)), (h.1 i hi).2⟩, h.2⟩
theorem Pic.ka (h : Pic D ct Z dc σ ad H) (hk : KA H H1) : Pic D ct Z dc σ ad H1 := h.kept hk.2
/-- one cell is written -/
theorem Pic.set (h : Pic D ct Z dc σ ad H) (k : Nat) (hk : us σ k) (hat : va_at D vwCl (ad k, cn ct σ' ad k) H1) (ho : ∀ q : Nat, q ≠ ad k → H1[q]? = H[q]?) (hus : ∀ i, us σ' i → us σ i) (hcn : ∀ i, us σ i → i ≠ k → cn ct σ' ad i = cn ct σ ad i) (hr : nR σ' = nR σ) (hc : nC σ' = nC σ) : Pic D ct Z dc σ' ad H1 := by
  refine ⟨fun i hi => ?_, fun i j hi hj => h.2.1 i j (hus i hi) (hus j hj), ?_, by rw [hr]; exact h.2.2.2.1, by rw [hc]; exact h.2.2.2.2⟩
  · by_cases e : i = k
    · subst e
      exact ⟨hat, (h.1 _ hk).2⟩
    · rw [hcn i (hus i hi) e]
      exact ⟨va_at.kept (h.1 i (hus i hi)).1 (ho _ (fun z => e (h.2.1 i k (hus i hi) hk z))), (h.1 i (hus i hi)).2⟩
  · have := h.2.2.1
    unfold Caps at this ⊢
    rw [hr, hc]
    exact this
theorem us_case {i : Nat} (h : us σ i) : i < 10 ∨ (100 ≤ i ∧ i < 200) ∨ (200 ≤ i ∧ i < 300) ∨ (300 ≤ i ∧ i < 400) := by
  rcases h with h | h | h | h | h | h <;> omega
theorem lt10 {i : Nat} (h : i < 10) : i = 0 ∨ i = 1 ∨ i = 2 ∨ i = 3 ∨ i = 4 ∨ i = 5 ∨ i = 6 ∨ i = 7 ∨ i = 8 ∨ i = 9 := by omega
/-- a rumour's number -/
theorem Pic.sr (h : Pic D ct Z dc σ ad H) {j c : Nat} (hj : j < nR σ) (hc : c < 7) (v : Int32) (hat : Ob D (ad (100 + j)) 4 [.int (nI j), .int (su σ 1 (7 * j + c) v 1 (7 * j + 3)), .int (su σ 1 (7 * j + c) v 1 (7 * j)), .int (su σ 1 (7 * j + c) v 1 (7 * j + 1)), .int (su σ 1 (7 * j + c) v 1 (7 * j + 2)), .int (su σ 1 (7 * j + c) v 1 (7 * j + 4)), .int (su σ 1 (7 * j + c) v 1 (7 * j + 5)), .int (su σ 1 (7 * j + c) v 1 (7 * j + 6))] H1) (ho : ∀ q : Nat, q ≠ ad (100 + j) → H1[q]? = H[q]?) : Pic D ct Z dc (su σ 1 (7 * j + c) v) ad H1 := by
  have hn := h.2.2.2.1
  refine h.set (100 + j) (us_r hn hj) (by rw [cn_r (by omega)]; exact hat) ho (fun i hi => hi) (fun i hi hne => ?_) rfl rfl
  rcases us_case hi with q | q | q | q
  · rcases lt10 q with rfl | rfl | rfl | rfl | rfl | rfl | rfl | rfl | rfl | rfl <;> rfl
  · obtain ⟨t, rfl⟩ : ∃ t, i = 100 + t := ⟨i - 100, by omega⟩
    rw [cn_r (by omega), cn_r (by omega)]
    rw [su_j (by omega), su_j (by omega), su_j (by omega), su_j (by omega), su_j (by omega), su_j (by omega), su_j (by omega)]
  · obtain ⟨t, rfl⟩ : ∃ t, i = 200 + t := ⟨i - 200, by omega⟩
    rw [cn_c (by omega), cn_c (by omega)]; rfl
  · obtain ⟨t, rfl⟩ : ∃ t, i = 300 + t := ⟨i - 300, by omega⟩
    rw [cn_d, cn_d]; rfl
/-- a carrier's number -/
theorem Pic.sc (h : Pic D ct Z dc σ ad H) {j c : Nat} (hj : j < nC σ) (hc : c < 4) (v : Int32) (hat : Ob D (ad (200 + j)) 1 [.int (nI j), .int (su σ 2 (4 * j + c) v 2 (4 * j)), .int (su σ 2 (4 * j + c) v 2 (4 * j + 1)), .int (su σ 2 (4 * j + c) v 2 (4 * j + 2)), .int (su σ 2 (4 * j + c) v 2 (4 * j + 3))] H1) (ho : ∀ q : Nat, q ≠ ad (200 + j) → H1[q]? = H[q]?) : Pic D ct Z dc (su σ 2 (4 * j + c) v) ad H1 := by
  have hn := h.2.2.2.2
  refine h.set (200 + j) (us_c hn hj) (by rw [cn_c (by omega)]; exact hat) ho (fun i hi => hi) (fun i hi hne => ?_) rfl rfl
  rcases us_case hi with q | q | q | q
  · rcases lt10 q with rfl | rfl | rfl | rfl | rfl | rfl | rfl | rfl | rfl | rfl <;> rfl
  · obtain ⟨t, rfl⟩ : ∃ t, i = 100 + t := ⟨i - 100, by omega⟩
    rw [cn_r (by omega), cn_r (by omega)]; rfl
  · obtain ⟨t, rfl⟩ : ∃ t, i = 200 + t := ⟨i - 200, by omega⟩
    rw [cn_c (by omega), cn_c (by omega)]
    rw [su_j (by omega), su_j (by omega), su_j (by omega), su_j (by omega)]
  · obtain ⟨t, rfl⟩ : ∃ t, i = 300 + t := ⟨i - 300, by omega⟩
    rw [cn_d, cn_d]; rfl
/-- a road's number (1 to 6) -/
theorem Pic.sd (h : Pic D ct Z dc σ ad H) {j c : Nat} (hj : j < 100) (h1 : σ 3 (7 * j) = 1) (hc : c < 7) (h0 : 1 ≤ c) (v : Int32) (hat : Ob D (ad (300 + j)) 2 [.int (su σ 3 (7 * j + c) v 3 (7 * j + 1)), .int (su σ 3 (7 * j + c) v 3 (7 * j + 2)), .int (su σ 3 (7 * j + c) v 3 (7 * j + 3)), .int (su σ 3 (7 * j + c) v 3 (7 * j + 4)), .int (su σ 3 (7 * j + c) v 3 (7 * j + 5)), .int (su σ 3 (7 * j + c) v 3 (7 * j + 6))] H1) (ho : ∀ q : Nat, q ≠ ad (300 + j) → H1[q]? = H[q]?) : Pic D ct Z dc (su σ 3 (7 * j + c) v) ad H1 := by
  have e7 : ∀ k : Nat, su σ 3 (7 * j + c) v 3 (7 * k) = σ 3 (7 * k) := fun k => su_j (by omega)
  have eq : rdq (su σ 3 (7 * j + c) v) ad = rdq σ ad := by funext k; unfold rdq; rw [e7]
  refine h.set (300 + j) (us_d hj h1) (by rw [cn_d]; exact hat) ho (fun i hi => ?_) (fun i hi hne => ?_) rfl rfl
  · rcases hi with q | q | q | q | q | q
    · exact Or.inl q
    · exact Or.inr (Or.inl q)
    · exact Or.inr (Or.inr (Or.inl q))
    · exact Or.inr (Or.inr (Or.inr (Or.inl q)))
    · exact Or.inr (Or.inr (Or.inr (Or.inr (Or.inl q))))
    · rw [e7] at q
      exact Or.inr (Or.inr (Or.inr (Or.inr (Or.inr q))))
  · rcases us_case hi with q | q | q | q
    · rcases lt10 q with rfl | rfl | rfl | rfl | rfl | rfl | rfl | rfl | rfl | rfl
      all_goals first | rfl | (show (Sum.inl (ct 2, rQ 100 (rdq _ ad)) : va_E) = _; rw [eq]; rfl) | (unfold cn; rw [eq]; rfl)
    · obtain ⟨t, rfl⟩ : ∃ t, i = 100 + t := ⟨i - 100, by omega⟩
      rw [cn_r (by omega), cn_r (by omega)]; rfl
    · obtain ⟨t, rfl⟩ : ∃ t, i = 200 + t := ⟨i - 200, by omega⟩
      rw [cn_c (by omega), cn_c (by omega)]; rfl
    · obtain ⟨t, rfl⟩ : ∃ t, i = 300 + t := ⟨i - 300, by omega⟩
      rw [cn_d, cn_d]
      rw [su_j (by omega), su_j (by omega), su_j (by omega), su_j (by omega), su_j (by omega), su_j (by omega)]
/-- a number of the land that is no count of towns, rumours, carriers: or one of towns -/
theorem cn_s0 {c : Nat} (hc : c ≠ 3 ∧ c ≠ 4) (v : Int32) {i : Nat} (hne : i ≠ 0) : cn ct (su σ 0 c v) ad i = cn ct σ ad i := by
  have er : nR (su σ 0 c v) = nR σ := by unfold nR; rw [su_j (Ne.symm hc.1)]
  have ec : nC (su σ 0 c v) = nC σ := by unfold nC; rw [su_j (Ne.symm hc.2)]
  have e : ∀ a : Nat, a ≠ 0 → su σ 0 c v a = σ a := fun a h => by funext b; exact su_k h
  have eq : rdq (su σ 0 c v) ad = rdq σ ad := by funext k; unfold rdq; rw [e 3 (by decide)]
  unfold cn
  rw [er, ec, eq, e 1 (by decide), e 2 (by decide), e 3 (by decide), e 4 (by decide), e 5 (by decide), e 6 (by decide), if_neg hne, if_neg hne]
theorem Pic.s0 (h : Pic D ct Z dc σ ad H) {c : Nat} (hc : c ≠ 3 ∧ c ≠ 4) (v : Int32) (hat : Ob D (ad 0) 6 [.ref (ad 1), .ref (ad 3), .ref (ad 6), .ref (ad 7), .int (su σ 0 c v 0 1), .int (su σ 0 c v 0 2), .int (su σ 0 c v 0 0), .int (su σ 0 c v 0 5), .int (su σ 0 c v 0 6), .int (su σ 0 c v 0 7), .int (su σ 0 c v 0 8)] H1) (ho : ∀ q : Nat, q ≠ ad 0 → H1[q]? = H[q]?) : Pic D ct Z dc (su σ 0 c v) ad H1 := by
  have er : nR (su σ 0 c v) = nR σ := by unfold nR; rw [su_j (Ne.symm hc.1)]
  have ec : nC (su σ 0 c v) = nC σ := by unfold nC; rw [su_j (Ne.symm hc.2)]
  have e : su σ 0 c v 3 = σ 3 := by funext b; exact su_k (by decide)
  refine h.set 0 (us_lt (by decide)) hat ho (fun i hi => ?_) (fun i hi hne => cn_s0 hc v hne) er ec
  unfold us at hi ⊢
  rw [er, ec, e] at hi
  exact hi
/-- the search's rows -/
theorem Pic.s4 (h : Pic D ct Z dc σ ad H) {c : Nat} (v : Int32) (hat : Ar (ct 0) (ad 4) (rI 60 (upd (σ 4) c v)) H1) (ho : ∀ q : Nat, q ≠ ad 4 → H1[q]? = H[q]?) : Pic D ct Z dc (su σ 4 c v) ad H1 := by
  refine h.set 4 (us_lt (by decide)) (by show Ar (ct 0) (ad 4) (rI 60 (su σ 4 c v 4)) H1; rw [su_row]; exact hat) ho (fun i hi => hi) (fun i hi hne => ?_) rfl rfl
  rcases us_case hi with q | q | q | q
  · rcases lt10 q with rfl | rfl | rfl | rfl | rfl | rfl | rfl | rfl | rfl | rfl
    all_goals first | rfl | exact absurd rfl hne
  · obtain ⟨t, rfl⟩ : ∃ t, i = 100 + t := ⟨i - 100, by omega⟩
    rw [cn_r (by omega), cn_r (by omega)]; rfl
  · obtain ⟨t, rfl⟩ : ∃ t, i = 200 + t := ⟨i - 200, by omega⟩
    rw [cn_c (by omega), cn_c (by omega)]; rfl
  · obtain ⟨t, rfl⟩ : ∃ t, i = 300 + t := ⟨i - 300, by omega⟩
    rw [cn_d, cn_d]; rfl
theorem Pic.s5 (h : Pic D ct Z dc σ ad H) {c : Nat} (v : Int32) (hat : Ar (ct 1) (ad 5) (rI 60 (upd (σ 5) c v)) H1) (ho : ∀ q : Nat, q ≠ ad 5 → H1[q]? = H[q]?) : Pic D ct Z dc (su σ 5 c v) ad H1 := by
  refine h.set 5 (us_lt (by decide)) (by show Ar (ct 1) (ad 5) (rI 60 (su σ 5 c v 5)) H1; rw [su_row]; exact hat) ho (fun i hi => hi) (fun i hi hne => ?_) rfl rfl
  rcases us_case hi with q | q | q | q
  · rcases lt10 q with rfl | rfl | rfl | rfl | rfl | rfl | rfl | rfl | rfl | rfl
    all_goals first | rfl | exact absurd rfl hne
  · obtain ⟨t, rfl⟩ : ∃ t, i = 100 + t := ⟨i - 100, by omega⟩
    rw [cn_r (by omega), cn_r (by omega)]; rfl
  · obtain ⟨t, rfl⟩ : ∃ t, i = 200 + t := ⟨i - 200, by omega⟩
    rw [cn_c (by omega), cn_c (by omega)]; rfl
  · obtain ⟨t, rfl⟩ : ∃ t, i = 300 + t := ⟨i - 300, by omega⟩
    rw [cn_d, cn_d]; rfl
/-- the reference's cells -/
theorem RP.o (h : RP D ct Z σ th bst rf H) : Ob D (rf 0) 7 [.int th, .int (σ 0 0), .int (σ 0 1), .int (σ 0 2), .int (σ 0 3), .int (σ 0 4), .int (σ 0 5), .int (σ 0 6), .int (σ 0 7), .int (σ 0 8), .ref (rf 1), .ref (rf 2), .ref (rf 3), .ref (rf 4)] H := (h.1 0 (by decide)).1
theorem RP.a1 (h : RP D ct Z σ th bst rf H) : Ar (ct 0) (rf 1) (rI 700 (σ 3)) H := (h.1 1 (by decide)).1
theorem RP.a2 (h : RP D ct Z σ th bst rf H) : Ar (ct 0) (rf 2) (rI 420 (σ 1)) H := (h.1 2 (by decide)).1
theorem RP.a3 (h : RP D ct Z σ th bst rf H) : Ar (ct 0) (rf 3) (rI 32 (σ 2)) H := (h.1 3 (by decide)).1
theorem RP.a4 (h : RP D ct Z σ th bst rf H) : Ar (ct 4) (rf 4) (rJ 60 bst) H := (h.1 4 (by decide)).1
theorem RP.nz (h : RP D ct Z σ th bst rf H) {i : Nat} (hi : i < 5) : ¬ Z (rf i) := (h.1 i hi).2
theorem RP.kept (h : RP D ct Z σ th bst rf H) (hq : ∀ q, q < H.size → H1[q]? = H[q]?) : RP D ct Z σ th bst rf H1 :=
  ⟨fun i hi => ⟨va_at.kept (h.1 i hi).1 (hq _ (va_at.lt (h.1 i hi).1)), (h.1 i hi).2⟩, h.2⟩
theorem RP.set {th' : Int32} {bst' : Nat → Int64} (h : RP D ct Z σ th bst rf H) (k : Nat) (hk : k < 5) (hat : va_at D vwCl (rf k, rn ct σ' th' bst' rf k) H1) (ho : ∀ q : Nat, q ≠ rf k → H1[q]? = H[q]?) (hcn : ∀ i, i < 5 → i ≠ k → rn ct σ' th' bst' rf i = rn ct σ th bst rf i) : RP D ct Z σ' th' bst' rf H1 := by
  refine ⟨fun i hi => ?_, h.2⟩
  by_cases e : i = k
  · subst e
    exact ⟨hat, (h.1 _ hk).2⟩
  · rw [hcn i hi e]
    exact ⟨va_at.kept (h.1 i hi).1 (ho _ (fun z => e (h.2 i k hi hk z))), (h.1 i hi).2⟩
theorem lt5 {i : Nat} (h : i < 5) : i = 0 ∨ i = 1 ∨ i = 2 ∨ i = 3 ∨ i = 4 := by omega
theorem RP.st (h : RP D ct Z σ th bst rf H) (v : Int32) (hat : Ob D (rf 0) 7 [.int v, .int (σ 0 0), .int (σ 0 1), .int (σ 0 2), .int (σ 0 3), .int (σ 0 4), .int (σ 0 5), .int (σ 0 6), .int (σ 0 7), .int (σ 0 8), .ref (rf 1), .ref (rf 2), .ref (rf 3), .ref (rf 4)] H1) (ho : ∀ q : Nat, q ≠ rf 0 → H1[q]? = H[q]?) : RP D ct Z σ v bst rf H1 := by
  refine h.set 0 (by decide) hat ho (fun i hi hne => ?_)
  rcases lt5 hi with rfl | rfl | rfl | rfl | rfl
  all_goals first | rfl | exact absurd rfl hne
theorem RP.s0 (h : RP D ct Z σ th bst rf H) (c : Nat) (v : Int32) (hat : Ob D (rf 0) 7 [.int th, .int (su σ 0 c v 0 0), .int (su σ 0 c v 0 1), .int (su σ 0 c v 0 2), .int (su σ 0 c v 0 3), .int (su σ 0 c v 0 4), .int (su σ 0 c v 0 5), .int (su σ 0 c v 0 6), .int (su σ 0 c v 0 7), .int (su σ 0 c v 0 8), .ref (rf 1), .ref (rf 2), .ref (rf 3), .ref (rf 4)] H1) (ho : ∀ q : Nat, q ≠ rf 0 → H1[q]? = H[q]?) : RP D ct Z (su σ 0 c v) th bst rf H1 := by
  refine h.set 0 (by decide) hat ho (fun i hi hne => ?_)
  rcases lt5 hi with rfl | rfl | rfl | rfl | rfl
  all_goals first | rfl | exact absurd rfl hne
theorem RP.s1 (h : RP D ct Z σ th bst rf H) (c : Nat) (v : Int32) (hat : Ar (ct 0) (rf 2) (rI 420 (upd (σ 1) c v)) H1) (ho : ∀ q : Nat, q ≠ rf 2 → H1[q]? = H[q]?) : RP D ct Z (su σ 1 c v) th bst rf H1 := by
  refine h.set 2 (by decide) (by show Ar (ct 0) (rf 2) (rI 420 (su σ 1 c v 1)) H1; rw [su_row]; exact hat) ho (fun i hi hne => ?_)
  rcases lt5 hi with rfl | rfl | rfl | rfl | rfl
  all_goals first | rfl | exact absurd rfl hne
theorem RP.s2 (h : RP D ct Z σ th bst rf H) (c : Nat) (v : Int32) (hat : Ar (ct 0) (rf 3) (rI 32 (upd (σ 2) c v)) H1) (ho : ∀ q : Nat, q ≠ rf 3 → H1[q]? = H[q]?) : RP D ct Z (su σ 2 c v) th bst rf H1 := by
  refine h.set 3 (by decide) (by show Ar (ct 0) (rf 3) (rI 32 (su σ 2 c v 2)) H1; rw [su_row]; exact hat) ho (fun i hi hne => ?_)
  rcases lt5 hi with rfl | rfl | rfl | rfl | rfl
  all_goals first | rfl | exact absurd rfl hne
theorem RP.s3 (h : RP D ct Z σ th bst rf H) (c : Nat) (v : Int32) (hat : Ar (ct 0) (rf 1) (rI 700 (upd (σ 3) c v)) H1) (ho : ∀ q : Nat, q ≠ rf 1 → H1[q]? = H[q]?) : RP D ct Z (su σ 3 c v) th bst rf H1 := by
  refine h.set 1 (by decide) (by show Ar (ct 0) (rf 1) (rI 700 (su σ 3 c v 3)) H1; rw [su_row]; exact hat) ho (fun i hi hne => ?_)
  rcases lt5 hi with rfl | rfl | rfl | rfl | rfl
  all_goals first | rfl | exact absurd rfl hne
theorem RP.s4 (h : RP D ct Z σ th bst rf H) (c : Nat) (v : Int64) (hat : Ar (ct 4) (rf 4) (rJ 60 (vp_updL bst c v)) H1) (ho : ∀ q : Nat, q ≠ rf 4 → H1[q]? = H[q]?) : RP D ct Z σ th (vp_updL bst c v) rf H1 := by
  refine h.set 4 (by decide) hat ho (fun i hi hne => ?_)
  rcases lt5 hi with rfl | rfl | rfl | rfl | rfl
  all_goals first | rfl | exact absurd rfl hne
/-- whole rows of the reference are written anew (arraycopy) -/
theorem RP.row1 (h : RP D ct Z σ th bst rf H) (f : Nat → Int32) (hat : Ar (ct 0) (rf 2) (rI 420 f) H1) (ho : ∀ q : Nat, q ≠ rf 2 → H1[q]? = H[q]?) (h1 : σ' 1 = f) (h0 : ∀ a, a ≠ 1 → σ' a = σ a) : RP D ct Z σ' th bst rf H1 := by
  refine h.set 2 (by decide) (by show Ar (ct 0) (rf 2) (rI 420 (σ' 1)) H1; rw [h1]; exact hat) ho (fun i hi hne => ?_)
  have e0 := h0 0 (by decide)
  have e2 := h0 2 (by decide)
  have e3 := h0 3 (by decide)
  rcases lt5 hi with rfl | rfl | rfl | rfl | rfl
  · unfold rn; rw [e0]; rfl
  · unfold rn; rw [e3]; rfl
  · exact absurd rfl hne
  · unfold rn; rw [e2]; rfl
  · rfl
theorem RP.row2 (h : RP D ct Z σ th bst rf H) (f : Nat → Int32) (hat : Ar (ct 0) (rf 3) (rI 32 f) H1) (ho : ∀ q : Nat, q ≠ rf 3 → H1[q]? = H[q]?) (h1 : σ' 2 = f) (h0 : ∀ a, a ≠ 2 → σ' a = σ a) : RP D ct Z σ' th bst rf H1 := by
  refine h.set 3 (by decide) (by show Ar (ct 0) (rf 3) (rI 32 (σ' 2)) H1; rw [h1]; exact hat) ho (fun i hi hne => ?_)
  have e0 := h0 0 (by decide)
  have e1 := h0 1 (by decide)
  have e3 := h0 3 (by decide)
  rcases lt5 hi with rfl | rfl | rfl | rfl | rfl
  · unfold rn; rw [e0]; rfl
  · unfold rn; rw [e3]; rfl
  · unfold rn; rw [e1]; rfl
  · exact absurd rfl hne
  · rfl
theorem RP.row3 (h : RP D ct Z σ th bst rf H) (f : Nat → Int32) (hat : Ar (ct 0) (rf 1) (rI 700 f) H1) (ho : ∀ q : Nat, q ≠ rf 1 → H1[q]? = H[q]?) (h1 : σ' 3 = f) (h0 : ∀ a, a ≠ 3 → σ' a = σ a) : RP D ct Z σ' th bst rf H1 := by
  refine h.set 1 (by decide) (by show Ar (ct 0) (rf 1) (rI 700 (σ' 3)) H1; rw [h1]; exact hat) ho (fun i hi hne => ?_)
  have e0 := h0 0 (by decide)
  have e1 := h0 1 (by decide)
  have e2 := h0 2 (by decide)
  rcases lt5 hi with rfl | rfl | rfl | rfl | rfl
  · unfold rn; rw [e0]; rfl
  · exact absurd rfl hne
  · unfold rn; rw [e1]; rfl
  · unfold rn; rw [e2]; rfl
  · rfl
/-- the reference's picture speaks of the first four kinds alone -/
theorem RP.core (h : RP D ct Z σ th bst rf H) (h0 : ∀ a, a < 4 → σ' a = σ a) : RP D ct Z σ' th bst rf H := by
  refine ⟨fun i hi => ?_, h.2⟩
  have e0 := h0 0 (by decide)
  have e1 := h0 1 (by decide)
  have e2 := h0 2 (by decide)
  have e3 := h0 3 (by decide)
  have e : rn ct σ' th bst rf i = rn ct σ th bst rf i := by unfold rn; rw [e0, e1, e2, e3]
  rw [e]
  exact h.1 i hi
end STATE0
end
section
/-! WHAT IS TOLD: functions of the state that class and reference both compute -/
section SPEC0
def figD (p d0 d1 d2 d3 d4 d5 : Int32) : Int32 := if p = 0 then 1 else if p = 1 then d0 else if p = 2 then d1 else if p = 3 then d2 else if p = 4 then d3 else if p = 5 then d4 else d5
def figR (p r1 r2 r3 r4 r5 r6 r7 : Int32) : Int32 := if p = 0 then r2 else if p = 1 then r3 else if p = 2 then r4 else if p = 3 then r1 else if p = 4 then r5 else if p = 5 then r6 else r7
theorem sm_t {f : Nat → Int32} {n : Nat} {x v : Int32} (hx : x = sm f n) (h : f n = v) : x + v = sm f (n + 1) := by rw [hx, sm_1, h]
theorem sm_z {f : Nat → Int32} {n : Nat} {x : Int32} (hx : x = sm f n) (h : f n = 0) : x = sm f (n + 1) := by rw [hx, sm_1, h, Int32.add_zero]
def inB (σ : Stt) (c : Int32) : Int32 := sm (fun r => b2 (σ 1 (7 * r + 5) = c)) (nR σ)
def hidB (σ : Stt) (c : Int32) : Int32 := sm (fun r => b2 (σ 1 (7 * r + 6) = 1 ∧ σ 1 (7 * r + 5) = c)) (nR σ)
def duty (σ : Stt) (k r : Nat) (b : Int32) : Int32 := ((σ 3 (7 * k + 2) * σ 1 (7 * r)) + (σ 3 (7 * k + 3) * σ 1 (7 * r + 1))) >>> (b &&& 31)
def mn (x y : Int32) : Int32 := if y < x then y else x
def mx (x y : Int32) : Int32 := if x < y then y else x
def owedF (σ : Stt) (c : Int32) (k : Nat) (b : Int32) (r : Nat) : Int32 := if σ 1 (7 * r + 6) = 0 ∧ σ 1 (7 * r + 5) = c then duty σ k r (mn b (σ 1 (7 * r + 2))) else 0
def owedS (σ : Stt) (c : Int32) (k : Nat) (b : Int32) : Int32 := sm (owedF σ c k b) (nR σ)
def hdutF (σ : Stt) (c : Int32) (k r : Nat) : Int32 := if σ 1 (7 * r + 6) = 1 ∧ σ 1 (7 * r + 5) = c then duty σ k r 0 else 0
def hdutS (σ : Stt) (c : Int32) (k : Nat) : Int32 := sm (hdutF σ c k) (nR σ)
def attn (σ : Stt) (c : Int32) (k : Nat) : Int32 := (σ 3 (7 * k + 5) + σ 3 (7 * k + 4)) + hidB σ c
def fineS (σ : Stt) (c : Int32) (k : Nat) (left : Int32) : Int32 := if attn σ c k < 10 then 0 else mx 0 (mn (3 * hdutS σ c k) left)
def rin (σ : Stt) (t : Int32) : Int32 := sm (fun r => b2 (σ 1 (7 * r + 4) = t)) (nR σ)
def cin (σ : Stt) (t : Int32) : Int32 := sm (fun k => b2 (σ 2 (4 * k) = t ∧ ¬ 0 < σ 2 (4 * k + 1))) (nC σ)
def dps (σ : Stt) (t : Int32) : Nat → Int32 × Int32
  | 0 => (-1, -1)
  | n + 1 => if σ 1 (7 * n + 4) = t ∧ (dps σ t n).2 < σ 1 (7 * n + 1) then (nI n, σ 1 (7 * n + 1)) else dps σ t n
/-- the rumour of a family in a town with the least depth, the first of several -/
def ldp (σ : Stt) (t f : Int32) : Nat → Option Nat
  | 0 => none
  | n + 1 => if σ 1 (7 * n + 4) = t ∧ σ 1 (7 * n + 3) = f then (match ldp σ t f n with | none => some n | some k => if σ 1 (7 * n + 1) < σ 1 (7 * k + 1) then some n else some k) else ldp σ t f n
def opI (o : Option Nat) : Int32 := match o with | none => -1 | some k => nI k
def fmb (σ : Stt) (t : Int32) : Nat → Int64
  | 0 => 0
  | n + 1 => if σ 1 (7 * n + 4) = t then fmb σ t n ||| ((1 : Int64) <<< ((σ 1 (7 * n + 3)).toInt64 &&& 63)) else fmb σ t n
def tmb (σ : Stt) (f : Int32) : Nat → Int32
  | 0 => 0
  | n + 1 => if σ 1 (7 * n + 3) = f ∧ ¬ σ 1 (7 * n + 4) = -1 then tmb σ f n ||| ((1 : Int32) <<< (σ 1 (7 * n + 4) &&& 31)) else tmb σ f n
def gdp (σ : Stt) (f : Int32) : Nat → Int32
  | 0 => -1
  | n + 1 => if σ 1 (7 * n + 3) = f ∧ ¬ σ 1 (7 * n + 4) = -1 then mx (gdp σ f n) (σ 1 (7 * n + 1)) else gdp σ f n
def ngS (σ : Stt) (f : Int32) : Int32 := sm (fun r => b2 (σ 1 (7 * r + 3) = f ∧ ¬ (σ 1 (7 * r + 4) = -1 ∧ σ 1 (7 * r + 5) = -1))) (nR σ)
def goneS (σ : Stt) : Int32 := sm (fun r => b2 (σ 1 (7 * r + 4) = -1 ∧ σ 1 (7 * r + 5) = -1)) (nR σ)
def wayS (σ : Stt) : Int32 := sm (fun k => b2 (0 < σ 2 (4 * k + 1))) (nC σ)
def hsN (σ : Stt) : Int32 := sm (fun r => b2 (¬ σ 1 (7 * r + 4) = -1)) (nR σ)
def hsD (σ : Stt) : Int32 := sm (fun r => if ¬ σ 1 (7 * r + 4) = -1 then σ 1 (7 * r + 1) else 0) (nR σ)
/-- what carrier() and count() tell -/
def figC (σ : Stt) (k : Nat) (p : Int32) : Int32 := if p = 0 then σ 2 (4 * k) else if p = 1 then σ 2 (4 * k + 1) else if p = 2 then σ 2 (4 * k + 2) else if p = 3 then inB σ (nI k) else if p = 4 then hidB σ (nI k) else σ 2 (4 * k + 3)
def figL (σ : Stt) (p : Int32) : Int32 := if p = 0 then σ 0 0 else if p = 1 then σ 0 1 else if p = 2 then σ 0 2 else if p = 3 then nI (nR σ) else if p = 4 then goneS σ else if p = 5 then nI (nC σ) else if p = 6 then wayS σ else if p = 7 then σ 0 5 else if p = 8 then σ 0 6 else if p = 9 then σ 0 7 else σ 0 8
/-- the checksum: on from d with n numbers of f -/
def dfo (d : Int64) (f : Nat → Int32) : Nat → Int64
  | 0 => d
  | n + 1 => dfo d f n * 31 + (f n).toInt64
theorem dfo_1 (d : Int64) (f : Nat → Int32) (n : Nat) : dfo d f (n + 1) = dfo d f n * 31 + (f n).toInt64 := rfl
theorem dfo_cong {d : Int64} {f g : Nat → Int32} : ∀ {n : Nat}, (∀ k, k < n → f k = g k) → dfo d f n = dfo d g n
  | 0, _ => rfl
  | n + 1, h => by rw [dfo_1, dfo_1, dfo_cong (fun k hk => h k (by omega)), h n (by omega)]
theorem dfo_app (d : Int64) (f : Nat → Int32) (n : Nat) : ∀ m, dfo d f (n + m) = dfo (dfo d f n) (fun k => f (n + k)) m
  | 0 => rfl
  | m + 1 => by rw [dfo_1, ← dfo_app d f n m]; rfl
def figRS (σ : Stt) (r : Nat) (p : Int32) : Int32 := figR p (σ 1 (7 * r + 3)) (σ 1 (7 * r)) (σ 1 (7 * r + 1)) (σ 1 (7 * r + 2)) (σ 1 (7 * r + 4)) (σ 1 (7 * r + 5)) (σ 1 (7 * r + 6))
def figDS (σ : Stt) (k : Nat) (p : Int32) : Int32 := figD p (σ 3 (7 * k + 1)) (σ 3 (7 * k + 2)) (σ 3 (7 * k + 3)) (σ 3 (7 * k + 4)) (σ 3 (7 * k + 5)) (σ 3 (7 * k + 6))
def dgR (σ : Stt) (d : Int64) : Nat → Int64
  | 0 => d
  | n + 1 => dfo (dgR σ d n) (fun w => figRS σ n (nI w)) 7
def dgC (σ : Stt) (d : Int64) : Nat → Int64
  | 0 => d
  | n + 1 => dfo (dgC σ d n) (fun w => figC σ n (nI w)) 6
/-- one town's roads to greater ones -/
def dgD1 (σ : Stt) (a : Nat) (d : Int64) : Nat → Int64
  | 0 => d
  | n + 1 => if a < n ∧ σ 3 (7 * rk a n) = 1 then dfo (dgD1 σ a d n) (fun w => figDS σ (rk a n) (nI w)) 7 else dgD1 σ a d n
def dgD (σ : Stt) (m : Nat) (d : Int64) : Nat → Int64
  | 0 => d
  | n + 1 => dgD1 σ n (dgD σ m d n) m
def digS (σ : Stt) : Int64 := dgC σ (dgR σ (dgD σ (nT σ) (dfo 499 (fun w => figL σ (nI w)) 11) (nT σ)) (nR σ)) (nC σ)
end SPEC0
end
section
theorem rvi {x y : Int32} (h : x = y) : Outcome.returned (some (.int x)) = .returned (some (.int y)) := by rw [h]
theorem rvl {x y : Int64} (h : x = y) : Outcome.returned (some (.long x)) = .returned (some (.long y)) := by rw [h]
theorem rva {x y : Value} (h : x = y) : Outcome.returned (some x) = .returned (some y) := by rw [h]
theorem nar_b2 (P : Prop) [Decidable P] : narrow .boolean (.int (b2 P)) = .int (b2 P) := by
  by_cases h : P
  · rw [b2_t h]; rfl
  · rw [b2_f h]; rfl
theorem nar_01 {x : Int32} (h : x = 0 ∨ x = 1) : narrow .boolean (.int x) = .int x := by
  rcases h with rfl | rfl <;> rfl
theorem i32_nle {a b : Int32} (h : ¬ a ≤ b) : b < a := Int32.not_le.mp h
theorem i32_nlt {a b : Int32} (h : ¬ a < b) : b ≤ a := Int32.not_lt.mp h

/-! Carrier.isOnTheWay -/
set_option maxHeartbeats 4000000 in
set_option maxRecDepth 100000 in
theorem c_X0_isOnTheWay (l : Launch) (D : va_G) (ct : Nat → ClassId) (c : Nat) (c0 c1 c2 c3 c4 : Int32) : Met l yX0_isOnTheWay (.code yX0_isOnTheWay cX0_isOnTheWay 1 (some .boolean) :: GW) ({ frames := 0, cells := 0, slots := 0, locals := 0 } : Room) (va_Pc [.ref c] (fun U => GT D ct U ∧ Ob D c 1 [.int c0, .int c1, .int c2, .int c3, .int c4] U.heap)) (qP (some (.int (b2 (0 < c2))))) 0 0 nF := by
  refine m_in (cc := cX0_isOnTheWay) [.ref c] "RumourCustoms$Carrier" rfl (by decide) (Nat.le_of_ble_eq_true rfl) ?_
  intro pg e s m args below meth cd ls hx hb hml hown hts hr hlocks hin hPr hl
  obtain ⟨hT, hOc⟩ := hPr
  have hl : lv_has ls 1 [(0, .ref c)] := hl
  refine lv_aload_n hx hb dX0_isOnTheWay_0 rfl (lv_at hl 0 rfl) ?_
  refine k_get (C := RX0) (T := TX0) (N := 5) hx hb hts inGX0 hown (hT).1 hOc rfl 2 (by decide) (hts _ w_628) (fun _ h9 => h9) (v := .int c2) rfl dX0_isOnTheWay_1 ?_
  refine lv_if_le (tgt := 11) hx hb dX0_isOnTheWay_4 (by decide) (fun c_4 => ?_) (fun c_4 => ?_)
  · -- taken
    refine lv_iconst (v := 0) hx hb dX0_isOnTheWay_11 (by decide) ?_
    exact W.zret (v := 0) hx hb hr rfl (fun t ht hW => ⟨rvi ((b2_f (Int32.not_lt.mpr c_4)).symm), ht⟩) (fun q h => nomatch h) dX0_isOnTheWay_12
  · -- not taken
    refine lv_iconst (v := 1) hx hb dX0_isOnTheWay_7 (by decide) ?_
    refine lv_goto (tgt := 12) hx hb dX0_isOnTheWay_8 (by decide) ?_
    exact W.zret (v := 1) hx hb hr rfl (fun t ht hW => ⟨rvi ((b2_t (i32_nle c_4)).symm), ht⟩) (fun q h => nomatch h) dX0_isOnTheWay_12

/-! Road.dutyOf -/
set_option maxHeartbeats 4000000 in
set_option maxRecDepth 100000 in
theorem c_X1_dutyOf (l : Launch) (D : va_G) (ct : Nat → ClassId) (d : Nat) (d0 d1 d2 d3 d4 d5 : Int32) (r : Nat) (r0 r1 r2 r3 r4 r5 r6 r7 p : Int32) : Met l yX1_dutyOf (.code yX1_dutyOf cX1_dutyOf 3 (some .int) :: GW) ({ frames := 0, cells := 0, slots := 0, locals := 0 } : Room) (va_Pc [.ref d, .ref r, .int p] (fun U => GT D ct U ∧ Ob D d 2 [.int d0, .int d1, .int d2, .int d3, .int d4, .int d5] U.heap ∧ Ob D r 4 [.int r0, .int r1, .int r2, .int r3, .int r4, .int r5, .int r6, .int r7] U.heap)) (qP (some (.int (((d1 * r2) + (d2 * r3)) >>> (p &&& 31))))) 0 0 nF := by
  refine m_in (cc := cX1_dutyOf) [.ref d, .ref r, .int p] "RumourCustoms$Road" rfl (by decide) (Nat.le_of_ble_eq_true rfl) ?_
  intro pg e s m args below meth cd ls hx hb hml hown hts hr hlocks hin hPr hl
  obtain ⟨hT, hOd, hOr⟩ := hPr
  have hl : lv_has ls 3 [(0, .ref d), (1, .ref r), (2, .int p)] := hl
  refine lv_aload_n hx hb dX1_dutyOf_0 rfl (lv_at hl 0 rfl) ?_
  refine k_get (C := RX1) (T := TX1) (N := 6) hx hb hts inGX1 hown (hT).1 hOd rfl 1 (by decide) (hts _ w_417) (fun _ h9 => h9) (v := .int d1) rfl dX1_dutyOf_1 ?_
  refine lv_aload_n hx hb dX1_dutyOf_4 rfl (lv_at hl 1 rfl) ?_
  refine k_get (C := RX3) (T := TX3) (N := 8) hx hb hts inGX3 hown (hT).1 hOr rfl 2 (by decide) (hts _ w_470) (fun _ h9 => h9) (v := .int r2) rfl dX1_dutyOf_5 ?_
  refine lv_imul hx hb dX1_dutyOf_8 ?_
  refine lv_aload_n hx hb dX1_dutyOf_9 rfl (lv_at hl 0 rfl) ?_
  refine k_get (C := RX1) (T := TX1) (N := 6) hx hb hts inGX1 hown (hT).1 hOd rfl 2 (by decide) (hts _ w_418) (fun _ h9 => h9) (v := .int d2) rfl dX1_dutyOf_10 ?_
  refine lv_aload_n hx hb dX1_dutyOf_13 rfl (lv_at hl 1 rfl) ?_
  refine k_get (C := RX3) (T := TX3) (N := 8) hx hb hts inGX3 hown (hT).1 hOr rfl 3 (by decide) (hts _ w_473) (fun _ h9 => h9) (v := .int r3) rfl dX1_dutyOf_14 ?_
  refine lv_imul hx hb dX1_dutyOf_17 ?_
  refine lv_iadd hx hb dX1_dutyOf_18 ?_
  refine lv_iload_n hx hb dX1_dutyOf_19 rfl (lv_at hl 2 rfl) ?_
  refine lv_ishr hx hb dX1_dutyOf_20 ?_
  exact W.iret (v := ((d1 * r2) + (d2 * r3)) >>> (p &&& 31)) hx hb hr (fun t ht hW => ⟨rvi rfl, ht⟩) (fun q h => nomatch h) dX1_dutyOf_21

/-! Road.attentionBehind -/
set_option maxHeartbeats 4000000 in
set_option maxRecDepth 100000 in
theorem c_X1_attentionBehind (l : Launch) (D : va_G) (ct : Nat → ClassId) (d : Nat) (d0 d1 d2 d3 d4 d5 p : Int32) : Met l yX1_attentionBehind (.code yX1_attentionBehind cX1_attentionBehind 2 (some .int) :: GW) ({ frames := 0, cells := 0, slots := 0, locals := 0 } : Room) (va_Pc [.ref d, .int p] (fun U => GT D ct U ∧ Ob D d 2 [.int d0, .int d1, .int d2, .int d3, .int d4, .int d5] U.heap)) (qP (some (.int ((d4 + d3) + p)))) 0 0 nF := by
  refine m_in (cc := cX1_attentionBehind) [.ref d, .int p] "RumourCustoms$Road" rfl (by decide) (Nat.le_of_ble_eq_true rfl) ?_
  intro pg e s m args below meth cd ls hx hb hml hown hts hr hlocks hin hPr hl
  obtain ⟨hT, hOd⟩ := hPr
  have hl : lv_has ls 2 [(0, .ref d), (1, .int p)] := hl
  refine lv_aload_n hx hb dX1_attentionBehind_0 rfl (lv_at hl 0 rfl) ?_
  refine k_get (C := RX1) (T := TX1) (N := 6) hx hb hts inGX1 hown (hT).1 hOd rfl 4 (by decide) (hts _ w_420) (fun _ h9 => h9) (v := .int d4) rfl dX1_attentionBehind_1 ?_
  refine lv_aload_n hx hb dX1_attentionBehind_4 rfl (lv_at hl 0 rfl) ?_
  refine k_get (C := RX1) (T := TX1) (N := 6) hx hb hts inGX1 hown (hT).1 hOd rfl 3 (by decide) (hts _ w_419) (fun _ h9 => h9) (v := .int d3) rfl dX1_attentionBehind_5 ?_
  refine lv_iadd hx hb dX1_attentionBehind_8 ?_
  refine lv_iload_n hx hb dX1_attentionBehind_9 rfl (lv_at hl 1 rfl) ?_
  refine lv_iadd hx hb dX1_attentionBehind_10 ?_
  exact W.iret (v := (d4 + d3) + p) hx hb hr (fun t ht hW => ⟨rvi rfl, ht⟩) (fun q h => nomatch h) dX1_attentionBehind_11

/-! Road.figure -/
set_option maxHeartbeats 4000000 in
set_option maxRecDepth 100000 in
theorem c_X1_figure (l : Launch) (D : va_G) (ct : Nat → ClassId) (d : Nat) (d0 d1 d2 d3 d4 d5 p : Int32) : Met l yX1_figure (.code yX1_figure cX1_figure 2 (some .int) :: GW) ({ frames := 0, cells := 0, slots := 0, locals := 0 } : Room) (va_Pc [.ref d, .int p] (fun U => GT D ct U ∧ Ob D d 2 [.int d0, .int d1, .int d2, .int d3, .int d4, .int d5] U.heap)) (qP (some (.int (figD p d0 d1 d2 d3 d4 d5)))) 0 0 nF := by
  refine m_in (cc := cX1_figure) [.ref d, .int p] "RumourCustoms$Road" rfl (by decide) (Nat.le_of_ble_eq_true rfl) ?_
  intro pg e s m args below meth cd ls hx hb hml hown hts hr hlocks hin hPr hl
  obtain ⟨hT, hOd⟩ := hPr
  have hl : lv_has ls 2 [(0, .ref d), (1, .int p)] := hl
  refine lv_iload_n hx hb dX1_figure_0 rfl (lv_at hl 1 rfl) ?_
  by_cases e1_0 : p = 0
  · -- case 0
    subst e1_0
    refine lv_tableIn (off := 39) (tgt := 40) hx hb dX1_figure_1 (by decide) (by decide) rfl (by decide) ?_
    refine lv_iconst (v := 1) hx hb dX1_figure_40 (by decide) ?_
    exact W.iret (v := 1) hx hb hr (fun t ht hW => ⟨rvi rfl, ht⟩) (fun q h => nomatch h) dX1_figure_41
  by_cases e1_1 : p = 1
  · -- case 1
    subst e1_1
    refine lv_tableIn (off := 41) (tgt := 42) hx hb dX1_figure_1 (by decide) (by decide) rfl (by decide) ?_
    refine lv_aload_n hx hb dX1_figure_42 rfl (lv_at hl 0 rfl) ?_
    refine k_get (C := RX1) (T := TX1) (N := 6) hx hb hts inGX1 hown (hT).1 hOd rfl 0 (by decide) (hts _ w_414) (fun _ h9 => h9) (v := .int d0) rfl dX1_figure_43 ?_
    exact W.iret (v := d0) hx hb hr (fun t ht hW => ⟨rvi rfl, ht⟩) (fun q h => nomatch h) dX1_figure_46
  by_cases e1_2 : p = 2
  · -- case 2
    subst e1_2
    refine lv_tableIn (off := 46) (tgt := 47) hx hb dX1_figure_1 (by decide) (by decide) rfl (by decide) ?_
    refine lv_aload_n hx hb dX1_figure_47 rfl (lv_at hl 0 rfl) ?_
    refine k_get (C := RX1) (T := TX1) (N := 6) hx hb hts inGX1 hown (hT).1 hOd rfl 1 (by decide) (hts _ w_417) (fun _ h9 => h9) (v := .int d1) rfl dX1_figure_48 ?_
    exact W.iret (v := d1) hx hb hr (fun t ht hW => ⟨rvi rfl, ht⟩) (fun q h => nomatch h) dX1_figure_51
  by_cases e1_3 : p = 3
  · -- case 3
    subst e1_3
    refine lv_tableIn (off := 51) (tgt := 52) hx hb dX1_figure_1 (by decide) (by decide) rfl (by decide) ?_
    refine lv_aload_n hx hb dX1_figure_52 rfl (lv_at hl 0 rfl) ?_
    refine k_get (C := RX1) (T := TX1) (N := 6) hx hb hts inGX1 hown (hT).1 hOd rfl 2 (by decide) (hts _ w_418) (fun _ h9 => h9) (v := .int d2) rfl dX1_figure_53 ?_
    exact W.iret (v := d2) hx hb hr (fun t ht hW => ⟨rvi rfl, ht⟩) (fun q h => nomatch h) dX1_figure_56
  by_cases e1_4 : p = 4
  · -- case 4
    subst e1_4
    refine lv_tableIn (off := 56) (tgt := 57) hx hb dX1_figure_1 (by decide) (by decide) rfl (by decide) ?_
    refine lv_aload_n hx hb dX1_figure_57 rfl (lv_at hl 0 rfl) ?_
    refine k_get (C := RX1) (T := TX1) (N := 6) hx hb hts inGX1 hown (hT).1 hOd rfl 3 (by decide) (hts _ w_419) (fun _ h9 => h9) (v := .int d3) rfl dX1_figure_58 ?_
    exact W.iret (v := d3) hx hb hr (fun t ht hW => ⟨rvi rfl, ht⟩) (fun q h => nomatch h) dX1_figure_61
  by_cases e1_5 : p = 5
  · -- case 5
    subst e1_5
    refine lv_tableIn (off := 61) (tgt := 62) hx hb dX1_figure_1 (by decide) (by decide) rfl (by decide) ?_
    refine lv_aload_n hx hb dX1_figure_62 rfl (lv_at hl 0 rfl) ?_
    refine k_get (C := RX1) (T := TX1) (N := 6) hx hb hts inGX1 hown (hT).1 hOd rfl 4 (by decide) (hts _ w_420) (fun _ h9 => h9) (v := .int d4) rfl dX1_figure_63 ?_
    exact W.iret (v := d4) hx hb hr (fun t ht hW => ⟨rvi rfl, ht⟩) (fun q h => nomatch h) dX1_figure_66
  have t1 : p.toInt < 0 ∨ 5 < p.toInt := by
    have z := And.intro (lv_neT (a := 0) e1_0 rfl) (And.intro (lv_neT (a := 1) e1_1 rfl) (And.intro (lv_neT (a := 2) e1_2 rfl) (And.intro (lv_neT (a := 3) e1_3 rfl) (And.intro (lv_neT (a := 4) e1_4 rfl) (And.intro (lv_neT (a := 5) e1_5 rfl) trivial)))))
    omega
  refine lv_tableOut (tgt := 67) hx hb dX1_figure_1 t1 (by decide) ?_
  refine lv_aload_n hx hb dX1_figure_67 rfl (lv_at hl 0 rfl) ?_
  refine k_get (C := RX1) (T := TX1) (N := 6) hx hb hts inGX1 hown (hT).1 hOd rfl 5 (by decide) (hts _ w_422) (fun _ h9 => h9) (v := .int d5) rfl dX1_figure_68 ?_
  exact W.iret (v := d5) hx hb hr (fun t ht hW => ⟨rvi (by simp [figD, e1_0, e1_1, e1_2, e1_3, e1_4, e1_5]), ht⟩) (fun q h => nomatch h) dX1_figure_71

/-! Rumour.isGone -/
set_option maxHeartbeats 4000000 in
set_option maxRecDepth 100000 in
theorem c_X3_isGone (l : Launch) (D : va_G) (ct : Nat → ClassId) (r : Nat) (r0 r1 r2 r3 r4 r5 r6 r7 : Int32) : Met l yX3_isGone (.code yX3_isGone cX3_isGone 1 (some .boolean) :: GW) ({ frames := 0, cells := 0, slots := 0, locals := 0 } : Room) (va_Pc [.ref r] (fun U => GT D ct U ∧ Ob D r 4 [.int r0, .int r1, .int r2, .int r3, .int r4, .int r5, .int r6, .int r7] U.heap)) (qP (some (.int (b2 (r5 = -1 ∧ r6 = -1))))) 0 0 nF := by
  refine m_in (cc := cX3_isGone) [.ref r] "RumourCustoms$Rumour" rfl (by decide) (Nat.le_of_ble_eq_true rfl) ?_
  intro pg e s m args below meth cd ls hx hb hml hown hts hr hlocks hin hPr hl
  obtain ⟨hT, hOr⟩ := hPr
  have hl : lv_has ls 1 [(0, .ref r)] := hl
  refine lv_aload_n hx hb dX3_isGone_0 rfl (lv_at hl 0 rfl) ?_
  refine k_get (C := RX3) (T := TX3) (N := 8) hx hb hts inGX3 hown (hT).1 hOr rfl 5 (by decide) (hts _ w_478) (fun _ h9 => h9) (v := .int r5) rfl dX3_isGone_1 ?_
  refine lv_iconst (v := (-1)) hx hb dX3_isGone_4 (by decide) ?_
  refine lv_icmp_ne (tgt := 20) hx hb dX3_isGone_5 (by decide) (fun c_5 => ?_) (fun c_5 => ?_)
  · -- taken
    refine lv_iconst (v := 0) hx hb dX3_isGone_20 (by decide) ?_
    exact W.zret (v := 0) hx hb hr rfl (fun t ht hW => ⟨rvi ((b2_f (fun z => by first | exact c_5 z.1 | exact c_13 z.2)).symm), ht⟩) (fun q h => nomatch h) dX3_isGone_21
  · -- not taken
    refine lv_aload_n hx hb dX3_isGone_8 rfl (lv_at hl 0 rfl) ?_
    refine k_get (C := RX3) (T := TX3) (N := 8) hx hb hts inGX3 hown (hT).1 hOr rfl 6 (by decide) (hts _ w_480) (fun _ h9 => h9) (v := .int r6) rfl dX3_isGone_9 ?_
    refine lv_iconst (v := (-1)) hx hb dX3_isGone_12 (by decide) ?_
    refine lv_icmp_ne (tgt := 20) hx hb dX3_isGone_13 (by decide) (fun c_13 => ?_) (fun c_13 => ?_)
    · -- taken
      refine lv_iconst (v := 0) hx hb dX3_isGone_20 (by decide) ?_
      exact W.zret (v := 0) hx hb hr rfl (fun t ht hW => ⟨rvi ((b2_f (fun z => by first | exact c_5 z.1 | exact c_13 z.2)).symm), ht⟩) (fun q h => nomatch h) dX3_isGone_21
    · -- not taken
      refine lv_iconst (v := 1) hx hb dX3_isGone_16 (by decide) ?_
      refine lv_goto (tgt := 21) hx hb dX3_isGone_17 (by decide) ?_
      exact W.zret (v := 1) hx hb hr rfl (fun t ht hW => ⟨rvi ((b2_t ⟨c_5, c_13⟩).symm), ht⟩) (fun q h => nomatch h) dX3_isGone_21

/-! Rumour.isInBagOf -/
set_option maxHeartbeats 4000000 in
set_option maxRecDepth 100000 in
theorem c_X3_isInBagOf (l : Launch) (D : va_G) (ct : Nat → ClassId) (r : Nat) (r0 r1 r2 r3 r4 r5 r6 r7 : Int32) (c : Nat) (c0 c1 c2 c3 c4 : Int32) : Met l yX3_isInBagOf (.code yX3_isInBagOf cX3_isInBagOf 2 (some .boolean) :: GW) ({ frames := 0, cells := 0, slots := 0, locals := 0 } : Room) (va_Pc [.ref r, .ref c] (fun U => GT D ct U ∧ Ob D r 4 [.int r0, .int r1, .int r2, .int r3, .int r4, .int r5, .int r6, .int r7] U.heap ∧ Ob D c 1 [.int c0, .int c1, .int c2, .int c3, .int c4] U.heap)) (qP (some (.int (b2 (r6 = c0))))) 0 0 nF := by
  refine m_in (cc := cX3_isInBagOf) [.ref r, .ref c] "RumourCustoms$Rumour" rfl (by decide) (Nat.le_of_ble_eq_true rfl) ?_
  intro pg e s m args below meth cd ls hx hb hml hown hts hr hlocks hin hPr hl
  obtain ⟨hT, hOr, hOc⟩ := hPr
  have hl : lv_has ls 2 [(0, .ref r), (1, .ref c)] := hl
  refine lv_aload_n hx hb dX3_isInBagOf_0 rfl (lv_at hl 0 rfl) ?_
  refine k_get (C := RX3) (T := TX3) (N := 8) hx hb hts inGX3 hown (hT).1 hOr rfl 6 (by decide) (hts _ w_480) (fun _ h9 => h9) (v := .int r6) rfl dX3_isInBagOf_1 ?_
  refine lv_aload_n hx hb dX3_isInBagOf_4 rfl (lv_at hl 1 rfl) ?_
  refine k_get (C := RX0) (T := TX0) (N := 5) hx hb hts inGX0 hown (hT).1 hOc rfl 0 (by decide) (hts _ w_625) (fun _ h9 => h9) (v := .int c0) rfl dX3_isInBagOf_5 ?_
  refine lv_icmp_ne (tgt := 15) hx hb dX3_isInBagOf_8 (by decide) (fun c_8 => ?_) (fun c_8 => ?_)
  · -- taken
    refine lv_iconst (v := 0) hx hb dX3_isInBagOf_15 (by decide) ?_
    exact W.zret (v := 0) hx hb hr rfl (fun t ht hW => ⟨rvi ((b2_f c_8).symm), ht⟩) (fun q h => nomatch h) dX3_isInBagOf_16
  · -- not taken
    refine lv_iconst (v := 1) hx hb dX3_isInBagOf_11 (by decide) ?_
    refine lv_goto (tgt := 16) hx hb dX3_isInBagOf_12 (by decide) ?_
    exact W.zret (v := 1) hx hb hr rfl (fun t ht hW => ⟨rvi ((b2_t c_8).symm), ht⟩) (fun q h => nomatch h) dX3_isInBagOf_16

/-! Rumour.isHiddenBy -/
set_option maxHeartbeats 4000000 in
set_option maxRecDepth 100000 in
theorem c_X3_isHiddenBy (l : Launch) (D : va_G) (ct : Nat → ClassId) (r : Nat) (r0 r1 r2 r3 r4 r5 r6 r7 : Int32) (c : Nat) (c0 c1 c2 c3 c4 : Int32) (hh : r7 = 0 ∨ r7 = 1) : Met l yX3_isHiddenBy (.code yX3_isHiddenBy cX3_isHiddenBy 2 (some .boolean) :: GW) ({ frames := 1, cells := 0, slots := 0, locals := 21 } : Room) (va_Pc [.ref r, .ref c] (fun U => GT D ct U ∧ Ob D r 4 [.int r0, .int r1, .int r2, .int r3, .int r4, .int r5, .int r6, .int r7] U.heap ∧ Ob D c 1 [.int c0, .int c1, .int c2, .int c3, .int c4] U.heap)) (qP (some (.int (b2 (r7 = 1 ∧ r6 = c0))))) 0 0 nF := by
  refine m_in (cc := cX3_isHiddenBy) [.ref r, .ref c] "RumourCustoms$Rumour" rfl (by decide) (Nat.le_of_ble_eq_true rfl) ?_
  intro pg e s m args below meth cd ls hx hb hml hown hts hr hlocks hin hPr hl
  obtain ⟨hT, hOr, hOc⟩ := hPr
  have hl : lv_has ls 2 [(0, .ref r), (1, .ref c)] := hl
  refine lv_aload_n hx hb dX3_isHiddenBy_0 rfl (lv_at hl 0 rfl) ?_
  refine k_get (C := RX3) (T := TX3) (N := 8) hx hb hts inGX3 hown (hT).1 hOr rfl 7 (by decide) (hts _ w_481) (fun _ h9 => h9) (v := .int r7) rfl dX3_isHiddenBy_1 ?_
  refine lv_if_eq (tgt := 19) hx hb dX3_isHiddenBy_4 (by decide) (fun c_4 => ?_) (fun c_4 => ?_)
  · -- taken
    refine lv_iconst (v := 0) hx hb dX3_isHiddenBy_19 (by decide) ?_
    exact W.zret (v := 0) hx hb hr rfl (fun t ht hW => ⟨rvi ((b2_f (fun z => by first | exact c_12 z.2 | (rw [z.1] at c_4; exact absurd c_4 (by decide)) | exact c_4 z.1)).symm), ht⟩) (fun q h => nomatch h) dX3_isHiddenBy_20
  · -- not taken
    refine lv_aload_n hx hb dX3_isHiddenBy_7 rfl (lv_at hl 0 rfl) ?_
    refine lv_aload_n hx hb dX3_isHiddenBy_8 rfl (lv_at hl 1 rfl) ?_
    refine c_p1 (va_runV (As := [.ref c]) (rest := []) ⟨hx, hb, hml, hown, hts⟩ (c_X3_isInBagOf l D ct r r0 r1 r2 r3 r4 r5 r6 r7 c c0 c1 c2 c3 c4) (cwV 1 hts (GG w_281 w_270 w_271 w_75 w_272) rfl rfl rfl (by decide) ⟨Nat.le_of_ble_eq_true rfl, Nat.le_of_ble_eq_true rfl⟩) ⟨(blindT fun _ _ _ _ h => h), Ob.recv (hT).1 hOr rfl, fun U hU hW => ⟨rfl, hT.warm hW, by rw [hU]; exact ⟨hOr, hOc⟩⟩⟩ rfl rfl hl.1 rfl (lv_room (Nat.le_of_ble_eq_true rfl)) dX3_isHiddenBy_9 ⟨Nat.le_of_ble_eq_true rfl, Nat.le_of_ble_eq_true rfl⟩) ?_
    refine lv_if_eq (tgt := 19) hx hb dX3_isHiddenBy_12 (by decide) (fun c_12 => ?_) (fun c_12 => ?_)
    · -- taken
      replace c_12 := b2_z c_12
      refine lv_iconst (v := 0) hx hb dX3_isHiddenBy_19 (by decide) ?_
      exact W.zret (v := 0) hx hb hr rfl (fun t ht hW => ⟨rvi ((b2_f (fun z => by first | exact c_12 z.2 | (rw [z.1] at c_4; exact absurd c_4 (by decide)) | exact c_4 z.1)).symm), ht⟩) (fun q h => nomatch h) dX3_isHiddenBy_20
    · -- not taken
      replace c_12 := b2_nz c_12
      refine lv_iconst (v := 1) hx hb dX3_isHiddenBy_15 (by decide) ?_
      refine lv_goto (tgt := 20) hx hb dX3_isHiddenBy_16 (by decide) ?_
      exact W.zret (v := 1) hx hb hr rfl (fun t ht hW => ⟨rvi ((b2_t ⟨by first | exact c_4 | (rcases hh with h | h; exact absurd h c_4; exact h), c_12⟩).symm), ht⟩) (fun q h => nomatch h) dX3_isHiddenBy_20

/-! Rumour.isShownBy -/
set_option maxHeartbeats 4000000 in
set_option maxRecDepth 100000 in
theorem c_X3_isShownBy (l : Launch) (D : va_G) (ct : Nat → ClassId) (r : Nat) (r0 r1 r2 r3 r4 r5 r6 r7 : Int32) (c : Nat) (c0 c1 c2 c3 c4 : Int32) : Met l yX3_isShownBy (.code yX3_isShownBy cX3_isShownBy 2 (some .boolean) :: GW) ({ frames := 1, cells := 0, slots := 0, locals := 21 } : Room) (va_Pc [.ref r, .ref c] (fun U => GT D ct U ∧ Ob D r 4 [.int r0, .int r1, .int r2, .int r3, .int r4, .int r5, .int r6, .int r7] U.heap ∧ Ob D c 1 [.int c0, .int c1, .int c2, .int c3, .int c4] U.heap)) (qP (some (.int (b2 (r7 = 0 ∧ r6 = c0))))) 0 0 nF := by
  refine m_in (cc := cX3_isShownBy) [.ref r, .ref c] "RumourCustoms$Rumour" rfl (by decide) (Nat.le_of_ble_eq_true rfl) ?_
  intro pg e s m args below meth cd ls hx hb hml hown hts hr hlocks hin hPr hl
  obtain ⟨hT, hOr, hOc⟩ := hPr
  have hl : lv_has ls 2 [(0, .ref r), (1, .ref c)] := hl
  refine lv_aload_n hx hb dX3_isShownBy_0 rfl (lv_at hl 0 rfl) ?_
  refine k_get (C := RX3) (T := TX3) (N := 8) hx hb hts inGX3 hown (hT).1 hOr rfl 7 (by decide) (hts _ w_481) (fun _ h9 => h9) (v := .int r7) rfl dX3_isShownBy_1 ?_
  refine lv_if_ne (tgt := 19) hx hb dX3_isShownBy_4 (by decide) (fun c_4 => ?_) (fun c_4 => ?_)
  · -- taken
    refine lv_iconst (v := 0) hx hb dX3_isShownBy_19 (by decide) ?_
    exact W.zret (v := 0) hx hb hr rfl (fun t ht hW => ⟨rvi ((b2_f (fun z => by first | exact c_12 z.2 | exact c_4 z.1)).symm), ht⟩) (fun q h => nomatch h) dX3_isShownBy_20
  · -- not taken
    refine lv_aload_n hx hb dX3_isShownBy_7 rfl (lv_at hl 0 rfl) ?_
    refine lv_aload_n hx hb dX3_isShownBy_8 rfl (lv_at hl 1 rfl) ?_
    refine c_p1 (va_runV (As := [.ref c]) (rest := []) ⟨hx, hb, hml, hown, hts⟩ (c_X3_isInBagOf l D ct r r0 r1 r2 r3 r4 r5 r6 r7 c c0 c1 c2 c3 c4) (cwV 1 hts (GG w_281 w_270 w_271 w_75 w_272) rfl rfl rfl (by decide) ⟨Nat.le_of_ble_eq_true rfl, Nat.le_of_ble_eq_true rfl⟩) ⟨(blindT fun _ _ _ _ h => h), Ob.recv (hT).1 hOr rfl, fun U hU hW => ⟨rfl, hT.warm hW, by rw [hU]; exact ⟨hOr, hOc⟩⟩⟩ rfl rfl hl.1 rfl (lv_room (Nat.le_of_ble_eq_true rfl)) dX3_isShownBy_9 ⟨Nat.le_of_ble_eq_true rfl, Nat.le_of_ble_eq_true rfl⟩) ?_
    refine lv_if_eq (tgt := 19) hx hb dX3_isShownBy_12 (by decide) (fun c_12 => ?_) (fun c_12 => ?_)
    · -- taken
      replace c_12 := b2_z c_12
      refine lv_iconst (v := 0) hx hb dX3_isShownBy_19 (by decide) ?_
      exact W.zret (v := 0) hx hb hr rfl (fun t ht hW => ⟨rvi ((b2_f (fun z => by first | exact c_12 z.2 | exact c_4 z.1)).symm), ht⟩) (fun q h => nomatch h) dX3_isShownBy_20
    · -- not taken
      replace c_12 := b2_nz c_12
      refine lv_iconst (v := 1) hx hb dX3_isShownBy_15 (by decide) ?_
      refine lv_goto (tgt := 20) hx hb dX3_isShownBy_16 (by decide) ?_
      exact W.zret (v := 1) hx hb hr rfl (fun t ht hW => ⟨rvi ((b2_t ⟨c_4, c_12⟩).symm), ht⟩) (fun q h => nomatch h) dX3_isShownBy_20

/-! Rumour.burnable -/
set_option maxHeartbeats 4000000 in
set_option maxRecDepth 100000 in
theorem c_X3_burnable (l : Launch) (D : va_G) (ct : Nat → ClassId) (r : Nat) (r0 r1 r2 r3 r4 r5 r6 r7 p : Int32) : Met l yX3_burnable (.code yX3_burnable cX3_burnable 2 (some .int) :: GW) ({ frames := 1, cells := 0, slots := 0, locals := 21 } : Room) (va_Pc [.ref r, .int p] (fun U => GT D ct U ∧ Ob D r 4 [.int r0, .int r1, .int r2, .int r3, .int r4, .int r5, .int r6, .int r7] U.heap)) (qP (some (.int (if r4 < p then r4 else p)))) 0 0 nF := by
  refine m_in (cc := cX3_burnable) [.ref r, .int p] "RumourCustoms$Rumour" rfl (by decide) (Nat.le_of_ble_eq_true rfl) ?_
  intro pg e s m args below meth cd ls hx hb hml hown hts hr hlocks hin hPr hl
  obtain ⟨hT, hOr⟩ := hPr
  have hl : lv_has ls 2 [(0, .ref r), (1, .int p)] := hl
  refine lv_iload_n hx hb dX3_burnable_0 rfl (lv_at hl 1 rfl) ?_
  refine lv_aload_n hx hb dX3_burnable_1 rfl (lv_at hl 0 rfl) ?_
  refine k_get (C := RX3) (T := TX3) (N := 8) hx hb hts inGX3 hown (hT).1 hOr rfl 4 (by decide) (hts _ w_475) (fun _ h9 => h9) (v := .int r4) rfl dX3_burnable_2 ?_
  refine va_mmin hx hb (hml.trans hl.1.symm) hown (hts _ w_721) (hts _ w_551) (hts _ w_73) (hts _ w_552) (Nat.le_of_ble_eq_true rfl) (Nat.le_of_ble_eq_true rfl) (Nat.le_of_ble_eq_true rfl) (Nat.le_of_ble_eq_true rfl) dX3_burnable_5 ?_
  exact W.iret (v := if r4 < p then r4 else p) hx hb hr (fun t ht hW => ⟨rvi rfl, ht⟩) (fun q h => nomatch h) dX3_burnable_8

/-! Rumour.figure -/
set_option maxHeartbeats 4000000 in
set_option maxRecDepth 100000 in
theorem c_X3_figure (l : Launch) (D : va_G) (ct : Nat → ClassId) (r : Nat) (r0 r1 r2 r3 r4 r5 r6 r7 p : Int32) (hh : r7 = 0 ∨ r7 = 1) : Met l yX3_figure (.code yX3_figure cX3_figure 2 (some .int) :: GW) ({ frames := 0, cells := 0, slots := 0, locals := 0 } : Room) (va_Pc [.ref r, .int p] (fun U => GT D ct U ∧ Ob D r 4 [.int r0, .int r1, .int r2, .int r3, .int r4, .int r5, .int r6, .int r7] U.heap)) (qP (some (.int (figR p r1 r2 r3 r4 r5 r6 r7)))) 0 0 nF := by
  refine m_in (cc := cX3_figure) [.ref r, .int p] "RumourCustoms$Rumour" rfl (by decide) (Nat.le_of_ble_eq_true rfl) ?_
  intro pg e s m args below meth cd ls hx hb hml hown hts hr hlocks hin hPr hl
  obtain ⟨hT, hOr⟩ := hPr
  have hl : lv_has ls 2 [(0, .ref r), (1, .int p)] := hl
  refine lv_iload_n hx hb dX3_figure_0 rfl (lv_at hl 1 rfl) ?_
  by_cases e1_0 : p = 0
  · -- case 0
    subst e1_0
    refine lv_tableIn (off := 39) (tgt := 40) hx hb dX3_figure_1 (by decide) (by decide) rfl (by decide) ?_
    refine lv_aload_n hx hb dX3_figure_40 rfl (lv_at hl 0 rfl) ?_
    refine k_get (C := RX3) (T := TX3) (N := 8) hx hb hts inGX3 hown (hT).1 hOr rfl 2 (by decide) (hts _ w_469) (fun _ h9 => h9) (v := .int r2) rfl dX3_figure_41 ?_
    exact W.iret (v := r2) hx hb hr (fun t ht hW => ⟨rvi rfl, ht⟩) (fun q h => nomatch h) dX3_figure_44
  by_cases e1_1 : p = 1
  · -- case 1
    subst e1_1
    refine lv_tableIn (off := 44) (tgt := 45) hx hb dX3_figure_1 (by decide) (by decide) rfl (by decide) ?_
    refine lv_aload_n hx hb dX3_figure_45 rfl (lv_at hl 0 rfl) ?_
    refine k_get (C := RX3) (T := TX3) (N := 8) hx hb hts inGX3 hown (hT).1 hOr rfl 3 (by decide) (hts _ w_472) (fun _ h9 => h9) (v := .int r3) rfl dX3_figure_46 ?_
    exact W.iret (v := r3) hx hb hr (fun t ht hW => ⟨rvi rfl, ht⟩) (fun q h => nomatch h) dX3_figure_49
  by_cases e1_2 : p = 2
  · -- case 2
    subst e1_2
    refine lv_tableIn (off := 49) (tgt := 50) hx hb dX3_figure_1 (by decide) (by decide) rfl (by decide) ?_
    refine lv_aload_n hx hb dX3_figure_50 rfl (lv_at hl 0 rfl) ?_
    refine k_get (C := RX3) (T := TX3) (N := 8) hx hb hts inGX3 hown (hT).1 hOr rfl 4 (by decide) (hts _ w_475) (fun _ h9 => h9) (v := .int r4) rfl dX3_figure_51 ?_
    exact W.iret (v := r4) hx hb hr (fun t ht hW => ⟨rvi rfl, ht⟩) (fun q h => nomatch h) dX3_figure_54
  by_cases e1_3 : p = 3
  · -- case 3
    subst e1_3
    refine lv_tableIn (off := 54) (tgt := 55) hx hb dX3_figure_1 (by decide) (by decide) rfl (by decide) ?_
    refine lv_aload_n hx hb dX3_figure_55 rfl (lv_at hl 0 rfl) ?_
    refine k_get (C := RX3) (T := TX3) (N := 8) hx hb hts inGX3 hown (hT).1 hOr rfl 1 (by decide) (hts _ w_467) (fun _ h9 => h9) (v := .int r1) rfl dX3_figure_56 ?_
    exact W.iret (v := r1) hx hb hr (fun t ht hW => ⟨rvi rfl, ht⟩) (fun q h => nomatch h) dX3_figure_59
  by_cases e1_4 : p = 4
  · -- case 4
    subst e1_4
    refine lv_tableIn (off := 59) (tgt := 60) hx hb dX3_figure_1 (by decide) (by decide) rfl (by decide) ?_
    refine lv_aload_n hx hb dX3_figure_60 rfl (lv_at hl 0 rfl) ?_
    refine k_get (C := RX3) (T := TX3) (N := 8) hx hb hts inGX3 hown (hT).1 hOr rfl 5 (by decide) (hts _ w_478) (fun _ h9 => h9) (v := .int r5) rfl dX3_figure_61 ?_
    exact W.iret (v := r5) hx hb hr (fun t ht hW => ⟨rvi rfl, ht⟩) (fun q h => nomatch h) dX3_figure_64
  by_cases e1_5 : p = 5
  · -- case 5
    subst e1_5
    refine lv_tableIn (off := 64) (tgt := 65) hx hb dX3_figure_1 (by decide) (by decide) rfl (by decide) ?_
    refine lv_aload_n hx hb dX3_figure_65 rfl (lv_at hl 0 rfl) ?_
    refine k_get (C := RX3) (T := TX3) (N := 8) hx hb hts inGX3 hown (hT).1 hOr rfl 6 (by decide) (hts _ w_480) (fun _ h9 => h9) (v := .int r6) rfl dX3_figure_66 ?_
    exact W.iret (v := r6) hx hb hr (fun t ht hW => ⟨rvi rfl, ht⟩) (fun q h => nomatch h) dX3_figure_69
  have t1 : p.toInt < 0 ∨ 5 < p.toInt := by
    have z := And.intro (lv_neT (a := 0) e1_0 rfl) (And.intro (lv_neT (a := 1) e1_1 rfl) (And.intro (lv_neT (a := 2) e1_2 rfl) (And.intro (lv_neT (a := 3) e1_3 rfl) (And.intro (lv_neT (a := 4) e1_4 rfl) (And.intro (lv_neT (a := 5) e1_5 rfl) trivial)))))
    omega
  refine lv_tableOut (tgt := 70) hx hb dX3_figure_1 t1 (by decide) ?_
  refine lv_aload_n hx hb dX3_figure_70 rfl (lv_at hl 0 rfl) ?_
  refine k_get (C := RX3) (T := TX3) (N := 8) hx hb hts inGX3 hown (hT).1 hOr rfl 7 (by decide) (hts _ w_481) (fun _ h9 => h9) (v := .int r7) rfl dX3_figure_71 ?_
  refine lv_if_eq (tgt := 81) hx hb dX3_figure_74 (by decide) (fun c_74 => ?_) (fun c_74 => ?_)
  · -- taken
    refine lv_iconst (v := 0) hx hb dX3_figure_81 (by decide) ?_
    exact W.iret (v := 0) hx hb hr (fun t ht hW => ⟨rvi (by simp only [figR, e1_0, e1_1, e1_2, e1_3, e1_4, e1_5, if_false]; rcases hh with h | h <;> first | exact h.symm | (rw [h] at c_74; exact absurd rfl c_74) | (rw [c_74] at h; exact absurd h (by decide))), ht⟩) (fun q h => nomatch h) dX3_figure_82
  · -- not taken
    refine lv_iconst (v := 1) hx hb dX3_figure_77 (by decide) ?_
    refine lv_goto (tgt := 82) hx hb dX3_figure_78 (by decide) ?_
    exact W.iret (v := 1) hx hb hr (fun t ht hW => ⟨rvi (by simp only [figR, e1_0, e1_1, e1_2, e1_3, e1_4, e1_5, if_false]; rcases hh with h | h <;> first | exact h.symm | (rw [h] at c_74; exact absurd rfl c_74) | (rw [c_74] at h; exact absurd h (by decide))), ht⟩) (fun q h => nomatch h) dX3_figure_82

/-! RoadMap.isOnMap -/
set_option maxHeartbeats 4000000 in
set_option maxRecDepth 100000 in
theorem c_X2_isOnMap (l : Launch) (D : va_G) (ct : Nat → ClassId) (p : Int32) : Met l yX2_isOnMap (.code yX2_isOnMap cX2_isOnMap 1 (some .boolean) :: GW) ({ frames := 0, cells := 0, slots := 0, locals := 0 } : Room) (va_Pc [.int p] (fun U => GT D ct U ∧ True)) (qP (some (.int (b2 (0 ≤ p ∧ p < 10))))) 0 0 nF := by
  refine m_in (cc := cX2_isOnMap) [.int p] "RumourCustoms$RoadMap" rfl (by decide) (Nat.le_of_ble_eq_true rfl) ?_
  intro pg e s m args below meth cd ls hx hb hml hown hts hr hlocks hin hPr hl
  obtain ⟨hT, _⟩ := hPr
  have hl : lv_has ls 1 [(0, .int p)] := hl
  refine lv_iload_n hx hb dX2_isOnMap_0 rfl (lv_at hl 0 rfl) ?_
  refine lv_if_lt (tgt := 14) hx hb dX2_isOnMap_1 (by decide) (fun c_1 => ?_) (fun c_1 => ?_)
  · -- taken
    refine lv_iconst (v := 0) hx hb dX2_isOnMap_14 (by decide) ?_
    exact W.zret (v := 0) hx hb hr rfl (fun t ht hW => ⟨rvi ((b2_f (fun z => by first | exact absurd c_1 (Int32.not_lt.mpr z.1) | exact absurd c_7 (Int32.not_le.mpr z.2))).symm), ht⟩) (fun q h => nomatch h) dX2_isOnMap_15
  · -- not taken
    refine lv_iload_n hx hb dX2_isOnMap_4 rfl (lv_at hl 0 rfl) ?_
    refine lv_bipush (v := 10) hx hb dX2_isOnMap_5 (by decide) ?_
    refine lv_icmp_ge (tgt := 14) hx hb dX2_isOnMap_7 (by decide) (fun c_7 => ?_) (fun c_7 => ?_)
    · -- taken
      refine lv_iconst (v := 0) hx hb dX2_isOnMap_14 (by decide) ?_
      exact W.zret (v := 0) hx hb hr rfl (fun t ht hW => ⟨rvi ((b2_f (fun z => by first | exact absurd c_1 (Int32.not_lt.mpr z.1) | exact absurd c_7 (Int32.not_le.mpr z.2))).symm), ht⟩) (fun q h => nomatch h) dX2_isOnMap_15
    · -- not taken
      refine lv_iconst (v := 1) hx hb dX2_isOnMap_10 (by decide) ?_
      refine lv_goto (tgt := 15) hx hb dX2_isOnMap_11 (by decide) ?_
      exact W.zret (v := 1) hx hb hr rfl (fun t ht hW => ⟨rvi ((b2_t ⟨by simpa using c_1, by simpa using c_7⟩).symm), ht⟩) (fun q h => nomatch h) dX2_isOnMap_15

/-! ArrayList.size -/
set_option maxHeartbeats 4000000 in
set_option maxRecDepth 100000 in
theorem c_Jx4a65c_size_8abf5 (l : Launch) (D : va_G) (ct : Nat → ClassId) (a : Nat) (a0 : Int32) (a1 : Nat) (a2 : Int32) : Met l yJx4a65c_size_8abf5 (.code yJx4a65c_size_8abf5 cJx4a65c_size_8abf5 1 (some .int) :: GW) ({ frames := 0, cells := 0, slots := 0, locals := 0 } : Room) (va_Pc [.ref a] (fun U => GT D ct U ∧ Ob D a 0 [.int a0, .ref a1, .int a2] U.heap)) (qP (some (.int a2))) 0 0 nF := by
  refine m_in (cc := cJx4a65c_size_8abf5) [.ref a] "java/util/ArrayList" rfl (by decide) (Nat.le_of_ble_eq_true rfl) ?_
  intro pg e s m args below meth cd ls hx hb hml hown hts hr hlocks hin hPr hl
  obtain ⟨hT, hOa⟩ := hPr
  have hl : lv_has ls 1 [(0, .ref a)] := hl
  refine lv_aload_n hx hb dJx4a65c_size_8abf5_0 rfl (lv_at hl 0 rfl) ?_
  refine k_get (C := RJx4a65c) (T := TJx4a65c) (N := 3) hx hb hts inGJx4a65c hown (hT).1 hOa rfl 2 (by decide) (hts _ w_136) (fun _ h9 => h9) (v := .int a2) rfl dJx4a65c_size_8abf5_1 ?_
  exact W.iret (v := a2) hx hb hr (fun t ht hW => ⟨rvi rfl, ht⟩) (fun q h => nomatch h) dJx4a65c_size_8abf5_4
end
section
/-! Preconditions.checkIndex -/
set_option maxHeartbeats 4000000 in
set_option maxRecDepth 100000 in
theorem c_J3_checkIndex_8e157 (l : Launch) (D : va_G) (ct : Nat → ClassId) (p q : Int32) (h1 : 0 ≤ p) (h2 : p < q) : Met l yJ3_checkIndex_8e157 (.code yJ3_checkIndex_8e157 cJ3_checkIndex_8e157 3 (some .int) :: GW) ({ frames := 0, cells := 0, slots := 0, locals := 0 } : Room) (va_Pc [.int p, .int q, .null] (fun U => GT D ct U ∧ True)) (qP (some (.int p))) 0 0 nF := by
  refine m_in (cc := cJ3_checkIndex_8e157) [.int p, .int q, .null] "jdk/internal/util/Preconditions" rfl (by decide) (Nat.le_of_ble_eq_true rfl) ?_
  intro pg e s m args below meth cd ls hx hb hml hown hts hr hlocks hin hPr hl
  obtain ⟨hT, _⟩ := hPr
  have hl : lv_has ls 3 [(0, .int p), (1, .int q), (2, .null)] := hl
  refine lv_iload_n hx hb dJ3_checkIndex_8e157_0 rfl (lv_at hl 0 rfl) ?_
  refine lv_if_lt (tgt := 9) hx hb dJ3_checkIndex_8e157_1 (by decide) (fun c_1 => ?_) (fun c_1 => ?_)
  · -- taken
    exact absurd c_1 (Int32.not_lt.mpr h1)
  · -- not taken
    refine lv_iload_n hx hb dJ3_checkIndex_8e157_4 rfl (lv_at hl 0 rfl) ?_
    refine lv_iload_n hx hb dJ3_checkIndex_8e157_5 rfl (lv_at hl 1 rfl) ?_
    refine lv_icmp_lt (tgt := 16) hx hb dJ3_checkIndex_8e157_6 (by decide) (fun c_6 => ?_) (fun c_6 => ?_)
    · -- taken
      refine lv_iload_n hx hb dJ3_checkIndex_8e157_16 rfl (lv_at hl 0 rfl) ?_
      exact W.iret (v := p) hx hb hr (fun t ht hW => ⟨rvi rfl, ht⟩) (fun q h => nomatch h) dJ3_checkIndex_8e157_17
    · -- not taken
      exact absurd h2 c_6

/-! Objects.checkIndex -/
set_option maxHeartbeats 4000000 in
set_option maxRecDepth 100000 in
theorem c_J15_checkIndex_7cf53 (l : Launch) (D : va_G) (ct : Nat → ClassId) (p q : Int32) (h1 : 0 ≤ p) (h2 : p < q) : Met l yJ15_checkIndex_7cf53 (.code yJ15_checkIndex_7cf53 cJ15_checkIndex_7cf53 2 (some .int) :: GW) ({ frames := 1, cells := 0, slots := 0, locals := 22 } : Room) (va_Pc [.int p, .int q] (fun U => GT D ct U ∧ True)) (qP (some (.int p))) 0 0 nF := by
  refine m_in (cc := cJ15_checkIndex_7cf53) [.int p, .int q] "java/util/Objects" rfl (by decide) (Nat.le_of_ble_eq_true rfl) ?_
  intro pg e s m args below meth cd ls hx hb hml hown hts hr hlocks hin hPr hl
  obtain ⟨hT, _⟩ := hPr
  have hl : lv_has ls 2 [(0, .int p), (1, .int q)] := hl
  refine lv_iload_n hx hb dJ15_checkIndex_7cf53_0 rfl (lv_at hl 0 rfl) ?_
  refine lv_iload_n hx hb dJ15_checkIndex_7cf53_1 rfl (lv_at hl 1 rfl) ?_
  refine lv_null hx hb dJ15_checkIndex_7cf53_2 ?_
  refine c_p1 (va_runS (As := [.int p, .int q, .null]) (rest := []) ⟨hx, hb, hml, hown, hts⟩ (c_J3_checkIndex_8e157 l D ct p q h1 h2) (k_cwS 3 hts w_196 w_197 w_79 w_198 rfl rfl (by decide) ⟨Nat.le_of_ble_eq_true rfl, Nat.le_of_ble_eq_true rfl⟩) ⟨(blindT fun _ _ _ _ h => h), fun U hU hW => ⟨rfl, hT.warm hW, trivial⟩⟩ rfl rfl hl.1 rfl (lv_room (Nat.le_of_ble_eq_true rfl)) dJ15_checkIndex_7cf53_3 ⟨Nat.le_of_ble_eq_true rfl, Nat.le_of_ble_eq_true rfl⟩) ?_
  exact W.iret (v := p) hx hb hr (fun t ht hW => ⟨rvi rfl, ht⟩) (fun q h => nomatch h) dJ15_checkIndex_7cf53_6

/-! ArrayList.elementData -/
set_option maxHeartbeats 4000000 in
set_option maxRecDepth 100000 in
theorem c_Jx4a65c_elementData_915e3 (l : Launch) (D : va_G) (ct : Nat → ClassId) (a : Nat) (a0 : Int32) (a1 : Nat) (a2 p : Int32) (n i cap : Nat) (f : Nat → Option Nat) (y : Nat) (ha : a2 = nI n) (hp : p = nI i) (hi : i < n) (hn : n ≤ cap) (hc : cap < 2 ^ 31) (hf : f i = some y) : Met l yJx4a65c_elementData_915e3 (.code yJx4a65c_elementData_915e3 cJx4a65c_elementData_915e3 2 (some (.object "java/lang/Object")) :: GW) ({ frames := 0, cells := 0, slots := 0, locals := 0 } : Room) (va_Pc [.ref a, .int p] (fun U => GT D ct U ∧ Ob D a 0 [.int a0, .ref a1, .int a2] U.heap ∧ Ar (ct 3) a1 (rQ cap f) U.heap)) (qP (some (.ref y))) 0 0 nF := by
  refine m_in (cc := cJx4a65c_elementData_915e3) [.ref a, .int p] "java/util/ArrayList" rfl (by decide) (Nat.le_of_ble_eq_true rfl) ?_
  intro pg e s m args below meth cd ls hx hb hml hown hts hr hlocks hin hPr hl
  obtain ⟨hT, hOa, hF0⟩ := hPr
  have hl : lv_has ls 2 [(0, .ref a), (1, .int p)] := hl
  refine lv_aload_n hx hb dJx4a65c_elementData_915e3_0 rfl (lv_at hl 0 rfl) ?_
  refine k_get (C := RJx4a65c) (T := TJx4a65c) (N := 3) hx hb hts inGJx4a65c hown (hT).1 hOa rfl 1 (by decide) (hts _ w_135) (fun _ h9 => h9) (v := .ref a1) rfl dJx4a65c_elementData_915e3_1 ?_
  refine lv_iload_n hx hb dJx4a65c_elementData_915e3_4 rfl (lv_at hl 1 rfl) ?_
  refine k_aald3 hx hb (hT).1 hF0 (by rw [hp]; exact vp_in_nI (by omega) (by omega)) dJx4a65c_elementData_915e3_5 ?_
  rw [show (p : Int32).toNatClampNeg = i from (by rw [hp]; exact nI_clamp (by omega))]
  rw [show va_rf (f i) = .ref y from by rw [hf]; rfl]
  exact W.aret (v := .ref y) hx hb hr (Or.inl ⟨_, rfl⟩) (Or.inr ⟨_, rfl⟩) (fun t ht hW => ⟨rfl, ht⟩) (fun q h => nomatch h) dJx4a65c_elementData_915e3_6

/-! ArrayList.get -/
set_option maxHeartbeats 4000000 in
set_option maxRecDepth 100000 in
theorem c_Jx4a65c_get_915e3 (l : Launch) (D : va_G) (ct : Nat → ClassId) (a : Nat) (a0 : Int32) (a1 : Nat) (a2 p : Int32) (n i cap : Nat) (f : Nat → Option Nat) (y : Nat) (ha : a2 = nI n) (hp : p = nI i) (hi : i < n) (hn : n ≤ cap) (hc : cap < 2 ^ 31) (hf : f i = some y) : Met l yJx4a65c_get_915e3 (.code yJx4a65c_get_915e3 cJx4a65c_get_915e3 2 (some (.object "java/lang/Object")) :: GW) ({ frames := 2, cells := 0, slots := 0, locals := 43 } : Room) (va_Pc [.ref a, .int p] (fun U => GT D ct U ∧ Ob D a 0 [.int a0, .ref a1, .int a2] U.heap ∧ Ar (ct 3) a1 (rQ cap f) U.heap)) (qP (some (.ref y))) 0 0 nF := by
  refine m_in (cc := cJx4a65c_get_915e3) [.ref a, .int p] "java/util/ArrayList" rfl (by decide) (Nat.le_of_ble_eq_true rfl) ?_
  intro pg e s m args below meth cd ls hx hb hml hown hts hr hlocks hin hPr hl
  obtain ⟨hT, hOa, hF0⟩ := hPr
  have hl : lv_has ls 2 [(0, .ref a), (1, .int p)] := hl
  refine lv_iload_n hx hb dJx4a65c_get_915e3_0 rfl (lv_at hl 1 rfl) ?_
  refine lv_aload_n hx hb dJx4a65c_get_915e3_1 rfl (lv_at hl 0 rfl) ?_
  refine k_get (C := RJx4a65c) (T := TJx4a65c) (N := 3) hx hb hts inGJx4a65c hown (hT).1 hOa rfl 2 (by decide) (hts _ w_136) (fun _ h9 => h9) (v := .int a2) rfl dJx4a65c_get_915e3_2 ?_
  refine c_p1 (va_runS (As := [.int p, .int a2]) (rest := []) ⟨hx, hb, hml, hown, hts⟩ (c_J15_checkIndex_7cf53 l D ct p a2 (by rw [hp]; exact nI_pos' (by omega)) (by rw [hp, ha]; exact nI_lt hi (by omega))) (k_cwS 2 hts w_193 w_194 w_78 w_195 rfl rfl (by decide) ⟨Nat.le_of_ble_eq_true rfl, Nat.le_of_ble_eq_true rfl⟩) ⟨(blindT fun _ _ _ _ h => h), fun U hU hW => ⟨rfl, hT.warm hW, trivial⟩⟩ rfl rfl hl.1 rfl (lv_room (Nat.le_of_ble_eq_true rfl)) dJx4a65c_get_915e3_5 ⟨Nat.le_of_ble_eq_true rfl, Nat.le_of_ble_eq_true rfl⟩) ?_
  refine lv_pop hx hb dJx4a65c_get_915e3_8 rfl ?_
  refine lv_aload_n hx hb dJx4a65c_get_915e3_9 rfl (lv_at hl 0 rfl) ?_
  refine lv_iload_n hx hb dJx4a65c_get_915e3_10 rfl (lv_at hl 1 rfl) ?_
  refine c_p1 (va_runV (As := [.int p]) (rest := []) ⟨hx, hb, hml, hown, hts⟩ (c_Jx4a65c_elementData_915e3 l D ct a a0 a1 a2 p n i cap f y ha hp hi hn hc hf) (cwV 1 hts (GG w_199 w_200 w_201 w_64 w_202) rfl rfl rfl (by decide) ⟨Nat.le_of_ble_eq_true rfl, Nat.le_of_ble_eq_true rfl⟩) ⟨(blindT fun _ _ _ _ h => h), Ob.recv (hT).1 hOa rfl, fun U hU hW => ⟨rfl, hT.warm hW, by rw [hU]; exact ⟨hOa, hF0⟩⟩⟩ rfl rfl hl.1 rfl (lv_room (Nat.le_of_ble_eq_true rfl)) dJx4a65c_get_915e3_11 ⟨Nat.le_of_ble_eq_true rfl, Nat.le_of_ble_eq_true rfl⟩) ?_
  exact W.aret (v := .ref y) hx hb hr (Or.inl ⟨_, rfl⟩) (Or.inr ⟨_, rfl⟩) (fun t ht hW => ⟨rfl, ht⟩) (fun q h => nomatch h) dJx4a65c_get_915e3_14
end
section
/-! inBag -/
set_option maxHeartbeats 4000000 in
set_option maxRecDepth 100000 in
theorem c_X5_inBag (l : Launch) (D : va_G) (ct : Nat → ClassId) (Z : Nat → Prop) (dc : Nat) (σ : Stt) (ad : Nat → Nat) (k : Nat) (hk : k < nC σ) : Met l yX5_inBag (.code yX5_inBag cX5_inBag 4 (some .int) :: GW) ({ frames := 3, cells := 0, slots := 0, locals := 64 } : Room) (va_Pc [.ref (ad 0), .ref (ad (200 + k))] (fun U => GT D ct U ∧ Pic D ct Z dc σ ad U.heap)) (qP (some (.int (inB σ (nI k))))) 0 0 nF := by
  refine m_in (cc := cX5_inBag) [.ref (ad 0), .ref (ad (200 + k))] "RumourCustoms" rfl (by decide) (Nat.le_of_ble_eq_true rfl) ?_
  intro pg e s m args below meth cd ls hx hb hml hown hts hr hlocks hin hPr hl
  obtain ⟨hT, hP⟩ := hPr
  have hl : lv_has ls 4 [(0, .ref (ad 0)), (1, .ref (ad (200 + k)))] := hl
  have hn := hP.2.2.2.1
  have hnC := hP.2.2.2.2
  refine lv_iconst (v := 0) hx hb dX5_inBag_0 (by decide) ?_
  refine lv_istore_n (lv' := [(2, .int 0), (0, .ref (ad 0)), (1, .ref (ad (200 + k)))]) hx hb dX5_inBag_1 rfl hl (by decide) rfl (fun ls hl => ?_)
  refine lv_iconst (v := 0) hx hb dX5_inBag_2 (by decide) ?_
  refine lv_istore_n (lv' := [(3, .int 0), (2, .int 0), (0, .ref (ad 0)), (1, .ref (ad (200 + k)))]) hx hb dX5_inBag_3 rfl hl (by decide) rfl (fun ls hl => ?_)
  have loop4 : ∀ (n4 i : Nat) (acc : Int32), i ≤ nR σ → nR σ - i < n4 → acc = sm (fun r => b2 (σ 1 (7 * r + 5) = nI k)) i → ∀ ls, lv_has ls 4 [(0, .ref (ad 0)), (1, .ref (ad (200 + k))), (3, .int (nI i)), (2, .int acc)] → W pg l e ({ frames := 3, cells := 0, slots := 0, locals := 64 } : Room) s m args below meth cd s.heap [] 0 0 (MQ below (qP (some (.int (inB σ (nI k))))) args s 0 0 nF) (F0 m 4 ls []) := by
    intro n4
    induction n4 with
    | zero => intro i acc _ z; omega
    | succ n4 ih4 =>
      intro i acc hi4 hn4 haacc ls hl
      refine lv_iload_n hx hb dX5_inBag_4 rfl (lv_at hl 2 rfl) ?_
      refine lv_aload_n hx hb dX5_inBag_5 rfl (lv_at hl 0 rfl) ?_
      refine k_get (C := RX5) (T := TX5) (N := 11) hx hb hts inGX5 hown (hT).1 hP.o0 rfl 2 (by decide) (hts _ w_149) (fun _ h9 => h9) (v := .ref (ad 6)) rfl dX5_inBag_6 ?_
      refine c_p1 (va_runV (As := []) (rest := [.int (nI i)]) ⟨hx, hb, hml, hown, hts⟩ (c_Jx4a65c_size_8abf5 l D ct (ad 6) (σ 6 0) (ad 8) (nI (nR σ))) (cwV 0 hts (GG w_185 w_186 w_187 w_64 w_188) rfl rfl rfl (by decide) ⟨Nat.le_of_ble_eq_true rfl, Nat.le_of_ble_eq_true rfl⟩) ⟨(blindT fun _ _ _ _ h => h), Ob.recv (hT).1 hP.o6 rfl, fun U hU hW => ⟨rfl, hT.warm hW, by rw [hU]; exact hP.o6⟩⟩ rfl rfl hl.1 rfl (lv_room (Nat.le_of_ble_eq_true rfl)) dX5_inBag_9 ⟨Nat.le_of_ble_eq_true rfl, Nat.le_of_ble_eq_true rfl⟩) ?_
      refine lv_icmp_ge (tgt := 42) hx hb dX5_inBag_12 (by decide) (fun c_12 => ?_) (fun c_12 => ?_)
      · -- taken
        have nc_12 : (nR σ) ≤ i := (nI_leI (a := (nR σ)) (b := i) (by omega) (by omega)).mp c_12
        have he4 : i = nR σ := by omega
        refine lv_iload_n hx hb dX5_inBag_42 rfl (lv_at hl 3 rfl) ?_
        exact W.iret (v := acc) hx hb hr (fun t ht hW => ⟨rvi (by rw [haacc, he4]; rfl), ht⟩) (fun q h => nomatch h) dX5_inBag_43
      · -- not taken
        have nc_12 : ¬ (nR σ) ≤ i := fun z => c_12 ((nI_leI (a := (nR σ)) (b := i) (by omega) (by omega)).mpr z)
        have hlt4 : i < nR σ := by omega
        refine lv_aload_n hx hb dX5_inBag_15 rfl (lv_at hl 0 rfl) ?_
        refine k_get (C := RX5) (T := TX5) (N := 11) hx hb hts inGX5 hown (hT).1 hP.o0 rfl 2 (by decide) (hts _ w_149) (fun _ h9 => h9) (v := .ref (ad 6)) rfl dX5_inBag_16 ?_
        refine lv_iload_n hx hb dX5_inBag_19 rfl (lv_at hl 2 rfl) ?_
        refine c_p1 (va_runV (As := [.int (nI i)]) (rest := []) ⟨hx, hb, hml, hown, hts⟩ (c_Jx4a65c_get_915e3 l D ct (ad 6) (σ 6 0) (ad 8) (nI (nR σ)) (nI i) (nR σ) i (ad 20) (lq ad 100 (nR σ)) (ad (100 + i)) rfl rfl hlt4 hP.2.2.1.1.1 (by have := hP.2.2.1.1.2.1; omega) (if_pos hlt4)) (cwV 1 hts (GG w_189 w_190 w_191 w_64 w_192) rfl rfl rfl (by decide) ⟨Nat.le_of_ble_eq_true rfl, Nat.le_of_ble_eq_true rfl⟩) ⟨(blindT fun _ _ _ _ h => h), Ob.recv (hT).1 hP.o6 rfl, fun U hU hW => ⟨rfl, hT.warm hW, by rw [hU]; exact ⟨hP.o6, (hP.o8 (by omega))⟩⟩⟩ rfl rfl hl.1 rfl (lv_room (Nat.le_of_ble_eq_true rfl)) dX5_inBag_20 ⟨Nat.le_of_ble_eq_true rfl, Nat.le_of_ble_eq_true rfl⟩) ?_
        refine va_castS hx hb hown (hts _ w_203) ((hT).1.1 4 _ rfl).2 (Ob.recv (hT).1 (hP.r hlt4) rfl) dX5_inBag_23 ?_
        refine lv_aload_n hx hb dX5_inBag_26 rfl (lv_at hl 1 rfl) ?_
        refine c_p1 (va_runV (As := [.ref (ad (200 + k))]) (rest := []) ⟨hx, hb, hml, hown, hts⟩ (c_X3_isInBagOf l D ct (ad (100 + i)) (nI i) (σ 1 (7 * i + 3)) (σ 1 (7 * i)) (σ 1 (7 * i + 1)) (σ 1 (7 * i + 2)) (σ 1 (7 * i + 4)) (σ 1 (7 * i + 5)) (σ 1 (7 * i + 6)) (ad (200 + k)) (nI k) (σ 2 (4 * k)) (σ 2 (4 * k + 1)) (σ 2 (4 * k + 2)) (σ 2 (4 * k + 3))) (cwV 1 hts (GG w_269 w_270 w_271 w_75 w_272) rfl rfl rfl (by decide) ⟨Nat.le_of_ble_eq_true rfl, Nat.le_of_ble_eq_true rfl⟩) ⟨(blindT fun _ _ _ _ h => h), Ob.recv (hT).1 (hP.r hlt4) rfl, fun U hU hW => ⟨rfl, hT.warm hW, by rw [hU]; exact ⟨(hP.r hlt4), (hP.c hk)⟩⟩⟩ rfl rfl hl.1 rfl (lv_room (Nat.le_of_ble_eq_true rfl)) dX5_inBag_27 ⟨Nat.le_of_ble_eq_true rfl, Nat.le_of_ble_eq_true rfl⟩) ?_
        refine lv_if_eq (tgt := 36) hx hb dX5_inBag_30 (by decide) (fun c_30 => ?_) (fun c_30 => ?_)
        · -- taken
          replace c_30 := b2_z c_30
          refine lv_iinc (v := nI (i + 1)) (lv' := [(3, .int (nI (i + 1))), (0, .ref (ad 0)), (1, .ref (ad (200 + k))), (2, .int acc)]) hx hb dX5_inBag_36 hl (k := 2) rfl (nI_1 i) (by decide) rfl (fun ls hl => ?_)
          refine lv_goto (tgt := 4) hx hb dX5_inBag_39 (by decide) ?_
          exact ih4 (i + 1) acc (by omega) (by omega) (sm_z haacc (b2_f c_30)) ls (lv_sub hl [1, 2, 0, 3] rfl)
        · -- not taken
          replace c_30 := b2_nz c_30
          refine lv_iinc (v := acc + 1) (lv' := [(2, .int (acc + 1)), (0, .ref (ad 0)), (1, .ref (ad (200 + k))), (3, .int (nI i))]) hx hb dX5_inBag_33 hl (k := 3) rfl rfl (by decide) rfl (fun ls hl => ?_)
          refine lv_iinc (v := nI (i + 1)) (lv' := [(3, .int (nI (i + 1))), (2, .int (acc + 1)), (0, .ref (ad 0)), (1, .ref (ad (200 + k)))]) hx hb dX5_inBag_36 hl (k := 3) rfl (nI_1 i) (by decide) rfl (fun ls hl => ?_)
          refine lv_goto (tgt := 4) hx hb dX5_inBag_39 (by decide) ?_
          exact ih4 (i + 1) (acc + 1) (by omega) (by omega) (sm_t haacc (b2_t c_30)) ls (lv_sub hl [2, 3, 0, 1] rfl)
  exact loop4 (nR σ + 1 - 0) 0 0 (by omega) (by omega) rfl ls (lv_sub hl [2, 3, 0, 1] rfl)

/-! hiddenInBag -/
set_option maxHeartbeats 4000000 in
set_option maxRecDepth 100000 in
theorem c_X5_hiddenInBag (l : Launch) (D : va_G) (ct : Nat → ClassId) (Z : Nat → Prop) (dc : Nat) (σ : Stt) (ad : Nat → Nat) (k : Nat) (hk : k < nC σ) (hH : ∀ i, i < nR σ → σ 1 (7 * i + 6) = 0 ∨ σ 1 (7 * i + 6) = 1) : Met l yX5_hiddenInBag (.code yX5_hiddenInBag cX5_hiddenInBag 4 (some .int) :: GW) ({ frames := 3, cells := 0, slots := 0, locals := 64 } : Room) (va_Pc [.ref (ad 0), .ref (ad (200 + k))] (fun U => GT D ct U ∧ Pic D ct Z dc σ ad U.heap)) (qP (some (.int (hidB σ (nI k))))) 0 0 nF := by
  refine m_in (cc := cX5_hiddenInBag) [.ref (ad 0), .ref (ad (200 + k))] "RumourCustoms" rfl (by decide) (Nat.le_of_ble_eq_true rfl) ?_
  intro pg e s m args below meth cd ls hx hb hml hown hts hr hlocks hin hPr hl
  obtain ⟨hT, hP⟩ := hPr
  have hl : lv_has ls 4 [(0, .ref (ad 0)), (1, .ref (ad (200 + k)))] := hl
  have hn := hP.2.2.2.1
  have hnC := hP.2.2.2.2
  refine lv_iconst (v := 0) hx hb dX5_hiddenInBag_0 (by decide) ?_
  refine lv_istore_n (lv' := [(2, .int 0), (0, .ref (ad 0)), (1, .ref (ad (200 + k)))]) hx hb dX5_hiddenInBag_1 rfl hl (by decide) rfl (fun ls hl => ?_)
  refine lv_iconst (v := 0) hx hb dX5_hiddenInBag_2 (by decide) ?_
  refine lv_istore_n (lv' := [(3, .int 0), (2, .int 0), (0, .ref (ad 0)), (1, .ref (ad (200 + k)))]) hx hb dX5_hiddenInBag_3 rfl hl (by decide) rfl (fun ls hl => ?_)
  have loop4 : ∀ (n4 i : Nat) (acc : Int32), i ≤ nR σ → nR σ - i < n4 → acc = sm (fun r => b2 (σ 1 (7 * r + 6) = 1 ∧ σ 1 (7 * r + 5) = nI k)) i → ∀ ls, lv_has ls 4 [(0, .ref (ad 0)), (1, .ref (ad (200 + k))), (3, .int (nI i)), (2, .int acc)] → W pg l e ({ frames := 3, cells := 0, slots := 0, locals := 64 } : Room) s m args below meth cd s.heap [] 0 0 (MQ below (qP (some (.int (hidB σ (nI k))))) args s 0 0 nF) (F0 m 4 ls []) := by
    intro n4
    induction n4 with
    | zero => intro i acc _ z; omega
    | succ n4 ih4 =>
      intro i acc hi4 hn4 haacc ls hl
      refine lv_iload_n hx hb dX5_hiddenInBag_4 rfl (lv_at hl 2 rfl) ?_
      refine lv_aload_n hx hb dX5_hiddenInBag_5 rfl (lv_at hl 0 rfl) ?_
      refine k_get (C := RX5) (T := TX5) (N := 11) hx hb hts inGX5 hown (hT).1 hP.o0 rfl 2 (by decide) (hts _ w_149) (fun _ h9 => h9) (v := .ref (ad 6)) rfl dX5_hiddenInBag_6 ?_
      refine c_p1 (va_runV (As := []) (rest := [.int (nI i)]) ⟨hx, hb, hml, hown, hts⟩ (c_Jx4a65c_size_8abf5 l D ct (ad 6) (σ 6 0) (ad 8) (nI (nR σ))) (cwV 0 hts (GG w_185 w_186 w_187 w_64 w_188) rfl rfl rfl (by decide) ⟨Nat.le_of_ble_eq_true rfl, Nat.le_of_ble_eq_true rfl⟩) ⟨(blindT fun _ _ _ _ h => h), Ob.recv (hT).1 hP.o6 rfl, fun U hU hW => ⟨rfl, hT.warm hW, by rw [hU]; exact hP.o6⟩⟩ rfl rfl hl.1 rfl (lv_room (Nat.le_of_ble_eq_true rfl)) dX5_hiddenInBag_9 ⟨Nat.le_of_ble_eq_true rfl, Nat.le_of_ble_eq_true rfl⟩) ?_
      refine lv_icmp_ge (tgt := 42) hx hb dX5_hiddenInBag_12 (by decide) (fun c_12 => ?_) (fun c_12 => ?_)
      · -- taken
        have nc_12 : (nR σ) ≤ i := (nI_leI (a := (nR σ)) (b := i) (by omega) (by omega)).mp c_12
        have he4 : i = nR σ := by omega
        refine lv_iload_n hx hb dX5_hiddenInBag_42 rfl (lv_at hl 3 rfl) ?_
        exact W.iret (v := acc) hx hb hr (fun t ht hW => ⟨rvi (by rw [haacc, he4]; rfl), ht⟩) (fun q h => nomatch h) dX5_hiddenInBag_43
      · -- not taken
        have nc_12 : ¬ (nR σ) ≤ i := fun z => c_12 ((nI_leI (a := (nR σ)) (b := i) (by omega) (by omega)).mpr z)
        have hlt4 : i < nR σ := by omega
        refine lv_aload_n hx hb dX5_hiddenInBag_15 rfl (lv_at hl 0 rfl) ?_
        refine k_get (C := RX5) (T := TX5) (N := 11) hx hb hts inGX5 hown (hT).1 hP.o0 rfl 2 (by decide) (hts _ w_149) (fun _ h9 => h9) (v := .ref (ad 6)) rfl dX5_hiddenInBag_16 ?_
        refine lv_iload_n hx hb dX5_hiddenInBag_19 rfl (lv_at hl 2 rfl) ?_
        refine c_p1 (va_runV (As := [.int (nI i)]) (rest := []) ⟨hx, hb, hml, hown, hts⟩ (c_Jx4a65c_get_915e3 l D ct (ad 6) (σ 6 0) (ad 8) (nI (nR σ)) (nI i) (nR σ) i (ad 20) (lq ad 100 (nR σ)) (ad (100 + i)) rfl rfl hlt4 hP.2.2.1.1.1 (by have := hP.2.2.1.1.2.1; omega) (if_pos hlt4)) (cwV 1 hts (GG w_189 w_190 w_191 w_64 w_192) rfl rfl rfl (by decide) ⟨Nat.le_of_ble_eq_true rfl, Nat.le_of_ble_eq_true rfl⟩) ⟨(blindT fun _ _ _ _ h => h), Ob.recv (hT).1 hP.o6 rfl, fun U hU hW => ⟨rfl, hT.warm hW, by rw [hU]; exact ⟨hP.o6, (hP.o8 (by omega))⟩⟩⟩ rfl rfl hl.1 rfl (lv_room (Nat.le_of_ble_eq_true rfl)) dX5_hiddenInBag_20 ⟨Nat.le_of_ble_eq_true rfl, Nat.le_of_ble_eq_true rfl⟩) ?_
        refine va_castS hx hb hown (hts _ w_203) ((hT).1.1 4 _ rfl).2 (Ob.recv (hT).1 (hP.r hlt4) rfl) dX5_hiddenInBag_23 ?_
        refine lv_aload_n hx hb dX5_hiddenInBag_26 rfl (lv_at hl 1 rfl) ?_
        refine c_p1 (va_runV (As := [.ref (ad (200 + k))]) (rest := []) ⟨hx, hb, hml, hown, hts⟩ (c_X3_isHiddenBy l D ct (ad (100 + i)) (nI i) (σ 1 (7 * i + 3)) (σ 1 (7 * i)) (σ 1 (7 * i + 1)) (σ 1 (7 * i + 2)) (σ 1 (7 * i + 4)) (σ 1 (7 * i + 5)) (σ 1 (7 * i + 6)) (ad (200 + k)) (nI k) (σ 2 (4 * k)) (σ 2 (4 * k + 1)) (σ 2 (4 * k + 2)) (σ 2 (4 * k + 3)) (hH i hlt4)) (cwV 1 hts (GG w_277 w_278 w_279 w_75 w_280) rfl rfl rfl (by decide) ⟨Nat.le_of_ble_eq_true rfl, Nat.le_of_ble_eq_true rfl⟩) ⟨(blindT fun _ _ _ _ h => h), Ob.recv (hT).1 (hP.r hlt4) rfl, fun U hU hW => ⟨rfl, hT.warm hW, by rw [hU]; exact ⟨(hP.r hlt4), (hP.c hk)⟩⟩⟩ rfl rfl hl.1 rfl (lv_room (Nat.le_of_ble_eq_true rfl)) dX5_hiddenInBag_27 ⟨Nat.le_of_ble_eq_true rfl, Nat.le_of_ble_eq_true rfl⟩) ?_
        refine lv_if_eq (tgt := 36) hx hb dX5_hiddenInBag_30 (by decide) (fun c_30 => ?_) (fun c_30 => ?_)
        · -- taken
          replace c_30 := b2_z c_30
          refine lv_iinc (v := nI (i + 1)) (lv' := [(3, .int (nI (i + 1))), (0, .ref (ad 0)), (1, .ref (ad (200 + k))), (2, .int acc)]) hx hb dX5_hiddenInBag_36 hl (k := 2) rfl (nI_1 i) (by decide) rfl (fun ls hl => ?_)
          refine lv_goto (tgt := 4) hx hb dX5_hiddenInBag_39 (by decide) ?_
          exact ih4 (i + 1) acc (by omega) (by omega) (sm_z haacc (b2_f c_30)) ls (lv_sub hl [1, 2, 0, 3] rfl)
        · -- not taken
          replace c_30 := b2_nz c_30
          refine lv_iinc (v := acc + 1) (lv' := [(2, .int (acc + 1)), (0, .ref (ad 0)), (1, .ref (ad (200 + k))), (3, .int (nI i))]) hx hb dX5_hiddenInBag_33 hl (k := 3) rfl rfl (by decide) rfl (fun ls hl => ?_)
          refine lv_iinc (v := nI (i + 1)) (lv' := [(3, .int (nI (i + 1))), (2, .int (acc + 1)), (0, .ref (ad 0)), (1, .ref (ad (200 + k)))]) hx hb dX5_hiddenInBag_36 hl (k := 3) rfl (nI_1 i) (by decide) rfl (fun ls hl => ?_)
          refine lv_goto (tgt := 4) hx hb dX5_hiddenInBag_39 (by decide) ?_
          exact ih4 (i + 1) (acc + 1) (by omega) (by omega) (sm_t haacc (b2_t c_30)) ls (lv_sub hl [2, 3, 0, 1] rfl)
  exact loop4 (nR σ + 1 - 0) 0 0 (by omega) (by omega) rfl ls (lv_sub hl [2, 3, 0, 1] rfl)

/-! rumoursIn -/
set_option maxHeartbeats 4000000 in
set_option maxRecDepth 100000 in
theorem c_X5_rumoursIn (l : Launch) (D : va_G) (ct : Nat → ClassId) (Z : Nat → Prop) (dc : Nat) (σ : Stt) (ad : Nat → Nat) (t : Int32) : Met l yX5_rumoursIn (.code yX5_rumoursIn cX5_rumoursIn 4 (some .int) :: GW) ({ frames := 3, cells := 0, slots := 0, locals := 64 } : Room) (va_Pc [.ref (ad 0), .int t] (fun U => GT D ct U ∧ Pic D ct Z dc σ ad U.heap)) (qP (some (.int (rin σ t)))) 0 0 nF := by
  refine m_in (cc := cX5_rumoursIn) [.ref (ad 0), .int t] "RumourCustoms" rfl (by decide) (Nat.le_of_ble_eq_true rfl) ?_
  intro pg e s m args below meth cd ls hx hb hml hown hts hr hlocks hin hPr hl
  obtain ⟨hT, hP⟩ := hPr
  have hl : lv_has ls 4 [(0, .ref (ad 0)), (1, .int t)] := hl
  have hn := hP.2.2.2.1
  have hnC := hP.2.2.2.2
  refine lv_iconst (v := 0) hx hb dX5_rumoursIn_0 (by decide) ?_
  refine lv_istore_n (lv' := [(2, .int 0), (0, .ref (ad 0)), (1, .int t)]) hx hb dX5_rumoursIn_1 rfl hl (by decide) rfl (fun ls hl => ?_)
  refine lv_iconst (v := 0) hx hb dX5_rumoursIn_2 (by decide) ?_
  refine lv_istore_n (lv' := [(3, .int 0), (2, .int 0), (0, .ref (ad 0)), (1, .int t)]) hx hb dX5_rumoursIn_3 rfl hl (by decide) rfl (fun ls hl => ?_)
  have loop4 : ∀ (n4 i : Nat) (acc : Int32), i ≤ nR σ → nR σ - i < n4 → acc = sm (fun r => b2 (σ 1 (7 * r + 4) = t)) i → ∀ ls, lv_has ls 4 [(0, .ref (ad 0)), (1, .int t), (3, .int (nI i)), (2, .int acc)] → W pg l e ({ frames := 3, cells := 0, slots := 0, locals := 64 } : Room) s m args below meth cd s.heap [] 0 0 (MQ below (qP (some (.int (rin σ t)))) args s 0 0 nF) (F0 m 4 ls []) := by
    intro n4
    induction n4 with
    | zero => intro i acc _ z; omega
    | succ n4 ih4 =>
      intro i acc hi4 hn4 haacc ls hl
      refine lv_iload_n hx hb dX5_rumoursIn_4 rfl (lv_at hl 2 rfl) ?_
      refine lv_aload_n hx hb dX5_rumoursIn_5 rfl (lv_at hl 0 rfl) ?_
      refine k_get (C := RX5) (T := TX5) (N := 11) hx hb hts inGX5 hown (hT).1 hP.o0 rfl 2 (by decide) (hts _ w_149) (fun _ h9 => h9) (v := .ref (ad 6)) rfl dX5_rumoursIn_6 ?_
      refine c_p1 (va_runV (As := []) (rest := [.int (nI i)]) ⟨hx, hb, hml, hown, hts⟩ (c_Jx4a65c_size_8abf5 l D ct (ad 6) (σ 6 0) (ad 8) (nI (nR σ))) (cwV 0 hts (GG w_185 w_186 w_187 w_64 w_188) rfl rfl rfl (by decide) ⟨Nat.le_of_ble_eq_true rfl, Nat.le_of_ble_eq_true rfl⟩) ⟨(blindT fun _ _ _ _ h => h), Ob.recv (hT).1 hP.o6 rfl, fun U hU hW => ⟨rfl, hT.warm hW, by rw [hU]; exact hP.o6⟩⟩ rfl rfl hl.1 rfl (lv_room (Nat.le_of_ble_eq_true rfl)) dX5_rumoursIn_9 ⟨Nat.le_of_ble_eq_true rfl, Nat.le_of_ble_eq_true rfl⟩) ?_
      refine lv_icmp_ge (tgt := 42) hx hb dX5_rumoursIn_12 (by decide) (fun c_12 => ?_) (fun c_12 => ?_)
      · -- taken
        have nc_12 : (nR σ) ≤ i := (nI_leI (a := (nR σ)) (b := i) (by omega) (by omega)).mp c_12
        have he4 : i = nR σ := by omega
        refine lv_iload_n hx hb dX5_rumoursIn_42 rfl (lv_at hl 3 rfl) ?_
        exact W.iret (v := acc) hx hb hr (fun t ht hW => ⟨rvi (by rw [haacc, he4]; rfl), ht⟩) (fun q h => nomatch h) dX5_rumoursIn_43
      · -- not taken
        have nc_12 : ¬ (nR σ) ≤ i := fun z => c_12 ((nI_leI (a := (nR σ)) (b := i) (by omega) (by omega)).mpr z)
        have hlt4 : i < nR σ := by omega
        refine lv_aload_n hx hb dX5_rumoursIn_15 rfl (lv_at hl 0 rfl) ?_
        refine k_get (C := RX5) (T := TX5) (N := 11) hx hb hts inGX5 hown (hT).1 hP.o0 rfl 2 (by decide) (hts _ w_149) (fun _ h9 => h9) (v := .ref (ad 6)) rfl dX5_rumoursIn_16 ?_
        refine lv_iload_n hx hb dX5_rumoursIn_19 rfl (lv_at hl 2 rfl) ?_
        refine c_p1 (va_runV (As := [.int (nI i)]) (rest := []) ⟨hx, hb, hml, hown, hts⟩ (c_Jx4a65c_get_915e3 l D ct (ad 6) (σ 6 0) (ad 8) (nI (nR σ)) (nI i) (nR σ) i (ad 20) (lq ad 100 (nR σ)) (ad (100 + i)) rfl rfl hlt4 hP.2.2.1.1.1 (by have := hP.2.2.1.1.2.1; omega) (if_pos hlt4)) (cwV 1 hts (GG w_189 w_190 w_191 w_64 w_192) rfl rfl rfl (by decide) ⟨Nat.le_of_ble_eq_true rfl, Nat.le_of_ble_eq_true rfl⟩) ⟨(blindT fun _ _ _ _ h => h), Ob.recv (hT).1 hP.o6 rfl, fun U hU hW => ⟨rfl, hT.warm hW, by rw [hU]; exact ⟨hP.o6, (hP.o8 (by omega))⟩⟩⟩ rfl rfl hl.1 rfl (lv_room (Nat.le_of_ble_eq_true rfl)) dX5_rumoursIn_20 ⟨Nat.le_of_ble_eq_true rfl, Nat.le_of_ble_eq_true rfl⟩) ?_
        refine va_castS hx hb hown (hts _ w_203) ((hT).1.1 4 _ rfl).2 (Ob.recv (hT).1 (hP.r hlt4) rfl) dX5_rumoursIn_23 ?_
        refine k_get (C := RX3) (T := TX3) (N := 8) hx hb hts inGX3 hown (hT).1 (hP.r hlt4) rfl 5 (by decide) (hts _ w_479) (fun _ h9 => h9) (v := .int (σ 1 (7 * i + 4))) rfl dX5_rumoursIn_26 ?_
        refine lv_iload_n hx hb dX5_rumoursIn_29 rfl (lv_at hl 1 rfl) ?_
        refine lv_icmp_ne (tgt := 36) hx hb dX5_rumoursIn_30 (by decide) (fun c_30 => ?_) (fun c_30 => ?_)
        · -- taken
          refine lv_iinc (v := nI (i + 1)) (lv' := [(3, .int (nI (i + 1))), (0, .ref (ad 0)), (1, .int t), (2, .int acc)]) hx hb dX5_rumoursIn_36 hl (k := 2) rfl (nI_1 i) (by decide) rfl (fun ls hl => ?_)
          refine lv_goto (tgt := 4) hx hb dX5_rumoursIn_39 (by decide) ?_
          exact ih4 (i + 1) acc (by omega) (by omega) (sm_z haacc (b2_f c_30)) ls (lv_sub hl [1, 2, 0, 3] rfl)
        · -- not taken
          refine lv_iinc (v := acc + 1) (lv' := [(2, .int (acc + 1)), (0, .ref (ad 0)), (1, .int t), (3, .int (nI i))]) hx hb dX5_rumoursIn_33 hl (k := 3) rfl rfl (by decide) rfl (fun ls hl => ?_)
          refine lv_iinc (v := nI (i + 1)) (lv' := [(3, .int (nI (i + 1))), (2, .int (acc + 1)), (0, .ref (ad 0)), (1, .int t)]) hx hb dX5_rumoursIn_36 hl (k := 3) rfl (nI_1 i) (by decide) rfl (fun ls hl => ?_)
          refine lv_goto (tgt := 4) hx hb dX5_rumoursIn_39 (by decide) ?_
          exact ih4 (i + 1) (acc + 1) (by omega) (by omega) (sm_t haacc (b2_t c_30)) ls (lv_sub hl [2, 3, 0, 1] rfl)
  exact loop4 (nR σ + 1 - 0) 0 0 (by omega) (by omega) rfl ls (lv_sub hl [2, 3, 0, 1] rfl)

/-! goneRumours -/
set_option maxHeartbeats 4000000 in
set_option maxRecDepth 100000 in
theorem c_X5_goneRumours (l : Launch) (D : va_G) (ct : Nat → ClassId) (Z : Nat → Prop) (dc : Nat) (σ : Stt) (ad : Nat → Nat) : Met l yX5_goneRumours (.code yX5_goneRumours cX5_goneRumours 3 (some .int) :: GW) ({ frames := 3, cells := 0, slots := 0, locals := 64 } : Room) (va_Pc [.ref (ad 0)] (fun U => GT D ct U ∧ Pic D ct Z dc σ ad U.heap)) (qP (some (.int (goneS σ)))) 0 0 nF := by
  refine m_in (cc := cX5_goneRumours) [.ref (ad 0)] "RumourCustoms" rfl (by decide) (Nat.le_of_ble_eq_true rfl) ?_
  intro pg e s m args below meth cd ls hx hb hml hown hts hr hlocks hin hPr hl
  obtain ⟨hT, hP⟩ := hPr
  have hl : lv_has ls 3 [(0, .ref (ad 0))] := hl
  have hn := hP.2.2.2.1
  have hnC := hP.2.2.2.2
  refine lv_iconst (v := 0) hx hb dX5_goneRumours_0 (by decide) ?_
  refine lv_istore_n (lv' := [(1, .int 0), (0, .ref (ad 0))]) hx hb dX5_goneRumours_1 rfl hl (by decide) rfl (fun ls hl => ?_)
  refine lv_iconst (v := 0) hx hb dX5_goneRumours_2 (by decide) ?_
  refine lv_istore_n (lv' := [(2, .int 0), (1, .int 0), (0, .ref (ad 0))]) hx hb dX5_goneRumours_3 rfl hl (by decide) rfl (fun ls hl => ?_)
  have loop4 : ∀ (n4 i : Nat) (acc : Int32), i ≤ nR σ → nR σ - i < n4 → acc = sm (fun r => b2 (σ 1 (7 * r + 4) = -1 ∧ σ 1 (7 * r + 5) = -1)) i → ∀ ls, lv_has ls 3 [(0, .ref (ad 0)), (2, .int (nI i)), (1, .int acc)] → W pg l e ({ frames := 3, cells := 0, slots := 0, locals := 64 } : Room) s m args below meth cd s.heap [] 0 0 (MQ below (qP (some (.int (goneS σ)))) args s 0 0 nF) (F0 m 4 ls []) := by
    intro n4
    induction n4 with
    | zero => intro i acc _ z; omega
    | succ n4 ih4 =>
      intro i acc hi4 hn4 haacc ls hl
      refine lv_iload_n hx hb dX5_goneRumours_4 rfl (lv_at hl 1 rfl) ?_
      refine lv_aload_n hx hb dX5_goneRumours_5 rfl (lv_at hl 0 rfl) ?_
      refine k_get (C := RX5) (T := TX5) (N := 11) hx hb hts inGX5 hown (hT).1 hP.o0 rfl 2 (by decide) (hts _ w_149) (fun _ h9 => h9) (v := .ref (ad 6)) rfl dX5_goneRumours_6 ?_
      refine c_p1 (va_runV (As := []) (rest := [.int (nI i)]) ⟨hx, hb, hml, hown, hts⟩ (c_Jx4a65c_size_8abf5 l D ct (ad 6) (σ 6 0) (ad 8) (nI (nR σ))) (cwV 0 hts (GG w_185 w_186 w_187 w_64 w_188) rfl rfl rfl (by decide) ⟨Nat.le_of_ble_eq_true rfl, Nat.le_of_ble_eq_true rfl⟩) ⟨(blindT fun _ _ _ _ h => h), Ob.recv (hT).1 hP.o6 rfl, fun U hU hW => ⟨rfl, hT.warm hW, by rw [hU]; exact hP.o6⟩⟩ rfl rfl hl.1 rfl (lv_room (Nat.le_of_ble_eq_true rfl)) dX5_goneRumours_9 ⟨Nat.le_of_ble_eq_true rfl, Nat.le_of_ble_eq_true rfl⟩) ?_
      refine lv_icmp_ge (tgt := 41) hx hb dX5_goneRumours_12 (by decide) (fun c_12 => ?_) (fun c_12 => ?_)
      · -- taken
        have nc_12 : (nR σ) ≤ i := (nI_leI (a := (nR σ)) (b := i) (by omega) (by omega)).mp c_12
        have he4 : i = nR σ := by omega
        refine lv_iload_n hx hb dX5_goneRumours_41 rfl (lv_at hl 2 rfl) ?_
        exact W.iret (v := acc) hx hb hr (fun t ht hW => ⟨rvi (by rw [haacc, he4]; rfl), ht⟩) (fun q h => nomatch h) dX5_goneRumours_42
      · -- not taken
        have nc_12 : ¬ (nR σ) ≤ i := fun z => c_12 ((nI_leI (a := (nR σ)) (b := i) (by omega) (by omega)).mpr z)
        have hlt4 : i < nR σ := by omega
        refine lv_aload_n hx hb dX5_goneRumours_15 rfl (lv_at hl 0 rfl) ?_
        refine k_get (C := RX5) (T := TX5) (N := 11) hx hb hts inGX5 hown (hT).1 hP.o0 rfl 2 (by decide) (hts _ w_149) (fun _ h9 => h9) (v := .ref (ad 6)) rfl dX5_goneRumours_16 ?_
        refine lv_iload_n hx hb dX5_goneRumours_19 rfl (lv_at hl 1 rfl) ?_
        refine c_p1 (va_runV (As := [.int (nI i)]) (rest := []) ⟨hx, hb, hml, hown, hts⟩ (c_Jx4a65c_get_915e3 l D ct (ad 6) (σ 6 0) (ad 8) (nI (nR σ)) (nI i) (nR σ) i (ad 20) (lq ad 100 (nR σ)) (ad (100 + i)) rfl rfl hlt4 hP.2.2.1.1.1 (by have := hP.2.2.1.1.2.1; omega) (if_pos hlt4)) (cwV 1 hts (GG w_189 w_190 w_191 w_64 w_192) rfl rfl rfl (by decide) ⟨Nat.le_of_ble_eq_true rfl, Nat.le_of_ble_eq_true rfl⟩) ⟨(blindT fun _ _ _ _ h => h), Ob.recv (hT).1 hP.o6 rfl, fun U hU hW => ⟨rfl, hT.warm hW, by rw [hU]; exact ⟨hP.o6, (hP.o8 (by omega))⟩⟩⟩ rfl rfl hl.1 rfl (lv_room (Nat.le_of_ble_eq_true rfl)) dX5_goneRumours_20 ⟨Nat.le_of_ble_eq_true rfl, Nat.le_of_ble_eq_true rfl⟩) ?_
        refine va_castS hx hb hown (hts _ w_203) ((hT).1.1 4 _ rfl).2 (Ob.recv (hT).1 (hP.r hlt4) rfl) dX5_goneRumours_23 ?_
        refine c_p1 (va_runV (As := []) (rest := []) ⟨hx, hb, hml, hown, hts⟩ (c_X3_isGone l D ct (ad (100 + i)) (nI i) (σ 1 (7 * i + 3)) (σ 1 (7 * i)) (σ 1 (7 * i + 1)) (σ 1 (7 * i + 2)) (σ 1 (7 * i + 4)) (σ 1 (7 * i + 5)) (σ 1 (7 * i + 6))) (cwV 0 hts (GG w_218 w_219 w_220 w_75 w_221) rfl rfl rfl (by decide) ⟨Nat.le_of_ble_eq_true rfl, Nat.le_of_ble_eq_true rfl⟩) ⟨(blindT fun _ _ _ _ h => h), Ob.recv (hT).1 (hP.r hlt4) rfl, fun U hU hW => ⟨rfl, hT.warm hW, by rw [hU]; exact (hP.r hlt4)⟩⟩ rfl rfl hl.1 rfl (lv_room (Nat.le_of_ble_eq_true rfl)) dX5_goneRumours_26 ⟨Nat.le_of_ble_eq_true rfl, Nat.le_of_ble_eq_true rfl⟩) ?_
        refine lv_if_eq (tgt := 35) hx hb dX5_goneRumours_29 (by decide) (fun c_29 => ?_) (fun c_29 => ?_)
        · -- taken
          replace c_29 := b2_z c_29
          refine lv_iinc (v := nI (i + 1)) (lv' := [(2, .int (nI (i + 1))), (0, .ref (ad 0)), (1, .int acc)]) hx hb dX5_goneRumours_35 hl (k := 1) rfl (nI_1 i) (by decide) rfl (fun ls hl => ?_)
          refine lv_goto (tgt := 4) hx hb dX5_goneRumours_38 (by decide) ?_
          exact ih4 (i + 1) acc (by omega) (by omega) (sm_z haacc (b2_f c_29)) ls (lv_sub hl [1, 0, 2] rfl)
        · -- not taken
          replace c_29 := b2_nz c_29
          refine lv_iinc (v := acc + 1) (lv' := [(1, .int (acc + 1)), (0, .ref (ad 0)), (2, .int (nI i))]) hx hb dX5_goneRumours_32 hl (k := 2) rfl rfl (by decide) rfl (fun ls hl => ?_)
          refine lv_iinc (v := nI (i + 1)) (lv' := [(2, .int (nI (i + 1))), (1, .int (acc + 1)), (0, .ref (ad 0))]) hx hb dX5_goneRumours_35 hl (k := 2) rfl (nI_1 i) (by decide) rfl (fun ls hl => ?_)
          refine lv_goto (tgt := 4) hx hb dX5_goneRumours_38 (by decide) ?_
          exact ih4 (i + 1) (acc + 1) (by omega) (by omega) (sm_t haacc (b2_t c_29)) ls (lv_sub hl [2, 0, 1] rfl)
  exact loop4 (nR σ + 1 - 0) 0 0 (by omega) (by omega) rfl ls (lv_sub hl [2, 0, 1] rfl)

/-! carriersOnTheWay -/
set_option maxHeartbeats 4000000 in
set_option maxRecDepth 100000 in
theorem c_X5_carriersOnTheWay (l : Launch) (D : va_G) (ct : Nat → ClassId) (Z : Nat → Prop) (dc : Nat) (σ : Stt) (ad : Nat → Nat) : Met l yX5_carriersOnTheWay (.code yX5_carriersOnTheWay cX5_carriersOnTheWay 3 (some .int) :: GW) ({ frames := 3, cells := 0, slots := 0, locals := 64 } : Room) (va_Pc [.ref (ad 0)] (fun U => GT D ct U ∧ Pic D ct Z dc σ ad U.heap)) (qP (some (.int (wayS σ)))) 0 0 nF := by
  refine m_in (cc := cX5_carriersOnTheWay) [.ref (ad 0)] "RumourCustoms" rfl (by decide) (Nat.le_of_ble_eq_true rfl) ?_
  intro pg e s m args below meth cd ls hx hb hml hown hts hr hlocks hin hPr hl
  obtain ⟨hT, hP⟩ := hPr
  have hl : lv_has ls 3 [(0, .ref (ad 0))] := hl
  have hn := hP.2.2.2.1
  have hnC := hP.2.2.2.2
  refine lv_iconst (v := 0) hx hb dX5_carriersOnTheWay_0 (by decide) ?_
  refine lv_istore_n (lv' := [(1, .int 0), (0, .ref (ad 0))]) hx hb dX5_carriersOnTheWay_1 rfl hl (by decide) rfl (fun ls hl => ?_)
  refine lv_iconst (v := 0) hx hb dX5_carriersOnTheWay_2 (by decide) ?_
  refine lv_istore_n (lv' := [(2, .int 0), (1, .int 0), (0, .ref (ad 0))]) hx hb dX5_carriersOnTheWay_3 rfl hl (by decide) rfl (fun ls hl => ?_)
  have loop4 : ∀ (n4 i : Nat) (acc : Int32), i ≤ nC σ → nC σ - i < n4 → acc = sm (fun k => b2 (0 < σ 2 (4 * k + 1))) i → ∀ ls, lv_has ls 3 [(0, .ref (ad 0)), (2, .int (nI i)), (1, .int acc)] → W pg l e ({ frames := 3, cells := 0, slots := 0, locals := 64 } : Room) s m args below meth cd s.heap [] 0 0 (MQ below (qP (some (.int (wayS σ)))) args s 0 0 nF) (F0 m 4 ls []) := by
    intro n4
    induction n4 with
    | zero => intro i acc _ z; omega
    | succ n4 ih4 =>
      intro i acc hi4 hn4 haacc ls hl
      refine lv_iload_n hx hb dX5_carriersOnTheWay_4 rfl (lv_at hl 1 rfl) ?_
      refine lv_aload_n hx hb dX5_carriersOnTheWay_5 rfl (lv_at hl 0 rfl) ?_
      refine k_get (C := RX5) (T := TX5) (N := 11) hx hb hts inGX5 hown (hT).1 hP.o0 rfl 3 (by decide) (hts _ w_150) (fun _ h9 => h9) (v := .ref (ad 7)) rfl dX5_carriersOnTheWay_6 ?_
      refine c_p1 (va_runV (As := []) (rest := [.int (nI i)]) ⟨hx, hb, hml, hown, hts⟩ (c_Jx4a65c_size_8abf5 l D ct (ad 7) (σ 6 1) (ad 9) (nI (nC σ))) (cwV 0 hts (GG w_185 w_186 w_187 w_64 w_188) rfl rfl rfl (by decide) ⟨Nat.le_of_ble_eq_true rfl, Nat.le_of_ble_eq_true rfl⟩) ⟨(blindT fun _ _ _ _ h => h), Ob.recv (hT).1 hP.o7 rfl, fun U hU hW => ⟨rfl, hT.warm hW, by rw [hU]; exact hP.o7⟩⟩ rfl rfl hl.1 rfl (lv_room (Nat.le_of_ble_eq_true rfl)) dX5_carriersOnTheWay_9 ⟨Nat.le_of_ble_eq_true rfl, Nat.le_of_ble_eq_true rfl⟩) ?_
      refine lv_icmp_ge (tgt := 41) hx hb dX5_carriersOnTheWay_12 (by decide) (fun c_12 => ?_) (fun c_12 => ?_)
      · -- taken
        have nc_12 : (nC σ) ≤ i := (nI_leI (a := (nC σ)) (b := i) (by omega) (by omega)).mp c_12
        have he4 : i = nC σ := by omega
        refine lv_iload_n hx hb dX5_carriersOnTheWay_41 rfl (lv_at hl 2 rfl) ?_
        exact W.iret (v := acc) hx hb hr (fun t ht hW => ⟨rvi (by rw [haacc, he4]; rfl), ht⟩) (fun q h => nomatch h) dX5_carriersOnTheWay_42
      · -- not taken
        have nc_12 : ¬ (nC σ) ≤ i := fun z => c_12 ((nI_leI (a := (nC σ)) (b := i) (by omega) (by omega)).mpr z)
        have hlt4 : i < nC σ := by omega
        refine lv_aload_n hx hb dX5_carriersOnTheWay_15 rfl (lv_at hl 0 rfl) ?_
        refine k_get (C := RX5) (T := TX5) (N := 11) hx hb hts inGX5 hown (hT).1 hP.o0 rfl 3 (by decide) (hts _ w_150) (fun _ h9 => h9) (v := .ref (ad 7)) rfl dX5_carriersOnTheWay_16 ?_
        refine lv_iload_n hx hb dX5_carriersOnTheWay_19 rfl (lv_at hl 1 rfl) ?_
        refine c_p1 (va_runV (As := [.int (nI i)]) (rest := []) ⟨hx, hb, hml, hown, hts⟩ (c_Jx4a65c_get_915e3 l D ct (ad 7) (σ 6 1) (ad 9) (nI (nC σ)) (nI i) (nC σ) i (ad 21) (lq ad 200 (nC σ)) (ad (200 + i)) rfl rfl hlt4 hP.2.2.1.2.1 (by have := hP.2.2.1.2.2.1; omega) (if_pos hlt4)) (cwV 1 hts (GG w_189 w_190 w_191 w_64 w_192) rfl rfl rfl (by decide) ⟨Nat.le_of_ble_eq_true rfl, Nat.le_of_ble_eq_true rfl⟩) ⟨(blindT fun _ _ _ _ h => h), Ob.recv (hT).1 hP.o7 rfl, fun U hU hW => ⟨rfl, hT.warm hW, by rw [hU]; exact ⟨hP.o7, (hP.o9 (by omega))⟩⟩⟩ rfl rfl hl.1 rfl (lv_room (Nat.le_of_ble_eq_true rfl)) dX5_carriersOnTheWay_20 ⟨Nat.le_of_ble_eq_true rfl, Nat.le_of_ble_eq_true rfl⟩) ?_
        refine va_castS hx hb hown (hts _ w_226) ((hT).1.1 1 _ rfl).2 (Ob.recv (hT).1 (hP.c hlt4) rfl) dX5_carriersOnTheWay_23 ?_
        refine c_p1 (va_runV (As := []) (rest := []) ⟨hx, hb, hml, hown, hts⟩ (c_X0_isOnTheWay l D ct (ad (200 + i)) (nI i) (σ 2 (4 * i)) (σ 2 (4 * i + 1)) (σ 2 (4 * i + 2)) (σ 2 (4 * i + 3))) (cwV 0 hts (GG w_227 w_228 w_229 w_81 w_230) rfl rfl rfl (by decide) ⟨Nat.le_of_ble_eq_true rfl, Nat.le_of_ble_eq_true rfl⟩) ⟨(blindT fun _ _ _ _ h => h), Ob.recv (hT).1 (hP.c hlt4) rfl, fun U hU hW => ⟨rfl, hT.warm hW, by rw [hU]; exact (hP.c hlt4)⟩⟩ rfl rfl hl.1 rfl (lv_room (Nat.le_of_ble_eq_true rfl)) dX5_carriersOnTheWay_26 ⟨Nat.le_of_ble_eq_true rfl, Nat.le_of_ble_eq_true rfl⟩) ?_
        refine lv_if_eq (tgt := 35) hx hb dX5_carriersOnTheWay_29 (by decide) (fun c_29 => ?_) (fun c_29 => ?_)
        · -- taken
          replace c_29 := b2_z c_29
          refine lv_iinc (v := nI (i + 1)) (lv' := [(2, .int (nI (i + 1))), (0, .ref (ad 0)), (1, .int acc)]) hx hb dX5_carriersOnTheWay_35 hl (k := 1) rfl (nI_1 i) (by decide) rfl (fun ls hl => ?_)
          refine lv_goto (tgt := 4) hx hb dX5_carriersOnTheWay_38 (by decide) ?_
          exact ih4 (i + 1) acc (by omega) (by omega) (sm_z haacc (b2_f c_29)) ls (lv_sub hl [1, 0, 2] rfl)
        · -- not taken
          replace c_29 := b2_nz c_29
          refine lv_iinc (v := acc + 1) (lv' := [(1, .int (acc + 1)), (0, .ref (ad 0)), (2, .int (nI i))]) hx hb dX5_carriersOnTheWay_32 hl (k := 2) rfl rfl (by decide) rfl (fun ls hl => ?_)
          refine lv_iinc (v := nI (i + 1)) (lv' := [(2, .int (nI (i + 1))), (1, .int (acc + 1)), (0, .ref (ad 0))]) hx hb dX5_carriersOnTheWay_35 hl (k := 2) rfl (nI_1 i) (by decide) rfl (fun ls hl => ?_)
          refine lv_goto (tgt := 4) hx hb dX5_carriersOnTheWay_38 (by decide) ?_
          exact ih4 (i + 1) (acc + 1) (by omega) (by omega) (sm_t haacc (b2_t c_29)) ls (lv_sub hl [2, 0, 1] rfl)
  exact loop4 (nC σ + 1 - 0) 0 0 (by omega) (by omega) rfl ls (lv_sub hl [2, 0, 1] rfl)

/-! carriersIn -/
set_option maxHeartbeats 4000000 in
set_option maxRecDepth 100000 in
theorem c_X5_carriersIn (l : Launch) (D : va_G) (ct : Nat → ClassId) (Z : Nat → Prop) (dc : Nat) (σ : Stt) (ad : Nat → Nat) (t : Int32) : Met l yX5_carriersIn (.code yX5_carriersIn cX5_carriersIn 5 (some .int) :: GW) ({ frames := 3, cells := 0, slots := 0, locals := 64 } : Room) (va_Pc [.ref (ad 0), .int t] (fun U => GT D ct U ∧ Pic D ct Z dc σ ad U.heap)) (qP (some (.int (cin σ t)))) 0 0 nF := by
  refine m_in (cc := cX5_carriersIn) [.ref (ad 0), .int t] "RumourCustoms" rfl (by decide) (Nat.le_of_ble_eq_true rfl) ?_
  intro pg e s m args below meth cd ls hx hb hml hown hts hr hlocks hin hPr hl
  obtain ⟨hT, hP⟩ := hPr
  have hl : lv_has ls 5 [(0, .ref (ad 0)), (1, .int t)] := hl
  have hn := hP.2.2.2.1
  have hnC := hP.2.2.2.2
  refine lv_iconst (v := 0) hx hb dX5_carriersIn_0 (by decide) ?_
  refine lv_istore_n (lv' := [(2, .int 0), (0, .ref (ad 0)), (1, .int t)]) hx hb dX5_carriersIn_1 rfl hl (by decide) rfl (fun ls hl => ?_)
  refine lv_iconst (v := 0) hx hb dX5_carriersIn_2 (by decide) ?_
  refine lv_istore_n (lv' := [(3, .int 0), (2, .int 0), (0, .ref (ad 0)), (1, .int t)]) hx hb dX5_carriersIn_3 rfl hl (by decide) rfl (fun ls hl => ?_)
  have loop4 : ∀ (n4 i : Nat) (acc : Int32), i ≤ nC σ → nC σ - i < n4 → acc = sm (fun k => b2 (σ 2 (4 * k) = t ∧ ¬ 0 < σ 2 (4 * k + 1))) i → ∀ ls, lv_has ls 5 [(0, .ref (ad 0)), (1, .int t), (3, .int (nI i)), (2, .int acc)] → W pg l e ({ frames := 3, cells := 0, slots := 0, locals := 64 } : Room) s m args below meth cd s.heap [] 0 0 (MQ below (qP (some (.int (cin σ t)))) args s 0 0 nF) (F0 m 4 ls []) := by
    intro n4
    induction n4 with
    | zero => intro i acc _ z; omega
    | succ n4 ih4 =>
      intro i acc hi4 hn4 haacc ls hl
      refine lv_iload_n hx hb dX5_carriersIn_4 rfl (lv_at hl 2 rfl) ?_
      refine lv_aload_n hx hb dX5_carriersIn_5 rfl (lv_at hl 0 rfl) ?_
      refine k_get (C := RX5) (T := TX5) (N := 11) hx hb hts inGX5 hown (hT).1 hP.o0 rfl 3 (by decide) (hts _ w_150) (fun _ h9 => h9) (v := .ref (ad 7)) rfl dX5_carriersIn_6 ?_
      refine c_p1 (va_runV (As := []) (rest := [.int (nI i)]) ⟨hx, hb, hml, hown, hts⟩ (c_Jx4a65c_size_8abf5 l D ct (ad 7) (σ 6 1) (ad 9) (nI (nC σ))) (cwV 0 hts (GG w_185 w_186 w_187 w_64 w_188) rfl rfl rfl (by decide) ⟨Nat.le_of_ble_eq_true rfl, Nat.le_of_ble_eq_true rfl⟩) ⟨(blindT fun _ _ _ _ h => h), Ob.recv (hT).1 hP.o7 rfl, fun U hU hW => ⟨rfl, hT.warm hW, by rw [hU]; exact hP.o7⟩⟩ rfl rfl hl.1 rfl (lv_room (Nat.le_of_ble_eq_true rfl)) dX5_carriersIn_9 ⟨Nat.le_of_ble_eq_true rfl, Nat.le_of_ble_eq_true rfl⟩) ?_
      refine lv_icmp_ge (tgt := 54) hx hb dX5_carriersIn_12 (by decide) (fun c_12 => ?_) (fun c_12 => ?_)
      · -- taken
        have nc_12 : (nC σ) ≤ i := (nI_leI (a := (nC σ)) (b := i) (by omega) (by omega)).mp c_12
        have he4 : i = nC σ := by omega
        refine lv_iload_n hx hb dX5_carriersIn_54 rfl (lv_at hl 3 rfl) ?_
        exact W.iret (v := acc) hx hb hr (fun t ht hW => ⟨rvi (by rw [haacc, he4]; rfl), ht⟩) (fun q h => nomatch h) dX5_carriersIn_55
      · -- not taken
        have nc_12 : ¬ (nC σ) ≤ i := fun z => c_12 ((nI_leI (a := (nC σ)) (b := i) (by omega) (by omega)).mpr z)
        have hlt4 : i < nC σ := by omega
        refine lv_aload_n hx hb dX5_carriersIn_15 rfl (lv_at hl 0 rfl) ?_
        refine k_get (C := RX5) (T := TX5) (N := 11) hx hb hts inGX5 hown (hT).1 hP.o0 rfl 3 (by decide) (hts _ w_150) (fun _ h9 => h9) (v := .ref (ad 7)) rfl dX5_carriersIn_16 ?_
        refine lv_iload_n hx hb dX5_carriersIn_19 rfl (lv_at hl 2 rfl) ?_
        refine c_p1 (va_runV (As := [.int (nI i)]) (rest := []) ⟨hx, hb, hml, hown, hts⟩ (c_Jx4a65c_get_915e3 l D ct (ad 7) (σ 6 1) (ad 9) (nI (nC σ)) (nI i) (nC σ) i (ad 21) (lq ad 200 (nC σ)) (ad (200 + i)) rfl rfl hlt4 hP.2.2.1.2.1 (by have := hP.2.2.1.2.2.1; omega) (if_pos hlt4)) (cwV 1 hts (GG w_189 w_190 w_191 w_64 w_192) rfl rfl rfl (by decide) ⟨Nat.le_of_ble_eq_true rfl, Nat.le_of_ble_eq_true rfl⟩) ⟨(blindT fun _ _ _ _ h => h), Ob.recv (hT).1 hP.o7 rfl, fun U hU hW => ⟨rfl, hT.warm hW, by rw [hU]; exact ⟨hP.o7, (hP.o9 (by omega))⟩⟩⟩ rfl rfl hl.1 rfl (lv_room (Nat.le_of_ble_eq_true rfl)) dX5_carriersIn_20 ⟨Nat.le_of_ble_eq_true rfl, Nat.le_of_ble_eq_true rfl⟩) ?_
        refine va_castS hx hb hown (hts _ w_226) ((hT).1.1 1 _ rfl).2 (Ob.recv (hT).1 (hP.c hlt4) rfl) dX5_carriersIn_23 ?_
        refine lv_astore (lv' := [(4, .ref (ad (200 + i))), (0, .ref (ad 0)), (1, .int t), (3, .int (nI i)), (2, .int acc)]) hx hb dX5_carriersIn_26 hl (by decide) rfl (fun ls hl => ?_)
        refine lv_aload hx hb dX5_carriersIn_28 (lv_at hl 0 rfl) ?_
        refine k_get (C := RX0) (T := TX0) (N := 5) hx hb hts inGX0 hown (hT).1 (hP.c hlt4) rfl 1 (by decide) (hts _ w_627) (fun _ h9 => h9) (v := .int (σ 2 (4 * i))) rfl dX5_carriersIn_30 ?_
        refine lv_iload_n hx hb dX5_carriersIn_33 rfl (lv_at hl 2 rfl) ?_
        refine lv_icmp_ne (tgt := 48) hx hb dX5_carriersIn_34 (by decide) (fun c_34 => ?_) (fun c_34 => ?_)
        · -- taken
          refine lv_iinc (v := nI (i + 1)) (lv' := [(3, .int (nI (i + 1))), (4, .ref (ad (200 + i))), (0, .ref (ad 0)), (1, .int t), (2, .int acc)]) hx hb dX5_carriersIn_48 hl (k := 3) rfl (nI_1 i) (by decide) rfl (fun ls hl => ?_)
          refine lv_goto (tgt := 4) hx hb dX5_carriersIn_51 (by decide) ?_
          exact ih4 (i + 1) acc (by omega) (by omega) (sm_z haacc (b2_f (fun z => c_34 z.1))) ls (lv_sub hl [2, 3, 0, 4] rfl)
        · -- not taken
          refine lv_aload hx hb dX5_carriersIn_37 (lv_at hl 0 rfl) ?_
          refine c_p1 (va_runV (As := []) (rest := []) ⟨hx, hb, hml, hown, hts⟩ (c_X0_isOnTheWay l D ct (ad (200 + i)) (nI i) (σ 2 (4 * i)) (σ 2 (4 * i + 1)) (σ 2 (4 * i + 2)) (σ 2 (4 * i + 3))) (cwV 0 hts (GG w_227 w_228 w_229 w_81 w_230) rfl rfl rfl (by decide) ⟨Nat.le_of_ble_eq_true rfl, Nat.le_of_ble_eq_true rfl⟩) ⟨(blindT fun _ _ _ _ h => h), Ob.recv (hT).1 (hP.c hlt4) rfl, fun U hU hW => ⟨rfl, hT.warm hW, by rw [hU]; exact (hP.c hlt4)⟩⟩ rfl rfl hl.1 rfl (lv_room (Nat.le_of_ble_eq_true rfl)) dX5_carriersIn_39 ⟨Nat.le_of_ble_eq_true rfl, Nat.le_of_ble_eq_true rfl⟩) ?_
          refine lv_if_ne (tgt := 48) hx hb dX5_carriersIn_42 (by decide) (fun c_42 => ?_) (fun c_42 => ?_)
          · -- taken
            replace c_42 := b2_nz c_42
            refine lv_iinc (v := nI (i + 1)) (lv' := [(3, .int (nI (i + 1))), (4, .ref (ad (200 + i))), (0, .ref (ad 0)), (1, .int t), (2, .int acc)]) hx hb dX5_carriersIn_48 hl (k := 3) rfl (nI_1 i) (by decide) rfl (fun ls hl => ?_)
            refine lv_goto (tgt := 4) hx hb dX5_carriersIn_51 (by decide) ?_
            exact ih4 (i + 1) acc (by omega) (by omega) (sm_z haacc (b2_f (fun z => z.2 c_42))) ls (lv_sub hl [2, 3, 0, 4] rfl)
          · -- not taken
            replace c_42 := b2_z c_42
            refine lv_iinc (v := acc + 1) (lv' := [(2, .int (acc + 1)), (4, .ref (ad (200 + i))), (0, .ref (ad 0)), (1, .int t), (3, .int (nI i))]) hx hb dX5_carriersIn_45 hl (k := 4) rfl rfl (by decide) rfl (fun ls hl => ?_)
            refine lv_iinc (v := nI (i + 1)) (lv' := [(3, .int (nI (i + 1))), (2, .int (acc + 1)), (4, .ref (ad (200 + i))), (0, .ref (ad 0)), (1, .int t)]) hx hb dX5_carriersIn_48 hl (k := 4) rfl (nI_1 i) (by decide) rfl (fun ls hl => ?_)
            refine lv_goto (tgt := 4) hx hb dX5_carriersIn_51 (by decide) ?_
            exact ih4 (i + 1) (acc + 1) (by omega) (by omega) (sm_t haacc (b2_t ⟨c_34, c_42⟩)) ls (lv_sub hl [3, 4, 0, 1] rfl)
  exact loop4 (nC σ + 1 - 0) 0 0 (by omega) (by omega) rfl ls (lv_sub hl [2, 3, 0, 1] rfl)

/-! notGoneOf -/
set_option maxHeartbeats 4000000 in
set_option maxRecDepth 100000 in
theorem c_X5_notGoneOf (l : Launch) (D : va_G) (ct : Nat → ClassId) (Z : Nat → Prop) (dc : Nat) (σ : Stt) (ad : Nat → Nat) (t : Int32) : Met l yX5_notGoneOf (.code yX5_notGoneOf cX5_notGoneOf 5 (some .int) :: GW) ({ frames := 3, cells := 0, slots := 0, locals := 64 } : Room) (va_Pc [.ref (ad 0), .int t] (fun U => GT D ct U ∧ Pic D ct Z dc σ ad U.heap)) (qP (some (.int (ngS σ t)))) 0 0 nF := by
  refine m_in (cc := cX5_notGoneOf) [.ref (ad 0), .int t] "RumourCustoms" rfl (by decide) (Nat.le_of_ble_eq_true rfl) ?_
  intro pg e s m args below meth cd ls hx hb hml hown hts hr hlocks hin hPr hl
  obtain ⟨hT, hP⟩ := hPr
  have hl : lv_has ls 5 [(0, .ref (ad 0)), (1, .int t)] := hl
  have hn := hP.2.2.2.1
  have hnC := hP.2.2.2.2
  refine lv_iconst (v := 0) hx hb dX5_notGoneOf_0 (by decide) ?_
  refine lv_istore_n (lv' := [(2, .int 0), (0, .ref (ad 0)), (1, .int t)]) hx hb dX5_notGoneOf_1 rfl hl (by decide) rfl (fun ls hl => ?_)
  refine lv_iconst (v := 0) hx hb dX5_notGoneOf_2 (by decide) ?_
  refine lv_istore_n (lv' := [(3, .int 0), (2, .int 0), (0, .ref (ad 0)), (1, .int t)]) hx hb dX5_notGoneOf_3 rfl hl (by decide) rfl (fun ls hl => ?_)
  have loop4 : ∀ (n4 i : Nat) (acc : Int32), i ≤ nR σ → nR σ - i < n4 → acc = sm (fun r => b2 (σ 1 (7 * r + 3) = t ∧ ¬ (σ 1 (7 * r + 4) = -1 ∧ σ 1 (7 * r + 5) = -1))) i → ∀ ls, lv_has ls 5 [(0, .ref (ad 0)), (1, .int t), (3, .int (nI i)), (2, .int acc)] → W pg l e ({ frames := 3, cells := 0, slots := 0, locals := 64 } : Room) s m args below meth cd s.heap [] 0 0 (MQ below (qP (some (.int (ngS σ t)))) args s 0 0 nF) (F0 m 4 ls []) := by
    intro n4
    induction n4 with
    | zero => intro i acc _ z; omega
    | succ n4 ih4 =>
      intro i acc hi4 hn4 haacc ls hl
      refine lv_iload_n hx hb dX5_notGoneOf_4 rfl (lv_at hl 2 rfl) ?_
      refine lv_aload_n hx hb dX5_notGoneOf_5 rfl (lv_at hl 0 rfl) ?_
      refine k_get (C := RX5) (T := TX5) (N := 11) hx hb hts inGX5 hown (hT).1 hP.o0 rfl 2 (by decide) (hts _ w_149) (fun _ h9 => h9) (v := .ref (ad 6)) rfl dX5_notGoneOf_6 ?_
      refine c_p1 (va_runV (As := []) (rest := [.int (nI i)]) ⟨hx, hb, hml, hown, hts⟩ (c_Jx4a65c_size_8abf5 l D ct (ad 6) (σ 6 0) (ad 8) (nI (nR σ))) (cwV 0 hts (GG w_185 w_186 w_187 w_64 w_188) rfl rfl rfl (by decide) ⟨Nat.le_of_ble_eq_true rfl, Nat.le_of_ble_eq_true rfl⟩) ⟨(blindT fun _ _ _ _ h => h), Ob.recv (hT).1 hP.o6 rfl, fun U hU hW => ⟨rfl, hT.warm hW, by rw [hU]; exact hP.o6⟩⟩ rfl rfl hl.1 rfl (lv_room (Nat.le_of_ble_eq_true rfl)) dX5_notGoneOf_9 ⟨Nat.le_of_ble_eq_true rfl, Nat.le_of_ble_eq_true rfl⟩) ?_
      refine lv_icmp_ge (tgt := 54) hx hb dX5_notGoneOf_12 (by decide) (fun c_12 => ?_) (fun c_12 => ?_)
      · -- taken
        have nc_12 : (nR σ) ≤ i := (nI_leI (a := (nR σ)) (b := i) (by omega) (by omega)).mp c_12
        have he4 : i = nR σ := by omega
        refine lv_iload_n hx hb dX5_notGoneOf_54 rfl (lv_at hl 3 rfl) ?_
        exact W.iret (v := acc) hx hb hr (fun t ht hW => ⟨rvi (by rw [haacc, he4]; rfl), ht⟩) (fun q h => nomatch h) dX5_notGoneOf_55
      · -- not taken
        have nc_12 : ¬ (nR σ) ≤ i := fun z => c_12 ((nI_leI (a := (nR σ)) (b := i) (by omega) (by omega)).mpr z)
        have hlt4 : i < nR σ := by omega
        refine lv_aload_n hx hb dX5_notGoneOf_15 rfl (lv_at hl 0 rfl) ?_
        refine k_get (C := RX5) (T := TX5) (N := 11) hx hb hts inGX5 hown (hT).1 hP.o0 rfl 2 (by decide) (hts _ w_149) (fun _ h9 => h9) (v := .ref (ad 6)) rfl dX5_notGoneOf_16 ?_
        refine lv_iload_n hx hb dX5_notGoneOf_19 rfl (lv_at hl 2 rfl) ?_
        refine c_p1 (va_runV (As := [.int (nI i)]) (rest := []) ⟨hx, hb, hml, hown, hts⟩ (c_Jx4a65c_get_915e3 l D ct (ad 6) (σ 6 0) (ad 8) (nI (nR σ)) (nI i) (nR σ) i (ad 20) (lq ad 100 (nR σ)) (ad (100 + i)) rfl rfl hlt4 hP.2.2.1.1.1 (by have := hP.2.2.1.1.2.1; omega) (if_pos hlt4)) (cwV 1 hts (GG w_189 w_190 w_191 w_64 w_192) rfl rfl rfl (by decide) ⟨Nat.le_of_ble_eq_true rfl, Nat.le_of_ble_eq_true rfl⟩) ⟨(blindT fun _ _ _ _ h => h), Ob.recv (hT).1 hP.o6 rfl, fun U hU hW => ⟨rfl, hT.warm hW, by rw [hU]; exact ⟨hP.o6, (hP.o8 (by omega))⟩⟩⟩ rfl rfl hl.1 rfl (lv_room (Nat.le_of_ble_eq_true rfl)) dX5_notGoneOf_20 ⟨Nat.le_of_ble_eq_true rfl, Nat.le_of_ble_eq_true rfl⟩) ?_
        refine va_castS hx hb hown (hts _ w_203) ((hT).1.1 4 _ rfl).2 (Ob.recv (hT).1 (hP.r hlt4) rfl) dX5_notGoneOf_23 ?_
        refine lv_astore (lv' := [(4, .ref (ad (100 + i))), (0, .ref (ad 0)), (1, .int t), (3, .int (nI i)), (2, .int acc)]) hx hb dX5_notGoneOf_26 hl (by decide) rfl (fun ls hl => ?_)
        refine lv_aload hx hb dX5_notGoneOf_28 (lv_at hl 0 rfl) ?_
        refine k_get (C := RX3) (T := TX3) (N := 8) hx hb hts inGX3 hown (hT).1 (hP.r hlt4) rfl 1 (by decide) (hts _ w_468) (fun _ h9 => h9) (v := .int (σ 1 (7 * i + 3))) rfl dX5_notGoneOf_30 ?_
        refine lv_iload_n hx hb dX5_notGoneOf_33 rfl (lv_at hl 2 rfl) ?_
        refine lv_icmp_ne (tgt := 48) hx hb dX5_notGoneOf_34 (by decide) (fun c_34 => ?_) (fun c_34 => ?_)
        · -- taken
          refine lv_iinc (v := nI (i + 1)) (lv' := [(3, .int (nI (i + 1))), (4, .ref (ad (100 + i))), (0, .ref (ad 0)), (1, .int t), (2, .int acc)]) hx hb dX5_notGoneOf_48 hl (k := 3) rfl (nI_1 i) (by decide) rfl (fun ls hl => ?_)
          refine lv_goto (tgt := 4) hx hb dX5_notGoneOf_51 (by decide) ?_
          exact ih4 (i + 1) acc (by omega) (by omega) (sm_z haacc (b2_f (fun z => c_34 z.1))) ls (lv_sub hl [2, 3, 0, 4] rfl)
        · -- not taken
          refine lv_aload hx hb dX5_notGoneOf_37 (lv_at hl 0 rfl) ?_
          refine c_p1 (va_runV (As := []) (rest := []) ⟨hx, hb, hml, hown, hts⟩ (c_X3_isGone l D ct (ad (100 + i)) (nI i) (σ 1 (7 * i + 3)) (σ 1 (7 * i)) (σ 1 (7 * i + 1)) (σ 1 (7 * i + 2)) (σ 1 (7 * i + 4)) (σ 1 (7 * i + 5)) (σ 1 (7 * i + 6))) (cwV 0 hts (GG w_218 w_219 w_220 w_75 w_221) rfl rfl rfl (by decide) ⟨Nat.le_of_ble_eq_true rfl, Nat.le_of_ble_eq_true rfl⟩) ⟨(blindT fun _ _ _ _ h => h), Ob.recv (hT).1 (hP.r hlt4) rfl, fun U hU hW => ⟨rfl, hT.warm hW, by rw [hU]; exact (hP.r hlt4)⟩⟩ rfl rfl hl.1 rfl (lv_room (Nat.le_of_ble_eq_true rfl)) dX5_notGoneOf_39 ⟨Nat.le_of_ble_eq_true rfl, Nat.le_of_ble_eq_true rfl⟩) ?_
          refine lv_if_ne (tgt := 48) hx hb dX5_notGoneOf_42 (by decide) (fun c_42 => ?_) (fun c_42 => ?_)
          · -- taken
            replace c_42 := b2_nz c_42
            refine lv_iinc (v := nI (i + 1)) (lv' := [(3, .int (nI (i + 1))), (4, .ref (ad (100 + i))), (0, .ref (ad 0)), (1, .int t), (2, .int acc)]) hx hb dX5_notGoneOf_48 hl (k := 3) rfl (nI_1 i) (by decide) rfl (fun ls hl => ?_)
            refine lv_goto (tgt := 4) hx hb dX5_notGoneOf_51 (by decide) ?_
            exact ih4 (i + 1) acc (by omega) (by omega) (sm_z haacc (b2_f (fun z => z.2 c_42))) ls (lv_sub hl [2, 3, 0, 4] rfl)
          · -- not taken
            replace c_42 := b2_z c_42
            refine lv_iinc (v := acc + 1) (lv' := [(2, .int (acc + 1)), (4, .ref (ad (100 + i))), (0, .ref (ad 0)), (1, .int t), (3, .int (nI i))]) hx hb dX5_notGoneOf_45 hl (k := 4) rfl rfl (by decide) rfl (fun ls hl => ?_)
            refine lv_iinc (v := nI (i + 1)) (lv' := [(3, .int (nI (i + 1))), (2, .int (acc + 1)), (4, .ref (ad (100 + i))), (0, .ref (ad 0)), (1, .int t)]) hx hb dX5_notGoneOf_48 hl (k := 4) rfl (nI_1 i) (by decide) rfl (fun ls hl => ?_)
            refine lv_goto (tgt := 4) hx hb dX5_notGoneOf_51 (by decide) ?_
            exact ih4 (i + 1) (acc + 1) (by omega) (by omega) (sm_t haacc (b2_t ⟨c_34, c_42⟩)) ls (lv_sub hl [3, 4, 0, 1] rfl)
  exact loop4 (nR σ + 1 - 0) 0 0 (by omega) (by omega) rfl ls (lv_sub hl [2, 3, 0, 1] rfl)

/-! owedBy -/
set_option maxHeartbeats 4000000 in
set_option maxRecDepth 100000 in
theorem c_X5_owedBy (l : Launch) (D : va_G) (ct : Nat → ClassId) (Z : Nat → Prop) (dc : Nat) (σ : Stt) (ad : Nat → Nat) (k kd : Nat) (b : Int32) (hk : k < nC σ) (hkd : kd < 100) (gkd : σ 3 (7 * kd) = 1) : Met l yX5_owedBy (.code yX5_owedBy cX5_owedBy 7 (some .int) :: GW) ({ frames := 3, cells := 0, slots := 0, locals := 64 } : Room) (va_Pc [.ref (ad 0), .ref (ad (200 + k)), .ref (ad (300 + kd)), .int b] (fun U => GT D ct U ∧ Pic D ct Z dc σ ad U.heap)) (qP (some (.int (owedS σ (nI k) kd b)))) 0 0 nF := by
  refine m_in (cc := cX5_owedBy) [.ref (ad 0), .ref (ad (200 + k)), .ref (ad (300 + kd)), .int b] "RumourCustoms" rfl (by decide) (Nat.le_of_ble_eq_true rfl) ?_
  intro pg e s m args below meth cd ls hx hb hml hown hts hr hlocks hin hPr hl
  obtain ⟨hT, hP⟩ := hPr
  have hl : lv_has ls 7 [(0, .ref (ad 0)), (1, .ref (ad (200 + k))), (2, .ref (ad (300 + kd))), (3, .int b)] := hl
  have hn := hP.2.2.2.1
  have hnC := hP.2.2.2.2
  refine lv_iconst (v := 0) hx hb dX5_owedBy_0 (by decide) ?_
  refine lv_istore (lv' := [(4, .int 0), (0, .ref (ad 0)), (1, .ref (ad (200 + k))), (2, .ref (ad (300 + kd))), (3, .int b)]) hx hb dX5_owedBy_1 hl (by decide) rfl (fun ls hl => ?_)
  refine lv_iconst (v := 0) hx hb dX5_owedBy_3 (by decide) ?_
  refine lv_istore (lv' := [(5, .int 0), (4, .int 0), (0, .ref (ad 0)), (1, .ref (ad (200 + k))), (2, .ref (ad (300 + kd))), (3, .int b)]) hx hb dX5_owedBy_4 hl (by decide) rfl (fun ls hl => ?_)
  have loop6 : ∀ (n6 i : Nat) (acc : Int32), i ≤ nR σ → nR σ - i < n6 → acc = sm (owedF σ (nI k) kd b) i → ∀ ls, lv_has ls 7 [(0, .ref (ad 0)), (1, .ref (ad (200 + k))), (2, .ref (ad (300 + kd))), (3, .int b), (5, .int (nI i)), (4, .int acc)] → W pg l e ({ frames := 3, cells := 0, slots := 0, locals := 64 } : Room) s m args below meth cd s.heap [] 0 0 (MQ below (qP (some (.int (owedS σ (nI k) kd b)))) args s 0 0 nF) (F0 m 6 ls []) := by
    intro n6
    induction n6 with
    | zero => intro i acc _ z; omega
    | succ n6 ih6 =>
      intro i acc hi6 hn6 haacc ls hl
      refine lv_iload hx hb dX5_owedBy_6 (lv_at hl 4 rfl) ?_
      refine lv_aload_n hx hb dX5_owedBy_8 rfl (lv_at hl 0 rfl) ?_
      refine k_get (C := RX5) (T := TX5) (N := 11) hx hb hts inGX5 hown (hT).1 hP.o0 rfl 2 (by decide) (hts _ w_149) (fun _ h9 => h9) (v := .ref (ad 6)) rfl dX5_owedBy_9 ?_
      refine c_p1 (va_runV (As := []) (rest := [.int (nI i)]) ⟨hx, hb, hml, hown, hts⟩ (c_Jx4a65c_size_8abf5 l D ct (ad 6) (σ 6 0) (ad 8) (nI (nR σ))) (cwV 0 hts (GG w_185 w_186 w_187 w_64 w_188) rfl rfl rfl (by decide) ⟨Nat.le_of_ble_eq_true rfl, Nat.le_of_ble_eq_true rfl⟩) ⟨(blindT fun _ _ _ _ h => h), Ob.recv (hT).1 hP.o6 rfl, fun U hU hW => ⟨rfl, hT.warm hW, by rw [hU]; exact hP.o6⟩⟩ rfl rfl hl.1 rfl (lv_room (Nat.le_of_ble_eq_true rfl)) dX5_owedBy_12 ⟨Nat.le_of_ble_eq_true rfl, Nat.le_of_ble_eq_true rfl⟩) ?_
      refine lv_icmp_ge (tgt := 64) hx hb dX5_owedBy_15 (by decide) (fun c_15 => ?_) (fun c_15 => ?_)
      · -- taken
        have nc_15 : (nR σ) ≤ i := (nI_leI (a := (nR σ)) (b := i) (by omega) (by omega)).mp c_15
        have he6 : i = nR σ := by omega
        refine lv_iload hx hb dX5_owedBy_64 (lv_at hl 5 rfl) ?_
        exact W.iret (v := acc) hx hb hr (fun t ht hW => ⟨rvi (by rw [haacc, he6]; rfl), ht⟩) (fun q h => nomatch h) dX5_owedBy_66
      · -- not taken
        have nc_15 : ¬ (nR σ) ≤ i := fun z => c_15 ((nI_leI (a := (nR σ)) (b := i) (by omega) (by omega)).mpr z)
        have hlt6 : i < nR σ := by omega
        refine lv_aload_n hx hb dX5_owedBy_18 rfl (lv_at hl 0 rfl) ?_
        refine k_get (C := RX5) (T := TX5) (N := 11) hx hb hts inGX5 hown (hT).1 hP.o0 rfl 2 (by decide) (hts _ w_149) (fun _ h9 => h9) (v := .ref (ad 6)) rfl dX5_owedBy_19 ?_
        refine lv_iload hx hb dX5_owedBy_22 (lv_at hl 4 rfl) ?_
        refine c_p1 (va_runV (As := [.int (nI i)]) (rest := []) ⟨hx, hb, hml, hown, hts⟩ (c_Jx4a65c_get_915e3 l D ct (ad 6) (σ 6 0) (ad 8) (nI (nR σ)) (nI i) (nR σ) i (ad 20) (lq ad 100 (nR σ)) (ad (100 + i)) rfl rfl hlt6 hP.2.2.1.1.1 (by have := hP.2.2.1.1.2.1; omega) (if_pos hlt6)) (cwV 1 hts (GG w_189 w_190 w_191 w_64 w_192) rfl rfl rfl (by decide) ⟨Nat.le_of_ble_eq_true rfl, Nat.le_of_ble_eq_true rfl⟩) ⟨(blindT fun _ _ _ _ h => h), Ob.recv (hT).1 hP.o6 rfl, fun U hU hW => ⟨rfl, hT.warm hW, by rw [hU]; exact ⟨hP.o6, (hP.o8 (by omega))⟩⟩⟩ rfl rfl hl.1 rfl (lv_room (Nat.le_of_ble_eq_true rfl)) dX5_owedBy_24 ⟨Nat.le_of_ble_eq_true rfl, Nat.le_of_ble_eq_true rfl⟩) ?_
        refine va_castS hx hb hown (hts _ w_203) ((hT).1.1 4 _ rfl).2 (Ob.recv (hT).1 (hP.r hlt6) rfl) dX5_owedBy_27 ?_
        refine lv_astore (lv' := [(6, .ref (ad (100 + i))), (0, .ref (ad 0)), (1, .ref (ad (200 + k))), (2, .ref (ad (300 + kd))), (3, .int b), (5, .int (nI i)), (4, .int acc)]) hx hb dX5_owedBy_30 hl (by decide) rfl (fun ls hl => ?_)
        refine lv_aload hx hb dX5_owedBy_32 (lv_at hl 0 rfl) ?_
        refine lv_aload_n hx hb dX5_owedBy_34 rfl (lv_at hl 2 rfl) ?_
        refine c_p1 (va_runV (As := [.ref (ad (200 + k))]) (rest := []) ⟨hx, hb, hml, hown, hts⟩ (c_X3_isShownBy l D ct (ad (100 + i)) (nI i) (σ 1 (7 * i + 3)) (σ 1 (7 * i)) (σ 1 (7 * i + 1)) (σ 1 (7 * i + 2)) (σ 1 (7 * i + 4)) (σ 1 (7 * i + 5)) (σ 1 (7 * i + 6)) (ad (200 + k)) (nI k) (σ 2 (4 * k)) (σ 2 (4 * k + 1)) (σ 2 (4 * k + 2)) (σ 2 (4 * k + 3))) (cwV 1 hts (GG w_713 w_714 w_715 w_75 w_716) rfl rfl rfl (by decide) ⟨Nat.le_of_ble_eq_true rfl, Nat.le_of_ble_eq_true rfl⟩) ⟨(blindT fun _ _ _ _ h => h), Ob.recv (hT).1 (hP.r hlt6) rfl, fun U hU hW => ⟨rfl, hT.warm hW, by rw [hU]; exact ⟨(hP.r hlt6), (hP.c hk)⟩⟩⟩ rfl rfl hl.1 rfl (lv_room (Nat.le_of_ble_eq_true rfl)) dX5_owedBy_35 ⟨Nat.le_of_ble_eq_true rfl, Nat.le_of_ble_eq_true rfl⟩) ?_
        refine lv_if_eq (tgt := 58) hx hb dX5_owedBy_38 (by decide) (fun c_38 => ?_) (fun c_38 => ?_)
        · -- taken
          replace c_38 := b2_z c_38
          refine lv_iinc (v := nI (i + 1)) (lv' := [(5, .int (nI (i + 1))), (6, .ref (ad (100 + i))), (0, .ref (ad 0)), (1, .ref (ad (200 + k))), (2, .ref (ad (300 + kd))), (3, .int b), (4, .int acc)]) hx hb dX5_owedBy_58 hl (k := 5) rfl (nI_1 i) (by decide) rfl (fun ls hl => ?_)
          refine lv_goto (tgt := 6) hx hb dX5_owedBy_61 (by decide) ?_
          exact ih6 (i + 1) acc (by omega) (by omega) (sm_z haacc (if_neg c_38)) ls (lv_sub hl [2, 3, 4, 5, 0, 6] rfl)
        · -- not taken
          replace c_38 := b2_nz c_38
          refine lv_iload hx hb dX5_owedBy_41 (lv_at hl 6 rfl) ?_
          refine lv_aload_n hx hb dX5_owedBy_43 rfl (lv_at hl 3 rfl) ?_
          refine lv_aload hx hb dX5_owedBy_44 (lv_at hl 0 rfl) ?_
          refine lv_aload hx hb dX5_owedBy_46 (lv_at hl 0 rfl) ?_
          refine lv_iload_n hx hb dX5_owedBy_48 rfl (lv_at hl 4 rfl) ?_
          refine c_p1 (va_runV (As := [.int b]) (rest := [.ref (ad (100 + i)), .ref (ad (300 + kd)), .int acc]) ⟨hx, hb, hml, hown, hts⟩ (c_X3_burnable l D ct (ad (100 + i)) (nI i) (σ 1 (7 * i + 3)) (σ 1 (7 * i)) (σ 1 (7 * i + 1)) (σ 1 (7 * i + 2)) (σ 1 (7 * i + 4)) (σ 1 (7 * i + 5)) (σ 1 (7 * i + 6)) b) (cwV 1 hts (GG w_717 w_718 w_719 w_75 w_720) rfl rfl rfl (by decide) ⟨Nat.le_of_ble_eq_true rfl, Nat.le_of_ble_eq_true rfl⟩) ⟨(blindT fun _ _ _ _ h => h), Ob.recv (hT).1 (hP.r hlt6) rfl, fun U hU hW => ⟨rfl, hT.warm hW, by rw [hU]; exact (hP.r hlt6)⟩⟩ rfl rfl hl.1 rfl (lv_room (Nat.le_of_ble_eq_true rfl)) dX5_owedBy_49 ⟨Nat.le_of_ble_eq_true rfl, Nat.le_of_ble_eq_true rfl⟩) ?_
          refine c_p1 (va_runV (As := [.ref (ad (100 + i)), .int (if (σ 1 (7 * i + 2)) < b then σ 1 (7 * i + 2) else b)]) (rest := [.int acc]) ⟨hx, hb, hml, hown, hts⟩ (c_X1_dutyOf l D ct (ad (300 + kd)) (σ 3 (7 * kd + 1)) (σ 3 (7 * kd + 2)) (σ 3 (7 * kd + 3)) (σ 3 (7 * kd + 4)) (σ 3 (7 * kd + 5)) (σ 3 (7 * kd + 6)) (ad (100 + i)) (nI i) (σ 1 (7 * i + 3)) (σ 1 (7 * i)) (σ 1 (7 * i + 1)) (σ 1 (7 * i + 2)) (σ 1 (7 * i + 4)) (σ 1 (7 * i + 5)) (σ 1 (7 * i + 6)) (if (σ 1 (7 * i + 2)) < b then σ 1 (7 * i + 2) else b)) (cwV 2 hts (GG w_722 w_723 w_724 w_72 w_725) rfl rfl rfl (by decide) ⟨Nat.le_of_ble_eq_true rfl, Nat.le_of_ble_eq_true rfl⟩) ⟨(blindT fun _ _ _ _ h => h), Ob.recv (hT).1 (hP.d hkd gkd) rfl, fun U hU hW => ⟨rfl, hT.warm hW, by rw [hU]; exact ⟨(hP.d hkd gkd), (hP.r hlt6)⟩⟩⟩ rfl rfl hl.1 rfl (lv_room (Nat.le_of_ble_eq_true rfl)) dX5_owedBy_52 ⟨Nat.le_of_ble_eq_true rfl, Nat.le_of_ble_eq_true rfl⟩) ?_
          refine lv_iadd hx hb dX5_owedBy_55 ?_
          refine lv_istore (lv' := [(4, .int (acc + ((((σ 3 (7 * kd + 2)) * (σ 1 (7 * i))) + ((σ 3 (7 * kd + 3)) * (σ 1 (7 * i + 1)))) >>> ((if (σ 1 (7 * i + 2)) < b then σ 1 (7 * i + 2) else b) &&& 31)))), (6, .ref (ad (100 + i))), (0, .ref (ad 0)), (1, .ref (ad (200 + k))), (2, .ref (ad (300 + kd))), (3, .int b), (5, .int (nI i))]) hx hb dX5_owedBy_56 hl (by decide) rfl (fun ls hl => ?_)
          refine lv_iinc (v := nI (i + 1)) (lv' := [(5, .int (nI (i + 1))), (4, .int (acc + ((((σ 3 (7 * kd + 2)) * (σ 1 (7 * i))) + ((σ 3 (7 * kd + 3)) * (σ 1 (7 * i + 1)))) >>> ((if (σ 1 (7 * i + 2)) < b then σ 1 (7 * i + 2) else b) &&& 31)))), (6, .ref (ad (100 + i))), (0, .ref (ad 0)), (1, .ref (ad (200 + k))), (2, .ref (ad (300 + kd))), (3, .int b)]) hx hb dX5_owedBy_58 hl (k := 6) rfl (nI_1 i) (by decide) rfl (fun ls hl => ?_)
          refine lv_goto (tgt := 6) hx hb dX5_owedBy_61 (by decide) ?_
          exact ih6 (i + 1) (acc + ((((σ 3 (7 * kd + 2)) * (σ 1 (7 * i))) + ((σ 3 (7 * kd + 3)) * (σ 1 (7 * i + 1)))) >>> ((if (σ 1 (7 * i + 2)) < b then σ 1 (7 * i + 2) else b) &&& 31))) (by omega) (by omega) (sm_t haacc (if_pos c_38)) ls (lv_sub hl [3, 4, 5, 6, 0, 1] rfl)
  exact loop6 (nR σ + 1 - 0) 0 0 (by omega) (by omega) rfl ls (lv_sub hl [2, 3, 4, 5, 0, 1] rfl)

/-! fineOf -/
set_option maxHeartbeats 4000000 in
set_option maxRecDepth 100000 in
theorem c_X5_fineOf (l : Launch) (D : va_G) (ct : Nat → ClassId) (Z : Nat → Prop) (dc : Nat) (σ : Stt) (ad : Nat → Nat) (k kd : Nat) (lft : Int32) (hk : k < nC σ) (hkd : kd < 100) (gkd : σ 3 (7 * kd) = 1) (hH : ∀ i, i < nR σ → σ 1 (7 * i + 6) = 0 ∨ σ 1 (7 * i + 6) = 1) : Met l yX5_fineOf (.code yX5_fineOf cX5_fineOf 7 (some .int) :: GW) ({ frames := 4, cells := 0, slots := 0, locals := 87 } : Room) (va_Pc [.ref (ad 0), .ref (ad (200 + k)), .ref (ad (300 + kd)), .int lft] (fun U => GT D ct U ∧ Pic D ct Z dc σ ad U.heap)) (qP (some (.int (fineS σ (nI k) kd lft)))) 0 0 nF := by
  refine m_in (cc := cX5_fineOf) [.ref (ad 0), .ref (ad (200 + k)), .ref (ad (300 + kd)), .int lft] "RumourCustoms" rfl (by decide) (Nat.le_of_ble_eq_true rfl) ?_
  intro pg e s m args below meth cd ls hx hb hml hown hts hr hlocks hin hPr hl
  obtain ⟨hT, hP⟩ := hPr
  have hl : lv_has ls 7 [(0, .ref (ad 0)), (1, .ref (ad (200 + k))), (2, .ref (ad (300 + kd))), (3, .int lft)] := hl
  have hn := hP.2.2.2.1
  have hnC := hP.2.2.2.2
  refine lv_aload_n hx hb dX5_fineOf_0 rfl (lv_at hl 2 rfl) ?_
  refine lv_aload_n hx hb dX5_fineOf_1 rfl (lv_at hl 0 rfl) ?_
  refine lv_aload_n hx hb dX5_fineOf_2 rfl (lv_at hl 1 rfl) ?_
  refine c_p1 (va_runV (As := [.ref (ad (200 + k))]) (rest := [.ref (ad (300 + kd))]) ⟨hx, hb, hml, hown, hts⟩ (c_X5_hiddenInBag l D ct Z dc σ ad k hk hH) (cwV 1 hts (GG w_273 w_275 w_8 w_59 w_276) rfl rfl rfl (by decide) ⟨Nat.le_of_ble_eq_true rfl, Nat.le_of_ble_eq_true rfl⟩) ⟨(blindT fun _ _ _ _ h => h), Ob.recv (hT).1 hP.o0 rfl, fun U hU hW => ⟨rfl, hT.warm hW, by rw [hU]; exact hP⟩⟩ rfl rfl hl.1 rfl (lv_room (Nat.le_of_ble_eq_true rfl)) dX5_fineOf_3 ⟨Nat.le_of_ble_eq_true rfl, Nat.le_of_ble_eq_true rfl⟩) ?_
  refine c_p1 (va_runV (As := [.int (hidB σ (nI k))]) (rest := []) ⟨hx, hb, hml, hown, hts⟩ (c_X1_attentionBehind l D ct (ad (300 + kd)) (σ 3 (7 * kd + 1)) (σ 3 (7 * kd + 2)) (σ 3 (7 * kd + 3)) (σ 3 (7 * kd + 4)) (σ 3 (7 * kd + 5)) (σ 3 (7 * kd + 6)) (hidB σ (nI k))) (cwV 1 hts (GG w_731 w_732 w_733 w_72 w_734) rfl rfl rfl (by decide) ⟨Nat.le_of_ble_eq_true rfl, Nat.le_of_ble_eq_true rfl⟩) ⟨(blindT fun _ _ _ _ h => h), Ob.recv (hT).1 (hP.d hkd gkd) rfl, fun U hU hW => ⟨rfl, hT.warm hW, by rw [hU]; exact (hP.d hkd gkd)⟩⟩ rfl rfl hl.1 rfl (lv_room (Nat.le_of_ble_eq_true rfl)) dX5_fineOf_6 ⟨Nat.le_of_ble_eq_true rfl, Nat.le_of_ble_eq_true rfl⟩) ?_
  refine lv_bipush (v := 10) hx hb dX5_fineOf_9 (by decide) ?_
  refine lv_icmp_ge (tgt := 16) hx hb dX5_fineOf_11 (by decide) (fun c_11 => ?_) (fun c_11 => ?_)
  · -- taken
    refine lv_iconst (v := 0) hx hb dX5_fineOf_16 (by decide) ?_
    refine lv_istore (lv' := [(4, .int 0), (0, .ref (ad 0)), (1, .ref (ad (200 + k))), (2, .ref (ad (300 + kd))), (3, .int lft)]) hx hb dX5_fineOf_17 hl (by decide) rfl (fun ls hl => ?_)
    refine lv_iconst (v := 0) hx hb dX5_fineOf_19 (by decide) ?_
    refine lv_istore (lv' := [(5, .int 0), (4, .int 0), (0, .ref (ad 0)), (1, .ref (ad (200 + k))), (2, .ref (ad (300 + kd))), (3, .int lft)]) hx hb dX5_fineOf_20 hl (by decide) rfl (fun ls hl => ?_)
    have loop22 : ∀ (n22 i : Nat) (acc : Int32), i ≤ nR σ → nR σ - i < n22 → acc = sm (hdutF σ (nI k) kd) i → ∀ ls, lv_has ls 7 [(0, .ref (ad 0)), (1, .ref (ad (200 + k))), (2, .ref (ad (300 + kd))), (3, .int lft), (5, .int (nI i)), (4, .int acc)] → W pg l e ({ frames := 4, cells := 0, slots := 0, locals := 87 } : Room) s m args below meth cd s.heap [] 0 0 (MQ below (qP (some (.int (fineS σ (nI k) kd lft)))) args s 0 0 nF) (F0 m 22 ls []) := by
      intro n22
      induction n22 with
      | zero => intro i acc _ z; omega
      | succ n22 ih22 =>
        intro i acc hi22 hn22 haacc ls hl
        refine lv_iload hx hb dX5_fineOf_22 (lv_at hl 4 rfl) ?_
        refine lv_aload_n hx hb dX5_fineOf_24 rfl (lv_at hl 0 rfl) ?_
        refine k_get (C := RX5) (T := TX5) (N := 11) hx hb hts inGX5 hown (hT).1 hP.o0 rfl 2 (by decide) (hts _ w_149) (fun _ h9 => h9) (v := .ref (ad 6)) rfl dX5_fineOf_25 ?_
        refine c_p1 (va_runV (As := []) (rest := [.int (nI i)]) ⟨hx, hb, hml, hown, hts⟩ (c_Jx4a65c_size_8abf5 l D ct (ad 6) (σ 6 0) (ad 8) (nI (nR σ))) (cwV 0 hts (GG w_185 w_186 w_187 w_64 w_188) rfl rfl rfl (by decide) ⟨Nat.le_of_ble_eq_true rfl, Nat.le_of_ble_eq_true rfl⟩) ⟨(blindT fun _ _ _ _ h => h), Ob.recv (hT).1 hP.o6 rfl, fun U hU hW => ⟨rfl, hT.warm hW, by rw [hU]; exact hP.o6⟩⟩ rfl rfl hl.1 rfl (lv_room (Nat.le_of_ble_eq_true rfl)) dX5_fineOf_28 ⟨Nat.le_of_ble_eq_true rfl, Nat.le_of_ble_eq_true rfl⟩) ?_
        refine lv_icmp_ge (tgt := 75) hx hb dX5_fineOf_31 (by decide) (fun c_31 => ?_) (fun c_31 => ?_)
        · -- taken
          have nc_31 : (nR σ) ≤ i := (nI_leI (a := (nR σ)) (b := i) (by omega) (by omega)).mp c_31
          have he22 : i = nR σ := by omega
          refine lv_iconst (v := 0) hx hb dX5_fineOf_75 (by decide) ?_
          refine lv_iconst (v := 3) hx hb dX5_fineOf_76 (by decide) ?_
          refine lv_iload hx hb dX5_fineOf_77 (lv_at hl 5 rfl) ?_
          refine lv_imul hx hb dX5_fineOf_79 ?_
          refine lv_iload_n hx hb dX5_fineOf_80 rfl (lv_at hl 3 rfl) ?_
          refine va_mmin hx hb (hml.trans hl.1.symm) hown (hts _ w_735) (hts _ w_551) (hts _ w_73) (hts _ w_552) (Nat.le_of_ble_eq_true rfl) (Nat.le_of_ble_eq_true rfl) (Nat.le_of_ble_eq_true rfl) (Nat.le_of_ble_eq_true rfl) dX5_fineOf_81 ?_
          refine va_mmax hx hb (hml.trans hl.1.symm) hown (hts _ w_736) (hts _ w_520) (hts _ w_73) (hts _ w_521) (Nat.le_of_ble_eq_true rfl) (Nat.le_of_ble_eq_true rfl) (Nat.le_of_ble_eq_true rfl) (Nat.le_of_ble_eq_true rfl) dX5_fineOf_84 ?_
          exact W.iret (v := if 0 < (if lft < (3 * acc) then lft else 3 * acc) then if lft < (3 * acc) then lft else 3 * acc else 0) hx hb hr (fun t ht hW => ⟨rvi (by rw [haacc, he22]; exact (if_neg (Int32.not_lt.mpr c_11)).symm), ht⟩) (fun q h => nomatch h) dX5_fineOf_87
        · -- not taken
          have nc_31 : ¬ (nR σ) ≤ i := fun z => c_31 ((nI_leI (a := (nR σ)) (b := i) (by omega) (by omega)).mpr z)
          have hlt22 : i < nR σ := by omega
          refine lv_aload_n hx hb dX5_fineOf_34 rfl (lv_at hl 0 rfl) ?_
          refine k_get (C := RX5) (T := TX5) (N := 11) hx hb hts inGX5 hown (hT).1 hP.o0 rfl 2 (by decide) (hts _ w_149) (fun _ h9 => h9) (v := .ref (ad 6)) rfl dX5_fineOf_35 ?_
          refine lv_iload hx hb dX5_fineOf_38 (lv_at hl 4 rfl) ?_
          refine c_p1 (va_runV (As := [.int (nI i)]) (rest := []) ⟨hx, hb, hml, hown, hts⟩ (c_Jx4a65c_get_915e3 l D ct (ad 6) (σ 6 0) (ad 8) (nI (nR σ)) (nI i) (nR σ) i (ad 20) (lq ad 100 (nR σ)) (ad (100 + i)) rfl rfl hlt22 hP.2.2.1.1.1 (by have := hP.2.2.1.1.2.1; omega) (if_pos hlt22)) (cwV 1 hts (GG w_189 w_190 w_191 w_64 w_192) rfl rfl rfl (by decide) ⟨Nat.le_of_ble_eq_true rfl, Nat.le_of_ble_eq_true rfl⟩) ⟨(blindT fun _ _ _ _ h => h), Ob.recv (hT).1 hP.o6 rfl, fun U hU hW => ⟨rfl, hT.warm hW, by rw [hU]; exact ⟨hP.o6, (hP.o8 (by omega))⟩⟩⟩ rfl rfl hl.1 rfl (lv_room (Nat.le_of_ble_eq_true rfl)) dX5_fineOf_40 ⟨Nat.le_of_ble_eq_true rfl, Nat.le_of_ble_eq_true rfl⟩) ?_
          refine va_castS hx hb hown (hts _ w_203) ((hT).1.1 4 _ rfl).2 (Ob.recv (hT).1 (hP.r hlt22) rfl) dX5_fineOf_43 ?_
          refine lv_astore (lv' := [(6, .ref (ad (100 + i))), (0, .ref (ad 0)), (1, .ref (ad (200 + k))), (2, .ref (ad (300 + kd))), (3, .int lft), (5, .int (nI i)), (4, .int acc)]) hx hb dX5_fineOf_46 hl (by decide) rfl (fun ls hl => ?_)
          refine lv_aload hx hb dX5_fineOf_48 (lv_at hl 0 rfl) ?_
          refine lv_aload_n hx hb dX5_fineOf_50 rfl (lv_at hl 2 rfl) ?_
          refine c_p1 (va_runV (As := [.ref (ad (200 + k))]) (rest := []) ⟨hx, hb, hml, hown, hts⟩ (c_X3_isHiddenBy l D ct (ad (100 + i)) (nI i) (σ 1 (7 * i + 3)) (σ 1 (7 * i)) (σ 1 (7 * i + 1)) (σ 1 (7 * i + 2)) (σ 1 (7 * i + 4)) (σ 1 (7 * i + 5)) (σ 1 (7 * i + 6)) (ad (200 + k)) (nI k) (σ 2 (4 * k)) (σ 2 (4 * k + 1)) (σ 2 (4 * k + 2)) (σ 2 (4 * k + 3)) (hH i hlt22)) (cwV 1 hts (GG w_277 w_278 w_279 w_75 w_280) rfl rfl rfl (by decide) ⟨Nat.le_of_ble_eq_true rfl, Nat.le_of_ble_eq_true rfl⟩) ⟨(blindT fun _ _ _ _ h => h), Ob.recv (hT).1 (hP.r hlt22) rfl, fun U hU hW => ⟨rfl, hT.warm hW, by rw [hU]; exact ⟨(hP.r hlt22), (hP.c hk)⟩⟩⟩ rfl rfl hl.1 rfl (lv_room (Nat.le_of_ble_eq_true rfl)) dX5_fineOf_51 ⟨Nat.le_of_ble_eq_true rfl, Nat.le_of_ble_eq_true rfl⟩) ?_
          refine lv_if_eq (tgt := 69) hx hb dX5_fineOf_54 (by decide) (fun c_54 => ?_) (fun c_54 => ?_)
          · -- taken
            replace c_54 := b2_z c_54
            refine lv_iinc (v := nI (i + 1)) (lv' := [(5, .int (nI (i + 1))), (6, .ref (ad (100 + i))), (0, .ref (ad 0)), (1, .ref (ad (200 + k))), (2, .ref (ad (300 + kd))), (3, .int lft), (4, .int acc)]) hx hb dX5_fineOf_69 hl (k := 5) rfl (nI_1 i) (by decide) rfl (fun ls hl => ?_)
            refine lv_goto (tgt := 22) hx hb dX5_fineOf_72 (by decide) ?_
            exact ih22 (i + 1) acc (by omega) (by omega) (sm_z haacc (if_neg c_54)) ls (lv_sub hl [2, 3, 4, 5, 0, 6] rfl)
          · -- not taken
            replace c_54 := b2_nz c_54
            refine lv_iload hx hb dX5_fineOf_57 (lv_at hl 6 rfl) ?_
            refine lv_aload_n hx hb dX5_fineOf_59 rfl (lv_at hl 3 rfl) ?_
            refine lv_aload hx hb dX5_fineOf_60 (lv_at hl 0 rfl) ?_
            refine lv_iconst (v := 0) hx hb dX5_fineOf_62 (by decide) ?_
            refine c_p1 (va_runV (As := [.ref (ad (100 + i)), .int 0]) (rest := [.int acc]) ⟨hx, hb, hml, hown, hts⟩ (c_X1_dutyOf l D ct (ad (300 + kd)) (σ 3 (7 * kd + 1)) (σ 3 (7 * kd + 2)) (σ 3 (7 * kd + 3)) (σ 3 (7 * kd + 4)) (σ 3 (7 * kd + 5)) (σ 3 (7 * kd + 6)) (ad (100 + i)) (nI i) (σ 1 (7 * i + 3)) (σ 1 (7 * i)) (σ 1 (7 * i + 1)) (σ 1 (7 * i + 2)) (σ 1 (7 * i + 4)) (σ 1 (7 * i + 5)) (σ 1 (7 * i + 6)) 0) (cwV 2 hts (GG w_722 w_723 w_724 w_72 w_725) rfl rfl rfl (by decide) ⟨Nat.le_of_ble_eq_true rfl, Nat.le_of_ble_eq_true rfl⟩) ⟨(blindT fun _ _ _ _ h => h), Ob.recv (hT).1 (hP.d hkd gkd) rfl, fun U hU hW => ⟨rfl, hT.warm hW, by rw [hU]; exact ⟨(hP.d hkd gkd), (hP.r hlt22)⟩⟩⟩ rfl rfl hl.1 rfl (lv_room (Nat.le_of_ble_eq_true rfl)) dX5_fineOf_63 ⟨Nat.le_of_ble_eq_true rfl, Nat.le_of_ble_eq_true rfl⟩) ?_
            refine lv_iadd hx hb dX5_fineOf_66 ?_
            refine lv_istore (lv' := [(4, .int (acc + ((((σ 3 (7 * kd + 2)) * (σ 1 (7 * i))) + ((σ 3 (7 * kd + 3)) * (σ 1 (7 * i + 1)))) >>> (0 &&& 31)))), (6, .ref (ad (100 + i))), (0, .ref (ad 0)), (1, .ref (ad (200 + k))), (2, .ref (ad (300 + kd))), (3, .int lft), (5, .int (nI i))]) hx hb dX5_fineOf_67 hl (by decide) rfl (fun ls hl => ?_)
            refine lv_iinc (v := nI (i + 1)) (lv' := [(5, .int (nI (i + 1))), (4, .int (acc + ((((σ 3 (7 * kd + 2)) * (σ 1 (7 * i))) + ((σ 3 (7 * kd + 3)) * (σ 1 (7 * i + 1)))) >>> (0 &&& 31)))), (6, .ref (ad (100 + i))), (0, .ref (ad 0)), (1, .ref (ad (200 + k))), (2, .ref (ad (300 + kd))), (3, .int lft)]) hx hb dX5_fineOf_69 hl (k := 6) rfl (nI_1 i) (by decide) rfl (fun ls hl => ?_)
            refine lv_goto (tgt := 22) hx hb dX5_fineOf_72 (by decide) ?_
            exact ih22 (i + 1) (acc + ((((σ 3 (7 * kd + 2)) * (σ 1 (7 * i))) + ((σ 3 (7 * kd + 3)) * (σ 1 (7 * i + 1)))) >>> (0 &&& 31))) (by omega) (by omega) (sm_t haacc (if_pos c_54)) ls (lv_sub hl [3, 4, 5, 6, 0, 1] rfl)
    exact loop22 (nR σ + 1 - 0) 0 0 (by omega) (by omega) rfl ls (lv_sub hl [2, 3, 4, 5, 0, 1] rfl)
  · -- not taken
    refine lv_iconst (v := 0) hx hb dX5_fineOf_14 (by decide) ?_
    exact W.iret (v := 0) hx hb hr (fun t ht hW => ⟨rvi ((show fineS σ (nI k) kd lft = 0 from if_pos (i32_nle c_11)).symm), ht⟩) (fun q h => nomatch h) dX5_fineOf_15

/-! greatestDepthInTowns -/
set_option maxHeartbeats 4000000 in
set_option maxRecDepth 100000 in
theorem c_X5_greatestDepthInTowns (l : Launch) (D : va_G) (ct : Nat → ClassId) (Z : Nat → Prop) (dc : Nat) (σ : Stt) (ad : Nat → Nat) (t : Int32) : Met l yX5_greatestDepthInTowns (.code yX5_greatestDepthInTowns cX5_greatestDepthInTowns 5 (some .int) :: GW) ({ frames := 3, cells := 0, slots := 0, locals := 64 } : Room) (va_Pc [.ref (ad 0), .int t] (fun U => GT D ct U ∧ Pic D ct Z dc σ ad U.heap)) (qP (some (.int (gdp σ t (nR σ))))) 0 0 nF := by
  refine m_in (cc := cX5_greatestDepthInTowns) [.ref (ad 0), .int t] "RumourCustoms" rfl (by decide) (Nat.le_of_ble_eq_true rfl) ?_
  intro pg e s m args below meth cd ls hx hb hml hown hts hr hlocks hin hPr hl
  obtain ⟨hT, hP⟩ := hPr
  have hl : lv_has ls 5 [(0, .ref (ad 0)), (1, .int t)] := hl
  have hn := hP.2.2.2.1
  have hnC := hP.2.2.2.2
  refine lv_iconst (v := (-1)) hx hb dX5_greatestDepthInTowns_0 (by decide) ?_
  refine lv_istore_n (lv' := [(2, .int (-1)), (0, .ref (ad 0)), (1, .int t)]) hx hb dX5_greatestDepthInTowns_1 rfl hl (by decide) rfl (fun ls hl => ?_)
  refine lv_iconst (v := 0) hx hb dX5_greatestDepthInTowns_2 (by decide) ?_
  refine lv_istore_n (lv' := [(3, .int 0), (2, .int (-1)), (0, .ref (ad 0)), (1, .int t)]) hx hb dX5_greatestDepthInTowns_3 rfl hl (by decide) rfl (fun ls hl => ?_)
  have loop4 : ∀ (n4 i : Nat) (acc : Int32), i ≤ nR σ → nR σ - i < n4 → acc = gdp σ t i → ∀ ls, lv_has ls 5 [(0, .ref (ad 0)), (1, .int t), (3, .int (nI i)), (2, .int acc)] → W pg l e ({ frames := 3, cells := 0, slots := 0, locals := 64 } : Room) s m args below meth cd s.heap [] 0 0 (MQ below (qP (some (.int (gdp σ t (nR σ))))) args s 0 0 nF) (F0 m 4 ls []) := by
    intro n4
    induction n4 with
    | zero => intro i acc _ z; omega
    | succ n4 ih4 =>
      intro i acc hi4 hn4 haacc ls hl
      refine lv_iload_n hx hb dX5_greatestDepthInTowns_4 rfl (lv_at hl 2 rfl) ?_
      refine lv_aload_n hx hb dX5_greatestDepthInTowns_5 rfl (lv_at hl 0 rfl) ?_
      refine k_get (C := RX5) (T := TX5) (N := 11) hx hb hts inGX5 hown (hT).1 hP.o0 rfl 2 (by decide) (hts _ w_149) (fun _ h9 => h9) (v := .ref (ad 6)) rfl dX5_greatestDepthInTowns_6 ?_
      refine c_p1 (va_runV (As := []) (rest := [.int (nI i)]) ⟨hx, hb, hml, hown, hts⟩ (c_Jx4a65c_size_8abf5 l D ct (ad 6) (σ 6 0) (ad 8) (nI (nR σ))) (cwV 0 hts (GG w_185 w_186 w_187 w_64 w_188) rfl rfl rfl (by decide) ⟨Nat.le_of_ble_eq_true rfl, Nat.le_of_ble_eq_true rfl⟩) ⟨(blindT fun _ _ _ _ h => h), Ob.recv (hT).1 hP.o6 rfl, fun U hU hW => ⟨rfl, hT.warm hW, by rw [hU]; exact hP.o6⟩⟩ rfl rfl hl.1 rfl (lv_room (Nat.le_of_ble_eq_true rfl)) dX5_greatestDepthInTowns_9 ⟨Nat.le_of_ble_eq_true rfl, Nat.le_of_ble_eq_true rfl⟩) ?_
      refine lv_icmp_ge (tgt := 62) hx hb dX5_greatestDepthInTowns_12 (by decide) (fun c_12 => ?_) (fun c_12 => ?_)
      · -- taken
        have nc_12 : (nR σ) ≤ i := (nI_leI (a := (nR σ)) (b := i) (by omega) (by omega)).mp c_12
        have he4 : i = nR σ := by omega
        refine lv_iload_n hx hb dX5_greatestDepthInTowns_62 rfl (lv_at hl 3 rfl) ?_
        exact W.iret (v := acc) hx hb hr (fun t ht hW => ⟨rvi (by rw [haacc, he4]), ht⟩) (fun q h => nomatch h) dX5_greatestDepthInTowns_63
      · -- not taken
        have nc_12 : ¬ (nR σ) ≤ i := fun z => c_12 ((nI_leI (a := (nR σ)) (b := i) (by omega) (by omega)).mpr z)
        have hlt4 : i < nR σ := by omega
        refine lv_aload_n hx hb dX5_greatestDepthInTowns_15 rfl (lv_at hl 0 rfl) ?_
        refine k_get (C := RX5) (T := TX5) (N := 11) hx hb hts inGX5 hown (hT).1 hP.o0 rfl 2 (by decide) (hts _ w_149) (fun _ h9 => h9) (v := .ref (ad 6)) rfl dX5_greatestDepthInTowns_16 ?_
        refine lv_iload_n hx hb dX5_greatestDepthInTowns_19 rfl (lv_at hl 2 rfl) ?_
        refine c_p1 (va_runV (As := [.int (nI i)]) (rest := []) ⟨hx, hb, hml, hown, hts⟩ (c_Jx4a65c_get_915e3 l D ct (ad 6) (σ 6 0) (ad 8) (nI (nR σ)) (nI i) (nR σ) i (ad 20) (lq ad 100 (nR σ)) (ad (100 + i)) rfl rfl hlt4 hP.2.2.1.1.1 (by have := hP.2.2.1.1.2.1; omega) (if_pos hlt4)) (cwV 1 hts (GG w_189 w_190 w_191 w_64 w_192) rfl rfl rfl (by decide) ⟨Nat.le_of_ble_eq_true rfl, Nat.le_of_ble_eq_true rfl⟩) ⟨(blindT fun _ _ _ _ h => h), Ob.recv (hT).1 hP.o6 rfl, fun U hU hW => ⟨rfl, hT.warm hW, by rw [hU]; exact ⟨hP.o6, (hP.o8 (by omega))⟩⟩⟩ rfl rfl hl.1 rfl (lv_room (Nat.le_of_ble_eq_true rfl)) dX5_greatestDepthInTowns_20 ⟨Nat.le_of_ble_eq_true rfl, Nat.le_of_ble_eq_true rfl⟩) ?_
        refine va_castS hx hb hown (hts _ w_203) ((hT).1.1 4 _ rfl).2 (Ob.recv (hT).1 (hP.r hlt4) rfl) dX5_greatestDepthInTowns_23 ?_
        refine lv_astore (lv' := [(4, .ref (ad (100 + i))), (0, .ref (ad 0)), (1, .int t), (3, .int (nI i)), (2, .int acc)]) hx hb dX5_greatestDepthInTowns_26 hl (by decide) rfl (fun ls hl => ?_)
        refine lv_aload hx hb dX5_greatestDepthInTowns_28 (lv_at hl 0 rfl) ?_
        refine k_get (C := RX3) (T := TX3) (N := 8) hx hb hts inGX3 hown (hT).1 (hP.r hlt4) rfl 1 (by decide) (hts _ w_468) (fun _ h9 => h9) (v := .int (σ 1 (7 * i + 3))) rfl dX5_greatestDepthInTowns_30 ?_
        refine lv_iload_n hx hb dX5_greatestDepthInTowns_33 rfl (lv_at hl 2 rfl) ?_
        refine lv_icmp_ne (tgt := 56) hx hb dX5_greatestDepthInTowns_34 (by decide) (fun c_34 => ?_) (fun c_34 => ?_)
        · -- taken
          refine lv_iinc (v := nI (i + 1)) (lv' := [(3, .int (nI (i + 1))), (4, .ref (ad (100 + i))), (0, .ref (ad 0)), (1, .int t), (2, .int acc)]) hx hb dX5_greatestDepthInTowns_56 hl (k := 3) rfl (nI_1 i) (by decide) rfl (fun ls hl => ?_)
          refine lv_goto (tgt := 4) hx hb dX5_greatestDepthInTowns_59 (by decide) ?_
          exact ih4 (i + 1) acc (by omega) (by omega) (by rw [haacc]; exact (if_neg (fun z => c_34 z.1)).symm) ls (lv_sub hl [2, 3, 0, 4] rfl)
        · -- not taken
          refine lv_aload hx hb dX5_greatestDepthInTowns_37 (lv_at hl 0 rfl) ?_
          refine k_get (C := RX3) (T := TX3) (N := 8) hx hb hts inGX3 hown (hT).1 (hP.r hlt4) rfl 5 (by decide) (hts _ w_479) (fun _ h9 => h9) (v := .int (σ 1 (7 * i + 4))) rfl dX5_greatestDepthInTowns_39 ?_
          refine lv_iconst (v := (-1)) hx hb dX5_greatestDepthInTowns_42 (by decide) ?_
          refine lv_icmp_eq (tgt := 56) hx hb dX5_greatestDepthInTowns_43 (by decide) (fun c_43 => ?_) (fun c_43 => ?_)
          · -- taken
            refine lv_iinc (v := nI (i + 1)) (lv' := [(3, .int (nI (i + 1))), (4, .ref (ad (100 + i))), (0, .ref (ad 0)), (1, .int t), (2, .int acc)]) hx hb dX5_greatestDepthInTowns_56 hl (k := 3) rfl (nI_1 i) (by decide) rfl (fun ls hl => ?_)
            refine lv_goto (tgt := 4) hx hb dX5_greatestDepthInTowns_59 (by decide) ?_
            exact ih4 (i + 1) acc (by omega) (by omega) (by rw [haacc]; exact (if_neg (fun z => z.2 c_43)).symm) ls (lv_sub hl [2, 3, 0, 4] rfl)
          · -- not taken
            refine lv_iload_n hx hb dX5_greatestDepthInTowns_46 rfl (lv_at hl 4 rfl) ?_
            refine lv_aload hx hb dX5_greatestDepthInTowns_47 (lv_at hl 0 rfl) ?_
            refine k_get (C := RX3) (T := TX3) (N := 8) hx hb hts inGX3 hown (hT).1 (hP.r hlt4) rfl 3 (by decide) (hts _ w_474) (fun _ h9 => h9) (v := .int (σ 1 (7 * i + 1))) rfl dX5_greatestDepthInTowns_49 ?_
            refine va_mmax hx hb (hml.trans hl.1.symm) hown (hts _ w_736) (hts _ w_520) (hts _ w_73) (hts _ w_521) (Nat.le_of_ble_eq_true rfl) (Nat.le_of_ble_eq_true rfl) (Nat.le_of_ble_eq_true rfl) (Nat.le_of_ble_eq_true rfl) dX5_greatestDepthInTowns_52 ?_
            refine lv_istore_n (lv' := [(2, .int (if acc < (σ 1 (7 * i + 1)) then σ 1 (7 * i + 1) else acc)), (4, .ref (ad (100 + i))), (0, .ref (ad 0)), (1, .int t), (3, .int (nI i))]) hx hb dX5_greatestDepthInTowns_55 rfl hl (by decide) rfl (fun ls hl => ?_)
            refine lv_iinc (v := nI (i + 1)) (lv' := [(3, .int (nI (i + 1))), (2, .int (if acc < (σ 1 (7 * i + 1)) then σ 1 (7 * i + 1) else acc)), (4, .ref (ad (100 + i))), (0, .ref (ad 0)), (1, .int t)]) hx hb dX5_greatestDepthInTowns_56 hl (k := 4) rfl (nI_1 i) (by decide) rfl (fun ls hl => ?_)
            refine lv_goto (tgt := 4) hx hb dX5_greatestDepthInTowns_59 (by decide) ?_
            exact ih4 (i + 1) (if acc < (σ 1 (7 * i + 1)) then σ 1 (7 * i + 1) else acc) (by omega) (by omega) (by rw [haacc]; exact (if_pos ⟨c_34, c_43⟩).symm) ls (lv_sub hl [3, 4, 0, 1] rfl)
  exact loop4 (nR σ + 1 - 0) 0 (-1) (by omega) (by omega) rfl ls (lv_sub hl [2, 3, 0, 1] rfl)
end

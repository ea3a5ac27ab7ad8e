def GW : List Cond := lw_tbl.filter goodWord
theorem gw {w : Cond} (i : Nat) (h : lw_tbl[i]? = some w) (g : goodWord w = true) : w ∈ GW := List.mem_filter.mpr ⟨List.mem_of_getElem? h, g⟩
theorem gwt : ∀ w ∈ GW, w ∈ lw_tbl := fun w h => (List.mem_filter.mp h).1
theorem gwg : ∀ w ∈ GW, goodWord w = true := fun w h => (List.mem_filter.mp h).2
set_option maxRecDepth 20000 in
theorem w_0 : Cond.selects "RumourCustoms" yX5_figureOfLand yX5_figureOfLand ∈ GW := gw 0 rfl rfl
set_option maxRecDepth 20000 in
theorem w_1 : Cond.selects "RumourCustoms" yX5_goneRumours yX5_goneRumours ∈ GW := gw 1 rfl rfl
set_option maxRecDepth 20000 in
theorem w_2 : Cond.selects "RumourCustoms" yX5_carriersOnTheWay yX5_carriersOnTheWay ∈ GW := gw 2 rfl rfl
set_option maxRecDepth 20000 in
theorem w_3 : Cond.selects "RumourCustoms" yX5_digestRoads yX5_digestRoads ∈ GW := gw 3 rfl rfl
set_option maxRecDepth 20000 in
theorem w_4 : Cond.selects "RumourCustoms" yX5_digestRumours yX5_digestRumours ∈ GW := gw 4 rfl rfl
set_option maxRecDepth 20000 in
theorem w_5 : Cond.selects "RumourCustoms" yX5_digestCarriers yX5_digestCarriers ∈ GW := gw 5 rfl rfl
set_option maxRecDepth 20000 in
theorem w_6 : Cond.selects "RumourCustoms" yX5_figureOf yX5_figureOf ∈ GW := gw 6 rfl rfl
set_option maxRecDepth 20000 in
theorem w_7 : Cond.selects "RumourCustoms" yX5_inBag yX5_inBag ∈ GW := gw 7 rfl rfl
set_option maxRecDepth 20000 in
theorem w_8 : Cond.selects "RumourCustoms" yX5_hiddenInBag yX5_hiddenInBag ∈ GW := gw 8 rfl rfl
set_option maxRecDepth 20000 in
theorem w_9 : Cond.selects "java/lang/Throwable" ⟨"java/lang/Throwable", "fillInStackTrace", "(I)Ljava/lang/Throwable;"⟩ ⟨"java/lang/Throwable", "fillInStackTrace", "(I)Ljava/lang/Throwable;"⟩ ∈ GW := gw 9 rfl rfl
set_option maxRecDepth 20000 in
theorem w_10 : Cond.selects "RumourCustoms" yX5_requireTown yX5_requireTown ∈ GW := gw 10 rfl rfl
set_option maxRecDepth 20000 in
theorem w_11 : Cond.selects "java/util/ArrayList" yJx4a65c_add_72be8 yJx4a65c_add_72be8 ∈ GW := gw 11 rfl rfl
set_option maxRecDepth 20000 in
theorem w_12 : Cond.selects "java/util/ArrayList" yJx4a65c_grow_d5877 yJx4a65c_grow_d5877 ∈ GW := gw 12 rfl rfl
set_option maxRecDepth 20000 in
theorem w_13 : Cond.selects "java/util/ArrayList" yJx4a65c_grow_92f84 yJx4a65c_grow_92f84 ∈ GW := gw 13 rfl rfl
set_option maxRecDepth 20000 in
theorem w_14 : Cond.selects "RumourCustoms" yX5_rumourAt yX5_rumourAt ∈ GW := gw 14 rfl rfl
set_option maxRecDepth 20000 in
theorem w_15 : Cond.selects "RumourCustoms" yX5_rumoursIn yX5_rumoursIn ∈ GW := gw 15 rfl rfl
set_option maxRecDepth 20000 in
theorem w_16 : Cond.selects "RumourCustoms" yX5_familiesIn yX5_familiesIn ∈ GW := gw 16 rfl rfl
set_option maxRecDepth 20000 in
theorem w_17 : Cond.selects "RumourCustoms" yX5_deepestIn yX5_deepestIn ∈ GW := gw 17 rfl rfl
set_option maxRecDepth 20000 in
theorem w_18 : Cond.selects "RumourCustoms" yX5_carriersIn yX5_carriersIn ∈ GW := gw 18 rfl rfl
set_option maxRecDepth 20000 in
theorem w_19 : Cond.selects "RumourCustoms" yX5_leastDeepIn yX5_leastDeepIn ∈ GW := gw 19 rfl rfl
set_option maxRecDepth 20000 in
theorem w_20 : Cond.selects "RumourCustoms" yX5_carrierAt yX5_carrierAt ∈ GW := gw 20 rfl rfl
set_option maxRecDepth 20000 in
theorem w_21 : Cond.selects "RumourCustoms$Rumour" yX3_move yX3_move ∈ GW := gw 21 rfl rfl
set_option maxRecDepth 20000 in
theorem w_22 : Cond.selects "RumourCustoms" yX5_owedBy yX5_owedBy ∈ GW := gw 22 rfl rfl
set_option maxRecDepth 20000 in
theorem w_23 : Cond.selects "RumourCustoms" yX5_fineOf yX5_fineOf ∈ GW := gw 23 rfl rfl
set_option maxRecDepth 20000 in
theorem w_24 : Cond.selects "RumourCustoms" yX5_burnProofs yX5_burnProofs ∈ GW := gw 24 rfl rfl
set_option maxRecDepth 20000 in
theorem w_25 : Cond.selects "RumourCustoms" yX5_inspect yX5_inspect ∈ GW := gw 25 rfl rfl
set_option maxRecDepth 20000 in
theorem w_26 : Cond.selects "RumourCustoms" yX5_takeHidden yX5_takeHidden ∈ GW := gw 26 rfl rfl
set_option maxRecDepth 20000 in
theorem w_27 : Cond.selects "RumourCustoms" yX5_pay yX5_pay ∈ GW := gw 27 rfl rfl
set_option maxRecDepth 20000 in
theorem w_28 : Cond.selects "RumourCustoms$WaySearch" yX4_startIn yX4_startIn ∈ GW := gw 28 rfl rfl
set_option maxRecDepth 20000 in
theorem w_29 : Cond.selects "RumourCustoms$WaySearch" yX4_nextStage yX4_nextStage ∈ GW := gw 29 rfl rfl
set_option maxRecDepth 20000 in
theorem w_30 : Cond.selects "RumourCustoms$WaySearch" yX4_goOnFrom yX4_goOnFrom ∈ GW := gw 30 rfl rfl
set_option maxRecDepth 20000 in
theorem w_31 : Cond.selects "RumourCustoms$WaySearch" yX4_goBy yX4_goBy ∈ GW := gw 31 rfl rfl
set_option maxRecDepth 20000 in
theorem w_32 : Cond.selects "RumourCustoms" yX5_townsThatKnow yX5_townsThatKnow ∈ GW := gw 32 rfl rfl
set_option maxRecDepth 20000 in
theorem w_33 : Cond.selects "RumourCustoms" yX5_greatestDepthInTowns yX5_greatestDepthInTowns ∈ GW := gw 33 rfl rfl
set_option maxRecDepth 20000 in
theorem w_34 : Cond.selects "RumourCustoms" yX5_notGoneOf yX5_notGoneOf ∈ GW := gw 34 rfl rfl
set_option maxRecDepth 20000 in
theorem w_35 : Cond.selects "RumourCustomsModel" yX6_fail yX6_fail ∈ GW := gw 35 rfl rfl
set_option maxRecDepth 20000 in
theorem w_36 : Cond.selects "RumourCustomsModel" yX6_isTown yX6_isTown ∈ GW := gw 36 rfl rfl
set_option maxRecDepth 20000 in
theorem w_37 : Cond.selects "RumourCustomsModel" yX6_add yX6_add ∈ GW := gw 37 rfl rfl
set_option maxRecDepth 20000 in
theorem w_38 : Cond.selects "RumourCustomsModel" yX6_isRumour yX6_isRumour ∈ GW := gw 38 rfl rfl
set_option maxRecDepth 20000 in
theorem w_39 : Cond.selects "RumourCustomsModel" yX6_get yX6_get ∈ GW := gw 39 rfl rfl
set_option maxRecDepth 20000 in
theorem w_40 : Cond.selects "RumourCustomsModel" yX6_townTold yX6_townTold ∈ GW := gw 40 rfl rfl
set_option maxRecDepth 20000 in
theorem w_41 : Cond.selects "RumourCustomsModel" yX6_knows yX6_knows ∈ GW := gw 41 rfl rfl
set_option maxRecDepth 20000 in
theorem w_42 : Cond.selects "RumourCustomsModel" yX6_heardOf yX6_heardOf ∈ GW := gw 42 rfl rfl
set_option maxRecDepth 20000 in
theorem w_43 : Cond.selects "RumourCustomsModel" yX6_man yX6_man ∈ GW := gw 43 rfl rfl
set_option maxRecDepth 20000 in
theorem w_44 : Cond.selects "RumourCustomsModel" yX6_isCarrier yX6_isCarrier ∈ GW := gw 44 rfl rfl
set_option maxRecDepth 20000 in
theorem w_45 : Cond.selects "RumourCustomsModel" yX6_inBag yX6_inBag ∈ GW := gw 45 rfl rfl
set_option maxRecDepth 20000 in
theorem w_46 : Cond.selects "RumourCustomsModel" yX6_lay yX6_lay ∈ GW := gw 46 rfl rfl
set_option maxRecDepth 20000 in
theorem w_47 : Cond.selects "RumourCustomsModel" yX6_set yX6_set ∈ GW := gw 47 rfl rfl
set_option maxRecDepth 20000 in
theorem w_48 : Cond.selects "RumourCustomsModel" yX6_has yX6_has ∈ GW := gw 48 rfl rfl
set_option maxRecDepth 20000 in
theorem w_49 : Cond.selects "RumourCustomsModel" yX6_owed yX6_owed ∈ GW := gw 49 rfl rfl
set_option maxRecDepth 20000 in
theorem w_50 : Cond.selects "RumourCustomsModel" yX6_dutyAt yX6_dutyAt ∈ GW := gw 50 rfl rfl
set_option maxRecDepth 20000 in
theorem w_51 : Cond.selects "RumourCustomsModel" yX6_fine yX6_fine ∈ GW := gw 51 rfl rfl
set_option maxRecDepth 20000 in
theorem w_52 : Cond.selects "RumourCustomsModel" yX6_isSearched yX6_isSearched ∈ GW := gw 52 rfl rfl
set_option maxRecDepth 20000 in
theorem w_53 : Cond.selects "RumourCustomsModel" yX6_setMan yX6_setMan ∈ GW := gw 53 rfl rfl
set_option maxRecDepth 20000 in
theorem w_54 : Cond.selects "RumourCustomsModel" yX6_carrierTold yX6_carrierTold ∈ GW := gw 54 rfl rfl
set_option maxRecDepth 20000 in
theorem w_55 : Cond.selects "RumourCustomsModel" yX6_counted yX6_counted ∈ GW := gw 55 rfl rfl
set_option maxRecDepth 20000 in
theorem w_56 : Cond.selects "RumourCustomsModel" yX6_gone yX6_gone ∈ GW := gw 56 rfl rfl
set_option maxRecDepth 20000 in
theorem w_57 : Cond.selects "RumourCustomsModel" yX6_goOn yX6_goOn ∈ GW := gw 57 rfl rfl
set_option maxRecDepth 20000 in
theorem w_58 : Cond.initialized "RumourCustomsLaw" ∈ GW := gw 58 rfl rfl
set_option maxRecDepth 20000 in
theorem w_59 : Cond.initialized "RumourCustoms" ∈ GW := gw 59 rfl rfl
set_option maxRecDepth 20000 in
theorem w_60 : Cond.initialized "RumourCustoms$RoadMap" ∈ GW := gw 60 rfl rfl
set_option maxRecDepth 20000 in
theorem w_61 : Cond.initialized "RumourCustoms$WaySearch" ∈ GW := gw 61 rfl rfl
set_option maxRecDepth 20000 in
theorem w_62 : Cond.initialized "java/util/AbstractCollection" ∈ GW := gw 62 rfl rfl
set_option maxRecDepth 20000 in
theorem w_63 : Cond.initialized "java/util/AbstractList" ∈ GW := gw 63 rfl rfl
set_option maxRecDepth 20000 in
theorem w_64 : Cond.initialized "java/util/ArrayList" ∈ GW := gw 64 rfl rfl
set_option maxRecDepth 20000 in
theorem w_65 : Cond.initialized "RumourCustomsModel" ∈ GW := gw 65 rfl rfl
set_option maxRecDepth 20000 in
theorem w_66 : Cond.initialized "java/lang/Throwable" ∈ GW := gw 66 rfl rfl
set_option maxRecDepth 20000 in
theorem w_67 : Cond.initialized "java/lang/Exception" ∈ GW := gw 67 rfl rfl
set_option maxRecDepth 20000 in
theorem w_68 : Cond.initialized "java/lang/RuntimeException" ∈ GW := gw 68 rfl rfl
set_option maxRecDepth 20000 in
theorem w_69 : Cond.initialized "java/lang/IllegalStateException" ∈ GW := gw 69 rfl rfl
set_option maxRecDepth 20000 in
theorem w_70 : Cond.initialized "java/lang/IndexOutOfBoundsException" ∈ GW := gw 70 rfl rfl
set_option maxRecDepth 20000 in
theorem w_71 : Cond.initialized "java/lang/IllegalArgumentException" ∈ GW := gw 71 rfl rfl
set_option maxRecDepth 20000 in
theorem w_72 : Cond.initialized "RumourCustoms$Road" ∈ GW := gw 72 rfl rfl
set_option maxRecDepth 20000 in
theorem w_73 : Cond.initialized "java/lang/Math" ∈ GW := gw 73 rfl rfl
set_option maxRecDepth 20000 in
theorem w_74 : Cond.initialized "java/lang/System" ∈ GW := gw 74 rfl rfl
set_option maxRecDepth 20000 in
theorem w_75 : Cond.initialized "RumourCustoms$Rumour" ∈ GW := gw 75 rfl rfl
set_option maxRecDepth 20000 in
theorem w_76 : Cond.initialized "jdk/internal/util/ArraysSupport" ∈ GW := gw 76 rfl rfl
set_option maxRecDepth 20000 in
theorem w_77 : Cond.initialized "java/util/Arrays" ∈ GW := gw 77 rfl rfl
set_option maxRecDepth 20000 in
theorem w_78 : Cond.initialized "java/util/Objects" ∈ GW := gw 78 rfl rfl
set_option maxRecDepth 20000 in
theorem w_79 : Cond.initialized "jdk/internal/util/Preconditions" ∈ GW := gw 79 rfl rfl
set_option maxRecDepth 20000 in
theorem w_80 : Cond.initialized "java/lang/Long" ∈ GW := gw 80 rfl rfl
set_option maxRecDepth 20000 in
theorem w_81 : Cond.initialized "RumourCustoms$Carrier" ∈ GW := gw 81 rfl rfl
set_option maxRecDepth 20000 in
theorem w_82 : Cond.initialized "java/lang/Integer" ∈ GW := gw 82 rfl rfl
set_option maxRecDepth 20000 in
theorem w_83 : Cond.classLink "RumourCustomsLaw" 8 "RumourCustoms" ∈ GW := gw 83 rfl rfl
set_option maxRecDepth 20000 in
theorem w_84 : Cond.instantiable "RumourCustoms" 11 ∈ GW := gw 84 rfl rfl
set_option maxRecDepth 20000 in
theorem w_85 : Cond.methodLink "RumourCustomsLaw" 79 yX5_init ∈ GW := gw 85 rfl rfl
set_option maxRecDepth 20000 in
theorem w_86 : Cond.instanceMethod yX5_init ∈ GW := gw 86 rfl rfl
set_option maxRecDepth 20000 in
theorem w_87 : Cond.code yX5_init cX5_init 1 none ∈ GW := gw 87 rfl rfl
set_option maxRecDepth 20000 in
theorem w_88 : Cond.methodLink "RumourCustoms" 1 objectInit ∈ GW := gw 88 rfl rfl
set_option maxRecDepth 20000 in
theorem w_89 : Cond.instanceMethod objectInit ∈ GW := gw 89 rfl rfl
set_option maxRecDepth 20000 in
theorem w_90 : Cond.code objectInit object_method_1_code 1 none ∈ GW := gw 90 rfl rfl
set_option maxRecDepth 20000 in
theorem w_91 : Cond.classLink "RumourCustoms" 7 "RumourCustoms$RoadMap" ∈ GW := gw 91 rfl rfl
set_option maxRecDepth 20000 in
theorem w_92 : Cond.instantiable "RumourCustoms$RoadMap" 1 ∈ GW := gw 92 rfl rfl
set_option maxRecDepth 20000 in
theorem w_93 : Cond.methodLink "RumourCustoms" 9 yX2_init ∈ GW := gw 93 rfl rfl
set_option maxRecDepth 20000 in
theorem w_94 : Cond.instanceMethod yX2_init ∈ GW := gw 94 rfl rfl
set_option maxRecDepth 20000 in
theorem w_95 : Cond.code yX2_init cX2_init 1 none ∈ GW := gw 95 rfl rfl
set_option maxRecDepth 20000 in
theorem w_96 : Cond.methodLink "RumourCustoms$RoadMap" 3 objectInit ∈ GW := gw 96 rfl rfl
set_option maxRecDepth 20000 in
theorem w_97 : Cond.classLink "RumourCustoms$RoadMap" 9 "RumourCustoms$Road" ∈ GW := gw 97 rfl rfl
set_option maxRecDepth 20000 in
theorem w_99 : Cond.fieldLink "RumourCustoms$RoadMap" 11 "RumourCustoms$RoadMap" "roads" "[LRumourCustoms$Road;" ∈ GW := gw 99 rfl rfl
set_option maxRecDepth 20000 in
theorem w_100 : Cond.laysFinal "RumourCustoms$RoadMap" "RumourCustoms$RoadMap" "roads" "[LRumourCustoms$Road;" ∈ GW := gw 100 rfl rfl
set_option maxRecDepth 20000 in
theorem w_101 : Cond.soleField "RumourCustoms$RoadMap" "roads" ∈ GW := gw 101 rfl rfl
set_option maxRecDepth 20000 in
theorem w_102 : Cond.superclass "RumourCustoms$RoadMap" "java/lang/Object" ∈ GW := gw 102 rfl rfl
set_option maxRecDepth 20000 in
theorem w_103 : Cond.classLink "RumourCustoms" 16 "RumourCustoms$WaySearch" ∈ GW := gw 103 rfl rfl
set_option maxRecDepth 20000 in
theorem w_104 : Cond.instantiable "RumourCustoms$WaySearch" 3 ∈ GW := gw 104 rfl rfl
set_option maxRecDepth 20000 in
theorem w_105 : Cond.methodLink "RumourCustoms" 18 yX4_init ∈ GW := gw 105 rfl rfl
set_option maxRecDepth 20000 in
theorem w_106 : Cond.instanceMethod yX4_init ∈ GW := gw 106 rfl rfl
set_option maxRecDepth 20000 in
theorem w_107 : Cond.code yX4_init cX4_init 2 none ∈ GW := gw 107 rfl rfl
set_option maxRecDepth 20000 in
theorem w_108 : Cond.methodLink "RumourCustoms$WaySearch" 3 objectInit ∈ GW := gw 108 rfl rfl
set_option maxRecDepth 20000 in
theorem w_109 : Cond.fieldLink "RumourCustoms$WaySearch" 9 "RumourCustoms$WaySearch" "map" "LRumourCustoms$RoadMap;" ∈ GW := gw 109 rfl rfl
set_option maxRecDepth 20000 in
theorem w_110 : Cond.fieldLink "RumourCustoms$WaySearch" 15 "RumourCustoms$WaySearch" "prices" "[I" ∈ GW := gw 110 rfl rfl
set_option maxRecDepth 20000 in
theorem w_111 : Cond.fieldLink "RumourCustoms$WaySearch" 19 "RumourCustoms$WaySearch" "areSettled" "[Z" ∈ GW := gw 111 rfl rfl
set_option maxRecDepth 20000 in
theorem w_112 : Cond.laysFinal "RumourCustoms$WaySearch" "RumourCustoms$WaySearch" "map" "LRumourCustoms$RoadMap;" ∈ GW := gw 112 rfl rfl
set_option maxRecDepth 20000 in
theorem w_113 : Cond.soleField "RumourCustoms$WaySearch" "map" ∈ GW := gw 113 rfl rfl
set_option maxRecDepth 20000 in
theorem w_114 : Cond.laysFinal "RumourCustoms$WaySearch" "RumourCustoms$WaySearch" "prices" "[I" ∈ GW := gw 114 rfl rfl
set_option maxRecDepth 20000 in
theorem w_115 : Cond.soleField "RumourCustoms$WaySearch" "prices" ∈ GW := gw 115 rfl rfl
set_option maxRecDepth 20000 in
theorem w_116 : Cond.laysFinal "RumourCustoms$WaySearch" "RumourCustoms$WaySearch" "areSettled" "[Z" ∈ GW := gw 116 rfl rfl
set_option maxRecDepth 20000 in
theorem w_117 : Cond.soleField "RumourCustoms$WaySearch" "areSettled" ∈ GW := gw 117 rfl rfl
set_option maxRecDepth 20000 in
theorem w_118 : Cond.superclass "RumourCustoms$WaySearch" "java/lang/Object" ∈ GW := gw 118 rfl rfl
set_option maxRecDepth 20000 in
theorem w_119 : Cond.arrayClass .int ∈ GW := gw 119 rfl rfl
set_option maxRecDepth 20000 in
theorem w_120 : Cond.arrayClass .boolean ∈ GW := gw 120 rfl rfl
set_option maxRecDepth 20000 in
theorem w_121 : Cond.classLink "RumourCustoms" 25 "java/util/ArrayList" ∈ GW := gw 121 rfl rfl
set_option maxRecDepth 20000 in
theorem w_122 : Cond.instantiable "java/util/ArrayList" 3 ∈ GW := gw 122 rfl rfl
set_option maxRecDepth 20000 in
theorem w_123 : Cond.methodLink "RumourCustoms" 27 yJx4a65c_init_da8c8 ∈ GW := gw 123 rfl rfl
set_option maxRecDepth 20000 in
theorem w_124 : Cond.instanceMethod yJx4a65c_init_da8c8 ∈ GW := gw 124 rfl rfl
set_option maxRecDepth 20000 in
theorem w_125 : Cond.code yJx4a65c_init_da8c8 cJx4a65c_init_da8c8 1 none ∈ GW := gw 125 rfl rfl
set_option maxRecDepth 20000 in
theorem w_126 : Cond.methodLink "java/util/ArrayList" 1 yJxc12de_init_da8c8 ∈ GW := gw 126 rfl rfl
set_option maxRecDepth 20000 in
theorem w_127 : Cond.instanceMethod yJxc12de_init_da8c8 ∈ GW := gw 127 rfl rfl
set_option maxRecDepth 20000 in
theorem w_128 : Cond.code yJxc12de_init_da8c8 cJxc12de_init_da8c8 1 none ∈ GW := gw 128 rfl rfl
set_option maxRecDepth 20000 in
theorem w_129 : Cond.methodLink "java/util/AbstractList" 1 yJxa1e45_init_da8c8 ∈ GW := gw 129 rfl rfl
set_option maxRecDepth 20000 in
theorem w_130 : Cond.instanceMethod yJxa1e45_init_da8c8 ∈ GW := gw 130 rfl rfl
set_option maxRecDepth 20000 in
theorem w_131 : Cond.code yJxa1e45_init_da8c8 cJxa1e45_init_da8c8 1 none ∈ GW := gw 131 rfl rfl
set_option maxRecDepth 20000 in
theorem w_132 : Cond.methodLink "java/util/AbstractCollection" 1 objectInit ∈ GW := gw 132 rfl rfl
set_option maxRecDepth 20000 in
theorem w_133 : Cond.fieldLink "java/util/ArrayList" 39 "java/util/ArrayList" "DEFAULTCAPACITY_EMPTY_ELEMENTDATA" "[Ljava/lang/Object;" ∈ GW := gw 133 rfl rfl
set_option maxRecDepth 20000 in
theorem w_135 : Cond.fieldLink "java/util/ArrayList" 9 "java/util/ArrayList" "elementData" "[Ljava/lang/Object;" ∈ GW := gw 135 rfl rfl
set_option maxRecDepth 20000 in
theorem w_136 : Cond.fieldLink "java/util/ArrayList" 48 "java/util/ArrayList" "size" "I" ∈ GW := gw 136 rfl rfl
set_option maxRecDepth 20000 in
theorem w_137 : Cond.fieldLink "java/util/AbstractList" 7 "java/util/AbstractList" "modCount" "I" ∈ GW := gw 137 rfl rfl
set_option maxRecDepth 20000 in
theorem w_138 : Cond.fieldLink "java/util/ArrayList" 63 "java/util/ArrayList" "modCount" "I" ∈ GW := gw 138 rfl rfl
set_option maxRecDepth 20000 in
theorem w_139 : Cond.sameField "java/util/ArrayList" "java/util/AbstractList" "modCount" "I" ∈ GW := gw 139 rfl rfl
set_option maxRecDepth 20000 in
theorem w_140 : Cond.lays "java/util/ArrayList" "java/util/ArrayList" "elementData" "[Ljava/lang/Object;" ∈ GW := gw 140 rfl rfl
set_option maxRecDepth 20000 in
theorem w_141 : Cond.soleField "java/util/ArrayList" "elementData" ∈ GW := gw 141 rfl rfl
set_option maxRecDepth 20000 in
theorem w_142 : Cond.lays "java/util/ArrayList" "java/util/ArrayList" "size" "I" ∈ GW := gw 142 rfl rfl
set_option maxRecDepth 20000 in
theorem w_143 : Cond.soleField "java/util/ArrayList" "size" ∈ GW := gw 143 rfl rfl
set_option maxRecDepth 20000 in
theorem w_144 : Cond.lays "java/util/ArrayList" "java/util/AbstractList" "modCount" "I" ∈ GW := gw 144 rfl rfl
set_option maxRecDepth 20000 in
theorem w_145 : Cond.soleField "java/util/AbstractList" "modCount" ∈ GW := gw 145 rfl rfl
set_option maxRecDepth 20000 in
theorem w_146 : Cond.superclass "java/util/ArrayList" "java/util/AbstractList" ∈ GW := gw 146 rfl rfl
set_option maxRecDepth 20000 in
theorem w_147 : Cond.fieldLink "RumourCustoms" 10 "RumourCustoms" "map" "LRumourCustoms$RoadMap;" ∈ GW := gw 147 rfl rfl
set_option maxRecDepth 20000 in
theorem w_148 : Cond.fieldLink "RumourCustoms" 21 "RumourCustoms" "ways" "LRumourCustoms$WaySearch;" ∈ GW := gw 148 rfl rfl
set_option maxRecDepth 20000 in
theorem w_149 : Cond.fieldLink "RumourCustoms" 28 "RumourCustoms" "rumours" "Ljava/util/ArrayList;" ∈ GW := gw 149 rfl rfl
set_option maxRecDepth 20000 in
theorem w_150 : Cond.fieldLink "RumourCustoms" 32 "RumourCustoms" "carriers" "Ljava/util/ArrayList;" ∈ GW := gw 150 rfl rfl
set_option maxRecDepth 20000 in
theorem w_151 : Cond.fieldLink "RumourCustoms" 35 "RumourCustoms" "townCount" "I" ∈ GW := gw 151 rfl rfl
set_option maxRecDepth 20000 in
theorem w_152 : Cond.fieldLink "RumourCustoms" 74 "RumourCustoms" "roadCount" "I" ∈ GW := gw 152 rfl rfl
set_option maxRecDepth 20000 in
theorem w_153 : Cond.fieldLink "RumourCustoms" 218 "RumourCustoms" "hour" "I" ∈ GW := gw 153 rfl rfl
set_option maxRecDepth 20000 in
theorem w_154 : Cond.fieldLink "RumourCustoms" 321 "RumourCustoms" "proofsBurnt" "I" ∈ GW := gw 154 rfl rfl
set_option maxRecDepth 20000 in
theorem w_155 : Cond.fieldLink "RumourCustoms" 341 "RumourCustoms" "dutiesPaid" "I" ∈ GW := gw 155 rfl rfl
set_option maxRecDepth 20000 in
theorem w_156 : Cond.fieldLink "RumourCustoms" 344 "RumourCustoms" "finesPaid" "I" ∈ GW := gw 156 rfl rfl
set_option maxRecDepth 20000 in
theorem w_157 : Cond.fieldLink "RumourCustoms" 327 "RumourCustoms" "searches" "I" ∈ GW := gw 157 rfl rfl
set_option maxRecDepth 20000 in
theorem w_158 : Cond.laysFinal "RumourCustoms" "RumourCustoms" "map" "LRumourCustoms$RoadMap;" ∈ GW := gw 158 rfl rfl
set_option maxRecDepth 20000 in
theorem w_159 : Cond.soleField "RumourCustoms" "map" ∈ GW := gw 159 rfl rfl
set_option maxRecDepth 20000 in
theorem w_160 : Cond.laysFinal "RumourCustoms" "RumourCustoms" "ways" "LRumourCustoms$WaySearch;" ∈ GW := gw 160 rfl rfl
set_option maxRecDepth 20000 in
theorem w_161 : Cond.soleField "RumourCustoms" "ways" ∈ GW := gw 161 rfl rfl
set_option maxRecDepth 20000 in
theorem w_162 : Cond.laysFinal "RumourCustoms" "RumourCustoms" "rumours" "Ljava/util/ArrayList;" ∈ GW := gw 162 rfl rfl
set_option maxRecDepth 20000 in
theorem w_163 : Cond.soleField "RumourCustoms" "rumours" ∈ GW := gw 163 rfl rfl
set_option maxRecDepth 20000 in
theorem w_164 : Cond.laysFinal "RumourCustoms" "RumourCustoms" "carriers" "Ljava/util/ArrayList;" ∈ GW := gw 164 rfl rfl
set_option maxRecDepth 20000 in
theorem w_165 : Cond.soleField "RumourCustoms" "carriers" ∈ GW := gw 165 rfl rfl
set_option maxRecDepth 20000 in
theorem w_166 : Cond.lays "RumourCustoms" "RumourCustoms" "townCount" "I" ∈ GW := gw 166 rfl rfl
set_option maxRecDepth 20000 in
theorem w_167 : Cond.soleField "RumourCustoms" "townCount" ∈ GW := gw 167 rfl rfl
set_option maxRecDepth 20000 in
theorem w_168 : Cond.lays "RumourCustoms" "RumourCustoms" "roadCount" "I" ∈ GW := gw 168 rfl rfl
set_option maxRecDepth 20000 in
theorem w_169 : Cond.soleField "RumourCustoms" "roadCount" ∈ GW := gw 169 rfl rfl
set_option maxRecDepth 20000 in
theorem w_170 : Cond.lays "RumourCustoms" "RumourCustoms" "hour" "I" ∈ GW := gw 170 rfl rfl
set_option maxRecDepth 20000 in
theorem w_171 : Cond.soleField "RumourCustoms" "hour" ∈ GW := gw 171 rfl rfl
set_option maxRecDepth 20000 in
theorem w_172 : Cond.lays "RumourCustoms" "RumourCustoms" "proofsBurnt" "I" ∈ GW := gw 172 rfl rfl
set_option maxRecDepth 20000 in
theorem w_173 : Cond.soleField "RumourCustoms" "proofsBurnt" ∈ GW := gw 173 rfl rfl
set_option maxRecDepth 20000 in
theorem w_174 : Cond.lays "RumourCustoms" "RumourCustoms" "dutiesPaid" "I" ∈ GW := gw 174 rfl rfl
set_option maxRecDepth 20000 in
theorem w_175 : Cond.soleField "RumourCustoms" "dutiesPaid" ∈ GW := gw 175 rfl rfl
set_option maxRecDepth 20000 in
theorem w_176 : Cond.lays "RumourCustoms" "RumourCustoms" "finesPaid" "I" ∈ GW := gw 176 rfl rfl
set_option maxRecDepth 20000 in
theorem w_177 : Cond.soleField "RumourCustoms" "finesPaid" ∈ GW := gw 177 rfl rfl
set_option maxRecDepth 20000 in
theorem w_178 : Cond.lays "RumourCustoms" "RumourCustoms" "searches" "I" ∈ GW := gw 178 rfl rfl
set_option maxRecDepth 20000 in
theorem w_179 : Cond.soleField "RumourCustoms" "searches" ∈ GW := gw 179 rfl rfl
set_option maxRecDepth 20000 in
theorem w_180 : Cond.superclass "RumourCustoms" "java/lang/Object" ∈ GW := gw 180 rfl rfl
set_option maxRecDepth 20000 in
theorem w_181 : Cond.methodLink "RumourCustomsLaw" 152 yX5_hearsay ∈ GW := gw 181 rfl rfl
set_option maxRecDepth 20000 in
theorem w_182 : Cond.instanceMethod yX5_hearsay ∈ GW := gw 182 rfl rfl
set_option maxRecDepth 20000 in
theorem w_183 : Cond.selects "RumourCustoms" yX5_hearsay yX5_hearsay ∈ GW := gw 183 rfl rfl
set_option maxRecDepth 20000 in
theorem w_184 : Cond.code yX5_hearsay cX5_hearsay 5 (some .double) ∈ GW := gw 184 rfl rfl
set_option maxRecDepth 20000 in
theorem w_185 : Cond.methodLink "RumourCustoms" 85 yJx4a65c_size_8abf5 ∈ GW := gw 185 rfl rfl
set_option maxRecDepth 20000 in
theorem w_186 : Cond.instanceMethod yJx4a65c_size_8abf5 ∈ GW := gw 186 rfl rfl
set_option maxRecDepth 20000 in
theorem w_187 : Cond.selects "java/util/ArrayList" yJx4a65c_size_8abf5 yJx4a65c_size_8abf5 ∈ GW := gw 187 rfl rfl
set_option maxRecDepth 20000 in
theorem w_188 : Cond.code yJx4a65c_size_8abf5 cJx4a65c_size_8abf5 1 (some .int) ∈ GW := gw 188 rfl rfl
set_option maxRecDepth 20000 in
theorem w_189 : Cond.methodLink "RumourCustoms" 221 yJx4a65c_get_915e3 ∈ GW := gw 189 rfl rfl
set_option maxRecDepth 20000 in
theorem w_190 : Cond.instanceMethod yJx4a65c_get_915e3 ∈ GW := gw 190 rfl rfl
set_option maxRecDepth 20000 in
theorem w_191 : Cond.selects "java/util/ArrayList" yJx4a65c_get_915e3 yJx4a65c_get_915e3 ∈ GW := gw 191 rfl rfl
set_option maxRecDepth 20000 in
theorem w_192 : Cond.code yJx4a65c_get_915e3 cJx4a65c_get_915e3 2 (some (.object "java/lang/Object")) ∈ GW := gw 192 rfl rfl
set_option maxRecDepth 20000 in
theorem w_193 : Cond.methodLink "java/util/ArrayList" 118 yJ15_checkIndex_7cf53 ∈ GW := gw 193 rfl rfl
set_option maxRecDepth 20000 in
theorem w_194 : Cond.static yJ15_checkIndex_7cf53 ∈ GW := gw 194 rfl rfl
set_option maxRecDepth 20000 in
theorem w_195 : Cond.code yJ15_checkIndex_7cf53 cJ15_checkIndex_7cf53 2 (some .int) ∈ GW := gw 195 rfl rfl
set_option maxRecDepth 20000 in
theorem w_196 : Cond.methodLink "java/util/Objects" 105 yJ3_checkIndex_8e157 ∈ GW := gw 196 rfl rfl
set_option maxRecDepth 20000 in
theorem w_197 : Cond.static yJ3_checkIndex_8e157 ∈ GW := gw 197 rfl rfl
set_option maxRecDepth 20000 in
theorem w_198 : Cond.code yJ3_checkIndex_8e157 cJ3_checkIndex_8e157 3 (some .int) ∈ GW := gw 198 rfl rfl
set_option maxRecDepth 20000 in
theorem w_199 : Cond.methodLink "java/util/ArrayList" 123 yJx4a65c_elementData_915e3 ∈ GW := gw 199 rfl rfl
set_option maxRecDepth 20000 in
theorem w_200 : Cond.instanceMethod yJx4a65c_elementData_915e3 ∈ GW := gw 200 rfl rfl
set_option maxRecDepth 20000 in
theorem w_201 : Cond.selects "java/util/ArrayList" yJx4a65c_elementData_915e3 yJx4a65c_elementData_915e3 ∈ GW := gw 201 rfl rfl
set_option maxRecDepth 20000 in
theorem w_202 : Cond.code yJx4a65c_elementData_915e3 cJx4a65c_elementData_915e3 2 (some (.object "java/lang/Object")) ∈ GW := gw 202 rfl rfl
set_option maxRecDepth 20000 in
theorem w_203 : Cond.classLink "RumourCustoms" 91 "RumourCustoms$Rumour" ∈ GW := gw 203 rfl rfl
set_option maxRecDepth 20000 in
theorem w_204 : Cond.methodLink "RumourCustomsLaw" 157 yX5_digest ∈ GW := gw 204 rfl rfl
set_option maxRecDepth 20000 in
theorem w_205 : Cond.instanceMethod yX5_digest ∈ GW := gw 205 rfl rfl
set_option maxRecDepth 20000 in
theorem w_206 : Cond.selects "RumourCustoms" yX5_digest yX5_digest ∈ GW := gw 206 rfl rfl
set_option maxRecDepth 20000 in
theorem w_207 : Cond.code yX5_digest cX5_digest 4 (some .long) ∈ GW := gw 207 rfl rfl
set_option maxRecDepth 20000 in
theorem w_208 : Cond.constantLong "RumourCustoms" 251 (499 : Int64) ∈ GW := gw 208 rfl rfl
set_option maxRecDepth 20000 in
theorem w_209 : Cond.constantLong "RumourCustoms" 253 (31 : Int64) ∈ GW := gw 209 rfl rfl
set_option maxRecDepth 20000 in
theorem w_210 : Cond.methodLink "RumourCustoms" 229 yX5_figureOfLand ∈ GW := gw 210 rfl rfl
set_option maxRecDepth 20000 in
theorem w_212 : Cond.instanceMethod yX5_figureOfLand ∈ GW := gw 212 rfl rfl
set_option maxRecDepth 20000 in
theorem w_213 : Cond.code yX5_figureOfLand cX5_figureOfLand 2 (some .int) ∈ GW := gw 213 rfl rfl
set_option maxRecDepth 20000 in
theorem w_214 : Cond.methodLink "RumourCustoms" 358 yX5_goneRumours ∈ GW := gw 214 rfl rfl
set_option maxRecDepth 20000 in
theorem w_216 : Cond.instanceMethod yX5_goneRumours ∈ GW := gw 216 rfl rfl
set_option maxRecDepth 20000 in
theorem w_217 : Cond.code yX5_goneRumours cX5_goneRumours 3 (some .int) ∈ GW := gw 217 rfl rfl
set_option maxRecDepth 20000 in
theorem w_218 : Cond.methodLink "RumourCustoms" 351 yX3_isGone ∈ GW := gw 218 rfl rfl
set_option maxRecDepth 20000 in
theorem w_219 : Cond.instanceMethod yX3_isGone ∈ GW := gw 219 rfl rfl
set_option maxRecDepth 20000 in
theorem w_220 : Cond.selects "RumourCustoms$Rumour" yX3_isGone yX3_isGone ∈ GW := gw 220 rfl rfl
set_option maxRecDepth 20000 in
theorem w_221 : Cond.code yX3_isGone cX3_isGone 1 (some .boolean) ∈ GW := gw 221 rfl rfl
set_option maxRecDepth 20000 in
theorem w_222 : Cond.methodLink "RumourCustoms" 361 yX5_carriersOnTheWay ∈ GW := gw 222 rfl rfl
set_option maxRecDepth 20000 in
theorem w_224 : Cond.instanceMethod yX5_carriersOnTheWay ∈ GW := gw 224 rfl rfl
set_option maxRecDepth 20000 in
theorem w_225 : Cond.code yX5_carriersOnTheWay cX5_carriersOnTheWay 3 (some .int) ∈ GW := gw 225 rfl rfl
set_option maxRecDepth 20000 in
theorem w_226 : Cond.classLink "RumourCustoms" 130 "RumourCustoms$Carrier" ∈ GW := gw 226 rfl rfl
set_option maxRecDepth 20000 in
theorem w_227 : Cond.methodLink "RumourCustoms" 278 yX0_isOnTheWay ∈ GW := gw 227 rfl rfl
set_option maxRecDepth 20000 in
theorem w_228 : Cond.instanceMethod yX0_isOnTheWay ∈ GW := gw 228 rfl rfl
set_option maxRecDepth 20000 in
theorem w_229 : Cond.selects "RumourCustoms$Carrier" yX0_isOnTheWay yX0_isOnTheWay ∈ GW := gw 229 rfl rfl
set_option maxRecDepth 20000 in
theorem w_230 : Cond.code yX0_isOnTheWay cX0_isOnTheWay 1 (some .boolean) ∈ GW := gw 230 rfl rfl
set_option maxRecDepth 20000 in
theorem w_231 : Cond.methodLink "RumourCustoms" 255 yX5_digestRoads ∈ GW := gw 231 rfl rfl
set_option maxRecDepth 20000 in
theorem w_233 : Cond.instanceMethod yX5_digestRoads ∈ GW := gw 233 rfl rfl
set_option maxRecDepth 20000 in
theorem w_234 : Cond.code yX5_digestRoads cX5_digestRoads 8 (some .long) ∈ GW := gw 234 rfl rfl
set_option maxRecDepth 20000 in
theorem w_235 : Cond.methodLink "RumourCustoms" 59 yX2_between ∈ GW := gw 235 rfl rfl
set_option maxRecDepth 20000 in
theorem w_236 : Cond.instanceMethod yX2_between ∈ GW := gw 236 rfl rfl
set_option maxRecDepth 20000 in
theorem w_237 : Cond.selects "RumourCustoms$RoadMap" yX2_between yX2_between ∈ GW := gw 237 rfl rfl
set_option maxRecDepth 20000 in
theorem w_238 : Cond.code yX2_between cX2_between 3 (some (.object "RumourCustoms$Road")) ∈ GW := gw 238 rfl rfl
set_option maxRecDepth 20000 in
theorem w_239 : Cond.methodLink "RumourCustoms$RoadMap" 17 yX2_isOnMap ∈ GW := gw 239 rfl rfl
set_option maxRecDepth 20000 in
theorem w_240 : Cond.static yX2_isOnMap ∈ GW := gw 240 rfl rfl
set_option maxRecDepth 20000 in
theorem w_241 : Cond.code yX2_isOnMap cX2_isOnMap 1 (some .boolean) ∈ GW := gw 241 rfl rfl
set_option maxRecDepth 20000 in
theorem w_242 : Cond.methodLink "RumourCustoms" 364 yX5_digestRoad ∈ GW := gw 242 rfl rfl
set_option maxRecDepth 20000 in
theorem w_243 : Cond.static yX5_digestRoad ∈ GW := gw 243 rfl rfl
set_option maxRecDepth 20000 in
theorem w_244 : Cond.code yX5_digestRoad cX5_digestRoad 6 (some .long) ∈ GW := gw 244 rfl rfl
set_option maxRecDepth 20000 in
theorem w_245 : Cond.methodLink "RumourCustoms" 81 yX1_figure ∈ GW := gw 245 rfl rfl
set_option maxRecDepth 20000 in
theorem w_246 : Cond.instanceMethod yX1_figure ∈ GW := gw 246 rfl rfl
set_option maxRecDepth 20000 in
theorem w_247 : Cond.selects "RumourCustoms$Road" yX1_figure yX1_figure ∈ GW := gw 247 rfl rfl
set_option maxRecDepth 20000 in
theorem w_248 : Cond.code yX1_figure cX1_figure 2 (some .int) ∈ GW := gw 248 rfl rfl
set_option maxRecDepth 20000 in
theorem w_249 : Cond.methodLink "RumourCustoms" 259 yX5_digestRumours ∈ GW := gw 249 rfl rfl
set_option maxRecDepth 20000 in
theorem w_251 : Cond.instanceMethod yX5_digestRumours ∈ GW := gw 251 rfl rfl
set_option maxRecDepth 20000 in
theorem w_252 : Cond.code yX5_digestRumours cX5_digestRumours 8 (some .long) ∈ GW := gw 252 rfl rfl
set_option maxRecDepth 20000 in
theorem w_253 : Cond.methodLink "RumourCustoms" 104 yX3_figure ∈ GW := gw 253 rfl rfl
set_option maxRecDepth 20000 in
theorem w_254 : Cond.instanceMethod yX3_figure ∈ GW := gw 254 rfl rfl
set_option maxRecDepth 20000 in
theorem w_255 : Cond.selects "RumourCustoms$Rumour" yX3_figure yX3_figure ∈ GW := gw 255 rfl rfl
set_option maxRecDepth 20000 in
theorem w_256 : Cond.code yX3_figure cX3_figure 2 (some .int) ∈ GW := gw 256 rfl rfl
set_option maxRecDepth 20000 in
theorem w_257 : Cond.methodLink "RumourCustoms" 262 yX5_digestCarriers ∈ GW := gw 257 rfl rfl
set_option maxRecDepth 20000 in
theorem w_259 : Cond.instanceMethod yX5_digestCarriers ∈ GW := gw 259 rfl rfl
set_option maxRecDepth 20000 in
theorem w_260 : Cond.code yX5_digestCarriers cX5_digestCarriers 8 (some .long) ∈ GW := gw 260 rfl rfl
set_option maxRecDepth 20000 in
theorem w_261 : Cond.methodLink "RumourCustoms" 214 yX5_figureOf ∈ GW := gw 261 rfl rfl
set_option maxRecDepth 20000 in
theorem w_263 : Cond.instanceMethod yX5_figureOf ∈ GW := gw 263 rfl rfl
set_option maxRecDepth 20000 in
theorem w_264 : Cond.code yX5_figureOf cX5_figureOf 3 (some .int) ∈ GW := gw 264 rfl rfl
set_option maxRecDepth 20000 in
theorem w_265 : Cond.methodLink "RumourCustoms" 148 yX5_inBag ∈ GW := gw 265 rfl rfl
set_option maxRecDepth 20000 in
theorem w_267 : Cond.instanceMethod yX5_inBag ∈ GW := gw 267 rfl rfl
set_option maxRecDepth 20000 in
theorem w_268 : Cond.code yX5_inBag cX5_inBag 4 (some .int) ∈ GW := gw 268 rfl rfl
set_option maxRecDepth 20000 in
theorem w_269 : Cond.methodLink "RumourCustoms" 284 yX3_isInBagOf ∈ GW := gw 269 rfl rfl
set_option maxRecDepth 20000 in
theorem w_270 : Cond.instanceMethod yX3_isInBagOf ∈ GW := gw 270 rfl rfl
set_option maxRecDepth 20000 in
theorem w_271 : Cond.selects "RumourCustoms$Rumour" yX3_isInBagOf yX3_isInBagOf ∈ GW := gw 271 rfl rfl
set_option maxRecDepth 20000 in
theorem w_272 : Cond.code yX3_isInBagOf cX3_isInBagOf 2 (some .boolean) ∈ GW := gw 272 rfl rfl
set_option maxRecDepth 20000 in
theorem w_273 : Cond.methodLink "RumourCustoms" 168 yX5_hiddenInBag ∈ GW := gw 273 rfl rfl
set_option maxRecDepth 20000 in
theorem w_275 : Cond.instanceMethod yX5_hiddenInBag ∈ GW := gw 275 rfl rfl
set_option maxRecDepth 20000 in
theorem w_276 : Cond.code yX5_hiddenInBag cX5_hiddenInBag 4 (some .int) ∈ GW := gw 276 rfl rfl
set_option maxRecDepth 20000 in
theorem w_277 : Cond.methodLink "RumourCustoms" 296 yX3_isHiddenBy ∈ GW := gw 277 rfl rfl
set_option maxRecDepth 20000 in
theorem w_278 : Cond.instanceMethod yX3_isHiddenBy ∈ GW := gw 278 rfl rfl
set_option maxRecDepth 20000 in
theorem w_279 : Cond.selects "RumourCustoms$Rumour" yX3_isHiddenBy yX3_isHiddenBy ∈ GW := gw 279 rfl rfl
set_option maxRecDepth 20000 in
theorem w_280 : Cond.code yX3_isHiddenBy cX3_isHiddenBy 2 (some .boolean) ∈ GW := gw 280 rfl rfl
set_option maxRecDepth 20000 in
theorem w_281 : Cond.methodLink "RumourCustoms$Rumour" 44 yX3_isInBagOf ∈ GW := gw 281 rfl rfl
set_option maxRecDepth 20000 in
theorem w_282 : Cond.methodLink "RumourCustomsLaw" 83 yL_addTown ∈ GW := gw 282 rfl rfl
set_option maxRecDepth 20000 in
theorem w_283 : Cond.static yL_addTown ∈ GW := gw 283 rfl rfl
set_option maxRecDepth 20000 in
theorem w_284 : Cond.codeWith yL_addTown cL_addTown 3 (some .int) [(0, 8, 11, 13)] ∈ GW := gw 284 rfl rfl
set_option maxRecDepth 20000 in
theorem w_285 : Cond.classLink "RumourCustomsLaw" 13 "java/lang/IllegalStateException" ∈ GW := gw 285 rfl rfl
set_option maxRecDepth 20000 in
theorem w_286 : Cond.methodLink "RumourCustomsLaw" 7 yX5_addTown ∈ GW := gw 286 rfl rfl
set_option maxRecDepth 20000 in
theorem w_287 : Cond.instanceMethod yX5_addTown ∈ GW := gw 287 rfl rfl
set_option maxRecDepth 20000 in
theorem w_288 : Cond.selects "RumourCustoms" yX5_addTown yX5_addTown ∈ GW := gw 288 rfl rfl
set_option maxRecDepth 20000 in
theorem w_289 : Cond.code yX5_addTown cX5_addTown 1 (some .int) ∈ GW := gw 289 rfl rfl
set_option maxRecDepth 20000 in
theorem w_290 : Cond.classLink "RumourCustoms" 39 "java/lang/IllegalStateException" ∈ GW := gw 290 rfl rfl
set_option maxRecDepth 20000 in
theorem w_291 : Cond.instantiable "java/lang/IllegalStateException" 6 ∈ GW := gw 291 rfl rfl
set_option maxRecDepth 20000 in
theorem w_299 : Cond.selects "java/lang/IllegalStateException" ⟨"java/lang/Throwable", "fillInStackTrace", "(I)Ljava/lang/Throwable;"⟩ ⟨"java/lang/Throwable", "fillInStackTrace", "(I)Ljava/lang/Throwable;"⟩ ∈ GW := gw 299 rfl rfl
set_option maxRecDepth 20000 in
theorem w_300 : Cond.selects "java/lang/IllegalStateException" ⟨"java/lang/Throwable", "fillInStackTrace", "()Ljava/lang/Throwable;"⟩ ⟨"java/lang/Throwable", "fillInStackTrace", "()Ljava/lang/Throwable;"⟩ ∈ GW := gw 300 rfl rfl
set_option maxRecDepth 20000 in
theorem w_301 : Cond.lays "java/lang/IllegalStateException" "java/lang/Throwable" "cause" "Ljava/lang/Throwable;" ∈ GW := gw 301 rfl rfl
set_option maxRecDepth 20000 in
theorem w_302 : Cond.lays "java/lang/Throwable" "java/lang/Throwable" "cause" "Ljava/lang/Throwable;" ∈ GW := gw 302 rfl rfl
set_option maxRecDepth 20000 in
theorem w_303 : Cond.lays "java/lang/IllegalStateException" "java/lang/Throwable" "stackTrace" "[Ljava/lang/StackTraceElement;" ∈ GW := gw 303 rfl rfl
set_option maxRecDepth 20000 in
theorem w_304 : Cond.lays "java/lang/Throwable" "java/lang/Throwable" "stackTrace" "[Ljava/lang/StackTraceElement;" ∈ GW := gw 304 rfl rfl
set_option maxRecDepth 20000 in
theorem w_305 : Cond.lays "java/lang/IllegalStateException" "java/lang/Throwable" "suppressedExceptions" "Ljava/util/List;" ∈ GW := gw 305 rfl rfl
set_option maxRecDepth 20000 in
theorem w_306 : Cond.lays "java/lang/Throwable" "java/lang/Throwable" "suppressedExceptions" "Ljava/util/List;" ∈ GW := gw 306 rfl rfl
set_option maxRecDepth 20000 in
theorem w_307 : Cond.lays "java/lang/IllegalStateException" "java/lang/Throwable" "detailMessage" "Ljava/lang/String;" ∈ GW := gw 307 rfl rfl
set_option maxRecDepth 20000 in
theorem w_308 : Cond.lays "java/lang/Throwable" "java/lang/Throwable" "detailMessage" "Ljava/lang/String;" ∈ GW := gw 308 rfl rfl
set_option maxRecDepth 20000 in
theorem w_309 : Cond.lays "java/lang/IllegalStateException" "java/lang/Throwable" "backtrace" "Ljava/lang/Object;" ∈ GW := gw 309 rfl rfl
set_option maxRecDepth 20000 in
theorem w_310 : Cond.lays "java/lang/Throwable" "java/lang/Throwable" "backtrace" "Ljava/lang/Object;" ∈ GW := gw 310 rfl rfl
set_option maxRecDepth 20000 in
theorem w_311 : Cond.fieldLink "java/lang/Throwable" 198 "java/lang/Throwable" "backtrace" "Ljava/lang/Object;" ∈ GW := gw 311 rfl rfl
set_option maxRecDepth 20000 in
theorem w_312 : Cond.superclass "java/lang/Throwable" "java/lang/Object" ∈ GW := gw 312 rfl rfl
set_option maxRecDepth 20000 in
theorem w_313 : Cond.instanceMethod ⟨"java/lang/Throwable", "<init>", "()V"⟩ ∈ GW := gw 313 rfl rfl
set_option maxRecDepth 20000 in
theorem w_314 : Cond.code ⟨"java/lang/Throwable", "<init>", "()V"⟩ prog_22_method_1_code 1 none ∈ GW := gw 314 rfl rfl
set_option maxRecDepth 20000 in
theorem w_315 : Cond.methodLink "java/lang/Throwable" 1 objectInit ∈ GW := gw 315 rfl rfl
set_option maxRecDepth 20000 in
theorem w_316 : Cond.fieldLink "java/lang/Throwable" 13 "java/lang/Throwable" "UNASSIGNED_STACK" "[Ljava/lang/StackTraceElement;" ∈ GW := gw 316 rfl rfl
set_option maxRecDepth 20000 in
theorem w_318 : Cond.fieldLink "java/lang/Throwable" 20 "java/lang/Throwable" "SUPPRESSED_SENTINEL" "Ljava/util/List;" ∈ GW := gw 318 rfl rfl
set_option maxRecDepth 20000 in
theorem w_320 : Cond.methodLink "java/lang/Throwable" 27 ⟨"java/lang/Throwable", "fillInStackTrace", "()Ljava/lang/Throwable;"⟩ ∈ GW := gw 320 rfl rfl
set_option maxRecDepth 20000 in
theorem w_321 : Cond.instanceMethod ⟨"java/lang/Throwable", "fillInStackTrace", "()Ljava/lang/Throwable;"⟩ ∈ GW := gw 321 rfl rfl
set_option maxRecDepth 20000 in
theorem w_322 : Cond.sameMethod "java/lang/Throwable" "java/lang/Throwable" "fillInStackTrace" "()Ljava/lang/Throwable;" ∈ GW := gw 322 rfl rfl
set_option maxRecDepth 20000 in
theorem w_323 : Cond.selects "java/lang/IllegalArgumentException" ⟨"java/lang/Throwable", "fillInStackTrace", "()Ljava/lang/Throwable;"⟩ ⟨"java/lang/Throwable", "fillInStackTrace", "()Ljava/lang/Throwable;"⟩ ∈ GW := gw 323 rfl rfl
set_option maxRecDepth 20000 in
theorem w_324 : Cond.selects "java/lang/IndexOutOfBoundsException" ⟨"java/lang/Throwable", "fillInStackTrace", "()Ljava/lang/Throwable;"⟩ ⟨"java/lang/Throwable", "fillInStackTrace", "()Ljava/lang/Throwable;"⟩ ∈ GW := gw 324 rfl rfl
set_option maxRecDepth 20000 in
theorem w_326 : Cond.methodLink "java/lang/Throwable" 202 ⟨"java/lang/Throwable", "fillInStackTrace", "(I)Ljava/lang/Throwable;"⟩ ∈ GW := gw 326 rfl rfl
set_option maxRecDepth 20000 in
theorem w_328 : Cond.instanceMethod ⟨"java/lang/Throwable", "fillInStackTrace", "(I)Ljava/lang/Throwable;"⟩ ∈ GW := gw 328 rfl rfl
set_option maxRecDepth 20000 in
theorem w_329 : Cond.instantiable "java/lang/Throwable" 6 ∈ GW := gw 329 rfl rfl
set_option maxRecDepth 20000 in
theorem w_330 : Cond.native ⟨"java/lang/Throwable", "fillInStackTrace", "(I)Ljava/lang/Throwable;"⟩ ∈ GW := gw 330 rfl rfl
set_option maxRecDepth 20000 in
theorem w_332 : Cond.methodLink "RumourCustoms" 43 ⟨"java/lang/IllegalStateException", "<init>", "(Ljava/lang/String;)V"⟩ ∈ GW := gw 332 rfl rfl
set_option maxRecDepth 20000 in
theorem w_333 : Cond.instanceMethod ⟨"java/lang/IllegalStateException", "<init>", "(Ljava/lang/String;)V"⟩ ∈ GW := gw 333 rfl rfl
set_option maxRecDepth 20000 in
theorem w_334 : Cond.code ⟨"java/lang/IllegalStateException", "<init>", "(Ljava/lang/String;)V"⟩ prog_13_method_2_code 2 none ∈ GW := gw 334 rfl rfl
set_option maxRecDepth 20000 in
theorem w_335 : Cond.methodLink "java/lang/IllegalStateException" 7 ⟨"java/lang/RuntimeException", "<init>", "(Ljava/lang/String;)V"⟩ ∈ GW := gw 335 rfl rfl
set_option maxRecDepth 20000 in
theorem w_336 : Cond.instanceMethod ⟨"java/lang/RuntimeException", "<init>", "(Ljava/lang/String;)V"⟩ ∈ GW := gw 336 rfl rfl
set_option maxRecDepth 20000 in
theorem w_337 : Cond.code ⟨"java/lang/RuntimeException", "<init>", "(Ljava/lang/String;)V"⟩ prog_19_method_2_code 2 none ∈ GW := gw 337 rfl rfl
set_option maxRecDepth 20000 in
theorem w_338 : Cond.methodLink "java/lang/RuntimeException" 7 ⟨"java/lang/Exception", "<init>", "(Ljava/lang/String;)V"⟩ ∈ GW := gw 338 rfl rfl
set_option maxRecDepth 20000 in
theorem w_339 : Cond.instanceMethod ⟨"java/lang/Exception", "<init>", "(Ljava/lang/String;)V"⟩ ∈ GW := gw 339 rfl rfl
set_option maxRecDepth 20000 in
theorem w_340 : Cond.code ⟨"java/lang/Exception", "<init>", "(Ljava/lang/String;)V"⟩ prog_11_method_2_code 2 none ∈ GW := gw 340 rfl rfl
set_option maxRecDepth 20000 in
theorem w_341 : Cond.methodLink "java/lang/Exception" 7 ⟨"java/lang/Throwable", "<init>", "(Ljava/lang/String;)V"⟩ ∈ GW := gw 341 rfl rfl
set_option maxRecDepth 20000 in
theorem w_342 : Cond.instanceMethod ⟨"java/lang/Throwable", "<init>", "(Ljava/lang/String;)V"⟩ ∈ GW := gw 342 rfl rfl
set_option maxRecDepth 20000 in
theorem w_343 : Cond.code ⟨"java/lang/Throwable", "<init>", "(Ljava/lang/String;)V"⟩ prog_22_method_2_code 2 none ∈ GW := gw 343 rfl rfl
set_option maxRecDepth 20000 in
theorem w_344 : Cond.fieldLink "java/lang/Throwable" 198 "java/lang/Throwable" "backtrace" "Ljava/lang/Object;" ∈ GW := gw 344 rfl rfl
set_option maxRecDepth 20000 in
theorem w_345 : Cond.fieldLink "java/lang/Throwable" 31 "java/lang/Throwable" "detailMessage" "Ljava/lang/String;" ∈ GW := gw 345 rfl rfl
set_option maxRecDepth 20000 in
theorem w_346 : Cond.fieldLink "java/lang/Throwable" 7 "java/lang/Throwable" "cause" "Ljava/lang/Throwable;" ∈ GW := gw 346 rfl rfl
set_option maxRecDepth 20000 in
theorem w_347 : Cond.fieldLink "java/lang/Throwable" 17 "java/lang/Throwable" "stackTrace" "[Ljava/lang/StackTraceElement;" ∈ GW := gw 347 rfl rfl
set_option maxRecDepth 20000 in
theorem w_348 : Cond.fieldLink "java/lang/Throwable" 24 "java/lang/Throwable" "suppressedExceptions" "Ljava/util/List;" ∈ GW := gw 348 rfl rfl
set_option maxRecDepth 20000 in
theorem w_349 : Cond.soleField "java/lang/Throwable" "backtrace" ∈ GW := gw 349 rfl rfl
set_option maxRecDepth 20000 in
theorem w_350 : Cond.soleField "java/lang/Throwable" "detailMessage" ∈ GW := gw 350 rfl rfl
set_option maxRecDepth 20000 in
theorem w_351 : Cond.soleField "java/lang/Throwable" "cause" ∈ GW := gw 351 rfl rfl
set_option maxRecDepth 20000 in
theorem w_352 : Cond.soleField "java/lang/Throwable" "stackTrace" ∈ GW := gw 352 rfl rfl
set_option maxRecDepth 20000 in
theorem w_353 : Cond.lays "java/lang/IllegalStateException" "java/lang/Throwable" "depth" "I" ∈ GW := gw 353 rfl rfl
set_option maxRecDepth 20000 in
theorem w_354 : Cond.soleField "java/lang/Throwable" "depth" ∈ GW := gw 354 rfl rfl
set_option maxRecDepth 20000 in
theorem w_355 : Cond.soleField "java/lang/Throwable" "suppressedExceptions" ∈ GW := gw 355 rfl rfl
set_option maxRecDepth 20000 in
theorem w_356 : Cond.superclass "java/lang/IllegalStateException" "java/lang/RuntimeException" ∈ GW := gw 356 rfl rfl
set_option maxRecDepth 20000 in
theorem w_357 : Cond.arrayClass .byte ∈ GW := gw 357 rfl rfl
set_option maxRecDepth 20000 in
theorem w_358 : Cond.methodLink "RumourCustomsLaw" 92 yL_build ∈ GW := gw 358 rfl rfl
set_option maxRecDepth 20000 in
theorem w_359 : Cond.static yL_build ∈ GW := gw 359 rfl rfl
set_option maxRecDepth 20000 in
theorem w_360 : Cond.codeWith yL_build cL_build 9 (some .int) [(0, 18, 21, 19), (0, 18, 25, 21), (0, 18, 29, 13)] ∈ GW := gw 360 rfl rfl
set_option maxRecDepth 20000 in
theorem w_361 : Cond.classLink "RumourCustomsLaw" 19 "java/lang/IndexOutOfBoundsException" ∈ GW := gw 361 rfl rfl
set_option maxRecDepth 20000 in
theorem w_362 : Cond.classLink "RumourCustomsLaw" 21 "java/lang/IllegalArgumentException" ∈ GW := gw 362 rfl rfl
set_option maxRecDepth 20000 in
theorem w_363 : Cond.methodLink "RumourCustomsLaw" 15 yX5_build ∈ GW := gw 363 rfl rfl
set_option maxRecDepth 20000 in
theorem w_364 : Cond.instanceMethod yX5_build ∈ GW := gw 364 rfl rfl
set_option maxRecDepth 20000 in
theorem w_365 : Cond.selects "RumourCustoms" yX5_build yX5_build ∈ GW := gw 365 rfl rfl
set_option maxRecDepth 20000 in
theorem w_366 : Cond.code yX5_build cX5_build 7 (some .int) ∈ GW := gw 366 rfl rfl
set_option maxRecDepth 20000 in
theorem w_367 : Cond.methodLink "RumourCustoms" 46 yX5_requireTown ∈ GW := gw 367 rfl rfl
set_option maxRecDepth 20000 in
theorem w_369 : Cond.instanceMethod yX5_requireTown ∈ GW := gw 369 rfl rfl
set_option maxRecDepth 20000 in
theorem w_370 : Cond.code yX5_requireTown cX5_requireTown 2 none ∈ GW := gw 370 rfl rfl
set_option maxRecDepth 20000 in
theorem w_371 : Cond.classLink "RumourCustoms" 267 "java/lang/IndexOutOfBoundsException" ∈ GW := gw 371 rfl rfl
set_option maxRecDepth 20000 in
theorem w_372 : Cond.instantiable "java/lang/IndexOutOfBoundsException" 6 ∈ GW := gw 372 rfl rfl
set_option maxRecDepth 20000 in
theorem w_374 : Cond.selects "java/lang/IndexOutOfBoundsException" ⟨"java/lang/Throwable", "fillInStackTrace", "(I)Ljava/lang/Throwable;"⟩ ⟨"java/lang/Throwable", "fillInStackTrace", "(I)Ljava/lang/Throwable;"⟩ ∈ GW := gw 374 rfl rfl
set_option maxRecDepth 20000 in
theorem w_375 : Cond.lays "java/lang/IndexOutOfBoundsException" "java/lang/Throwable" "cause" "Ljava/lang/Throwable;" ∈ GW := gw 375 rfl rfl
set_option maxRecDepth 20000 in
theorem w_376 : Cond.lays "java/lang/IndexOutOfBoundsException" "java/lang/Throwable" "stackTrace" "[Ljava/lang/StackTraceElement;" ∈ GW := gw 376 rfl rfl
set_option maxRecDepth 20000 in
theorem w_377 : Cond.lays "java/lang/IndexOutOfBoundsException" "java/lang/Throwable" "suppressedExceptions" "Ljava/util/List;" ∈ GW := gw 377 rfl rfl
set_option maxRecDepth 20000 in
theorem w_378 : Cond.lays "java/lang/IndexOutOfBoundsException" "java/lang/Throwable" "detailMessage" "Ljava/lang/String;" ∈ GW := gw 378 rfl rfl
set_option maxRecDepth 20000 in
theorem w_379 : Cond.lays "java/lang/IndexOutOfBoundsException" "java/lang/Throwable" "backtrace" "Ljava/lang/Object;" ∈ GW := gw 379 rfl rfl
set_option maxRecDepth 20000 in
theorem w_381 : Cond.methodLink "RumourCustoms" 271 ⟨"java/lang/IndexOutOfBoundsException", "<init>", "(Ljava/lang/String;)V"⟩ ∈ GW := gw 381 rfl rfl
set_option maxRecDepth 20000 in
theorem w_382 : Cond.instanceMethod ⟨"java/lang/IndexOutOfBoundsException", "<init>", "(Ljava/lang/String;)V"⟩ ∈ GW := gw 382 rfl rfl
set_option maxRecDepth 20000 in
theorem w_383 : Cond.code ⟨"java/lang/IndexOutOfBoundsException", "<init>", "(Ljava/lang/String;)V"⟩ prog_14_method_2_code 2 none ∈ GW := gw 383 rfl rfl
set_option maxRecDepth 20000 in
theorem w_384 : Cond.methodLink "java/lang/IndexOutOfBoundsException" 7 ⟨"java/lang/RuntimeException", "<init>", "(Ljava/lang/String;)V"⟩ ∈ GW := gw 384 rfl rfl
set_option maxRecDepth 20000 in
theorem w_385 : Cond.lays "java/lang/IndexOutOfBoundsException" "java/lang/Throwable" "depth" "I" ∈ GW := gw 385 rfl rfl
set_option maxRecDepth 20000 in
theorem w_386 : Cond.superclass "java/lang/IndexOutOfBoundsException" "java/lang/RuntimeException" ∈ GW := gw 386 rfl rfl
set_option maxRecDepth 20000 in
theorem w_387 : Cond.classLink "RumourCustoms" 50 "java/lang/IllegalArgumentException" ∈ GW := gw 387 rfl rfl
set_option maxRecDepth 20000 in
theorem w_388 : Cond.instantiable "java/lang/IllegalArgumentException" 6 ∈ GW := gw 388 rfl rfl
set_option maxRecDepth 20000 in
theorem w_390 : Cond.selects "java/lang/IllegalArgumentException" ⟨"java/lang/Throwable", "fillInStackTrace", "(I)Ljava/lang/Throwable;"⟩ ⟨"java/lang/Throwable", "fillInStackTrace", "(I)Ljava/lang/Throwable;"⟩ ∈ GW := gw 390 rfl rfl
set_option maxRecDepth 20000 in
theorem w_391 : Cond.lays "java/lang/IllegalArgumentException" "java/lang/Throwable" "cause" "Ljava/lang/Throwable;" ∈ GW := gw 391 rfl rfl
set_option maxRecDepth 20000 in
theorem w_392 : Cond.lays "java/lang/IllegalArgumentException" "java/lang/Throwable" "stackTrace" "[Ljava/lang/StackTraceElement;" ∈ GW := gw 392 rfl rfl
set_option maxRecDepth 20000 in
theorem w_393 : Cond.lays "java/lang/IllegalArgumentException" "java/lang/Throwable" "suppressedExceptions" "Ljava/util/List;" ∈ GW := gw 393 rfl rfl
set_option maxRecDepth 20000 in
theorem w_394 : Cond.lays "java/lang/IllegalArgumentException" "java/lang/Throwable" "detailMessage" "Ljava/lang/String;" ∈ GW := gw 394 rfl rfl
set_option maxRecDepth 20000 in
theorem w_395 : Cond.lays "java/lang/IllegalArgumentException" "java/lang/Throwable" "backtrace" "Ljava/lang/Object;" ∈ GW := gw 395 rfl rfl
set_option maxRecDepth 20000 in
theorem w_397 : Cond.methodLink "RumourCustoms" 54 ⟨"java/lang/IllegalArgumentException", "<init>", "(Ljava/lang/String;)V"⟩ ∈ GW := gw 397 rfl rfl
set_option maxRecDepth 20000 in
theorem w_398 : Cond.instanceMethod ⟨"java/lang/IllegalArgumentException", "<init>", "(Ljava/lang/String;)V"⟩ ∈ GW := gw 398 rfl rfl
set_option maxRecDepth 20000 in
theorem w_399 : Cond.code ⟨"java/lang/IllegalArgumentException", "<init>", "(Ljava/lang/String;)V"⟩ prog_12_method_2_code 2 none ∈ GW := gw 399 rfl rfl
set_option maxRecDepth 20000 in
theorem w_400 : Cond.methodLink "java/lang/IllegalArgumentException" 7 ⟨"java/lang/RuntimeException", "<init>", "(Ljava/lang/String;)V"⟩ ∈ GW := gw 400 rfl rfl
set_option maxRecDepth 20000 in
theorem w_401 : Cond.lays "java/lang/IllegalArgumentException" "java/lang/Throwable" "depth" "I" ∈ GW := gw 401 rfl rfl
set_option maxRecDepth 20000 in
theorem w_402 : Cond.superclass "java/lang/IllegalArgumentException" "java/lang/RuntimeException" ∈ GW := gw 402 rfl rfl
set_option maxRecDepth 20000 in
theorem w_403 : Cond.methodLink "RumourCustoms" 55 yX5_requireWithin ∈ GW := gw 403 rfl rfl
set_option maxRecDepth 20000 in
theorem w_404 : Cond.static yX5_requireWithin ∈ GW := gw 404 rfl rfl
set_option maxRecDepth 20000 in
theorem w_405 : Cond.code yX5_requireWithin cX5_requireWithin 3 none ∈ GW := gw 405 rfl rfl
set_option maxRecDepth 20000 in
theorem w_408 : Cond.classLink "RumourCustoms" 65 "RumourCustoms$Road" ∈ GW := gw 408 rfl rfl
set_option maxRecDepth 20000 in
theorem w_409 : Cond.instantiable "RumourCustoms$Road" 6 ∈ GW := gw 409 rfl rfl
set_option maxRecDepth 20000 in
theorem w_410 : Cond.methodLink "RumourCustoms" 67 yX1_init ∈ GW := gw 410 rfl rfl
set_option maxRecDepth 20000 in
theorem w_411 : Cond.instanceMethod yX1_init ∈ GW := gw 411 rfl rfl
set_option maxRecDepth 20000 in
theorem w_412 : Cond.code yX1_init cX1_init 5 none ∈ GW := gw 412 rfl rfl
set_option maxRecDepth 20000 in
theorem w_413 : Cond.methodLink "RumourCustoms$Road" 1 objectInit ∈ GW := gw 413 rfl rfl
set_option maxRecDepth 20000 in
theorem w_414 : Cond.fieldLink "RumourCustoms$Road" 7 "RumourCustoms$Road" "hours" "I" ∈ GW := gw 414 rfl rfl
set_option maxRecDepth 20000 in
theorem w_415 : Cond.fieldLink "RumourCustoms$WaySearch" 65 "RumourCustoms$Road" "hours" "I" ∈ GW := gw 415 rfl rfl
set_option maxRecDepth 20000 in
theorem w_416 : Cond.fieldLink "RumourCustoms" 208 "RumourCustoms$Road" "hours" "I" ∈ GW := gw 416 rfl rfl
set_option maxRecDepth 20000 in
theorem w_417 : Cond.fieldLink "RumourCustoms$Road" 13 "RumourCustoms$Road" "tariff" "I" ∈ GW := gw 417 rfl rfl
set_option maxRecDepth 20000 in
theorem w_418 : Cond.fieldLink "RumourCustoms$Road" 16 "RumourCustoms$Road" "surcharge" "I" ∈ GW := gw 418 rfl rfl
set_option maxRecDepth 20000 in
theorem w_419 : Cond.fieldLink "RumourCustoms$Road" 19 "RumourCustoms$Road" "strictness" "I" ∈ GW := gw 419 rfl rfl
set_option maxRecDepth 20000 in
theorem w_420 : Cond.fieldLink "RumourCustoms$Road" 30 "RumourCustoms$Road" "attention" "I" ∈ GW := gw 420 rfl rfl
set_option maxRecDepth 20000 in
theorem w_421 : Cond.fieldLink "RumourCustoms" 324 "RumourCustoms$Road" "attention" "I" ∈ GW := gw 421 rfl rfl
set_option maxRecDepth 20000 in
theorem w_422 : Cond.fieldLink "RumourCustoms$Road" 33 "RumourCustoms$Road" "paid" "I" ∈ GW := gw 422 rfl rfl
set_option maxRecDepth 20000 in
theorem w_423 : Cond.fieldLink "RumourCustoms" 338 "RumourCustoms$Road" "paid" "I" ∈ GW := gw 423 rfl rfl
set_option maxRecDepth 20000 in
theorem w_424 : Cond.laysFinal "RumourCustoms$Road" "RumourCustoms$Road" "hours" "I" ∈ GW := gw 424 rfl rfl
set_option maxRecDepth 20000 in
theorem w_425 : Cond.soleField "RumourCustoms$Road" "hours" ∈ GW := gw 425 rfl rfl
set_option maxRecDepth 20000 in
theorem w_426 : Cond.laysFinal "RumourCustoms$Road" "RumourCustoms$Road" "tariff" "I" ∈ GW := gw 426 rfl rfl
set_option maxRecDepth 20000 in
theorem w_427 : Cond.soleField "RumourCustoms$Road" "tariff" ∈ GW := gw 427 rfl rfl
set_option maxRecDepth 20000 in
theorem w_428 : Cond.laysFinal "RumourCustoms$Road" "RumourCustoms$Road" "surcharge" "I" ∈ GW := gw 428 rfl rfl
set_option maxRecDepth 20000 in
theorem w_429 : Cond.soleField "RumourCustoms$Road" "surcharge" ∈ GW := gw 429 rfl rfl
set_option maxRecDepth 20000 in
theorem w_430 : Cond.laysFinal "RumourCustoms$Road" "RumourCustoms$Road" "strictness" "I" ∈ GW := gw 430 rfl rfl
set_option maxRecDepth 20000 in
theorem w_431 : Cond.soleField "RumourCustoms$Road" "strictness" ∈ GW := gw 431 rfl rfl
set_option maxRecDepth 20000 in
theorem w_432 : Cond.lays "RumourCustoms$Road" "RumourCustoms$Road" "attention" "I" ∈ GW := gw 432 rfl rfl
set_option maxRecDepth 20000 in
theorem w_433 : Cond.soleField "RumourCustoms$Road" "attention" ∈ GW := gw 433 rfl rfl
set_option maxRecDepth 20000 in
theorem w_434 : Cond.lays "RumourCustoms$Road" "RumourCustoms$Road" "paid" "I" ∈ GW := gw 434 rfl rfl
set_option maxRecDepth 20000 in
theorem w_435 : Cond.soleField "RumourCustoms$Road" "paid" ∈ GW := gw 435 rfl rfl
set_option maxRecDepth 20000 in
theorem w_436 : Cond.superclass "RumourCustoms$Road" "java/lang/Object" ∈ GW := gw 436 rfl rfl
set_option maxRecDepth 20000 in
theorem w_437 : Cond.methodLink "RumourCustoms" 70 yX2_put ∈ GW := gw 437 rfl rfl
set_option maxRecDepth 20000 in
theorem w_438 : Cond.instanceMethod yX2_put ∈ GW := gw 438 rfl rfl
set_option maxRecDepth 20000 in
theorem w_439 : Cond.selects "RumourCustoms$RoadMap" yX2_put yX2_put ∈ GW := gw 439 rfl rfl
set_option maxRecDepth 20000 in
theorem w_440 : Cond.code yX2_put cX2_put 4 none ∈ GW := gw 440 rfl rfl
set_option maxRecDepth 20000 in
theorem w_441 : Cond.methodLink "RumourCustomsLaw" 96 yL_road ∈ GW := gw 441 rfl rfl
set_option maxRecDepth 20000 in
theorem w_442 : Cond.static yL_road ∈ GW := gw 442 rfl rfl
set_option maxRecDepth 20000 in
theorem w_443 : Cond.codeWith yL_road cL_road 6 (some .int) [(0, 12, 15, 19)] ∈ GW := gw 443 rfl rfl
set_option maxRecDepth 20000 in
theorem w_444 : Cond.methodLink "RumourCustomsLaw" 23 yX5_road ∈ GW := gw 444 rfl rfl
set_option maxRecDepth 20000 in
theorem w_445 : Cond.instanceMethod yX5_road ∈ GW := gw 445 rfl rfl
set_option maxRecDepth 20000 in
theorem w_446 : Cond.selects "RumourCustoms" yX5_road yX5_road ∈ GW := gw 446 rfl rfl
set_option maxRecDepth 20000 in
theorem w_447 : Cond.code yX5_road cX5_road 5 (some .int) ∈ GW := gw 447 rfl rfl
set_option maxRecDepth 20000 in
theorem w_448 : Cond.methodLink "RumourCustoms" 77 yX5_requireWhat ∈ GW := gw 448 rfl rfl
set_option maxRecDepth 20000 in
theorem w_449 : Cond.static yX5_requireWhat ∈ GW := gw 449 rfl rfl
set_option maxRecDepth 20000 in
theorem w_450 : Cond.code yX5_requireWhat cX5_requireWhat 2 none ∈ GW := gw 450 rfl rfl
set_option maxRecDepth 20000 in
theorem w_452 : Cond.methodLink "RumourCustomsLaw" 100 yL_makeUp ∈ GW := gw 452 rfl rfl
set_option maxRecDepth 20000 in
theorem w_453 : Cond.static yL_makeUp ∈ GW := gw 453 rfl rfl
set_option maxRecDepth 20000 in
theorem w_454 : Cond.codeWith yL_makeUp cL_makeUp 6 (some .int) [(0, 12, 15, 19), (0, 12, 19, 21), (0, 12, 23, 13)] ∈ GW := gw 454 rfl rfl
set_option maxRecDepth 20000 in
theorem w_455 : Cond.methodLink "RumourCustomsLaw" 27 yX5_makeUp ∈ GW := gw 455 rfl rfl
set_option maxRecDepth 20000 in
theorem w_456 : Cond.instanceMethod yX5_makeUp ∈ GW := gw 456 rfl rfl
set_option maxRecDepth 20000 in
theorem w_457 : Cond.selects "RumourCustoms" yX5_makeUp yX5_makeUp ∈ GW := gw 457 rfl rfl
set_option maxRecDepth 20000 in
theorem w_458 : Cond.code yX5_makeUp cX5_makeUp 5 (some .int) ∈ GW := gw 458 rfl rfl
set_option maxRecDepth 20000 in
theorem w_460 : Cond.instantiable "RumourCustoms$Rumour" 8 ∈ GW := gw 460 rfl rfl
set_option maxRecDepth 20000 in
theorem w_461 : Cond.methodLink "RumourCustoms" 93 yX3_init ∈ GW := gw 461 rfl rfl
set_option maxRecDepth 20000 in
theorem w_462 : Cond.instanceMethod yX3_init ∈ GW := gw 462 rfl rfl
set_option maxRecDepth 20000 in
theorem w_463 : Cond.code yX3_init cX3_init 7 none ∈ GW := gw 463 rfl rfl
set_option maxRecDepth 20000 in
theorem w_464 : Cond.methodLink "RumourCustoms$Rumour" 3 objectInit ∈ GW := gw 464 rfl rfl
set_option maxRecDepth 20000 in
theorem w_465 : Cond.fieldLink "RumourCustoms$Rumour" 9 "RumourCustoms$Rumour" "number" "I" ∈ GW := gw 465 rfl rfl
set_option maxRecDepth 20000 in
theorem w_466 : Cond.fieldLink "RumourCustoms" 124 "RumourCustoms$Rumour" "number" "I" ∈ GW := gw 466 rfl rfl
set_option maxRecDepth 20000 in
theorem w_467 : Cond.fieldLink "RumourCustoms$Rumour" 15 "RumourCustoms$Rumour" "family" "I" ∈ GW := gw 467 rfl rfl
set_option maxRecDepth 20000 in
theorem w_468 : Cond.fieldLink "RumourCustoms" 117 "RumourCustoms$Rumour" "family" "I" ∈ GW := gw 468 rfl rfl
set_option maxRecDepth 20000 in
theorem w_469 : Cond.fieldLink "RumourCustoms$Rumour" 18 "RumourCustoms$Rumour" "length" "I" ∈ GW := gw 469 rfl rfl
set_option maxRecDepth 20000 in
theorem w_470 : Cond.fieldLink "RumourCustoms$Road" 22 "RumourCustoms$Rumour" "length" "I" ∈ GW := gw 470 rfl rfl
set_option maxRecDepth 20000 in
theorem w_471 : Cond.fieldLink "RumourCustoms" 176 "RumourCustoms$Rumour" "length" "I" ∈ GW := gw 471 rfl rfl
set_option maxRecDepth 20000 in
theorem w_472 : Cond.fieldLink "RumourCustoms$Rumour" 21 "RumourCustoms$Rumour" "depth" "I" ∈ GW := gw 472 rfl rfl
set_option maxRecDepth 20000 in
theorem w_473 : Cond.fieldLink "RumourCustoms$Road" 27 "RumourCustoms$Rumour" "depth" "I" ∈ GW := gw 473 rfl rfl
set_option maxRecDepth 20000 in
theorem w_474 : Cond.fieldLink "RumourCustoms" 171 "RumourCustoms$Rumour" "depth" "I" ∈ GW := gw 474 rfl rfl
set_option maxRecDepth 20000 in
theorem w_475 : Cond.fieldLink "RumourCustoms$Rumour" 24 "RumourCustoms$Rumour" "proofs" "I" ∈ GW := gw 475 rfl rfl
set_option maxRecDepth 20000 in
theorem w_476 : Cond.fieldLink "RumourCustoms$WaySearch" 53 "RumourCustoms$Rumour" "proofs" "I" ∈ GW := gw 476 rfl rfl
set_option maxRecDepth 20000 in
theorem w_477 : Cond.fieldLink "RumourCustoms" 179 "RumourCustoms$Rumour" "proofs" "I" ∈ GW := gw 477 rfl rfl
set_option maxRecDepth 20000 in
theorem w_478 : Cond.fieldLink "RumourCustoms$Rumour" 27 "RumourCustoms$Rumour" "town" "I" ∈ GW := gw 478 rfl rfl
set_option maxRecDepth 20000 in
theorem w_479 : Cond.fieldLink "RumourCustoms" 142 "RumourCustoms$Rumour" "town" "I" ∈ GW := gw 479 rfl rfl
set_option maxRecDepth 20000 in
theorem w_480 : Cond.fieldLink "RumourCustoms$Rumour" 30 "RumourCustoms$Rumour" "bagOf" "I" ∈ GW := gw 480 rfl rfl
set_option maxRecDepth 20000 in
theorem w_481 : Cond.fieldLink "RumourCustoms$Rumour" 40 "RumourCustoms$Rumour" "isHidden" "Z" ∈ GW := gw 481 rfl rfl
set_option maxRecDepth 20000 in
theorem w_482 : Cond.fieldLink "RumourCustoms" 164 "RumourCustoms$Rumour" "isHidden" "Z" ∈ GW := gw 482 rfl rfl
set_option maxRecDepth 20000 in
theorem w_483 : Cond.laysFinal "RumourCustoms$Rumour" "RumourCustoms$Rumour" "number" "I" ∈ GW := gw 483 rfl rfl
set_option maxRecDepth 20000 in
theorem w_484 : Cond.soleField "RumourCustoms$Rumour" "number" ∈ GW := gw 484 rfl rfl
set_option maxRecDepth 20000 in
theorem w_485 : Cond.laysFinal "RumourCustoms$Rumour" "RumourCustoms$Rumour" "family" "I" ∈ GW := gw 485 rfl rfl
set_option maxRecDepth 20000 in
theorem w_486 : Cond.soleField "RumourCustoms$Rumour" "family" ∈ GW := gw 486 rfl rfl
set_option maxRecDepth 20000 in
theorem w_487 : Cond.laysFinal "RumourCustoms$Rumour" "RumourCustoms$Rumour" "length" "I" ∈ GW := gw 487 rfl rfl
set_option maxRecDepth 20000 in
theorem w_488 : Cond.soleField "RumourCustoms$Rumour" "length" ∈ GW := gw 488 rfl rfl
set_option maxRecDepth 20000 in
theorem w_489 : Cond.laysFinal "RumourCustoms$Rumour" "RumourCustoms$Rumour" "depth" "I" ∈ GW := gw 489 rfl rfl
set_option maxRecDepth 20000 in
theorem w_490 : Cond.soleField "RumourCustoms$Rumour" "depth" ∈ GW := gw 490 rfl rfl
set_option maxRecDepth 20000 in
theorem w_491 : Cond.lays "RumourCustoms$Rumour" "RumourCustoms$Rumour" "proofs" "I" ∈ GW := gw 491 rfl rfl
set_option maxRecDepth 20000 in
theorem w_492 : Cond.soleField "RumourCustoms$Rumour" "proofs" ∈ GW := gw 492 rfl rfl
set_option maxRecDepth 20000 in
theorem w_493 : Cond.lays "RumourCustoms$Rumour" "RumourCustoms$Rumour" "town" "I" ∈ GW := gw 493 rfl rfl
set_option maxRecDepth 20000 in
theorem w_494 : Cond.soleField "RumourCustoms$Rumour" "town" ∈ GW := gw 494 rfl rfl
set_option maxRecDepth 20000 in
theorem w_495 : Cond.lays "RumourCustoms$Rumour" "RumourCustoms$Rumour" "bagOf" "I" ∈ GW := gw 495 rfl rfl
set_option maxRecDepth 20000 in
theorem w_496 : Cond.soleField "RumourCustoms$Rumour" "bagOf" ∈ GW := gw 496 rfl rfl
set_option maxRecDepth 20000 in
theorem w_497 : Cond.lays "RumourCustoms$Rumour" "RumourCustoms$Rumour" "isHidden" "Z" ∈ GW := gw 497 rfl rfl
set_option maxRecDepth 20000 in
theorem w_498 : Cond.soleField "RumourCustoms$Rumour" "isHidden" ∈ GW := gw 498 rfl rfl
set_option maxRecDepth 20000 in
theorem w_499 : Cond.superclass "RumourCustoms$Rumour" "java/lang/Object" ∈ GW := gw 499 rfl rfl
set_option maxRecDepth 20000 in
theorem w_500 : Cond.methodLink "RumourCustoms" 96 yJx4a65c_add_9ea2d ∈ GW := gw 500 rfl rfl
set_option maxRecDepth 20000 in
theorem w_501 : Cond.instanceMethod yJx4a65c_add_9ea2d ∈ GW := gw 501 rfl rfl
set_option maxRecDepth 20000 in
theorem w_502 : Cond.selects "java/util/ArrayList" yJx4a65c_add_9ea2d yJx4a65c_add_9ea2d ∈ GW := gw 502 rfl rfl
set_option maxRecDepth 20000 in
theorem w_503 : Cond.code yJx4a65c_add_9ea2d cJx4a65c_add_9ea2d 2 (some .boolean) ∈ GW := gw 503 rfl rfl
set_option maxRecDepth 20000 in
theorem w_504 : Cond.methodLink "java/util/ArrayList" 131 yJx4a65c_add_72be8 ∈ GW := gw 504 rfl rfl
set_option maxRecDepth 20000 in
theorem w_506 : Cond.instanceMethod yJx4a65c_add_72be8 ∈ GW := gw 506 rfl rfl
set_option maxRecDepth 20000 in
theorem w_507 : Cond.code yJx4a65c_add_72be8 cJx4a65c_add_72be8 4 none ∈ GW := gw 507 rfl rfl
set_option maxRecDepth 20000 in
theorem w_508 : Cond.methodLink "java/util/ArrayList" 129 yJx4a65c_grow_d5877 ∈ GW := gw 508 rfl rfl
set_option maxRecDepth 20000 in
theorem w_510 : Cond.instanceMethod yJx4a65c_grow_d5877 ∈ GW := gw 510 rfl rfl
set_option maxRecDepth 20000 in
theorem w_511 : Cond.code yJx4a65c_grow_d5877 cJx4a65c_grow_d5877 1 (some (.array (.object "java/lang/Object"))) ∈ GW := gw 511 rfl rfl
set_option maxRecDepth 20000 in
theorem w_512 : Cond.methodLink "java/util/ArrayList" 69 yJx4a65c_grow_92f84 ∈ GW := gw 512 rfl rfl
set_option maxRecDepth 20000 in
theorem w_514 : Cond.instanceMethod yJx4a65c_grow_92f84 ∈ GW := gw 514 rfl rfl
set_option maxRecDepth 20000 in
theorem w_515 : Cond.code yJx4a65c_grow_92f84 cJx4a65c_grow_92f84 4 (some (.array (.object "java/lang/Object"))) ∈ GW := gw 515 rfl rfl
set_option maxRecDepth 20000 in
theorem w_516 : Cond.methodLink "java/util/ArrayList" 73 yJ8_newLength_cabcc ∈ GW := gw 516 rfl rfl
set_option maxRecDepth 20000 in
theorem w_517 : Cond.static yJ8_newLength_cabcc ∈ GW := gw 517 rfl rfl
set_option maxRecDepth 20000 in
theorem w_518 : Cond.code yJ8_newLength_cabcc cJ8_newLength_cabcc 4 (some .int) ∈ GW := gw 518 rfl rfl
set_option maxRecDepth 20000 in
theorem w_519 : Cond.methodLink "jdk/internal/util/ArraysSupport" 194 yJ9_max_7cf53 ∈ GW := gw 519 rfl rfl
set_option maxRecDepth 20000 in
theorem w_520 : Cond.static yJ9_max_7cf53 ∈ GW := gw 520 rfl rfl
set_option maxRecDepth 20000 in
theorem w_521 : Cond.code yJ9_max_7cf53 cJ9_max_7cf53 2 (some .int) ∈ GW := gw 521 rfl rfl
set_option maxRecDepth 20000 in
theorem w_522 : Cond.constant "jdk/internal/util/ArraysSupport" 200 (2147483639 : Int32) ∈ GW := gw 522 rfl rfl
set_option maxRecDepth 20000 in
theorem w_523 : Cond.methodLink "jdk/internal/util/ArraysSupport" 201 yJ8_hugeLength_7cf53 ∈ GW := gw 523 rfl rfl
set_option maxRecDepth 20000 in
theorem w_524 : Cond.static yJ8_hugeLength_7cf53 ∈ GW := gw 524 rfl rfl
set_option maxRecDepth 20000 in
theorem w_525 : Cond.code yJ8_hugeLength_7cf53 cJ8_hugeLength_7cf53 3 (some .int) ∈ GW := gw 525 rfl rfl
set_option maxRecDepth 20000 in
theorem w_526 : Cond.methodLink "java/util/ArrayList" 66 yJ7_copyOf_1904c ∈ GW := gw 526 rfl rfl
set_option maxRecDepth 20000 in
theorem w_527 : Cond.static yJ7_copyOf_1904c ∈ GW := gw 527 rfl rfl
set_option maxRecDepth 20000 in
theorem w_528 : Cond.code yJ7_copyOf_1904c cJ7_copyOf_1904c 2 (some (.array (.object "java/lang/Object"))) ∈ GW := gw 528 rfl rfl
set_option maxRecDepth 20000 in
theorem w_529 : Cond.methodLink "java/util/Arrays" 86 ⟨"java/lang/Object", "getClass", "()Ljava/lang/Class;"⟩ ∈ GW := gw 529 rfl rfl
set_option maxRecDepth 20000 in
theorem w_530 : Cond.instanceMethod ⟨"java/lang/Object", "getClass", "()Ljava/lang/Class;"⟩ ∈ GW := gw 530 rfl rfl
set_option maxRecDepth 20000 in
theorem w_531 : Cond.sameMethod "java/lang/Object" "java/lang/Object" "getClass" "()Ljava/lang/Class;" ∈ GW := gw 531 rfl rfl
set_option maxRecDepth 20000 in
theorem w_532 : Cond.selects "RumourCustoms" ⟨"java/lang/Object", "getClass", "()Ljava/lang/Class;"⟩ ⟨"java/lang/Object", "getClass", "()Ljava/lang/Class;"⟩ ∈ GW := gw 532 rfl rfl
set_option maxRecDepth 20000 in
theorem w_533 : Cond.selects "RumourCustoms$Carrier" ⟨"java/lang/Object", "getClass", "()Ljava/lang/Class;"⟩ ⟨"java/lang/Object", "getClass", "()Ljava/lang/Class;"⟩ ∈ GW := gw 533 rfl rfl
set_option maxRecDepth 20000 in
theorem w_534 : Cond.selects "RumourCustoms$Road" ⟨"java/lang/Object", "getClass", "()Ljava/lang/Class;"⟩ ⟨"java/lang/Object", "getClass", "()Ljava/lang/Class;"⟩ ∈ GW := gw 534 rfl rfl
set_option maxRecDepth 20000 in
theorem w_535 : Cond.selects "RumourCustoms$RoadMap" ⟨"java/lang/Object", "getClass", "()Ljava/lang/Class;"⟩ ⟨"java/lang/Object", "getClass", "()Ljava/lang/Class;"⟩ ∈ GW := gw 535 rfl rfl
set_option maxRecDepth 20000 in
theorem w_536 : Cond.selects "RumourCustoms$Rumour" ⟨"java/lang/Object", "getClass", "()Ljava/lang/Class;"⟩ ⟨"java/lang/Object", "getClass", "()Ljava/lang/Class;"⟩ ∈ GW := gw 536 rfl rfl
set_option maxRecDepth 20000 in
theorem w_537 : Cond.selects "RumourCustoms$WaySearch" ⟨"java/lang/Object", "getClass", "()Ljava/lang/Class;"⟩ ⟨"java/lang/Object", "getClass", "()Ljava/lang/Class;"⟩ ∈ GW := gw 537 rfl rfl
set_option maxRecDepth 20000 in
theorem w_538 : Cond.selects "RumourCustomsModel" ⟨"java/lang/Object", "getClass", "()Ljava/lang/Class;"⟩ ⟨"java/lang/Object", "getClass", "()Ljava/lang/Class;"⟩ ∈ GW := gw 538 rfl rfl
set_option maxRecDepth 20000 in
theorem w_539 : Cond.selects "java/lang/IllegalArgumentException" ⟨"java/lang/Object", "getClass", "()Ljava/lang/Class;"⟩ ⟨"java/lang/Object", "getClass", "()Ljava/lang/Class;"⟩ ∈ GW := gw 539 rfl rfl
set_option maxRecDepth 20000 in
theorem w_540 : Cond.selects "java/lang/IllegalStateException" ⟨"java/lang/Object", "getClass", "()Ljava/lang/Class;"⟩ ⟨"java/lang/Object", "getClass", "()Ljava/lang/Class;"⟩ ∈ GW := gw 540 rfl rfl
set_option maxRecDepth 20000 in
theorem w_541 : Cond.selects "java/lang/IndexOutOfBoundsException" ⟨"java/lang/Object", "getClass", "()Ljava/lang/Class;"⟩ ⟨"java/lang/Object", "getClass", "()Ljava/lang/Class;"⟩ ∈ GW := gw 541 rfl rfl
set_option maxRecDepth 20000 in
theorem w_542 : Cond.selects "java/util/ArrayList" ⟨"java/lang/Object", "getClass", "()Ljava/lang/Class;"⟩ ⟨"java/lang/Object", "getClass", "()Ljava/lang/Class;"⟩ ∈ GW := gw 542 rfl rfl
set_option maxRecDepth 20000 in
theorem w_543 : Cond.native ⟨"java/lang/Object", "getClass", "()Ljava/lang/Class;"⟩ ∈ GW := gw 543 rfl rfl
set_option maxRecDepth 20000 in
theorem w_544 : Cond.methodLink "java/util/Arrays" 300 yJ7_copyOf_6403c ∈ GW := gw 544 rfl rfl
set_option maxRecDepth 20000 in
theorem w_545 : Cond.static yJ7_copyOf_6403c ∈ GW := gw 545 rfl rfl
set_option maxRecDepth 20000 in
theorem w_546 : Cond.code yJ7_copyOf_6403c cJ7_copyOf_6403c 4 (some (.array (.object "java/lang/Object"))) ∈ GW := gw 546 rfl rfl
set_option maxRecDepth 20000 in
theorem w_547 : Cond.classLink "java/util/Arrays" 110 "[Ljava/lang/Object;" ∈ GW := gw 547 rfl rfl
set_option maxRecDepth 20000 in
theorem w_549 : Cond.classLink "java/util/Arrays" 2 "java/lang/Object" ∈ GW := gw 549 rfl rfl
set_option maxRecDepth 20000 in
theorem w_550 : Cond.methodLink "java/util/Arrays" 304 yJ9_min_7cf53 ∈ GW := gw 550 rfl rfl
set_option maxRecDepth 20000 in
theorem w_551 : Cond.static yJ9_min_7cf53 ∈ GW := gw 551 rfl rfl
set_option maxRecDepth 20000 in
theorem w_552 : Cond.code yJ9_min_7cf53 cJ9_min_7cf53 2 (some .int) ∈ GW := gw 552 rfl rfl
set_option maxRecDepth 20000 in
theorem w_553 : Cond.methodLink "java/util/Arrays" 150 ⟨"java/lang/System", "arraycopy", "(Ljava/lang/Object;ILjava/lang/Object;II)V"⟩ ∈ GW := gw 553 rfl rfl
set_option maxRecDepth 20000 in
theorem w_554 : Cond.static ⟨"java/lang/System", "arraycopy", "(Ljava/lang/Object;ILjava/lang/Object;II)V"⟩ ∈ GW := gw 554 rfl rfl
set_option maxRecDepth 20000 in
theorem w_555 : Cond.native ⟨"java/lang/System", "arraycopy", "(Ljava/lang/Object;ILjava/lang/Object;II)V"⟩ ∈ GW := gw 555 rfl rfl
set_option maxRecDepth 20000 in
theorem w_556 : Cond.methodLink "java/util/ArrayList" 79 yJ9_max_7cf53 ∈ GW := gw 556 rfl rfl
set_option maxRecDepth 20000 in
theorem w_557 : Cond.classLink "java/util/ArrayList" 7 "java/lang/Object" ∈ GW := gw 557 rfl rfl
set_option maxRecDepth 20000 in
theorem w_558 : Cond.methodLink "RumourCustomsLaw" 103 yL_rumour ∈ GW := gw 558 rfl rfl
set_option maxRecDepth 20000 in
theorem w_559 : Cond.static yL_rumour ∈ GW := gw 559 rfl rfl
set_option maxRecDepth 20000 in
theorem w_560 : Cond.codeWith yL_rumour cL_rumour 5 (some .int) [(0, 10, 13, 19)] ∈ GW := gw 560 rfl rfl
set_option maxRecDepth 20000 in
theorem w_561 : Cond.methodLink "RumourCustomsLaw" 30 yX5_rumour ∈ GW := gw 561 rfl rfl
set_option maxRecDepth 20000 in
theorem w_562 : Cond.instanceMethod yX5_rumour ∈ GW := gw 562 rfl rfl
set_option maxRecDepth 20000 in
theorem w_563 : Cond.selects "RumourCustoms" yX5_rumour yX5_rumour ∈ GW := gw 563 rfl rfl
set_option maxRecDepth 20000 in
theorem w_564 : Cond.code yX5_rumour cX5_rumour 4 (some .int) ∈ GW := gw 564 rfl rfl
set_option maxRecDepth 20000 in
theorem w_565 : Cond.methodLink "RumourCustoms" 100 yX5_rumourAt ∈ GW := gw 565 rfl rfl
set_option maxRecDepth 20000 in
theorem w_567 : Cond.instanceMethod yX5_rumourAt ∈ GW := gw 567 rfl rfl
set_option maxRecDepth 20000 in
theorem w_568 : Cond.code yX5_rumourAt cX5_rumourAt 2 (some (.object "RumourCustoms$Rumour")) ∈ GW := gw 568 rfl rfl
set_option maxRecDepth 20000 in
theorem w_570 : Cond.methodLink "RumourCustomsLaw" 107 yL_town ∈ GW := gw 570 rfl rfl
set_option maxRecDepth 20000 in
theorem w_571 : Cond.static yL_town ∈ GW := gw 571 rfl rfl
set_option maxRecDepth 20000 in
theorem w_572 : Cond.codeWith yL_town cL_town 5 (some .int) [(0, 10, 13, 19)] ∈ GW := gw 572 rfl rfl
set_option maxRecDepth 20000 in
theorem w_573 : Cond.methodLink "RumourCustomsLaw" 34 yX5_town ∈ GW := gw 573 rfl rfl
set_option maxRecDepth 20000 in
theorem w_574 : Cond.instanceMethod yX5_town ∈ GW := gw 574 rfl rfl
set_option maxRecDepth 20000 in
theorem w_575 : Cond.selects "RumourCustoms" yX5_town yX5_town ∈ GW := gw 575 rfl rfl
set_option maxRecDepth 20000 in
theorem w_576 : Cond.code yX5_town cX5_town 3 (some .int) ∈ GW := gw 576 rfl rfl
set_option maxRecDepth 20000 in
theorem w_577 : Cond.methodLink "RumourCustoms" 105 yX5_rumoursIn ∈ GW := gw 577 rfl rfl
set_option maxRecDepth 20000 in
theorem w_579 : Cond.instanceMethod yX5_rumoursIn ∈ GW := gw 579 rfl rfl
set_option maxRecDepth 20000 in
theorem w_580 : Cond.code yX5_rumoursIn cX5_rumoursIn 4 (some .int) ∈ GW := gw 580 rfl rfl
set_option maxRecDepth 20000 in
theorem w_581 : Cond.methodLink "RumourCustoms" 108 yX5_familiesIn ∈ GW := gw 581 rfl rfl
set_option maxRecDepth 20000 in
theorem w_583 : Cond.instanceMethod yX5_familiesIn ∈ GW := gw 583 rfl rfl
set_option maxRecDepth 20000 in
theorem w_584 : Cond.code yX5_familiesIn cX5_familiesIn 6 (some .int) ∈ GW := gw 584 rfl rfl
set_option maxRecDepth 20000 in
theorem w_585 : Cond.methodLink "RumourCustoms" 290 yJ13_bitCount_95d88 ∈ GW := gw 585 rfl rfl
set_option maxRecDepth 20000 in
theorem w_586 : Cond.static yJ13_bitCount_95d88 ∈ GW := gw 586 rfl rfl
set_option maxRecDepth 20000 in
theorem w_587 : Cond.code yJ13_bitCount_95d88 cJ13_bitCount_95d88 2 (some .int) ∈ GW := gw 587 rfl rfl
set_option maxRecDepth 20000 in
theorem w_588 : Cond.constantLong "java/lang/Long" 314 (6148914691236517205 : Int64) ∈ GW := gw 588 rfl rfl
set_option maxRecDepth 20000 in
theorem w_589 : Cond.constantLong "java/lang/Long" 316 (3689348814741910323 : Int64) ∈ GW := gw 589 rfl rfl
set_option maxRecDepth 20000 in
theorem w_590 : Cond.constantLong "java/lang/Long" 318 (1085102592571150095 : Int64) ∈ GW := gw 590 rfl rfl
set_option maxRecDepth 20000 in
theorem w_591 : Cond.methodLink "RumourCustoms" 111 yX5_deepestIn ∈ GW := gw 591 rfl rfl
set_option maxRecDepth 20000 in
theorem w_593 : Cond.instanceMethod yX5_deepestIn ∈ GW := gw 593 rfl rfl
set_option maxRecDepth 20000 in
theorem w_594 : Cond.code yX5_deepestIn cX5_deepestIn 6 (some .int) ∈ GW := gw 594 rfl rfl
set_option maxRecDepth 20000 in
theorem w_595 : Cond.methodLink "RumourCustoms" 114 yX5_carriersIn ∈ GW := gw 595 rfl rfl
set_option maxRecDepth 20000 in
theorem w_597 : Cond.instanceMethod yX5_carriersIn ∈ GW := gw 597 rfl rfl
set_option maxRecDepth 20000 in
theorem w_598 : Cond.code yX5_carriersIn cX5_carriersIn 5 (some .int) ∈ GW := gw 598 rfl rfl
set_option maxRecDepth 20000 in
theorem w_599 : Cond.methodLink "RumourCustomsLaw" 110 yL_heard ∈ GW := gw 599 rfl rfl
set_option maxRecDepth 20000 in
theorem w_600 : Cond.static yL_heard ∈ GW := gw 600 rfl rfl
set_option maxRecDepth 20000 in
theorem w_601 : Cond.codeWith yL_heard cL_heard 5 (some .int) [(0, 10, 13, 19)] ∈ GW := gw 601 rfl rfl
set_option maxRecDepth 20000 in
theorem w_602 : Cond.methodLink "RumourCustomsLaw" 37 yX5_heard ∈ GW := gw 602 rfl rfl
set_option maxRecDepth 20000 in
theorem w_603 : Cond.instanceMethod yX5_heard ∈ GW := gw 603 rfl rfl
set_option maxRecDepth 20000 in
theorem w_604 : Cond.selects "RumourCustoms" yX5_heard yX5_heard ∈ GW := gw 604 rfl rfl
set_option maxRecDepth 20000 in
theorem w_605 : Cond.code yX5_heard cX5_heard 4 (some .int) ∈ GW := gw 605 rfl rfl
set_option maxRecDepth 20000 in
theorem w_606 : Cond.methodLink "RumourCustoms" 120 yX5_leastDeepIn ∈ GW := gw 606 rfl rfl
set_option maxRecDepth 20000 in
theorem w_608 : Cond.instanceMethod yX5_leastDeepIn ∈ GW := gw 608 rfl rfl
set_option maxRecDepth 20000 in
theorem w_609 : Cond.code yX5_leastDeepIn cX5_leastDeepIn 6 (some (.object "RumourCustoms$Rumour")) ∈ GW := gw 609 rfl rfl
set_option maxRecDepth 20000 in
theorem w_610 : Cond.methodLink "RumourCustomsLaw" 113 yL_addCarrier ∈ GW := gw 610 rfl rfl
set_option maxRecDepth 20000 in
theorem w_611 : Cond.static yL_addCarrier ∈ GW := gw 611 rfl rfl
set_option maxRecDepth 20000 in
theorem w_612 : Cond.codeWith yL_addCarrier cL_addCarrier 5 (some .int) [(0, 10, 13, 19), (0, 10, 17, 21), (0, 10, 21, 13)] ∈ GW := gw 612 rfl rfl
set_option maxRecDepth 20000 in
theorem w_613 : Cond.methodLink "RumourCustomsLaw" 40 yX5_addCarrier ∈ GW := gw 613 rfl rfl
set_option maxRecDepth 20000 in
theorem w_614 : Cond.instanceMethod yX5_addCarrier ∈ GW := gw 614 rfl rfl
set_option maxRecDepth 20000 in
theorem w_615 : Cond.selects "RumourCustoms" yX5_addCarrier yX5_addCarrier ∈ GW := gw 615 rfl rfl
set_option maxRecDepth 20000 in
theorem w_616 : Cond.code yX5_addCarrier cX5_addCarrier 4 (some .int) ∈ GW := gw 616 rfl rfl
set_option maxRecDepth 20000 in
theorem w_617 : Cond.constant "RumourCustoms" 127 (1000000 : Int32) ∈ GW := gw 617 rfl rfl
set_option maxRecDepth 20000 in
theorem w_619 : Cond.instantiable "RumourCustoms$Carrier" 5 ∈ GW := gw 619 rfl rfl
set_option maxRecDepth 20000 in
theorem w_620 : Cond.methodLink "RumourCustoms" 132 yX0_init ∈ GW := gw 620 rfl rfl
set_option maxRecDepth 20000 in
theorem w_621 : Cond.instanceMethod yX0_init ∈ GW := gw 621 rfl rfl
set_option maxRecDepth 20000 in
theorem w_622 : Cond.code yX0_init cX0_init 4 none ∈ GW := gw 622 rfl rfl
set_option maxRecDepth 20000 in
theorem w_623 : Cond.methodLink "RumourCustoms$Carrier" 1 objectInit ∈ GW := gw 623 rfl rfl
set_option maxRecDepth 20000 in
theorem w_624 : Cond.fieldLink "RumourCustoms$Carrier" 7 "RumourCustoms$Carrier" "number" "I" ∈ GW := gw 624 rfl rfl
set_option maxRecDepth 20000 in
theorem w_625 : Cond.fieldLink "RumourCustoms$Rumour" 33 "RumourCustoms$Carrier" "number" "I" ∈ GW := gw 625 rfl rfl
set_option maxRecDepth 20000 in
theorem w_626 : Cond.fieldLink "RumourCustoms$Carrier" 13 "RumourCustoms$Carrier" "town" "I" ∈ GW := gw 626 rfl rfl
set_option maxRecDepth 20000 in
theorem w_627 : Cond.fieldLink "RumourCustoms" 145 "RumourCustoms$Carrier" "town" "I" ∈ GW := gw 627 rfl rfl
set_option maxRecDepth 20000 in
theorem w_628 : Cond.fieldLink "RumourCustoms$Carrier" 19 "RumourCustoms$Carrier" "hoursLeft" "I" ∈ GW := gw 628 rfl rfl
set_option maxRecDepth 20000 in
theorem w_629 : Cond.fieldLink "RumourCustoms" 354 "RumourCustoms$Carrier" "hoursLeft" "I" ∈ GW := gw 629 rfl rfl
set_option maxRecDepth 20000 in
theorem w_630 : Cond.fieldLink "RumourCustoms$Carrier" 16 "RumourCustoms$Carrier" "purse" "I" ∈ GW := gw 630 rfl rfl
set_option maxRecDepth 20000 in
theorem w_631 : Cond.fieldLink "RumourCustoms" 188 "RumourCustoms$Carrier" "purse" "I" ∈ GW := gw 631 rfl rfl
set_option maxRecDepth 20000 in
theorem w_632 : Cond.fieldLink "RumourCustoms$Carrier" 22 "RumourCustoms$Carrier" "paid" "I" ∈ GW := gw 632 rfl rfl
set_option maxRecDepth 20000 in
theorem w_633 : Cond.fieldLink "RumourCustoms" 357 "RumourCustoms$Carrier" "paid" "I" ∈ GW := gw 633 rfl rfl
set_option maxRecDepth 20000 in
theorem w_634 : Cond.laysFinal "RumourCustoms$Carrier" "RumourCustoms$Carrier" "number" "I" ∈ GW := gw 634 rfl rfl
set_option maxRecDepth 20000 in
theorem w_635 : Cond.soleField "RumourCustoms$Carrier" "number" ∈ GW := gw 635 rfl rfl
set_option maxRecDepth 20000 in
theorem w_636 : Cond.lays "RumourCustoms$Carrier" "RumourCustoms$Carrier" "town" "I" ∈ GW := gw 636 rfl rfl
set_option maxRecDepth 20000 in
theorem w_637 : Cond.soleField "RumourCustoms$Carrier" "town" ∈ GW := gw 637 rfl rfl
set_option maxRecDepth 20000 in
theorem w_638 : Cond.lays "RumourCustoms$Carrier" "RumourCustoms$Carrier" "hoursLeft" "I" ∈ GW := gw 638 rfl rfl
set_option maxRecDepth 20000 in
theorem w_639 : Cond.soleField "RumourCustoms$Carrier" "hoursLeft" ∈ GW := gw 639 rfl rfl
set_option maxRecDepth 20000 in
theorem w_640 : Cond.lays "RumourCustoms$Carrier" "RumourCustoms$Carrier" "purse" "I" ∈ GW := gw 640 rfl rfl
set_option maxRecDepth 20000 in
theorem w_641 : Cond.soleField "RumourCustoms$Carrier" "purse" ∈ GW := gw 641 rfl rfl
set_option maxRecDepth 20000 in
theorem w_642 : Cond.lays "RumourCustoms$Carrier" "RumourCustoms$Carrier" "paid" "I" ∈ GW := gw 642 rfl rfl
set_option maxRecDepth 20000 in
theorem w_643 : Cond.soleField "RumourCustoms$Carrier" "paid" ∈ GW := gw 643 rfl rfl
set_option maxRecDepth 20000 in
theorem w_644 : Cond.superclass "RumourCustoms$Carrier" "java/lang/Object" ∈ GW := gw 644 rfl rfl
set_option maxRecDepth 20000 in
theorem w_645 : Cond.methodLink "RumourCustomsLaw" 116 yL_take ∈ GW := gw 645 rfl rfl
set_option maxRecDepth 20000 in
theorem w_646 : Cond.static yL_take ∈ GW := gw 646 rfl rfl
set_option maxRecDepth 20000 in
theorem w_647 : Cond.codeWith yL_take cL_take 5 (some .int) [(0, 10, 13, 19), (0, 10, 17, 13)] ∈ GW := gw 647 rfl rfl
set_option maxRecDepth 20000 in
theorem w_648 : Cond.methodLink "RumourCustomsLaw" 43 yX5_take ∈ GW := gw 648 rfl rfl
set_option maxRecDepth 20000 in
theorem w_649 : Cond.instanceMethod yX5_take ∈ GW := gw 649 rfl rfl
set_option maxRecDepth 20000 in
theorem w_650 : Cond.selects "RumourCustoms" yX5_take yX5_take ∈ GW := gw 650 rfl rfl
set_option maxRecDepth 20000 in
theorem w_651 : Cond.code yX5_take cX5_take 5 (some .int) ∈ GW := gw 651 rfl rfl
set_option maxRecDepth 20000 in
theorem w_652 : Cond.methodLink "RumourCustoms" 134 yX5_carrierAt ∈ GW := gw 652 rfl rfl
set_option maxRecDepth 20000 in
theorem w_654 : Cond.instanceMethod yX5_carrierAt ∈ GW := gw 654 rfl rfl
set_option maxRecDepth 20000 in
theorem w_655 : Cond.code yX5_carrierAt cX5_carrierAt 2 (some (.object "RumourCustoms$Carrier")) ∈ GW := gw 655 rfl rfl
set_option maxRecDepth 20000 in
theorem w_657 : Cond.methodLink "RumourCustoms" 138 yX5_requireInTown ∈ GW := gw 657 rfl rfl
set_option maxRecDepth 20000 in
theorem w_658 : Cond.static yX5_requireInTown ∈ GW := gw 658 rfl rfl
set_option maxRecDepth 20000 in
theorem w_659 : Cond.code yX5_requireInTown cX5_requireInTown 1 none ∈ GW := gw 659 rfl rfl
set_option maxRecDepth 20000 in
theorem w_663 : Cond.methodLink "RumourCustoms" 154 yX3_putIntoBag ∈ GW := gw 663 rfl rfl
set_option maxRecDepth 20000 in
theorem w_664 : Cond.instanceMethod yX3_putIntoBag ∈ GW := gw 664 rfl rfl
set_option maxRecDepth 20000 in
theorem w_665 : Cond.selects "RumourCustoms$Rumour" yX3_putIntoBag yX3_putIntoBag ∈ GW := gw 665 rfl rfl
set_option maxRecDepth 20000 in
theorem w_666 : Cond.code yX3_putIntoBag cX3_putIntoBag 2 none ∈ GW := gw 666 rfl rfl
set_option maxRecDepth 20000 in
theorem w_667 : Cond.methodLink "RumourCustoms$Rumour" 36 yX3_move ∈ GW := gw 667 rfl rfl
set_option maxRecDepth 20000 in
theorem w_669 : Cond.instanceMethod yX3_move ∈ GW := gw 669 rfl rfl
set_option maxRecDepth 20000 in
theorem w_670 : Cond.code yX3_move cX3_move 3 none ∈ GW := gw 670 rfl rfl
set_option maxRecDepth 20000 in
theorem w_671 : Cond.methodLink "RumourCustomsLaw" 119 yL_leave ∈ GW := gw 671 rfl rfl
set_option maxRecDepth 20000 in
theorem w_672 : Cond.static yL_leave ∈ GW := gw 672 rfl rfl
set_option maxRecDepth 20000 in
theorem w_673 : Cond.codeWith yL_leave cL_leave 5 (some .int) [(0, 10, 13, 19), (0, 10, 17, 13)] ∈ GW := gw 673 rfl rfl
set_option maxRecDepth 20000 in
theorem w_674 : Cond.methodLink "RumourCustomsLaw" 46 yX5_leave ∈ GW := gw 674 rfl rfl
set_option maxRecDepth 20000 in
theorem w_675 : Cond.instanceMethod yX5_leave ∈ GW := gw 675 rfl rfl
set_option maxRecDepth 20000 in
theorem w_676 : Cond.selects "RumourCustoms" yX5_leave yX5_leave ∈ GW := gw 676 rfl rfl
set_option maxRecDepth 20000 in
theorem w_677 : Cond.code yX5_leave cX5_leave 5 (some .int) ∈ GW := gw 677 rfl rfl
set_option maxRecDepth 20000 in
theorem w_678 : Cond.methodLink "RumourCustoms" 157 yX5_requireHas ∈ GW := gw 678 rfl rfl
set_option maxRecDepth 20000 in
theorem w_679 : Cond.static yX5_requireHas ∈ GW := gw 679 rfl rfl
set_option maxRecDepth 20000 in
theorem w_680 : Cond.code yX5_requireHas cX5_requireHas 2 none ∈ GW := gw 680 rfl rfl
set_option maxRecDepth 20000 in
theorem w_682 : Cond.methodLink "RumourCustoms" 161 yX3_putIntoTown ∈ GW := gw 682 rfl rfl
set_option maxRecDepth 20000 in
theorem w_683 : Cond.instanceMethod yX3_putIntoTown ∈ GW := gw 683 rfl rfl
set_option maxRecDepth 20000 in
theorem w_684 : Cond.selects "RumourCustoms$Rumour" yX3_putIntoTown yX3_putIntoTown ∈ GW := gw 684 rfl rfl
set_option maxRecDepth 20000 in
theorem w_685 : Cond.code yX3_putIntoTown cX3_putIntoTown 2 none ∈ GW := gw 685 rfl rfl
set_option maxRecDepth 20000 in
theorem w_686 : Cond.methodLink "RumourCustomsLaw" 122 yL_hide ∈ GW := gw 686 rfl rfl
set_option maxRecDepth 20000 in
theorem w_687 : Cond.static yL_hide ∈ GW := gw 687 rfl rfl
set_option maxRecDepth 20000 in
theorem w_688 : Cond.codeWith yL_hide cL_hide 6 (some .int) [(0, 12, 15, 19), (0, 12, 19, 13)] ∈ GW := gw 688 rfl rfl
set_option maxRecDepth 20000 in
theorem w_689 : Cond.methodLink "RumourCustomsLaw" 49 yX5_hide ∈ GW := gw 689 rfl rfl
set_option maxRecDepth 20000 in
theorem w_690 : Cond.instanceMethod yX5_hide ∈ GW := gw 690 rfl rfl
set_option maxRecDepth 20000 in
theorem w_691 : Cond.selects "RumourCustoms" yX5_hide yX5_hide ∈ GW := gw 691 rfl rfl
set_option maxRecDepth 20000 in
theorem w_692 : Cond.code yX5_hide cX5_hide 6 (some .int) ∈ GW := gw 692 rfl rfl
set_option maxRecDepth 20000 in
theorem w_693 : Cond.methodLink "RumourCustomsLaw" 126 yL_tell ∈ GW := gw 693 rfl rfl
set_option maxRecDepth 20000 in
theorem w_694 : Cond.static yL_tell ∈ GW := gw 694 rfl rfl
set_option maxRecDepth 20000 in
theorem w_695 : Cond.codeWith yL_tell cL_tell 5 (some .int) [(0, 10, 13, 19), (0, 10, 17, 13)] ∈ GW := gw 695 rfl rfl
set_option maxRecDepth 20000 in
theorem w_696 : Cond.methodLink "RumourCustomsLaw" 53 yX5_tell ∈ GW := gw 696 rfl rfl
set_option maxRecDepth 20000 in
theorem w_697 : Cond.instanceMethod yX5_tell ∈ GW := gw 697 rfl rfl
set_option maxRecDepth 20000 in
theorem w_698 : Cond.selects "RumourCustoms" yX5_tell yX5_tell ∈ GW := gw 698 rfl rfl
set_option maxRecDepth 20000 in
theorem w_699 : Cond.code yX5_tell cX5_tell 8 (some .int) ∈ GW := gw 699 rfl rfl
set_option maxRecDepth 20000 in
theorem w_701 : Cond.methodLink "RumourCustomsLaw" 129 yL_go ∈ GW := gw 701 rfl rfl
set_option maxRecDepth 20000 in
theorem w_702 : Cond.static yL_go ∈ GW := gw 702 rfl rfl
set_option maxRecDepth 20000 in
theorem w_703 : Cond.codeWith yL_go cL_go 6 (some .int) [(0, 12, 15, 19), (0, 12, 19, 21), (0, 12, 23, 13)] ∈ GW := gw 703 rfl rfl
set_option maxRecDepth 20000 in
theorem w_704 : Cond.methodLink "RumourCustomsLaw" 56 yX5_go ∈ GW := gw 704 rfl rfl
set_option maxRecDepth 20000 in
theorem w_705 : Cond.instanceMethod yX5_go ∈ GW := gw 705 rfl rfl
set_option maxRecDepth 20000 in
theorem w_706 : Cond.selects "RumourCustoms" yX5_go yX5_go ∈ GW := gw 706 rfl rfl
set_option maxRecDepth 20000 in
theorem w_707 : Cond.code yX5_go cX5_go 8 (some .int) ∈ GW := gw 707 rfl rfl
set_option maxRecDepth 20000 in
theorem w_709 : Cond.methodLink "RumourCustoms" 184 yX5_owedBy ∈ GW := gw 709 rfl rfl
set_option maxRecDepth 20000 in
theorem w_711 : Cond.instanceMethod yX5_owedBy ∈ GW := gw 711 rfl rfl
set_option maxRecDepth 20000 in
theorem w_712 : Cond.code yX5_owedBy cX5_owedBy 7 (some .int) ∈ GW := gw 712 rfl rfl
set_option maxRecDepth 20000 in
theorem w_713 : Cond.methodLink "RumourCustoms" 299 yX3_isShownBy ∈ GW := gw 713 rfl rfl
set_option maxRecDepth 20000 in
theorem w_714 : Cond.instanceMethod yX3_isShownBy ∈ GW := gw 714 rfl rfl
set_option maxRecDepth 20000 in
theorem w_715 : Cond.selects "RumourCustoms$Rumour" yX3_isShownBy yX3_isShownBy ∈ GW := gw 715 rfl rfl
set_option maxRecDepth 20000 in
theorem w_716 : Cond.code yX3_isShownBy cX3_isShownBy 2 (some .boolean) ∈ GW := gw 716 rfl rfl
set_option maxRecDepth 20000 in
theorem w_717 : Cond.methodLink "RumourCustoms" 302 yX3_burnable ∈ GW := gw 717 rfl rfl
set_option maxRecDepth 20000 in
theorem w_718 : Cond.instanceMethod yX3_burnable ∈ GW := gw 718 rfl rfl
set_option maxRecDepth 20000 in
theorem w_719 : Cond.selects "RumourCustoms$Rumour" yX3_burnable yX3_burnable ∈ GW := gw 719 rfl rfl
set_option maxRecDepth 20000 in
theorem w_720 : Cond.code yX3_burnable cX3_burnable 2 (some .int) ∈ GW := gw 720 rfl rfl
set_option maxRecDepth 20000 in
theorem w_721 : Cond.methodLink "RumourCustoms$Rumour" 48 yJ9_min_7cf53 ∈ GW := gw 721 rfl rfl
set_option maxRecDepth 20000 in
theorem w_722 : Cond.methodLink "RumourCustoms" 305 yX1_dutyOf ∈ GW := gw 722 rfl rfl
set_option maxRecDepth 20000 in
theorem w_723 : Cond.instanceMethod yX1_dutyOf ∈ GW := gw 723 rfl rfl
set_option maxRecDepth 20000 in
theorem w_724 : Cond.selects "RumourCustoms$Road" yX1_dutyOf yX1_dutyOf ∈ GW := gw 724 rfl rfl
set_option maxRecDepth 20000 in
theorem w_725 : Cond.code yX1_dutyOf cX1_dutyOf 3 (some .int) ∈ GW := gw 725 rfl rfl
set_option maxRecDepth 20000 in
theorem w_727 : Cond.methodLink "RumourCustoms" 193 yX5_fineOf ∈ GW := gw 727 rfl rfl
set_option maxRecDepth 20000 in
theorem w_729 : Cond.instanceMethod yX5_fineOf ∈ GW := gw 729 rfl rfl
set_option maxRecDepth 20000 in
theorem w_730 : Cond.code yX5_fineOf cX5_fineOf 7 (some .int) ∈ GW := gw 730 rfl rfl
set_option maxRecDepth 20000 in
theorem w_731 : Cond.methodLink "RumourCustoms" 309 yX1_attentionBehind ∈ GW := gw 731 rfl rfl
set_option maxRecDepth 20000 in
theorem w_732 : Cond.instanceMethod yX1_attentionBehind ∈ GW := gw 732 rfl rfl
set_option maxRecDepth 20000 in
theorem w_733 : Cond.selects "RumourCustoms$Road" yX1_attentionBehind yX1_attentionBehind ∈ GW := gw 733 rfl rfl
set_option maxRecDepth 20000 in
theorem w_734 : Cond.code yX1_attentionBehind cX1_attentionBehind 2 (some .int) ∈ GW := gw 734 rfl rfl
set_option maxRecDepth 20000 in
theorem w_735 : Cond.methodLink "RumourCustoms" 312 yJ9_min_7cf53 ∈ GW := gw 735 rfl rfl
set_option maxRecDepth 20000 in
theorem w_736 : Cond.methodLink "RumourCustoms" 318 yJ9_max_7cf53 ∈ GW := gw 736 rfl rfl
set_option maxRecDepth 20000 in
theorem w_737 : Cond.methodLink "RumourCustoms" 196 yX5_burnProofs ∈ GW := gw 737 rfl rfl
set_option maxRecDepth 20000 in
theorem w_739 : Cond.instanceMethod yX5_burnProofs ∈ GW := gw 739 rfl rfl
set_option maxRecDepth 20000 in
theorem w_740 : Cond.code yX5_burnProofs cX5_burnProofs 6 none ∈ GW := gw 740 rfl rfl
set_option maxRecDepth 20000 in
theorem w_741 : Cond.methodLink "RumourCustoms" 200 yX5_inspect ∈ GW := gw 741 rfl rfl
set_option maxRecDepth 20000 in
theorem w_743 : Cond.instanceMethod yX5_inspect ∈ GW := gw 743 rfl rfl
set_option maxRecDepth 20000 in
theorem w_744 : Cond.code yX5_inspect cX5_inspect 3 none ∈ GW := gw 744 rfl rfl
set_option maxRecDepth 20000 in
theorem w_745 : Cond.methodLink "RumourCustoms" 330 yX5_takeHidden ∈ GW := gw 745 rfl rfl
set_option maxRecDepth 20000 in
theorem w_747 : Cond.instanceMethod yX5_takeHidden ∈ GW := gw 747 rfl rfl
set_option maxRecDepth 20000 in
theorem w_748 : Cond.code yX5_takeHidden cX5_takeHidden 4 none ∈ GW := gw 748 rfl rfl
set_option maxRecDepth 20000 in
theorem w_749 : Cond.methodLink "RumourCustoms" 333 yX3_vanish ∈ GW := gw 749 rfl rfl
set_option maxRecDepth 20000 in
theorem w_750 : Cond.instanceMethod yX3_vanish ∈ GW := gw 750 rfl rfl
set_option maxRecDepth 20000 in
theorem w_751 : Cond.selects "RumourCustoms$Rumour" yX3_vanish yX3_vanish ∈ GW := gw 751 rfl rfl
set_option maxRecDepth 20000 in
theorem w_752 : Cond.code yX3_vanish cX3_vanish 1 none ∈ GW := gw 752 rfl rfl
set_option maxRecDepth 20000 in
theorem w_753 : Cond.methodLink "RumourCustoms" 204 yX5_pay ∈ GW := gw 753 rfl rfl
set_option maxRecDepth 20000 in
theorem w_755 : Cond.instanceMethod yX5_pay ∈ GW := gw 755 rfl rfl
set_option maxRecDepth 20000 in
theorem w_756 : Cond.code yX5_pay cX5_pay 5 none ∈ GW := gw 756 rfl rfl
set_option maxRecDepth 20000 in
theorem w_757 : Cond.methodLink "RumourCustoms" 336 yX0_pay ∈ GW := gw 757 rfl rfl
set_option maxRecDepth 20000 in
theorem w_758 : Cond.instanceMethod yX0_pay ∈ GW := gw 758 rfl rfl
set_option maxRecDepth 20000 in
theorem w_759 : Cond.selects "RumourCustoms$Carrier" yX0_pay yX0_pay ∈ GW := gw 759 rfl rfl
set_option maxRecDepth 20000 in
theorem w_760 : Cond.code yX0_pay cX0_pay 2 none ∈ GW := gw 760 rfl rfl
set_option maxRecDepth 20000 in
theorem w_761 : Cond.methodLink "RumourCustoms" 211 yX0_setOut ∈ GW := gw 761 rfl rfl
set_option maxRecDepth 20000 in
theorem w_762 : Cond.instanceMethod yX0_setOut ∈ GW := gw 762 rfl rfl
set_option maxRecDepth 20000 in
theorem w_763 : Cond.selects "RumourCustoms$Carrier" yX0_setOut yX0_setOut ∈ GW := gw 763 rfl rfl
set_option maxRecDepth 20000 in
theorem w_764 : Cond.code yX0_setOut cX0_setOut 3 none ∈ GW := gw 764 rfl rfl
set_option maxRecDepth 20000 in
theorem w_765 : Cond.methodLink "RumourCustomsLaw" 132 yL_carrier ∈ GW := gw 765 rfl rfl
set_option maxRecDepth 20000 in
theorem w_766 : Cond.static yL_carrier ∈ GW := gw 766 rfl rfl
set_option maxRecDepth 20000 in
theorem w_767 : Cond.codeWith yL_carrier cL_carrier 5 (some .int) [(0, 10, 13, 19)] ∈ GW := gw 767 rfl rfl
set_option maxRecDepth 20000 in
theorem w_768 : Cond.methodLink "RumourCustomsLaw" 59 yX5_carrier ∈ GW := gw 768 rfl rfl
set_option maxRecDepth 20000 in
theorem w_769 : Cond.instanceMethod yX5_carrier ∈ GW := gw 769 rfl rfl
set_option maxRecDepth 20000 in
theorem w_770 : Cond.selects "RumourCustoms" yX5_carrier yX5_carrier ∈ GW := gw 770 rfl rfl
set_option maxRecDepth 20000 in
theorem w_771 : Cond.code yX5_carrier cX5_carrier 4 (some .int) ∈ GW := gw 771 rfl rfl
set_option maxRecDepth 20000 in
theorem w_772 : Cond.methodLink "RumourCustomsLaw" 135 yL_wouldPay ∈ GW := gw 772 rfl rfl
set_option maxRecDepth 20000 in
theorem w_773 : Cond.static yL_wouldPay ∈ GW := gw 773 rfl rfl
set_option maxRecDepth 20000 in
theorem w_774 : Cond.codeWith yL_wouldPay cL_wouldPay 6 (some .int) [(0, 12, 15, 19), (0, 12, 19, 21), (0, 12, 23, 13)] ∈ GW := gw 774 rfl rfl
set_option maxRecDepth 20000 in
theorem w_775 : Cond.methodLink "RumourCustomsLaw" 62 yX5_wouldPay ∈ GW := gw 775 rfl rfl
set_option maxRecDepth 20000 in
theorem w_776 : Cond.instanceMethod yX5_wouldPay ∈ GW := gw 776 rfl rfl
set_option maxRecDepth 20000 in
theorem w_777 : Cond.selects "RumourCustoms" yX5_wouldPay yX5_wouldPay ∈ GW := gw 777 rfl rfl
set_option maxRecDepth 20000 in
theorem w_778 : Cond.code yX5_wouldPay cX5_wouldPay 7 (some .int) ∈ GW := gw 778 rfl rfl
set_option maxRecDepth 20000 in
theorem w_779 : Cond.methodLink "RumourCustomsLaw" 138 yL_pass ∈ GW := gw 779 rfl rfl
set_option maxRecDepth 20000 in
theorem w_780 : Cond.static yL_pass ∈ GW := gw 780 rfl rfl
set_option maxRecDepth 20000 in
theorem w_781 : Cond.codeWith yL_pass cL_pass 4 (some .int) [(0, 9, 12, 21)] ∈ GW := gw 781 rfl rfl
set_option maxRecDepth 20000 in
theorem w_782 : Cond.methodLink "RumourCustomsLaw" 65 yX5_pass ∈ GW := gw 782 rfl rfl
set_option maxRecDepth 20000 in
theorem w_783 : Cond.instanceMethod yX5_pass ∈ GW := gw 783 rfl rfl
set_option maxRecDepth 20000 in
theorem w_784 : Cond.selects "RumourCustoms" yX5_pass yX5_pass ∈ GW := gw 784 rfl rfl
set_option maxRecDepth 20000 in
theorem w_785 : Cond.code yX5_pass cX5_pass 4 (some .int) ∈ GW := gw 785 rfl rfl
set_option maxRecDepth 20000 in
theorem w_786 : Cond.methodLink "RumourCustoms" 225 yX0_comesWithin ∈ GW := gw 786 rfl rfl
set_option maxRecDepth 20000 in
theorem w_787 : Cond.instanceMethod yX0_comesWithin ∈ GW := gw 787 rfl rfl
set_option maxRecDepth 20000 in
theorem w_788 : Cond.selects "RumourCustoms$Carrier" yX0_comesWithin yX0_comesWithin ∈ GW := gw 788 rfl rfl
set_option maxRecDepth 20000 in
theorem w_789 : Cond.code yX0_comesWithin cX0_comesWithin 2 (some .boolean) ∈ GW := gw 789 rfl rfl
set_option maxRecDepth 20000 in
theorem w_790 : Cond.methodLink "RumourCustoms$Carrier" 25 yX0_isOnTheWay ∈ GW := gw 790 rfl rfl
set_option maxRecDepth 20000 in
theorem w_791 : Cond.methodLink "RumourCustoms$Carrier" 29 yJ9_max_7cf53 ∈ GW := gw 791 rfl rfl
set_option maxRecDepth 20000 in
theorem w_792 : Cond.methodLink "RumourCustomsLaw" 142 yL_count ∈ GW := gw 792 rfl rfl
set_option maxRecDepth 20000 in
theorem w_793 : Cond.static yL_count ∈ GW := gw 793 rfl rfl
set_option maxRecDepth 20000 in
theorem w_794 : Cond.codeWith yL_count cL_count 4 (some .int) [(0, 9, 12, 19)] ∈ GW := gw 794 rfl rfl
set_option maxRecDepth 20000 in
theorem w_795 : Cond.methodLink "RumourCustomsLaw" 69 yX5_count ∈ GW := gw 795 rfl rfl
set_option maxRecDepth 20000 in
theorem w_796 : Cond.instanceMethod yX5_count ∈ GW := gw 796 rfl rfl
set_option maxRecDepth 20000 in
theorem w_797 : Cond.selects "RumourCustoms" yX5_count yX5_count ∈ GW := gw 797 rfl rfl
set_option maxRecDepth 20000 in
theorem w_798 : Cond.code yX5_count cX5_count 2 (some .int) ∈ GW := gw 798 rfl rfl
set_option maxRecDepth 20000 in
theorem w_799 : Cond.methodLink "RumourCustomsLaw" 145 yL_cheapest ∈ GW := gw 799 rfl rfl
set_option maxRecDepth 20000 in
theorem w_800 : Cond.static yL_cheapest ∈ GW := gw 800 rfl rfl
set_option maxRecDepth 20000 in
theorem w_801 : Cond.codeWith yL_cheapest cL_cheapest 7 (some .int) [(0, 14, 17, 19)] ∈ GW := gw 801 rfl rfl
set_option maxRecDepth 20000 in
theorem w_802 : Cond.methodLink "RumourCustomsLaw" 72 yX5_cheapest ∈ GW := gw 802 rfl rfl
set_option maxRecDepth 20000 in
theorem w_803 : Cond.instanceMethod yX5_cheapest ∈ GW := gw 803 rfl rfl
set_option maxRecDepth 20000 in
theorem w_804 : Cond.selects "RumourCustoms" yX5_cheapest yX5_cheapest ∈ GW := gw 804 rfl rfl
set_option maxRecDepth 20000 in
theorem w_805 : Cond.code yX5_cheapest cX5_cheapest 7 (some .int) ∈ GW := gw 805 rfl rfl
set_option maxRecDepth 20000 in
theorem w_806 : Cond.methodLink "RumourCustoms" 232 yX4_leastPrice ∈ GW := gw 806 rfl rfl
set_option maxRecDepth 20000 in
theorem w_807 : Cond.instanceMethod yX4_leastPrice ∈ GW := gw 807 rfl rfl
set_option maxRecDepth 20000 in
theorem w_808 : Cond.selects "RumourCustoms$WaySearch" yX4_leastPrice yX4_leastPrice ∈ GW := gw 808 rfl rfl
set_option maxRecDepth 20000 in
theorem w_809 : Cond.code yX4_leastPrice cX4_leastPrice 6 (some .int) ∈ GW := gw 809 rfl rfl
set_option maxRecDepth 20000 in
theorem w_810 : Cond.methodLink "RumourCustoms$WaySearch" 23 yX4_startIn ∈ GW := gw 810 rfl rfl
set_option maxRecDepth 20000 in
theorem w_812 : Cond.instanceMethod yX4_startIn ∈ GW := gw 812 rfl rfl
set_option maxRecDepth 20000 in
theorem w_813 : Cond.code yX4_startIn cX4_startIn 3 none ∈ GW := gw 813 rfl rfl
set_option maxRecDepth 20000 in
theorem w_814 : Cond.constant "RumourCustoms$WaySearch" 39 (1000000000 : Int32) ∈ GW := gw 814 rfl rfl
set_option maxRecDepth 20000 in
theorem w_815 : Cond.methodLink "RumourCustoms$WaySearch" 27 yX4_nextStage ∈ GW := gw 815 rfl rfl
set_option maxRecDepth 20000 in
theorem w_817 : Cond.instanceMethod yX4_nextStage ∈ GW := gw 817 rfl rfl
set_option maxRecDepth 20000 in
theorem w_818 : Cond.code yX4_nextStage cX4_nextStage 4 (some .int) ∈ GW := gw 818 rfl rfl
set_option maxRecDepth 20000 in
theorem w_819 : Cond.methodLink "RumourCustoms$WaySearch" 31 yX4_townOf ∈ GW := gw 819 rfl rfl
set_option maxRecDepth 20000 in
theorem w_820 : Cond.static yX4_townOf ∈ GW := gw 820 rfl rfl
set_option maxRecDepth 20000 in
theorem w_821 : Cond.code yX4_townOf cX4_townOf 1 (some .int) ∈ GW := gw 821 rfl rfl
set_option maxRecDepth 20000 in
theorem w_822 : Cond.methodLink "RumourCustoms$WaySearch" 35 yX4_goOnFrom ∈ GW := gw 822 rfl rfl
set_option maxRecDepth 20000 in
theorem w_824 : Cond.instanceMethod yX4_goOnFrom ∈ GW := gw 824 rfl rfl
set_option maxRecDepth 20000 in
theorem w_825 : Cond.code yX4_goOnFrom cX4_goOnFrom 5 none ∈ GW := gw 825 rfl rfl
set_option maxRecDepth 20000 in
theorem w_826 : Cond.methodLink "RumourCustoms$WaySearch" 40 yX2_between ∈ GW := gw 826 rfl rfl
set_option maxRecDepth 20000 in
theorem w_827 : Cond.methodLink "RumourCustoms$WaySearch" 46 yX4_goBy ∈ GW := gw 827 rfl rfl
set_option maxRecDepth 20000 in
theorem w_829 : Cond.instanceMethod yX4_goBy ∈ GW := gw 829 rfl rfl
set_option maxRecDepth 20000 in
theorem w_830 : Cond.code yX4_goBy cX4_goBy 9 none ∈ GW := gw 830 rfl rfl
set_option maxRecDepth 20000 in
theorem w_831 : Cond.methodLink "RumourCustoms$WaySearch" 50 yX4_burntAt ∈ GW := gw 831 rfl rfl
set_option maxRecDepth 20000 in
theorem w_832 : Cond.static yX4_burntAt ∈ GW := gw 832 rfl rfl
set_option maxRecDepth 20000 in
theorem w_833 : Cond.code yX4_burntAt cX4_burntAt 1 (some .int) ∈ GW := gw 833 rfl rfl
set_option maxRecDepth 20000 in
theorem w_834 : Cond.methodLink "RumourCustoms$WaySearch" 59 yX1_dutyOf ∈ GW := gw 834 rfl rfl
set_option maxRecDepth 20000 in
theorem w_835 : Cond.methodLink "RumourCustoms" 236 yX4_dutiesOf ∈ GW := gw 835 rfl rfl
set_option maxRecDepth 20000 in
theorem w_836 : Cond.static yX4_dutiesOf ∈ GW := gw 836 rfl rfl
set_option maxRecDepth 20000 in
theorem w_837 : Cond.code yX4_dutiesOf cX4_dutiesOf 1 (some .int) ∈ GW := gw 837 rfl rfl
set_option maxRecDepth 20000 in
theorem w_838 : Cond.methodLink "RumourCustoms" 239 yX4_hoursOf ∈ GW := gw 838 rfl rfl
set_option maxRecDepth 20000 in
theorem w_839 : Cond.static yX4_hoursOf ∈ GW := gw 839 rfl rfl
set_option maxRecDepth 20000 in
theorem w_840 : Cond.code yX4_hoursOf cX4_hoursOf 1 (some .int) ∈ GW := gw 840 rfl rfl
set_option maxRecDepth 20000 in
theorem w_841 : Cond.methodLink "RumourCustomsLaw" 149 yL_spread ∈ GW := gw 841 rfl rfl
set_option maxRecDepth 20000 in
theorem w_842 : Cond.static yL_spread ∈ GW := gw 842 rfl rfl
set_option maxRecDepth 20000 in
theorem w_843 : Cond.codeWith yL_spread cL_spread 5 (some .int) [(0, 10, 13, 19)] ∈ GW := gw 843 rfl rfl
set_option maxRecDepth 20000 in
theorem w_844 : Cond.methodLink "RumourCustomsLaw" 76 yX5_spread ∈ GW := gw 844 rfl rfl
set_option maxRecDepth 20000 in
theorem w_845 : Cond.instanceMethod yX5_spread ∈ GW := gw 845 rfl rfl
set_option maxRecDepth 20000 in
theorem w_846 : Cond.selects "RumourCustoms" yX5_spread yX5_spread ∈ GW := gw 846 rfl rfl
set_option maxRecDepth 20000 in
theorem w_847 : Cond.code yX5_spread cX5_spread 4 (some .int) ∈ GW := gw 847 rfl rfl
set_option maxRecDepth 20000 in
theorem w_848 : Cond.methodLink "RumourCustoms" 242 yX5_townsThatKnow ∈ GW := gw 848 rfl rfl
set_option maxRecDepth 20000 in
theorem w_850 : Cond.instanceMethod yX5_townsThatKnow ∈ GW := gw 850 rfl rfl
set_option maxRecDepth 20000 in
theorem w_851 : Cond.code yX5_townsThatKnow cX5_townsThatKnow 5 (some .int) ∈ GW := gw 851 rfl rfl
set_option maxRecDepth 20000 in
theorem w_852 : Cond.methodLink "RumourCustoms" 347 yJ6_bitCount_0f7a4 ∈ GW := gw 852 rfl rfl
set_option maxRecDepth 20000 in
theorem w_853 : Cond.static yJ6_bitCount_0f7a4 ∈ GW := gw 853 rfl rfl
set_option maxRecDepth 20000 in
theorem w_854 : Cond.code yJ6_bitCount_0f7a4 cJ6_bitCount_0f7a4 1 (some .int) ∈ GW := gw 854 rfl rfl
set_option maxRecDepth 20000 in
theorem w_855 : Cond.constant "java/lang/Integer" 265 (1431655765 : Int32) ∈ GW := gw 855 rfl rfl
set_option maxRecDepth 20000 in
theorem w_856 : Cond.constant "java/lang/Integer" 266 (858993459 : Int32) ∈ GW := gw 856 rfl rfl
set_option maxRecDepth 20000 in
theorem w_857 : Cond.constant "java/lang/Integer" 267 (252645135 : Int32) ∈ GW := gw 857 rfl rfl
set_option maxRecDepth 20000 in
theorem w_858 : Cond.methodLink "RumourCustoms" 245 yX5_greatestDepthInTowns ∈ GW := gw 858 rfl rfl
set_option maxRecDepth 20000 in
theorem w_860 : Cond.instanceMethod yX5_greatestDepthInTowns ∈ GW := gw 860 rfl rfl
set_option maxRecDepth 20000 in
theorem w_861 : Cond.code yX5_greatestDepthInTowns cX5_greatestDepthInTowns 5 (some .int) ∈ GW := gw 861 rfl rfl
set_option maxRecDepth 20000 in
theorem w_862 : Cond.methodLink "RumourCustoms" 248 yX5_notGoneOf ∈ GW := gw 862 rfl rfl
set_option maxRecDepth 20000 in
theorem w_864 : Cond.instanceMethod yX5_notGoneOf ∈ GW := gw 864 rfl rfl
set_option maxRecDepth 20000 in
theorem w_865 : Cond.code yX5_notGoneOf cX5_notGoneOf 5 (some .int) ∈ GW := gw 865 rfl rfl
set_option maxRecDepth 20000 in
theorem w_866 : Cond.classLink "RumourCustomsLaw" 80 "RumourCustomsModel" ∈ GW := gw 866 rfl rfl
set_option maxRecDepth 20000 in
theorem w_867 : Cond.instantiable "RumourCustomsModel" 14 ∈ GW := gw 867 rfl rfl
set_option maxRecDepth 20000 in
theorem w_868 : Cond.methodLink "RumourCustomsLaw" 82 yX6_init ∈ GW := gw 868 rfl rfl
set_option maxRecDepth 20000 in
theorem w_869 : Cond.instanceMethod yX6_init ∈ GW := gw 869 rfl rfl
set_option maxRecDepth 20000 in
theorem w_870 : Cond.code yX6_init cX6_init 1 none ∈ GW := gw 870 rfl rfl
set_option maxRecDepth 20000 in
theorem w_871 : Cond.methodLink "RumourCustomsModel" 1 objectInit ∈ GW := gw 871 rfl rfl
set_option maxRecDepth 20000 in
theorem w_872 : Cond.fieldLink "RumourCustomsModel" 23 "RumourCustomsModel" "thrown" "I" ∈ GW := gw 872 rfl rfl
set_option maxRecDepth 20000 in
theorem w_873 : Cond.fieldLink "RumourCustomsModel" 141 "RumourCustomsModel" "hour" "I" ∈ GW := gw 873 rfl rfl
set_option maxRecDepth 20000 in
theorem w_874 : Cond.fieldLink "RumourCustomsModel" 27 "RumourCustomsModel" "towns" "I" ∈ GW := gw 874 rfl rfl
set_option maxRecDepth 20000 in
theorem w_875 : Cond.fieldLink "RumourCustomsModel" 66 "RumourCustomsModel" "roads" "I" ∈ GW := gw 875 rfl rfl
set_option maxRecDepth 20000 in
theorem w_876 : Cond.fieldLink "RumourCustomsModel" 34 "RumourCustomsModel" "rumours" "I" ∈ GW := gw 876 rfl rfl
set_option maxRecDepth 20000 in
theorem w_877 : Cond.fieldLink "RumourCustomsModel" 37 "RumourCustomsModel" "carriers" "I" ∈ GW := gw 877 rfl rfl
set_option maxRecDepth 20000 in
theorem w_878 : Cond.fieldLink "RumourCustomsModel" 126 "RumourCustomsModel" "burnt" "I" ∈ GW := gw 878 rfl rfl
set_option maxRecDepth 20000 in
theorem w_879 : Cond.fieldLink "RumourCustomsModel" 129 "RumourCustomsModel" "duties" "I" ∈ GW := gw 879 rfl rfl
set_option maxRecDepth 20000 in
theorem w_880 : Cond.fieldLink "RumourCustomsModel" 132 "RumourCustomsModel" "fines" "I" ∈ GW := gw 880 rfl rfl
set_option maxRecDepth 20000 in
theorem w_881 : Cond.fieldLink "RumourCustomsModel" 123 "RumourCustomsModel" "searches" "I" ∈ GW := gw 881 rfl rfl
set_option maxRecDepth 20000 in
theorem w_882 : Cond.fieldLink "RumourCustomsModel" 9 "RumourCustomsModel" "roadTable" "[I" ∈ GW := gw 882 rfl rfl
set_option maxRecDepth 20000 in
theorem w_883 : Cond.fieldLink "RumourCustomsModel" 13 "RumourCustomsModel" "table" "[I" ∈ GW := gw 883 rfl rfl
set_option maxRecDepth 20000 in
theorem w_884 : Cond.fieldLink "RumourCustomsModel" 16 "RumourCustomsModel" "people" "[I" ∈ GW := gw 884 rfl rfl
set_option maxRecDepth 20000 in
theorem w_885 : Cond.fieldLink "RumourCustomsModel" 19 "RumourCustomsModel" "best" "[J" ∈ GW := gw 885 rfl rfl
set_option maxRecDepth 20000 in
theorem w_886 : Cond.lays "RumourCustomsModel" "RumourCustomsModel" "thrown" "I" ∈ GW := gw 886 rfl rfl
set_option maxRecDepth 20000 in
theorem w_887 : Cond.soleField "RumourCustomsModel" "thrown" ∈ GW := gw 887 rfl rfl
set_option maxRecDepth 20000 in
theorem w_888 : Cond.lays "RumourCustomsModel" "RumourCustomsModel" "hour" "I" ∈ GW := gw 888 rfl rfl
set_option maxRecDepth 20000 in
theorem w_889 : Cond.soleField "RumourCustomsModel" "hour" ∈ GW := gw 889 rfl rfl
set_option maxRecDepth 20000 in
theorem w_890 : Cond.lays "RumourCustomsModel" "RumourCustomsModel" "towns" "I" ∈ GW := gw 890 rfl rfl
set_option maxRecDepth 20000 in
theorem w_891 : Cond.soleField "RumourCustomsModel" "towns" ∈ GW := gw 891 rfl rfl
set_option maxRecDepth 20000 in
theorem w_892 : Cond.lays "RumourCustomsModel" "RumourCustomsModel" "roads" "I" ∈ GW := gw 892 rfl rfl
set_option maxRecDepth 20000 in
theorem w_893 : Cond.soleField "RumourCustomsModel" "roads" ∈ GW := gw 893 rfl rfl
set_option maxRecDepth 20000 in
theorem w_894 : Cond.lays "RumourCustomsModel" "RumourCustomsModel" "rumours" "I" ∈ GW := gw 894 rfl rfl
set_option maxRecDepth 20000 in
theorem w_895 : Cond.soleField "RumourCustomsModel" "rumours" ∈ GW := gw 895 rfl rfl
set_option maxRecDepth 20000 in
theorem w_896 : Cond.lays "RumourCustomsModel" "RumourCustomsModel" "carriers" "I" ∈ GW := gw 896 rfl rfl
set_option maxRecDepth 20000 in
theorem w_897 : Cond.soleField "RumourCustomsModel" "carriers" ∈ GW := gw 897 rfl rfl
set_option maxRecDepth 20000 in
theorem w_898 : Cond.lays "RumourCustomsModel" "RumourCustomsModel" "burnt" "I" ∈ GW := gw 898 rfl rfl
set_option maxRecDepth 20000 in
theorem w_899 : Cond.soleField "RumourCustomsModel" "burnt" ∈ GW := gw 899 rfl rfl
set_option maxRecDepth 20000 in
theorem w_900 : Cond.lays "RumourCustomsModel" "RumourCustomsModel" "duties" "I" ∈ GW := gw 900 rfl rfl
set_option maxRecDepth 20000 in
theorem w_901 : Cond.soleField "RumourCustomsModel" "duties" ∈ GW := gw 901 rfl rfl
set_option maxRecDepth 20000 in
theorem w_902 : Cond.lays "RumourCustomsModel" "RumourCustomsModel" "fines" "I" ∈ GW := gw 902 rfl rfl
set_option maxRecDepth 20000 in
theorem w_903 : Cond.soleField "RumourCustomsModel" "fines" ∈ GW := gw 903 rfl rfl
set_option maxRecDepth 20000 in
theorem w_904 : Cond.lays "RumourCustomsModel" "RumourCustomsModel" "searches" "I" ∈ GW := gw 904 rfl rfl
set_option maxRecDepth 20000 in
theorem w_905 : Cond.soleField "RumourCustomsModel" "searches" ∈ GW := gw 905 rfl rfl
set_option maxRecDepth 20000 in
theorem w_906 : Cond.laysFinal "RumourCustomsModel" "RumourCustomsModel" "roadTable" "[I" ∈ GW := gw 906 rfl rfl
set_option maxRecDepth 20000 in
theorem w_907 : Cond.soleField "RumourCustomsModel" "roadTable" ∈ GW := gw 907 rfl rfl
set_option maxRecDepth 20000 in
theorem w_908 : Cond.laysFinal "RumourCustomsModel" "RumourCustomsModel" "table" "[I" ∈ GW := gw 908 rfl rfl
set_option maxRecDepth 20000 in
theorem w_909 : Cond.soleField "RumourCustomsModel" "table" ∈ GW := gw 909 rfl rfl
set_option maxRecDepth 20000 in
theorem w_910 : Cond.laysFinal "RumourCustomsModel" "RumourCustomsModel" "people" "[I" ∈ GW := gw 910 rfl rfl
set_option maxRecDepth 20000 in
theorem w_911 : Cond.soleField "RumourCustomsModel" "people" ∈ GW := gw 911 rfl rfl
set_option maxRecDepth 20000 in
theorem w_912 : Cond.laysFinal "RumourCustomsModel" "RumourCustomsModel" "best" "[J" ∈ GW := gw 912 rfl rfl
set_option maxRecDepth 20000 in
theorem w_913 : Cond.soleField "RumourCustomsModel" "best" ∈ GW := gw 913 rfl rfl
set_option maxRecDepth 20000 in
theorem w_914 : Cond.superclass "RumourCustomsModel" "java/lang/Object" ∈ GW := gw 914 rfl rfl
set_option maxRecDepth 20000 in
theorem w_915 : Cond.arrayClass .long ∈ GW := gw 915 rfl rfl
set_option maxRecDepth 20000 in
theorem w_916 : Cond.methodLink "RumourCustomsLaw" 89 yX6_thrown ∈ GW := gw 916 rfl rfl
set_option maxRecDepth 20000 in
theorem w_917 : Cond.instanceMethod yX6_thrown ∈ GW := gw 917 rfl rfl
set_option maxRecDepth 20000 in
theorem w_918 : Cond.selects "RumourCustomsModel" yX6_thrown yX6_thrown ∈ GW := gw 918 rfl rfl
set_option maxRecDepth 20000 in
theorem w_919 : Cond.code yX6_thrown cX6_thrown 1 (some .int) ∈ GW := gw 919 rfl rfl
set_option maxRecDepth 20000 in
theorem w_920 : Cond.methodLink "RumourCustomsLaw" 88 yX6_addTown ∈ GW := gw 920 rfl rfl
set_option maxRecDepth 20000 in
theorem w_921 : Cond.instanceMethod yX6_addTown ∈ GW := gw 921 rfl rfl
set_option maxRecDepth 20000 in
theorem w_922 : Cond.selects "RumourCustomsModel" yX6_addTown yX6_addTown ∈ GW := gw 922 rfl rfl
set_option maxRecDepth 20000 in
theorem w_923 : Cond.code yX6_addTown cX6_addTown 1 (some .int) ∈ GW := gw 923 rfl rfl
set_option maxRecDepth 20000 in
theorem w_924 : Cond.methodLink "RumourCustomsModel" 49 yX6_fail ∈ GW := gw 924 rfl rfl
set_option maxRecDepth 20000 in
theorem w_926 : Cond.instanceMethod yX6_fail ∈ GW := gw 926 rfl rfl
set_option maxRecDepth 20000 in
theorem w_927 : Cond.code yX6_fail cX6_fail 2 (some .int) ∈ GW := gw 927 rfl rfl
set_option maxRecDepth 20000 in
theorem w_928 : Cond.methodLink "RumourCustomsLaw" 95 yX6_build ∈ GW := gw 928 rfl rfl
set_option maxRecDepth 20000 in
theorem w_929 : Cond.instanceMethod yX6_build ∈ GW := gw 929 rfl rfl
set_option maxRecDepth 20000 in
theorem w_930 : Cond.selects "RumourCustomsModel" yX6_build yX6_build ∈ GW := gw 930 rfl rfl
set_option maxRecDepth 20000 in
theorem w_931 : Cond.code yX6_build cX6_build 8 (some .int) ∈ GW := gw 931 rfl rfl
set_option maxRecDepth 20000 in
theorem w_932 : Cond.methodLink "RumourCustomsModel" 53 yX6_isTown ∈ GW := gw 932 rfl rfl
set_option maxRecDepth 20000 in
theorem w_934 : Cond.instanceMethod yX6_isTown ∈ GW := gw 934 rfl rfl
set_option maxRecDepth 20000 in
theorem w_935 : Cond.code yX6_isTown cX6_isTown 2 (some .boolean) ∈ GW := gw 935 rfl rfl
set_option maxRecDepth 20000 in
theorem w_936 : Cond.methodLink "RumourCustomsModel" 30 yX6_isIn ∈ GW := gw 936 rfl rfl
set_option maxRecDepth 20000 in
theorem w_937 : Cond.static yX6_isIn ∈ GW := gw 937 rfl rfl
set_option maxRecDepth 20000 in
theorem w_938 : Cond.code yX6_isIn cX6_isIn 3 (some .boolean) ∈ GW := gw 938 rfl rfl
set_option maxRecDepth 20000 in
theorem w_939 : Cond.methodLink "RumourCustomsModel" 57 yX6_base ∈ GW := gw 939 rfl rfl
set_option maxRecDepth 20000 in
theorem w_940 : Cond.static yX6_base ∈ GW := gw 940 rfl rfl
set_option maxRecDepth 20000 in
theorem w_941 : Cond.code yX6_base cX6_base 2 (some .int) ∈ GW := gw 941 rfl rfl
set_option maxRecDepth 20000 in
theorem w_942 : Cond.methodLink "RumourCustomsModel" 40 yJ9_min_7cf53 ∈ GW := gw 942 rfl rfl
set_option maxRecDepth 20000 in
theorem w_943 : Cond.methodLink "RumourCustomsModel" 46 yJ9_max_7cf53 ∈ GW := gw 943 rfl rfl
set_option maxRecDepth 20000 in
theorem w_944 : Cond.methodLink "RumourCustomsModel" 60 ⟨"java/lang/System", "arraycopy", "(Ljava/lang/Object;ILjava/lang/Object;II)V"⟩ ∈ GW := gw 944 rfl rfl
set_option maxRecDepth 20000 in
theorem w_945 : Cond.methodLink "RumourCustomsLaw" 99 yX6_road ∈ GW := gw 945 rfl rfl
set_option maxRecDepth 20000 in
theorem w_946 : Cond.instanceMethod yX6_road ∈ GW := gw 946 rfl rfl
set_option maxRecDepth 20000 in
theorem w_947 : Cond.selects "RumourCustomsModel" yX6_road yX6_road ∈ GW := gw 947 rfl rfl
set_option maxRecDepth 20000 in
theorem w_948 : Cond.code yX6_road cX6_road 4 (some .int) ∈ GW := gw 948 rfl rfl
set_option maxRecDepth 20000 in
theorem w_949 : Cond.methodLink "RumourCustomsLaw" 102 yX6_makeUp ∈ GW := gw 949 rfl rfl
set_option maxRecDepth 20000 in
theorem w_950 : Cond.instanceMethod yX6_makeUp ∈ GW := gw 950 rfl rfl
set_option maxRecDepth 20000 in
theorem w_951 : Cond.selects "RumourCustomsModel" yX6_makeUp yX6_makeUp ∈ GW := gw 951 rfl rfl
set_option maxRecDepth 20000 in
theorem w_952 : Cond.code yX6_makeUp cX6_makeUp 4 (some .int) ∈ GW := gw 952 rfl rfl
set_option maxRecDepth 20000 in
theorem w_953 : Cond.methodLink "RumourCustomsModel" 69 yX6_add ∈ GW := gw 953 rfl rfl
set_option maxRecDepth 20000 in
theorem w_955 : Cond.instanceMethod yX6_add ∈ GW := gw 955 rfl rfl
set_option maxRecDepth 20000 in
theorem w_956 : Cond.code yX6_add cX6_add 7 (some .int) ∈ GW := gw 956 rfl rfl
set_option maxRecDepth 20000 in
theorem w_957 : Cond.methodLink "RumourCustomsLaw" 106 yX6_rumour ∈ GW := gw 957 rfl rfl
set_option maxRecDepth 20000 in
theorem w_958 : Cond.instanceMethod yX6_rumour ∈ GW := gw 958 rfl rfl
set_option maxRecDepth 20000 in
theorem w_959 : Cond.selects "RumourCustomsModel" yX6_rumour yX6_rumour ∈ GW := gw 959 rfl rfl
set_option maxRecDepth 20000 in
theorem w_960 : Cond.code yX6_rumour cX6_rumour 3 (some .int) ∈ GW := gw 960 rfl rfl
set_option maxRecDepth 20000 in
theorem w_961 : Cond.methodLink "RumourCustomsModel" 73 yX6_isRumour ∈ GW := gw 961 rfl rfl
set_option maxRecDepth 20000 in
theorem w_963 : Cond.instanceMethod yX6_isRumour ∈ GW := gw 963 rfl rfl
set_option maxRecDepth 20000 in
theorem w_964 : Cond.code yX6_isRumour cX6_isRumour 2 (some .boolean) ∈ GW := gw 964 rfl rfl
set_option maxRecDepth 20000 in
theorem w_965 : Cond.methodLink "RumourCustomsModel" 76 yX6_get ∈ GW := gw 965 rfl rfl
set_option maxRecDepth 20000 in
theorem w_967 : Cond.instanceMethod yX6_get ∈ GW := gw 967 rfl rfl
set_option maxRecDepth 20000 in
theorem w_968 : Cond.code yX6_get cX6_get 3 (some .int) ∈ GW := gw 968 rfl rfl
set_option maxRecDepth 20000 in
theorem w_969 : Cond.methodLink "RumourCustomsLaw" 109 yX6_town ∈ GW := gw 969 rfl rfl
set_option maxRecDepth 20000 in
theorem w_970 : Cond.instanceMethod yX6_town ∈ GW := gw 970 rfl rfl
set_option maxRecDepth 20000 in
theorem w_971 : Cond.selects "RumourCustomsModel" yX6_town yX6_town ∈ GW := gw 971 rfl rfl
set_option maxRecDepth 20000 in
theorem w_972 : Cond.code yX6_town cX6_town 3 (some .int) ∈ GW := gw 972 rfl rfl
set_option maxRecDepth 20000 in
theorem w_973 : Cond.methodLink "RumourCustomsModel" 89 yX6_townTold ∈ GW := gw 973 rfl rfl
set_option maxRecDepth 20000 in
theorem w_975 : Cond.instanceMethod yX6_townTold ∈ GW := gw 975 rfl rfl
set_option maxRecDepth 20000 in
theorem w_976 : Cond.code yX6_townTold cX6_townTold 6 (some .int) ∈ GW := gw 976 rfl rfl
set_option maxRecDepth 20000 in
theorem w_977 : Cond.methodLink "RumourCustomsModel" 82 yX6_knows ∈ GW := gw 977 rfl rfl
set_option maxRecDepth 20000 in
theorem w_979 : Cond.instanceMethod yX6_knows ∈ GW := gw 979 rfl rfl
set_option maxRecDepth 20000 in
theorem w_980 : Cond.code yX6_knows cX6_knows 3 (some .boolean) ∈ GW := gw 980 rfl rfl
set_option maxRecDepth 20000 in
theorem w_981 : Cond.methodLink "RumourCustomsModel" 79 yX6_heardOf ∈ GW := gw 981 rfl rfl
set_option maxRecDepth 20000 in
theorem w_983 : Cond.instanceMethod yX6_heardOf ∈ GW := gw 983 rfl rfl
set_option maxRecDepth 20000 in
theorem w_984 : Cond.code yX6_heardOf cX6_heardOf 5 (some .int) ∈ GW := gw 984 rfl rfl
set_option maxRecDepth 20000 in
theorem w_985 : Cond.methodLink "RumourCustomsModel" 86 yX6_man ∈ GW := gw 985 rfl rfl
set_option maxRecDepth 20000 in
theorem w_987 : Cond.instanceMethod yX6_man ∈ GW := gw 987 rfl rfl
set_option maxRecDepth 20000 in
theorem w_988 : Cond.code yX6_man cX6_man 3 (some .int) ∈ GW := gw 988 rfl rfl
set_option maxRecDepth 20000 in
theorem w_989 : Cond.methodLink "RumourCustomsLaw" 112 yX6_heard ∈ GW := gw 989 rfl rfl
set_option maxRecDepth 20000 in
theorem w_990 : Cond.instanceMethod yX6_heard ∈ GW := gw 990 rfl rfl
set_option maxRecDepth 20000 in
theorem w_991 : Cond.selects "RumourCustomsModel" yX6_heard yX6_heard ∈ GW := gw 991 rfl rfl
set_option maxRecDepth 20000 in
theorem w_992 : Cond.code yX6_heard cX6_heard 3 (some .int) ∈ GW := gw 992 rfl rfl
set_option maxRecDepth 20000 in
theorem w_993 : Cond.methodLink "RumourCustomsLaw" 115 yX6_addCarrier ∈ GW := gw 993 rfl rfl
set_option maxRecDepth 20000 in
theorem w_994 : Cond.instanceMethod yX6_addCarrier ∈ GW := gw 994 rfl rfl
set_option maxRecDepth 20000 in
theorem w_995 : Cond.selects "RumourCustomsModel" yX6_addCarrier yX6_addCarrier ∈ GW := gw 995 rfl rfl
set_option maxRecDepth 20000 in
theorem w_996 : Cond.code yX6_addCarrier cX6_addCarrier 4 (some .int) ∈ GW := gw 996 rfl rfl
set_option maxRecDepth 20000 in
theorem w_997 : Cond.constant "RumourCustomsModel" 92 (1000000 : Int32) ∈ GW := gw 997 rfl rfl
set_option maxRecDepth 20000 in
theorem w_998 : Cond.methodLink "RumourCustomsLaw" 118 yX6_take ∈ GW := gw 998 rfl rfl
set_option maxRecDepth 20000 in
theorem w_999 : Cond.instanceMethod yX6_take ∈ GW := gw 999 rfl rfl
set_option maxRecDepth 20000 in
theorem w_1000 : Cond.selects "RumourCustomsModel" yX6_take yX6_take ∈ GW := gw 1000 rfl rfl
set_option maxRecDepth 20000 in
theorem w_1001 : Cond.code yX6_take cX6_take 3 (some .int) ∈ GW := gw 1001 rfl rfl
set_option maxRecDepth 20000 in
theorem w_1002 : Cond.methodLink "RumourCustomsModel" 97 yX6_isCarrier ∈ GW := gw 1002 rfl rfl
set_option maxRecDepth 20000 in
theorem w_1004 : Cond.instanceMethod yX6_isCarrier ∈ GW := gw 1004 rfl rfl
set_option maxRecDepth 20000 in
theorem w_1005 : Cond.code yX6_isCarrier cX6_isCarrier 2 (some .boolean) ∈ GW := gw 1005 rfl rfl
set_option maxRecDepth 20000 in
theorem w_1006 : Cond.methodLink "RumourCustomsModel" 100 yX6_inBag ∈ GW := gw 1006 rfl rfl
set_option maxRecDepth 20000 in
theorem w_1008 : Cond.instanceMethod yX6_inBag ∈ GW := gw 1008 rfl rfl
set_option maxRecDepth 20000 in
theorem w_1009 : Cond.code yX6_inBag cX6_inBag 5 (some .int) ∈ GW := gw 1009 rfl rfl
set_option maxRecDepth 20000 in
theorem w_1010 : Cond.methodLink "RumourCustomsModel" 104 yX6_lay ∈ GW := gw 1010 rfl rfl
set_option maxRecDepth 20000 in
theorem w_1012 : Cond.instanceMethod yX6_lay ∈ GW := gw 1012 rfl rfl
set_option maxRecDepth 20000 in
theorem w_1013 : Cond.code yX6_lay cX6_lay 4 none ∈ GW := gw 1013 rfl rfl
set_option maxRecDepth 20000 in
theorem w_1014 : Cond.methodLink "RumourCustomsModel" 93 yX6_set ∈ GW := gw 1014 rfl rfl
set_option maxRecDepth 20000 in
theorem w_1016 : Cond.instanceMethod yX6_set ∈ GW := gw 1016 rfl rfl
set_option maxRecDepth 20000 in
theorem w_1017 : Cond.code yX6_set cX6_set 4 none ∈ GW := gw 1017 rfl rfl
set_option maxRecDepth 20000 in
theorem w_1018 : Cond.methodLink "RumourCustomsLaw" 121 yX6_leave ∈ GW := gw 1018 rfl rfl
set_option maxRecDepth 20000 in
theorem w_1019 : Cond.instanceMethod yX6_leave ∈ GW := gw 1019 rfl rfl
set_option maxRecDepth 20000 in
theorem w_1020 : Cond.selects "RumourCustomsModel" yX6_leave yX6_leave ∈ GW := gw 1020 rfl rfl
set_option maxRecDepth 20000 in
theorem w_1021 : Cond.code yX6_leave cX6_leave 3 (some .int) ∈ GW := gw 1021 rfl rfl
set_option maxRecDepth 20000 in
theorem w_1022 : Cond.methodLink "RumourCustomsModel" 107 yX6_has ∈ GW := gw 1022 rfl rfl
set_option maxRecDepth 20000 in
theorem w_1024 : Cond.instanceMethod yX6_has ∈ GW := gw 1024 rfl rfl
set_option maxRecDepth 20000 in
theorem w_1025 : Cond.code yX6_has cX6_has 3 (some .boolean) ∈ GW := gw 1025 rfl rfl
set_option maxRecDepth 20000 in
theorem w_1026 : Cond.methodLink "RumourCustomsLaw" 125 yX6_hide ∈ GW := gw 1026 rfl rfl
set_option maxRecDepth 20000 in
theorem w_1027 : Cond.instanceMethod yX6_hide ∈ GW := gw 1027 rfl rfl
set_option maxRecDepth 20000 in
theorem w_1028 : Cond.selects "RumourCustomsModel" yX6_hide yX6_hide ∈ GW := gw 1028 rfl rfl
set_option maxRecDepth 20000 in
theorem w_1029 : Cond.code yX6_hide cX6_hide 4 (some .int) ∈ GW := gw 1029 rfl rfl
set_option maxRecDepth 20000 in
theorem w_1030 : Cond.methodLink "RumourCustomsLaw" 128 yX6_tell ∈ GW := gw 1030 rfl rfl
set_option maxRecDepth 20000 in
theorem w_1031 : Cond.instanceMethod yX6_tell ∈ GW := gw 1031 rfl rfl
set_option maxRecDepth 20000 in
theorem w_1032 : Cond.selects "RumourCustomsModel" yX6_tell yX6_tell ∈ GW := gw 1032 rfl rfl
set_option maxRecDepth 20000 in
theorem w_1033 : Cond.code yX6_tell cX6_tell 5 (some .int) ∈ GW := gw 1033 rfl rfl
set_option maxRecDepth 20000 in
theorem w_1034 : Cond.methodLink "RumourCustomsLaw" 131 yX6_go ∈ GW := gw 1034 rfl rfl
set_option maxRecDepth 20000 in
theorem w_1035 : Cond.instanceMethod yX6_go ∈ GW := gw 1035 rfl rfl
set_option maxRecDepth 20000 in
theorem w_1036 : Cond.selects "RumourCustomsModel" yX6_go yX6_go ∈ GW := gw 1036 rfl rfl
set_option maxRecDepth 20000 in
theorem w_1037 : Cond.code yX6_go cX6_go 10 (some .int) ∈ GW := gw 1037 rfl rfl
set_option maxRecDepth 20000 in
theorem w_1038 : Cond.methodLink "RumourCustomsModel" 117 yX6_owed ∈ GW := gw 1038 rfl rfl
set_option maxRecDepth 20000 in
theorem w_1040 : Cond.instanceMethod yX6_owed ∈ GW := gw 1040 rfl rfl
set_option maxRecDepth 20000 in
theorem w_1041 : Cond.code yX6_owed cX6_owed 6 (some .int) ∈ GW := gw 1041 rfl rfl
set_option maxRecDepth 20000 in
theorem w_1042 : Cond.methodLink "RumourCustomsModel" 110 yX6_dutyAt ∈ GW := gw 1042 rfl rfl
set_option maxRecDepth 20000 in
theorem w_1044 : Cond.instanceMethod yX6_dutyAt ∈ GW := gw 1044 rfl rfl
set_option maxRecDepth 20000 in
theorem w_1045 : Cond.code yX6_dutyAt cX6_dutyAt 4 (some .int) ∈ GW := gw 1045 rfl rfl
set_option maxRecDepth 20000 in
theorem w_1046 : Cond.methodLink "RumourCustomsModel" 120 yX6_fine ∈ GW := gw 1046 rfl rfl
set_option maxRecDepth 20000 in
theorem w_1048 : Cond.instanceMethod yX6_fine ∈ GW := gw 1048 rfl rfl
set_option maxRecDepth 20000 in
theorem w_1049 : Cond.code yX6_fine cX6_fine 6 (some .int) ∈ GW := gw 1049 rfl rfl
set_option maxRecDepth 20000 in
theorem w_1050 : Cond.methodLink "RumourCustomsModel" 114 yX6_isSearched ∈ GW := gw 1050 rfl rfl
set_option maxRecDepth 20000 in
theorem w_1052 : Cond.instanceMethod yX6_isSearched ∈ GW := gw 1052 rfl rfl
set_option maxRecDepth 20000 in
theorem w_1053 : Cond.code yX6_isSearched cX6_isSearched 3 (some .boolean) ∈ GW := gw 1053 rfl rfl
set_option maxRecDepth 20000 in
theorem w_1054 : Cond.methodLink "RumourCustomsModel" 135 yX6_setMan ∈ GW := gw 1054 rfl rfl
set_option maxRecDepth 20000 in
theorem w_1056 : Cond.instanceMethod yX6_setMan ∈ GW := gw 1056 rfl rfl
set_option maxRecDepth 20000 in
theorem w_1057 : Cond.code yX6_setMan cX6_setMan 4 none ∈ GW := gw 1057 rfl rfl
set_option maxRecDepth 20000 in
theorem w_1058 : Cond.methodLink "RumourCustomsLaw" 134 yX6_carrier ∈ GW := gw 1058 rfl rfl
set_option maxRecDepth 20000 in
theorem w_1059 : Cond.instanceMethod yX6_carrier ∈ GW := gw 1059 rfl rfl
set_option maxRecDepth 20000 in
theorem w_1060 : Cond.selects "RumourCustomsModel" yX6_carrier yX6_carrier ∈ GW := gw 1060 rfl rfl
set_option maxRecDepth 20000 in
theorem w_1061 : Cond.code yX6_carrier cX6_carrier 3 (some .int) ∈ GW := gw 1061 rfl rfl
set_option maxRecDepth 20000 in
theorem w_1062 : Cond.methodLink "RumourCustomsModel" 138 yX6_carrierTold ∈ GW := gw 1062 rfl rfl
set_option maxRecDepth 20000 in
theorem w_1064 : Cond.instanceMethod yX6_carrierTold ∈ GW := gw 1064 rfl rfl
set_option maxRecDepth 20000 in
theorem w_1065 : Cond.code yX6_carrierTold cX6_carrierTold 3 (some .int) ∈ GW := gw 1065 rfl rfl
set_option maxRecDepth 20000 in
theorem w_1066 : Cond.methodLink "RumourCustomsLaw" 137 yX6_wouldPay ∈ GW := gw 1066 rfl rfl
set_option maxRecDepth 20000 in
theorem w_1067 : Cond.instanceMethod yX6_wouldPay ∈ GW := gw 1067 rfl rfl
set_option maxRecDepth 20000 in
theorem w_1068 : Cond.selects "RumourCustomsModel" yX6_wouldPay yX6_wouldPay ∈ GW := gw 1068 rfl rfl
set_option maxRecDepth 20000 in
theorem w_1069 : Cond.code yX6_wouldPay cX6_wouldPay 6 (some .int) ∈ GW := gw 1069 rfl rfl
set_option maxRecDepth 20000 in
theorem w_1070 : Cond.methodLink "RumourCustomsLaw" 141 yX6_pass ∈ GW := gw 1070 rfl rfl
set_option maxRecDepth 20000 in
theorem w_1071 : Cond.instanceMethod yX6_pass ∈ GW := gw 1071 rfl rfl
set_option maxRecDepth 20000 in
theorem w_1072 : Cond.selects "RumourCustomsModel" yX6_pass yX6_pass ∈ GW := gw 1072 rfl rfl
set_option maxRecDepth 20000 in
theorem w_1073 : Cond.code yX6_pass cX6_pass 4 (some .int) ∈ GW := gw 1073 rfl rfl
set_option maxRecDepth 20000 in
theorem w_1074 : Cond.methodLink "RumourCustomsLaw" 144 yX6_count ∈ GW := gw 1074 rfl rfl
set_option maxRecDepth 20000 in
theorem w_1075 : Cond.instanceMethod yX6_count ∈ GW := gw 1075 rfl rfl
set_option maxRecDepth 20000 in
theorem w_1076 : Cond.selects "RumourCustomsModel" yX6_count yX6_count ∈ GW := gw 1076 rfl rfl
set_option maxRecDepth 20000 in
theorem w_1077 : Cond.code yX6_count cX6_count 2 (some .int) ∈ GW := gw 1077 rfl rfl
set_option maxRecDepth 20000 in
theorem w_1078 : Cond.methodLink "RumourCustomsModel" 148 yX6_counted ∈ GW := gw 1078 rfl rfl
set_option maxRecDepth 20000 in
theorem w_1080 : Cond.instanceMethod yX6_counted ∈ GW := gw 1080 rfl rfl
set_option maxRecDepth 20000 in
theorem w_1081 : Cond.code yX6_counted cX6_counted 4 (some .int) ∈ GW := gw 1081 rfl rfl
set_option maxRecDepth 20000 in
theorem w_1082 : Cond.methodLink "RumourCustomsModel" 144 yX6_gone ∈ GW := gw 1082 rfl rfl
set_option maxRecDepth 20000 in
theorem w_1084 : Cond.instanceMethod yX6_gone ∈ GW := gw 1084 rfl rfl
set_option maxRecDepth 20000 in
theorem w_1085 : Cond.code yX6_gone cX6_gone 3 (some .int) ∈ GW := gw 1085 rfl rfl
set_option maxRecDepth 20000 in
theorem w_1086 : Cond.methodLink "RumourCustomsLaw" 148 yX6_cheapest ∈ GW := gw 1086 rfl rfl
set_option maxRecDepth 20000 in
theorem w_1087 : Cond.instanceMethod yX6_cheapest ∈ GW := gw 1087 rfl rfl
set_option maxRecDepth 20000 in
theorem w_1088 : Cond.selects "RumourCustomsModel" yX6_cheapest yX6_cheapest ∈ GW := gw 1088 rfl rfl
set_option maxRecDepth 20000 in
theorem w_1089 : Cond.code yX6_cheapest cX6_cheapest 11 (some .int) ∈ GW := gw 1089 rfl rfl
set_option maxRecDepth 20000 in
theorem w_1090 : Cond.constantLong "RumourCustomsModel" 151 (-1 : Int64) ∈ GW := gw 1090 rfl rfl
set_option maxRecDepth 20000 in
theorem w_1091 : Cond.methodLink "RumourCustomsModel" 153 yX6_goOn ∈ GW := gw 1091 rfl rfl
set_option maxRecDepth 20000 in
theorem w_1093 : Cond.instanceMethod yX6_goOn ∈ GW := gw 1093 rfl rfl
set_option maxRecDepth 20000 in
theorem w_1094 : Cond.code yX6_goOn cX6_goOn 13 (some .boolean) ∈ GW := gw 1094 rfl rfl
set_option maxRecDepth 20000 in
theorem w_1095 : Cond.constantLong "RumourCustomsModel" 156 (1000000 : Int64) ∈ GW := gw 1095 rfl rfl
set_option maxRecDepth 20000 in
theorem w_1096 : Cond.methodLink "RumourCustomsLaw" 151 yX6_spread ∈ GW := gw 1096 rfl rfl
set_option maxRecDepth 20000 in
theorem w_1097 : Cond.instanceMethod yX6_spread ∈ GW := gw 1097 rfl rfl
set_option maxRecDepth 20000 in
theorem w_1098 : Cond.selects "RumourCustomsModel" yX6_spread yX6_spread ∈ GW := gw 1098 rfl rfl
set_option maxRecDepth 20000 in
theorem w_1099 : Cond.code yX6_spread cX6_spread 7 (some .int) ∈ GW := gw 1099 rfl rfl
set_option maxRecDepth 20000 in
theorem w_1100 : Cond.methodLink "RumourCustomsLaw" 156 yX6_hearsay ∈ GW := gw 1100 rfl rfl
set_option maxRecDepth 20000 in
theorem w_1101 : Cond.instanceMethod yX6_hearsay ∈ GW := gw 1101 rfl rfl
set_option maxRecDepth 20000 in
theorem w_1102 : Cond.selects "RumourCustomsModel" yX6_hearsay yX6_hearsay ∈ GW := gw 1102 rfl rfl
set_option maxRecDepth 20000 in
theorem w_1103 : Cond.code yX6_hearsay cX6_hearsay 4 (some .double) ∈ GW := gw 1103 rfl rfl
set_option maxRecDepth 20000 in
theorem w_1104 : Cond.methodLink "RumourCustomsLaw" 161 yX6_digest ∈ GW := gw 1104 rfl rfl
set_option maxRecDepth 20000 in
theorem w_1105 : Cond.instanceMethod yX6_digest ∈ GW := gw 1105 rfl rfl
set_option maxRecDepth 20000 in
theorem w_1106 : Cond.selects "RumourCustomsModel" yX6_digest yX6_digest ∈ GW := gw 1106 rfl rfl
set_option maxRecDepth 20000 in
theorem w_1107 : Cond.code yX6_digest cX6_digest 6 (some .long) ∈ GW := gw 1107 rfl rfl
set_option maxRecDepth 20000 in
theorem w_1108 : Cond.constantLong "RumourCustomsModel" 158 (499 : Int64) ∈ GW := gw 1108 rfl rfl
set_option maxRecDepth 20000 in
theorem w_1109 : Cond.constantLong "RumourCustomsModel" 160 (31 : Int64) ∈ GW := gw 1109 rfl rfl
set_option maxRecDepth 20000 in
theorem w_1110 : Cond.sameMethod "java/lang/Throwable" "java/lang/Throwable" "fillInStackTrace" "(I)Ljava/lang/Throwable;" ∈ GW := gw 1110 rfl rfl
set_option maxRecDepth 20000 in
theorem w_1124 : Cond.sameMethod "[Ljava/lang/Object;" "java/lang/Object" "getClass" "()Ljava/lang/Class;" ∈ GW := gw 1124 rfl rfl
set_option maxRecDepth 20000 in
theorem w_1125 : Cond.selects "[Ljava/lang/Object;" ⟨"java/lang/Object", "getClass", "()Ljava/lang/Class;"⟩ ⟨"java/lang/Object", "getClass", "()Ljava/lang/Class;"⟩ ∈ GW := gw 1125 rfl rfl

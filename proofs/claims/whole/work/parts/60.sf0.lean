def M_X10_feed : MB := (yX10_feed, cX10_feed, 6, (some .int), ({ frames := 2, cells := 0, slots := 0, locals := 62 } : Room), RX10)
def M_X10_knot : MB := (yX10_knot, cX10_knot, 2, (some .int), ({ frames := 2, cells := 0, slots := 0, locals := 61 } : Room), RX10)
def M_X10_lines : MB := (yX10_lines, cX10_lines, 3, (some .int), ({ frames := 4, cells := 0, slots := 0, locals := 105 } : Room), RX10)
def M_X10_unsound : MB := (yX10_unsound, cX10_unsound, 1, (some .int), ({ frames := 5, cells := 0, slots := 0, locals := 129 } : Room), RX10)
def M_X10_at : MB := (yX10_at, cX10_at, 2, (some .int), ({ frames := 2, cells := 0, slots := 0, locals := 61 } : Room), RX10)
def M_X10_mark : MB := (yX10_mark, cX10_mark, 1, none, ({ frames := 6, cells := 0, slots := 0, locals := 114 } : Room), RX10)
def M_X10_seen : MB := (yX10_seen, cX10_seen, 3, (some .int), ({ frames := 3, cells := 0, slots := 0, locals := 84 } : Room), RX10)
def M_X10_forget : MB := (yX10_forget, cX10_forget, 1, (some .int), ({ frames := 2, cells := 0, slots := 0, locals := 61 } : Room), RX10)
def M_X10_count : MB := (yX10_count, cX10_count, 2, (some .long), ({ frames := 2, cells := 0, slots := 0, locals := 60 } : Room), RX10)
def M_X10_end : MB := (yX10_end, cX10_end, 2, (some .int), ({ frames := 3, cells := 0, slots := 0, locals := 83 } : Room), RX10)
def M_X10_push : MB := (yX10_push, cX10_push, 2, (some .int), ({ frames := 3, cells := 0, slots := 0, locals := 81 } : Room), RX10)
def M_X10_hold : MB := (yX10_hold, cX10_hold, 3, (some .int), ({ frames := 3, cells := 0, slots := 0, locals := 82 } : Room), RX10)
def M_X10_sum : MB := (yX10_sum, cX10_sum, 3, (some .int), ({ frames := 4, cells := 0, slots := 0, locals := 107 } : Room), RX10)
def M_X10_group : MB := (yX10_group, cX10_group, 2, (some .int), ({ frames := 3, cells := 0, slots := 0, locals := 83 } : Room), RX10)
def M_X10_put : MB := (yX10_put, cX10_put, 4, (some .boolean), ({ frames := 8, cells := 0, slots := 0, locals := 156 } : Room), RX10)
def M_X10_feels : MB := (yX10_feels, cX10_feels, 4, (some .int), ({ frames := 3, cells := 0, slots := 0, locals := 82 } : Room), RX10)
def M_X10_clear : MB := (yX10_clear, cX10_clear, 2, (some .int), ({ frames := 8, cells := 0, slots := 0, locals := 156 } : Room), RX10)
def M_X10_back : MB := (yX10_back, cX10_back, 1, (some .int), ({ frames := 8, cells := 0, slots := 0, locals := 156 } : Room), RX10)
def M_X10_shape : MB := (yX10_shape, cX10_shape, 5, (some .long), ({ frames := 3, cells := 0, slots := 0, locals := 83 } : Room), RX10)
def M_X10_aimed : MB := (yX10_aimed, cX10_aimed, 2, (some .int), ({ frames := 3, cells := 0, slots := 0, locals := 83 } : Room), RX10)
def M_X10_fitted : MB := (yX10_fitted, cX10_fitted, 3, (some .int), ({ frames := 3, cells := 0, slots := 0, locals := 85 } : Room), RX10)
def M_X10_sight : MB := (yX10_sight, cX10_sight, 3, (some .int), ({ frames := 3, cells := 0, slots := 0, locals := 83 } : Room), RX10)
def M_X10_readBack : MB := (yX10_readBack, cX10_readBack, 2, (some .int), ({ frames := 6, cells := 0, slots := 0, locals := 151 } : Room), RX10)
def M_X10_system : MB := (yX10_system, cX10_system, 3, (some .int), ({ frames := 4, cells := 0, slots := 0, locals := 107 } : Room), RX10)
def M_X10_harder : MB := (yX10_harder, cX10_harder, 3, (some .boolean), ({ frames := 3, cells := 0, slots := 0, locals := 84 } : Room), RX10)
def M_X10_systems : MB := (yX10_systems, cX10_systems, 3, (some .long), ({ frames := 4, cells := 0, slots := 0, locals := 105 } : Room), RX10)
theorem cb_X0_keep : CB M_X0_keep 1 := ⟨GW_of 1010 (by decide +kernel) (by decide +kernel), GW_of 91 (by decide +kernel) (by decide +kernel), by decide +kernel, by decide +kernel, by decide +kernel⟩
theorem cb_X10_isPart : CB M_X10_isPart 1 := ⟨GW_of 774 (by decide +kernel) (by decide +kernel), GW_of 84 (by decide +kernel) (by decide +kernel), by decide +kernel, by decide +kernel, by decide +kernel⟩
theorem cb_X10_isPull : CB M_X10_isPull 1 := ⟨GW_of 1040 (by decide +kernel) (by decide +kernel), GW_of 84 (by decide +kernel) (by decide +kernel), by decide +kernel, by decide +kernel, by decide +kernel⟩
theorem cb_X10_isSide : CB M_X10_isSide 1 := ⟨GW_of 796 (by decide +kernel) (by decide +kernel), GW_of 84 (by decide +kernel) (by decide +kernel), by decide +kernel, by decide +kernel, by decide +kernel⟩
theorem cb_X1_addSight : CB M_X1_addSight 2 := ⟨GW_of 1210 (by decide +kernel) (by decide +kernel), GW_of 95 (by decide +kernel) (by decide +kernel), by decide +kernel, by decide +kernel, by decide +kernel⟩
theorem cb_X1_dropSights : CB M_X1_dropSights 0 := ⟨GW_of 1219 (by decide +kernel) (by decide +kernel), GW_of 95 (by decide +kernel) (by decide +kernel), by decide +kernel, by decide +kernel, by decide +kernel⟩
theorem cb_X2_newSystem : CB M_X2_newSystem 3 := ⟨GW_of 1258 (by decide +kernel) (by decide +kernel), GW_of 94 (by decide +kernel) (by decide +kernel), by decide +kernel, by decide +kernel, by decide +kernel⟩
theorem cb_X2_tellHardening : CB M_X2_tellHardening 2 := ⟨GW_of 1268 (by decide +kernel) (by decide +kernel), GW_of 94 (by decide +kernel) (by decide +kernel), by decide +kernel, by decide +kernel, by decide +kernel⟩
theorem cb_X2_tellSystem : CB M_X2_tellSystem 2 := ⟨GW_of 1290 (by decide +kernel) (by decide +kernel), GW_of 94 (by decide +kernel) (by decide +kernel), by decide +kernel, by decide +kernel, by decide +kernel⟩
theorem cb_X5_cut : CB M_X5_cut 1 := ⟨GW_of 561 (by decide +kernel) (by decide +kernel), GW_of 85 (by decide +kernel) (by decide +kernel), by decide +kernel, by decide +kernel, by decide +kernel⟩
theorem cb_X5_hasRoom : CB M_X5_hasRoom 1 := ⟨GW_of 545 (by decide +kernel) (by decide +kernel), GW_of 85 (by decide +kernel) (by decide +kernel), by decide +kernel, by decide +kernel, by decide +kernel⟩
theorem cb_X5_size : CB M_X5_size 0 := ⟨GW_of 553 (by decide +kernel) (by decide +kernel), GW_of 85 (by decide +kernel) (by decide +kernel), by decide +kernel, by decide +kernel, by decide +kernel⟩
theorem cb_X5_take : CB M_X5_take 1 := ⟨GW_of 549 (by decide +kernel) (by decide +kernel), GW_of 85 (by decide +kernel) (by decide +kernel), by decide +kernel, by decide +kernel, by decide +kernel⟩
theorem cb_X6_drop : CB M_X6_drop 0 := ⟨GW_of 1053 (by decide +kernel) (by decide +kernel), GW_of 90 (by decide +kernel) (by decide +kernel), by decide +kernel, by decide +kernel, by decide +kernel⟩
theorem cb_X7_pullFound : CB M_X7_pullFound 1 := ⟨GW_of 1163 (by decide +kernel) (by decide +kernel), GW_of 92 (by decide +kernel) (by decide +kernel), by decide +kernel, by decide +kernel, by decide +kernel⟩
theorem cb_X7_pushFound : CB M_X7_pushFound 2 := ⟨GW_of 1196 (by decide +kernel) (by decide +kernel), GW_of 92 (by decide +kernel) (by decide +kernel), by decide +kernel, by decide +kernel, by decide +kernel⟩
theorem cb_X9_firstUnsound : CB M_X9_firstUnsound 0 := ⟨GW_of 862 (by decide +kernel) (by decide +kernel), GW_of 86 (by decide +kernel) (by decide +kernel), by decide +kernel, by decide +kernel, by decide +kernel⟩
theorem cb_X9_groupOf : CB M_X9_groupOf 1 := ⟨GW_of 933 (by decide +kernel) (by decide +kernel), GW_of 86 (by decide +kernel) (by decide +kernel), by decide +kernel, by decide +kernel, by decide +kernel⟩
theorem cb_X9_newKnot : CB M_X9_newKnot 1 := ⟨GW_of 808 (by decide +kernel) (by decide +kernel), GW_of 86 (by decide +kernel) (by decide +kernel), by decide +kernel, by decide +kernel, by decide +kernel⟩
theorem cb_X9_tellLine : CB M_X9_tellLine 2 := ⟨GW_of 834 (by decide +kernel) (by decide +kernel), GW_of 86 (by decide +kernel) (by decide +kernel), by decide +kernel, by decide +kernel, by decide +kernel⟩
theorem k_X10_172 : Cond.constantLong RX10 172 (Int64.ofInt (-1)) ∈ GW := GW_of 971 (by decide +kernel) (by decide +kernel)
theorem k_X10_142 : Cond.constant RX10 142 (Int32.ofInt (-100000)) ∈ GW := GW_of 854 (by decide +kernel) (by decide +kernel)
theorem k_X10_208 : Cond.constant RX10 208 (Int32.ofInt (-1000000000)) ∈ GW := GW_of 1041 (by decide +kernel) (by decide +kernel)
theorem k_X10_237 : Cond.constantLong RX10 237 (Int64.ofInt (-1000000000000)) ∈ GW := GW_of 1114 (by decide +kernel) (by decide +kernel)
theorem fl_X10_10 : FL RX10 10 10 0 := ⟨RX10, TX10, 10, rfl, by decide, rfl, Or.inl (GW_of 507 (by decide +kernel) (by decide +kernel))⟩
theorem fl_X10_19 : FL RX10 19 10 1 := ⟨RX10, TX10, 10, rfl, by decide, rfl, Or.inl (GW_of 508 (by decide +kernel) (by decide +kernel))⟩
theorem fl_X10_33 : FL RX10 33 10 3 := ⟨RX10, TX10, 10, rfl, by decide, rfl, Or.inl (GW_of 510 (by decide +kernel) (by decide +kernel))⟩
theorem fl_X10_37 : FL RX10 37 10 4 := ⟨RX10, TX10, 10, rfl, by decide, rfl, Or.inl (GW_of 511 (by decide +kernel) (by decide +kernel))⟩
theorem fl_X10_64 : FL RX10 64 10 8 := ⟨RX10, TX10, 10, rfl, by decide, rfl, Or.inl (GW_of 515 (by decide +kernel) (by decide +kernel))⟩
theorem fl_X10_269 : FL RX10 269 1 2 := ⟨RX1, TX1, 7, rfl, by decide, rfl, Or.inr (List.mem_of_getElem? (i := 42) (by decide +kernel))⟩
theorem fl_X10_272 : FL RX10 272 9 3 := ⟨RX9, TX9, 14, rfl, by decide, rfl, Or.inr (List.mem_of_getElem? (i := 4) (by decide +kernel))⟩
theorem fl_X10_149 : FL RX10 149 1 0 := ⟨RX1, TX1, 7, rfl, by decide, rfl, Or.inr (List.mem_of_getElem? (i := 36) (by decide +kernel))⟩
theorem fl_X10_357 : FL RX10 357 8 3 := ⟨RX8, TX8, 4, rfl, by decide, rfl, Or.inr (List.mem_of_getElem? (i := 3) (by decide +kernel))⟩
theorem fl_X10_234 : FL RX10 234 1 1 := ⟨RX1, TX1, 7, rfl, by decide, rfl, Or.inr (List.mem_of_getElem? (i := 40) (by decide +kernel))⟩
theorem fl_X10_360 : FL RX10 360 9 5 := ⟨RX9, TX9, 14, rfl, by decide, rfl, Or.inr (List.mem_of_getElem? (i := 5) (by decide +kernel))⟩
theorem fl_X10_363 : FL RX10 363 9 6 := ⟨RX9, TX9, 14, rfl, by decide, rfl, Or.inr (List.mem_of_getElem? (i := 6) (by decide +kernel))⟩
theorem fl_X10_213 : FL RX10 213 6 3 := ⟨RX6, TX6, 10, rfl, by decide, rfl, Or.inr (List.mem_of_getElem? (i := 10) (by decide +kernel))⟩
theorem fl_X10_239 : FL RX10 239 6 4 := ⟨RX6, TX6, 10, rfl, by decide, rfl, Or.inr (List.mem_of_getElem? (i := 13) (by decide +kernel))⟩
theorem fl_X10_366 : FL RX10 366 6 6 := ⟨RX6, TX6, 10, rfl, by decide, rfl, Or.inr (List.mem_of_getElem? (i := 15) (by decide +kernel))⟩
theorem fl_X10_369 : FL RX10 369 6 7 := ⟨RX6, TX6, 10, rfl, by decide, rfl, Or.inr (List.mem_of_getElem? (i := 17) (by decide +kernel))⟩
theorem fl_X10_372 : FL RX10 372 6 8 := ⟨RX6, TX6, 10, rfl, by decide, rfl, Or.inr (List.mem_of_getElem? (i := 19) (by decide +kernel))⟩
theorem fl_X10_375 : FL RX10 375 6 9 := ⟨RX6, TX6, 10, rfl, by decide, rfl, Or.inr (List.mem_of_getElem? (i := 21) (by decide +kernel))⟩
theorem fl_X10_378 : FL RX10 378 1 6 := ⟨RX1, TX1, 7, rfl, by decide, rfl, Or.inr (List.mem_of_getElem? (i := 45) (by decide +kernel))⟩
theorem fl_X10_57 : FL RX10 57 10 7 := ⟨RX10, TX10, 10, rfl, by decide, rfl, Or.inl (GW_of 514 (by decide +kernel) (by decide +kernel))⟩
theorem fl_X10_381 : FL RX10 381 2 6 := ⟨RX2, TX2, 12, rfl, by decide, rfl, Or.inr (List.mem_of_getElem? (i := 31) (by decide +kernel))⟩
theorem fl_X10_43 : FL RX10 43 10 5 := ⟨RX10, TX10, 10, rfl, by decide, rfl, Or.inl (GW_of 512 (by decide +kernel) (by decide +kernel))⟩
theorem fl_X10_382 : FL RX10 382 0 1 := ⟨RX0, TX0, 3, rfl, by decide, rfl, Or.inr (List.mem_of_getElem? (i := 22) (by decide +kernel))⟩
theorem fl_X10_106 : FL RX10 106 1 3 := ⟨RX1, TX1, 7, rfl, by decide, rfl, Or.inr (List.mem_of_getElem? (i := 43) (by decide +kernel))⟩
theorem fl_X10_50 : FL RX10 50 10 6 := ⟨RX10, TX10, 10, rfl, by decide, rfl, Or.inl (GW_of 513 (by decide +kernel) (by decide +kernel))⟩
theorem cv_X10_71 : CV RX10 71 M_X5_hasRoom 1 := ⟨cb_X5_hasRoom, Or.inl (GW_of 542 (by decide +kernel) (by decide +kernel)), GW_of 543 (by decide +kernel) (by decide +kernel), GW_of 544 (by decide +kernel) (by decide +kernel)⟩
theorem cv_X10_75 : CV RX10 75 M_X5_take 1 := ⟨cb_X5_take, Or.inl (GW_of 546 (by decide +kernel) (by decide +kernel)), GW_of 547 (by decide +kernel) (by decide +kernel), GW_of 548 (by decide +kernel) (by decide +kernel)⟩
theorem cv_X10_79 : CV RX10 79 M_X5_size 0 := ⟨cb_X5_size, Or.inl (GW_of 550 (by decide +kernel) (by decide +kernel)), GW_of 551 (by decide +kernel) (by decide +kernel), GW_of 552 (by decide +kernel) (by decide +kernel)⟩
theorem cv_X10_125 : CV RX10 125 M_X9_newKnot 1 := ⟨cb_X9_newKnot, Or.inl (GW_of 805 (by decide +kernel) (by decide +kernel)), GW_of 806 (by decide +kernel) (by decide +kernel), GW_of 807 (by decide +kernel) (by decide +kernel)⟩
theorem cv_X10_133 : CV RX10 133 M_X9_tellLine 2 := ⟨cb_X9_tellLine, Or.inl (GW_of 831 (by decide +kernel) (by decide +kernel)), GW_of 832 (by decide +kernel) (by decide +kernel), GW_of 833 (by decide +kernel) (by decide +kernel)⟩
theorem cv_X10_143 : CV RX10 143 M_X9_firstUnsound 0 := ⟨cb_X9_firstUnsound, Or.inl (GW_of 859 (by decide +kernel) (by decide +kernel)), GW_of 860 (by decide +kernel) (by decide +kernel), GW_of 861 (by decide +kernel) (by decide +kernel)⟩
theorem cv_X10_202 : CV RX10 202 M_X6_signAt 1 := ⟨cb_X6_signAt, Or.inl (GW_of 1030 (by decide +kernel) (by decide +kernel)), GW_of 1031 (by decide +kernel) (by decide +kernel), GW_of 1032 (by decide +kernel) (by decide +kernel)⟩
theorem cv_X10_220 : CV RX10 220 M_X6_standAs 1 := ⟨cb_X6_standAs, Or.inl (GW_of 1059 (by decide +kernel) (by decide +kernel)), GW_of 1020 (by decide +kernel) (by decide +kernel), GW_of 1021 (by decide +kernel) (by decide +kernel)⟩
theorem cv_X10_266 : CV RX10 266 M_X9_isThere 1 := ⟨cb_X9_isThere, Or.inl (GW_of 1201 (by decide +kernel) (by decide +kernel)), GW_of 836 (by decide +kernel) (by decide +kernel), GW_of 837 (by decide +kernel) (by decide +kernel)⟩
theorem cv_X10_94 : CV RX10 94 M_X8_has 1 := ⟨cb_X8_has, Or.inl (GW_of 768 (by decide +kernel) (by decide +kernel)), GW_of 769 (by decide +kernel) (by decide +kernel), GW_of 770 (by decide +kernel) (by decide +kernel)⟩
theorem cv_X10_273 : CV RX10 273 M_X8_product 3 := ⟨cb_X8_product, Or.inl (GW_of 1202 (by decide +kernel) (by decide +kernel)), GW_of 956 (by decide +kernel) (by decide +kernel), GW_of 957 (by decide +kernel) (by decide +kernel)⟩
theorem cv_X10_281 : CV RX10 281 M_X1_dropSights 0 := ⟨cb_X1_dropSights, Or.inl (GW_of 1216 (by decide +kernel) (by decide +kernel)), GW_of 1217 (by decide +kernel) (by decide +kernel), GW_of 1218 (by decide +kernel) (by decide +kernel)⟩
theorem cv_X10_83 : CV RX10 83 M_X5_cut 1 := ⟨cb_X5_cut, Or.inl (GW_of 558 (by decide +kernel) (by decide +kernel)), GW_of 559 (by decide +kernel) (by decide +kernel), GW_of 560 (by decide +kernel) (by decide +kernel)⟩
theorem cs_X10_99 : CS RX10 99 M_X10_isPart 1 := ⟨cb_X10_isPart, Or.inl (GW_of 772 (by decide +kernel) (by decide +kernel)), GW_of 773 (by decide +kernel) (by decide +kernel)⟩
theorem cv_X10_102 : CV RX10 102 M_X8_partOf 2 := ⟨cb_X8_partOf, Or.inl (GW_of 776 (by decide +kernel) (by decide +kernel)), GW_of 777 (by decide +kernel) (by decide +kernel), GW_of 778 (by decide +kernel) (by decide +kernel)⟩
theorem cv_X10_110 : CV RX10 110 M_X3_pushAt 1 := ⟨cb_X3_pushAt, Or.inl (GW_of 785 (by decide +kernel) (by decide +kernel)), GW_of 786 (by decide +kernel) (by decide +kernel), GW_of 787 (by decide +kernel) (by decide +kernel)⟩
theorem cs_X10_116 : CS RX10 116 M_X10_isPlace 1 := ⟨cb_X10_isPlace, Or.inl (GW_of 793 (by decide +kernel) (by decide +kernel)), GW_of 725 (by decide +kernel) (by decide +kernel)⟩
theorem cs_X10_119 : CS RX10 119 M_X10_isSide 1 := ⟨cb_X10_isSide, Or.inl (GW_of 794 (by decide +kernel) (by decide +kernel)), GW_of 795 (by decide +kernel) (by decide +kernel)⟩
theorem cv_X10_122 : CV RX10 122 M_X3_holdAt 2 := ⟨cb_X3_holdAt, Or.inl (GW_of 797 (by decide +kernel) (by decide +kernel)), GW_of 798 (by decide +kernel) (by decide +kernel), GW_of 799 (by decide +kernel) (by decide +kernel)⟩
theorem cv_X10_136 : CV RX10 136 M_X9_isKnot 1 := ⟨cb_X9_isKnot, Or.inl (GW_of 849 (by decide +kernel) (by decide +kernel)), GW_of 819 (by decide +kernel) (by decide +kernel), GW_of 820 (by decide +kernel) (by decide +kernel)⟩
theorem cv_X10_139 : CV RX10 139 M_X9_sumAt 2 := ⟨cb_X9_sumAt, Or.inl (GW_of 850 (by decide +kernel) (by decide +kernel)), GW_of 851 (by decide +kernel) (by decide +kernel), GW_of 852 (by decide +kernel) (by decide +kernel)⟩
theorem cv_X10_161 : CV RX10 161 M_X9_groupOf 1 := ⟨cb_X9_groupOf, Or.inl (GW_of 930 (by decide +kernel) (by decide +kernel)), GW_of 931 (by decide +kernel) (by decide +kernel), GW_of 932 (by decide +kernel) (by decide +kernel)⟩
theorem cv_X10_195 : CV RX10 195 M_X6_bring 2 := ⟨cb_X6_bring, Or.inl (GW_of 996 (by decide +kernel) (by decide +kernel)), GW_of 997 (by decide +kernel) (by decide +kernel), GW_of 998 (by decide +kernel) (by decide +kernel)⟩
theorem cv_X10_198 : CV RX10 198 M_X0_keep 1 := ⟨cb_X0_keep, Or.inl (GW_of 1007 (by decide +kernel) (by decide +kernel)), GW_of 1008 (by decide +kernel) (by decide +kernel), GW_of 1009 (by decide +kernel) (by decide +kernel)⟩
theorem cs_X10_205 : CS RX10 205 M_X10_isPull 1 := ⟨cb_X10_isPull, Or.inl (GW_of 1038 (by decide +kernel) (by decide +kernel)), GW_of 1039 (by decide +kernel) (by decide +kernel)⟩
theorem cv_X10_209 : CV RX10 209 M_X6_forceAt 3 := ⟨cb_X6_forceAt, Or.inl (GW_of 1042 (by decide +kernel) (by decide +kernel)), GW_of 1043 (by decide +kernel) (by decide +kernel), GW_of 1044 (by decide +kernel) (by decide +kernel)⟩
theorem cv_X10_217 : CV RX10 217 M_X6_drop 0 := ⟨cb_X6_drop, Or.inl (GW_of 1050 (by decide +kernel) (by decide +kernel)), GW_of 1051 (by decide +kernel) (by decide +kernel), GW_of 1052 (by decide +kernel) (by decide +kernel)⟩
theorem cv_X10_250 : CV RX10 250 M_X7_pullFound 1 := ⟨cb_X7_pullFound, Or.inl (GW_of 1160 (by decide +kernel) (by decide +kernel)), GW_of 1161 (by decide +kernel) (by decide +kernel), GW_of 1162 (by decide +kernel) (by decide +kernel)⟩
theorem cv_X10_263 : CV RX10 263 M_X7_pushFound 2 := ⟨cb_X7_pushFound, Or.inl (GW_of 1193 (by decide +kernel) (by decide +kernel)), GW_of 1194 (by decide +kernel) (by decide +kernel), GW_of 1195 (by decide +kernel) (by decide +kernel)⟩
theorem cv_X10_277 : CV RX10 277 M_X1_addSight 2 := ⟨cb_X1_addSight, Or.inl (GW_of 1207 (by decide +kernel) (by decide +kernel)), GW_of 1208 (by decide +kernel) (by decide +kernel), GW_of 1209 (by decide +kernel) (by decide +kernel)⟩
theorem cv_X10_284 : CV RX10 284 M_X1_fitting 1 := ⟨cb_X1_fitting, Or.inl (GW_of 1224 (by decide +kernel) (by decide +kernel)), GW_of 1225 (by decide +kernel) (by decide +kernel), GW_of 1226 (by decide +kernel) (by decide +kernel)⟩
theorem cv_X10_290 : CV RX10 290 M_X2_newSystem 3 := ⟨cb_X2_newSystem, Or.inl (GW_of 1255 (by decide +kernel) (by decide +kernel)), GW_of 1256 (by decide +kernel) (by decide +kernel), GW_of 1257 (by decide +kernel) (by decide +kernel)⟩
theorem cv_X10_294 : CV RX10 294 M_X2_tellHardening 2 := ⟨cb_X2_tellHardening, Or.inl (GW_of 1265 (by decide +kernel) (by decide +kernel)), GW_of 1266 (by decide +kernel) (by decide +kernel), GW_of 1267 (by decide +kernel) (by decide +kernel)⟩
theorem cv_X10_299 : CV RX10 299 M_X2_tellSystem 2 := ⟨cb_X2_tellSystem, Or.inl (GW_of 1287 (by decide +kernel) (by decide +kernel)), GW_of 1288 (by decide +kernel) (by decide +kernel), GW_of 1289 (by decide +kernel) (by decide +kernel)⟩
/-! ===== X10_feed ===== -/
theorem e_X10_feed_0 : DC cX10_feed 0 (.aload_n 0) 1 1 := ⟨by decide +kernel, rfl⟩
theorem e_X10_feed_1 : DC cX10_feed 1 (.getfield 10) 3 4 := ⟨by decide +kernel, rfl⟩
theorem e_X10_feed_4 : DC cX10_feed 4 (.bipush 20) 2 6 := ⟨by decide +kernel, rfl⟩
theorem e_X10_feed_6 : DC cX10_feed 6 (.invokevirtual 71) 3 9 := ⟨by decide +kernel, rfl⟩
theorem e_X10_feed_9 : DB cX10_feed 9 (.ifCond .ne 5) (5) 3 12 14 := ⟨by decide +kernel, rfl, rfl⟩
theorem e_X10_feed_12 : DC cX10_feed 12 (.iconst (-1)) 1 13 := ⟨by decide +kernel, rfl⟩
theorem e_X10_feed_13 : DC cX10_feed 13 (.ireturn) 1 14 := ⟨by decide +kernel, rfl⟩
theorem e_X10_feed_14 : DC cX10_feed 14 (.aload_n 0) 1 15 := ⟨by decide +kernel, rfl⟩
theorem e_X10_feed_15 : DC cX10_feed 15 (.getfield 10) 3 18 := ⟨by decide +kernel, rfl⟩
theorem e_X10_feed_18 : DC cX10_feed 18 (.iload_n 1) 1 19 := ⟨by decide +kernel, rfl⟩
theorem e_X10_feed_19 : DC cX10_feed 19 (.invokevirtual 75) 3 22 := ⟨by decide +kernel, rfl⟩
theorem e_X10_feed_22 : DC cX10_feed 22 (.aload_n 0) 1 23 := ⟨by decide +kernel, rfl⟩
theorem e_X10_feed_23 : DC cX10_feed 23 (.getfield 10) 3 26 := ⟨by decide +kernel, rfl⟩
theorem e_X10_feed_26 : DC cX10_feed 26 (.iload_n 2) 1 27 := ⟨by decide +kernel, rfl⟩
theorem e_X10_feed_27 : DC cX10_feed 27 (.invokevirtual 75) 3 30 := ⟨by decide +kernel, rfl⟩
theorem e_X10_feed_30 : DC cX10_feed 30 (.aload_n 0) 1 31 := ⟨by decide +kernel, rfl⟩
theorem e_X10_feed_31 : DC cX10_feed 31 (.getfield 10) 3 34 := ⟨by decide +kernel, rfl⟩
theorem e_X10_feed_34 : DC cX10_feed 34 (.iload_n 3) 1 35 := ⟨by decide +kernel, rfl⟩
theorem e_X10_feed_35 : DC cX10_feed 35 (.invokevirtual 75) 3 38 := ⟨by decide +kernel, rfl⟩
theorem e_X10_feed_38 : DC cX10_feed 38 (.aload_n 0) 1 39 := ⟨by decide +kernel, rfl⟩
theorem e_X10_feed_39 : DC cX10_feed 39 (.getfield 10) 3 42 := ⟨by decide +kernel, rfl⟩
theorem e_X10_feed_42 : DC cX10_feed 42 (.iload 4) 2 44 := ⟨by decide +kernel, rfl⟩
theorem e_X10_feed_44 : DC cX10_feed 44 (.invokevirtual 75) 3 47 := ⟨by decide +kernel, rfl⟩
theorem e_X10_feed_47 : DC cX10_feed 47 (.aload_n 0) 1 48 := ⟨by decide +kernel, rfl⟩
theorem e_X10_feed_48 : DC cX10_feed 48 (.getfield 10) 3 51 := ⟨by decide +kernel, rfl⟩
theorem e_X10_feed_51 : DC cX10_feed 51 (.iload 5) 2 53 := ⟨by decide +kernel, rfl⟩
theorem e_X10_feed_53 : DC cX10_feed 53 (.invokevirtual 75) 3 56 := ⟨by decide +kernel, rfl⟩
theorem e_X10_feed_56 : DC cX10_feed 56 (.aload_n 0) 1 57 := ⟨by decide +kernel, rfl⟩
theorem e_X10_feed_57 : DC cX10_feed 57 (.getfield 10) 3 60 := ⟨by decide +kernel, rfl⟩
theorem e_X10_feed_60 : DC cX10_feed 60 (.invokevirtual 79) 3 63 := ⟨by decide +kernel, rfl⟩
theorem e_X10_feed_63 : DC cX10_feed 63 (.ireturn) 1 64 := ⟨by decide +kernel, rfl⟩
noncomputable def m_X10_feed_0 (t_reader_many : Int) (t_reader_bytes : Nat → Int) (v1 : Int) (v2 : Int) (v3 : Int) (v4 : Int) (v5 : Int) : Option (Int × Int × (Nat → Int)) :=
  (m_X5_hasRoom t_reader_many 20).bind (fun y1 => if y1 = 0 then (some ((-1), t_reader_many, t_reader_bytes)) else ((m_X5_take t_reader_many t_reader_bytes v1).bind (fun y2 => (m_X5_take y2.1 y2.2 v2).bind (fun y3 => (m_X5_take y3.1 y3.2 v3).bind (fun y4 => (m_X5_take y4.1 y4.2 v4).bind (fun y5 => (m_X5_take y5.1 y5.2 v5).bind (fun y6 => (m_X5_size y6.1).bind (fun y7 => some (y7, y6.1, y6.2)))))))))

set_option maxRecDepth 10000 in
set_option maxHeartbeats 8000000 in
theorem g_X10_feed_0 {l : Launch} {E : EE} {b0 n : Nat} {h : AH} {a_t a_c a_s : Nat} {t_reader_many t_reader_place t_reader_fault t_reader_numberPlace v1 v2 v3 v4 v5 : Int} {t_reader_bytes : Nat → Int} {r : Int × Int × (Nat → Int)} (ao : AO b0 n [a_t, (a_t + 1), (a_t + 2)]) (ok_t_reader_many : inI t_reader_many) (ok_t_reader_bytes : okA t_reader_bytes) (ok_v1 : inI v1) (ok_v2 : inI v2) (ok_v3 : inI v3) (ok_v4 : inI v4) (ok_v5 : inI v5) (hs : m_X10_feed_0 t_reader_many t_reader_bytes v1 v2 v3 v4 v5 = some r) : G l E b0 M_X10_feed (fun _ => True) (ZM E b0 (some (vI r.1)) (ov [a_t, (a_t + 1), (a_t + 2)] [.inr (10, fsX10 a_t a_c a_s), .inr (5, fsX5 (a_t + 1) r.2.1 t_reader_place t_reader_fault t_reader_numberPlace), IA E 400 r.2.2] h) n (inI r.1 ∧ inI r.2.1 ∧ okA r.2.2) 0 0) 0 0 n (ov [a_t, (a_t + 1), (a_t + 2)] [.inr (10, fsX10 a_t a_c a_s), .inr (5, fsX5 (a_t + 1) t_reader_many t_reader_place t_reader_fault t_reader_numberPlace), IA E 400 t_reader_bytes] h) 0 [some (.ref a_t), some (vI v1), some (vI v2), some (vI v3), some (vI v4), some (vI v5)] [] := by
  rw [m_X10_feed_0] at hs
  refine g_aload_n e_X10_feed_0 rfl ?_
  refine g_get 0 0 ao rfl rfl fsX10_g0 fl_X10_10 e_X10_feed_1 ?_
  refine g_bipush e_X10_feed_4 bp_20 ?_
  obtain ⟨y1, hy1, hs⟩ := bind_elim hs
  refine g_callVr [vI 20] cv_X10_71 ⟨rfl, rfl, Nat.le_of_ble_eq_true rfl, Nat.le_of_ble_eq_true rfl⟩ (ct_X5_hasRoom (a_t := (a_t + 1)) (AO_call [1] ao (by decide) rfl) (FA_call [1] ao.1 rfl rfl) ok_t_reader_many (by decide : inI 20) hy1) e_X10_feed_6 (ao.2 1 _ rfl) (ov_get 1 ao.1 rfl rfl) rfl rfl rfl (Nat.le_of_ble_eq_true rfl) ⟨Nat.le_refl _, Nat.le_refl _⟩ (fun Py1 => ?_)
  refine g_if_ne e_X10_feed_9 (inZ_I Py1) hs (fun c9 hs => ?_) (fun c9 hs => ?_)
  · refine g_iconst e_X10_feed_12 ?_
    obtain rfl := Option.some.inj hs
    exact g_iret rfl ⟨(by decide : inI (-1)), ok_t_reader_many, ok_t_reader_bytes⟩ e_X10_feed_13
  · refine g_aload_n e_X10_feed_14 rfl ?_
    refine g_get 0 0 ao rfl rfl fsX10_g0 fl_X10_10 e_X10_feed_15 ?_
    refine g_iload_n e_X10_feed_18 rfl ?_
    obtain ⟨y2, hy2, hs⟩ := bind_elim hs
    refine g_callVv [vI v1] cv_X10_75 ⟨rfl, rfl, Nat.le_of_ble_eq_true rfl, Nat.le_of_ble_eq_true rfl⟩ (Ct_heap (ct_X5_take (a_t := (a_t + 1)) (AO_call [1, 2] ao (by decide) rfl) (FA_call [1, 2] ao.1 rfl rfl) ok_t_reader_many ok_t_reader_bytes ok_v1 hy2) (ov_callN (esn := [.inr (10, fsX10 a_t a_c a_s), .inr (5, fsX5 (a_t + 1) y2.1 t_reader_place t_reader_fault t_reader_numberPlace), IA E 400 y2.2]) [1, 2] [true, false, false] ao.1 rfl rfl rfl rfl rfl rfl (by decide))) e_X10_feed_19 (ao.2 1 _ rfl) (ov_get 1 ao.1 rfl rfl) rfl rfl rfl (Nat.le_of_ble_eq_true rfl) ⟨Nat.le_refl _, Nat.le_refl _⟩ (fun Py2 => ?_)
    refine g_aload_n e_X10_feed_22 rfl ?_
    refine g_get 0 0 ao rfl rfl fsX10_g0 fl_X10_10 e_X10_feed_23 ?_
    refine g_iload_n e_X10_feed_26 rfl ?_
    obtain ⟨y3, hy3, hs⟩ := bind_elim hs
    refine g_callVv [vI v2] cv_X10_75 ⟨rfl, rfl, Nat.le_of_ble_eq_true rfl, Nat.le_of_ble_eq_true rfl⟩ (Ct_heap (ct_X5_take (a_t := (a_t + 1)) (AO_call [1, 2] ao (by decide) rfl) (FA_call [1, 2] ao.1 rfl rfl) Py2.1 Py2.2 ok_v2 hy3) (ov_callN (esn := [.inr (10, fsX10 a_t a_c a_s), .inr (5, fsX5 (a_t + 1) y3.1 t_reader_place t_reader_fault t_reader_numberPlace), IA E 400 y3.2]) [1, 2] [true, false, false] ao.1 rfl rfl rfl rfl rfl rfl (by decide))) e_X10_feed_27 (ao.2 1 _ rfl) (ov_get 1 ao.1 rfl rfl) rfl rfl rfl (Nat.le_of_ble_eq_true rfl) ⟨Nat.le_refl _, Nat.le_refl _⟩ (fun Py3 => ?_)
    refine g_aload_n e_X10_feed_30 rfl ?_
    refine g_get 0 0 ao rfl rfl fsX10_g0 fl_X10_10 e_X10_feed_31 ?_
    refine g_iload_n e_X10_feed_34 rfl ?_
    obtain ⟨y4, hy4, hs⟩ := bind_elim hs
    refine g_callVv [vI v3] cv_X10_75 ⟨rfl, rfl, Nat.le_of_ble_eq_true rfl, Nat.le_of_ble_eq_true rfl⟩ (Ct_heap (ct_X5_take (a_t := (a_t + 1)) (AO_call [1, 2] ao (by decide) rfl) (FA_call [1, 2] ao.1 rfl rfl) Py3.1 Py3.2 ok_v3 hy4) (ov_callN (esn := [.inr (10, fsX10 a_t a_c a_s), .inr (5, fsX5 (a_t + 1) y4.1 t_reader_place t_reader_fault t_reader_numberPlace), IA E 400 y4.2]) [1, 2] [true, false, false] ao.1 rfl rfl rfl rfl rfl rfl (by decide))) e_X10_feed_35 (ao.2 1 _ rfl) (ov_get 1 ao.1 rfl rfl) rfl rfl rfl (Nat.le_of_ble_eq_true rfl) ⟨Nat.le_refl _, Nat.le_refl _⟩ (fun Py4 => ?_)
    refine g_aload_n e_X10_feed_38 rfl ?_
    refine g_get 0 0 ao rfl rfl fsX10_g0 fl_X10_10 e_X10_feed_39 ?_
    refine g_iload e_X10_feed_42 rfl ?_
    obtain ⟨y5, hy5, hs⟩ := bind_elim hs
    refine g_callVv [vI v4] cv_X10_75 ⟨rfl, rfl, Nat.le_of_ble_eq_true rfl, Nat.le_of_ble_eq_true rfl⟩ (Ct_heap (ct_X5_take (a_t := (a_t + 1)) (AO_call [1, 2] ao (by decide) rfl) (FA_call [1, 2] ao.1 rfl rfl) Py4.1 Py4.2 ok_v4 hy5) (ov_callN (esn := [.inr (10, fsX10 a_t a_c a_s), .inr (5, fsX5 (a_t + 1) y5.1 t_reader_place t_reader_fault t_reader_numberPlace), IA E 400 y5.2]) [1, 2] [true, false, false] ao.1 rfl rfl rfl rfl rfl rfl (by decide))) e_X10_feed_44 (ao.2 1 _ rfl) (ov_get 1 ao.1 rfl rfl) rfl rfl rfl (Nat.le_of_ble_eq_true rfl) ⟨Nat.le_refl _, Nat.le_refl _⟩ (fun Py5 => ?_)
    refine g_aload_n e_X10_feed_47 rfl ?_
    refine g_get 0 0 ao rfl rfl fsX10_g0 fl_X10_10 e_X10_feed_48 ?_
    refine g_iload e_X10_feed_51 rfl ?_
    obtain ⟨y6, hy6, hs⟩ := bind_elim hs
    refine g_callVv [vI v5] cv_X10_75 ⟨rfl, rfl, Nat.le_of_ble_eq_true rfl, Nat.le_of_ble_eq_true rfl⟩ (Ct_heap (ct_X5_take (a_t := (a_t + 1)) (AO_call [1, 2] ao (by decide) rfl) (FA_call [1, 2] ao.1 rfl rfl) Py5.1 Py5.2 ok_v5 hy6) (ov_callN (esn := [.inr (10, fsX10 a_t a_c a_s), .inr (5, fsX5 (a_t + 1) y6.1 t_reader_place t_reader_fault t_reader_numberPlace), IA E 400 y6.2]) [1, 2] [true, false, false] ao.1 rfl rfl rfl rfl rfl rfl (by decide))) e_X10_feed_53 (ao.2 1 _ rfl) (ov_get 1 ao.1 rfl rfl) rfl rfl rfl (Nat.le_of_ble_eq_true rfl) ⟨Nat.le_refl _, Nat.le_refl _⟩ (fun Py6 => ?_)
    refine g_aload_n e_X10_feed_56 rfl ?_
    refine g_get 0 0 ao rfl rfl fsX10_g0 fl_X10_10 e_X10_feed_57 ?_
    obtain ⟨y7, hy7, hs⟩ := bind_elim hs
    refine g_callVr [] cv_X10_79 ⟨rfl, rfl, Nat.le_of_ble_eq_true rfl, Nat.le_of_ble_eq_true rfl⟩ (ct_X5_size (a_t := (a_t + 1)) (AO_call [1] ao (by decide) rfl) (FA_call [1] ao.1 rfl rfl) Py6.1 hy7) e_X10_feed_60 (ao.2 1 _ rfl) (ov_get 1 ao.1 rfl rfl) rfl rfl rfl (Nat.le_of_ble_eq_true rfl) ⟨Nat.le_refl _, Nat.le_refl _⟩ (fun Py7 => ?_)
    obtain rfl := Option.some.inj hs
    exact g_iret rfl ⟨Py7, Py6.1, Py6.2⟩ e_X10_feed_63

noncomputable def m_X10_feed (t_reader_many : Int) (t_reader_bytes : Nat → Int) (v1 : Int) (v2 : Int) (v3 : Int) (v4 : Int) (v5 : Int) : Option (Int × Int × (Nat → Int)) := m_X10_feed_0 t_reader_many t_reader_bytes v1 v2 v3 v4 v5

set_option maxRecDepth 10000 in
set_option maxHeartbeats 8000000 in
theorem ct_X10_feed {l : Launch} {E : EE} {b0 n : Nat} {h : AH} {a_t a_c a_s : Nat} {t_reader_many t_reader_place t_reader_fault t_reader_numberPlace : Int} {t_reader_bytes : Nat → Int} {v1 v2 v3 v4 v5 : Int} (ao : AO b0 n [a_t, (a_t + 1), (a_t + 2)]) (hf : FA h [a_t, (a_t + 1), (a_t + 2)] [.inr (10, fsX10 a_t a_c a_s), .inr (5, fsX5 (a_t + 1) t_reader_many t_reader_place t_reader_fault t_reader_numberPlace), IA E 400 t_reader_bytes]) (ok_t_reader_many : inI t_reader_many) (ok_t_reader_bytes : okA t_reader_bytes) (ok_v1 : inI v1) (ok_v2 : inI v2) (ok_v3 : inI v3) (ok_v4 : inI v4) (ok_v5 : inI v5) {r : Int × Int × (Nat → Int)} (hm : m_X10_feed t_reader_many t_reader_bytes v1 v2 v3 v4 v5 = some r) : Ct l E b0 M_X10_feed 0 0 [.ref a_t, vI v1, vI v2, vI v3, vI v4, vI v5] h n (some (vI r.1)) (ov [a_t, (a_t + 1), (a_t + 2)] [.inr (10, fsX10 a_t a_c a_s), .inr (5, fsX5 (a_t + 1) r.2.1 t_reader_place t_reader_fault t_reader_numberPlace), IA E 400 r.2.2] h) n (inI r.1 ∧ inI r.2.1 ∧ okA r.2.2) := by
  rw [m_X10_feed] at hm
  have hg : G l E b0 M_X10_feed (fun _ => True) (ZM E b0 (some (vI r.1)) (ov [a_t, (a_t + 1), (a_t + 2)] [.inr (10, fsX10 a_t a_c a_s), .inr (5, fsX5 (a_t + 1) r.2.1 t_reader_place t_reader_fault t_reader_numberPlace), IA E 400 r.2.2] h) n (inI r.1 ∧ inI r.2.1 ∧ okA r.2.2) 0 0) 0 0 n (ov [a_t, (a_t + 1), (a_t + 2)] [.inr (10, fsX10 a_t a_c a_s), .inr (5, fsX5 (a_t + 1) t_reader_many t_reader_place t_reader_fault t_reader_numberPlace), IA E 400 t_reader_bytes] h) 0 [some (.ref a_t), some (vI v1), some (vI v2), some (vI v3), some (vI v4), some (vI v5)] [] := by
    have hs := hm
    exact g_X10_feed_0 ao ok_t_reader_many ok_t_reader_bytes ok_v1 ok_v2 ok_v3 ok_v4 ok_v5 hs
  rw [FA_id hf] at hg
  exact Ct_of [some (.ref a_t), some (vI v1), some (vI v2), some (vI v3), some (vI v4), some (vI v5)] ⟨by decide +kernel, rfl⟩ rfl (Nat.le_of_ble_eq_true rfl) hg

/-! ===== X10_knot ===== -/
theorem e_X10_knot_0 : DC cX10_knot 0 (.aload_n 0) 1 1 := ⟨by decide +kernel, rfl⟩
theorem e_X10_knot_1 : DC cX10_knot 1 (.getfield 19) 3 4 := ⟨by decide +kernel, rfl⟩
theorem e_X10_knot_4 : DC cX10_knot 4 (.iload_n 1) 1 5 := ⟨by decide +kernel, rfl⟩
theorem e_X10_knot_5 : DC cX10_knot 5 (.invokevirtual 125) 3 8 := ⟨by decide +kernel, rfl⟩
theorem e_X10_knot_8 : DC cX10_knot 8 (.ireturn) 1 9 := ⟨by decide +kernel, rfl⟩
noncomputable def m_X10_knot_0 (t_web_knotMany : Int) (t_web_rims : Nat → Int) (v1 : Int) : Option (Int × Int × (Nat → Int)) :=
  (m_X9_newKnot t_web_knotMany t_web_rims v1).bind (fun y1 => some (y1.1, y1.2.1, y1.2.2))

set_option maxRecDepth 10000 in
set_option maxHeartbeats 8000000 in
theorem g_X10_knot_0 {l : Launch} {E : EE} {b0 n : Nat} {h : AH} {a_t a_c a_s : Nat} {t_web_knotMany t_web_thereMany t_web_groupMany v1 : Int} {t_web_rims : Nat → Int} {r : Int × Int × (Nat → Int)} (ao : AO b0 n [a_t, (a_t + 3), (a_t + 4)]) (ok_t_web_knotMany : inI t_web_knotMany) (ok_t_web_rims : okZ t_web_rims) (ok_v1 : inZ v1) (hs : m_X10_knot_0 t_web_knotMany t_web_rims v1 = some r) : G l E b0 M_X10_knot (fun _ => True) (ZM E b0 (some (vI r.1)) (ov [a_t, (a_t + 3), (a_t + 4)] [.inr (10, fsX10 a_t a_c a_s), .inr (9, fsX9 (a_t + 3) r.2.1 t_web_thereMany t_web_groupMany), ZA E 60 r.2.2] h) n (inI r.1 ∧ inI r.2.1 ∧ okZ r.2.2) 0 0) 0 0 n (ov [a_t, (a_t + 3), (a_t + 4)] [.inr (10, fsX10 a_t a_c a_s), .inr (9, fsX9 (a_t + 3) t_web_knotMany t_web_thereMany t_web_groupMany), ZA E 60 t_web_rims] h) 0 [some (.ref a_t), some (vI v1)] [] := by
  rw [m_X10_knot_0] at hs
  refine g_aload_n e_X10_knot_0 rfl ?_
  refine g_get 0 1 ao rfl rfl fsX10_g1 fl_X10_19 e_X10_knot_1 ?_
  refine g_iload_n e_X10_knot_4 rfl ?_
  obtain ⟨y1, hy1, hs⟩ := bind_elim hs
  refine g_callVr [vI v1] cv_X10_125 ⟨rfl, rfl, Nat.le_of_ble_eq_true rfl, Nat.le_of_ble_eq_true rfl⟩ (Ct_heap (ct_X9_newKnot (a_t := (a_t + 3)) (AO_call [1, 2] ao (by decide) rfl) (FA_call [1, 2] ao.1 rfl rfl) ok_t_web_knotMany ok_t_web_rims ok_v1 hy1) (ov_callN (esn := [.inr (10, fsX10 a_t a_c a_s), .inr (9, fsX9 (a_t + 3) y1.2.1 t_web_thereMany t_web_groupMany), ZA E 60 y1.2.2]) [1, 2] [true, false, false] ao.1 rfl rfl rfl rfl rfl rfl (by decide))) e_X10_knot_5 (ao.2 1 _ rfl) (ov_get 1 ao.1 rfl rfl) rfl rfl rfl (Nat.le_of_ble_eq_true rfl) ⟨Nat.le_refl _, Nat.le_refl _⟩ (fun Py1 => ?_)
  obtain rfl := Option.some.inj hs
  exact g_iret rfl ⟨Py1.1, Py1.2.1, Py1.2.2⟩ e_X10_knot_8

noncomputable def m_X10_knot (t_web_knotMany : Int) (t_web_rims : Nat → Int) (v1 : Int) : Option (Int × Int × (Nat → Int)) := m_X10_knot_0 t_web_knotMany t_web_rims v1

set_option maxRecDepth 10000 in
set_option maxHeartbeats 8000000 in
theorem ct_X10_knot {l : Launch} {E : EE} {b0 n : Nat} {h : AH} {a_t a_c a_s : Nat} {t_web_knotMany t_web_thereMany t_web_groupMany : Int} {t_web_rims : Nat → Int} {v1 : Int} (ao : AO b0 n [a_t, (a_t + 3), (a_t + 4)]) (hf : FA h [a_t, (a_t + 3), (a_t + 4)] [.inr (10, fsX10 a_t a_c a_s), .inr (9, fsX9 (a_t + 3) t_web_knotMany t_web_thereMany t_web_groupMany), ZA E 60 t_web_rims]) (ok_t_web_knotMany : inI t_web_knotMany) (ok_t_web_rims : okZ t_web_rims) (ok_v1 : inZ v1) {r : Int × Int × (Nat → Int)} (hm : m_X10_knot t_web_knotMany t_web_rims v1 = some r) : Ct l E b0 M_X10_knot 0 0 [.ref a_t, vI v1] h n (some (vI r.1)) (ov [a_t, (a_t + 3), (a_t + 4)] [.inr (10, fsX10 a_t a_c a_s), .inr (9, fsX9 (a_t + 3) r.2.1 t_web_thereMany t_web_groupMany), ZA E 60 r.2.2] h) n (inI r.1 ∧ inI r.2.1 ∧ okZ r.2.2) := by
  rw [m_X10_knot] at hm
  have hg : G l E b0 M_X10_knot (fun _ => True) (ZM E b0 (some (vI r.1)) (ov [a_t, (a_t + 3), (a_t + 4)] [.inr (10, fsX10 a_t a_c a_s), .inr (9, fsX9 (a_t + 3) r.2.1 t_web_thereMany t_web_groupMany), ZA E 60 r.2.2] h) n (inI r.1 ∧ inI r.2.1 ∧ okZ r.2.2) 0 0) 0 0 n (ov [a_t, (a_t + 3), (a_t + 4)] [.inr (10, fsX10 a_t a_c a_s), .inr (9, fsX9 (a_t + 3) t_web_knotMany t_web_thereMany t_web_groupMany), ZA E 60 t_web_rims] h) 0 [some (.ref a_t), some (vI v1)] [] := by
    have hs := hm
    exact g_X10_knot_0 ao ok_t_web_knotMany ok_t_web_rims ok_v1 hs
  rw [FA_id hf] at hg
  exact Ct_of [some (.ref a_t), some (vI v1)] ⟨by decide +kernel, rfl⟩ rfl (Nat.le_of_ble_eq_true rfl) hg

/-! ===== X10_lines ===== -/
theorem e_X10_lines_0 : DC cX10_lines 0 (.aload_n 0) 1 1 := ⟨by decide +kernel, rfl⟩
theorem e_X10_lines_1 : DC cX10_lines 1 (.getfield 19) 3 4 := ⟨by decide +kernel, rfl⟩
theorem e_X10_lines_4 : DC cX10_lines 4 (.iload_n 1) 1 5 := ⟨by decide +kernel, rfl⟩
theorem e_X10_lines_5 : DC cX10_lines 5 (.iload_n 2) 1 6 := ⟨by decide +kernel, rfl⟩
theorem e_X10_lines_6 : DC cX10_lines 6 (.invokevirtual 133) 3 9 := ⟨by decide +kernel, rfl⟩
theorem e_X10_lines_9 : DC cX10_lines 9 (.ireturn) 1 10 := ⟨by decide +kernel, rfl⟩
noncomputable def m_X10_lines_0 (t_web_froms : Nat → Int) (t_web_tos : Nat → Int) (t_web_steps_many : Int) (t_web_steps_xs : Nat → Int) (t_web_steps_ys : Nat → Int) (t_web_steps_zs : Nat → Int) (t_web_there : Nat → Int) (v1 : Int) (v2 : Int) : Option (Int) :=
  (m_X9_tellLine t_web_froms t_web_tos t_web_steps_many t_web_steps_xs t_web_steps_ys t_web_steps_zs t_web_there v1 v2).bind (fun y1 => some (y1))

set_option maxRecDepth 10000 in
set_option maxHeartbeats 8000000 in
theorem g_X10_lines_0 {l : Launch} {E : EE} {b0 n : Nat} {h : AH} {a_t a_c a_s : Nat} {t_web_knotMany t_web_thereMany t_web_groupMany t_web_steps_many v1 v2 : Int} {t_web_froms t_web_tos t_web_steps_xs t_web_steps_ys t_web_steps_zs t_web_there : Nat → Int} {r : Int} (ao : AO b0 n [a_t, (a_t + 3), (a_t + 5), (a_t + 6), (a_t + 7), (a_t + 8), (a_t + 9), (a_t + 10), (a_t + 11)]) (ok_t_web_froms : okA t_web_froms) (ok_t_web_tos : okA t_web_tos) (ok_t_web_steps_many : inI t_web_steps_many) (ok_t_web_steps_xs : okA t_web_steps_xs) (ok_t_web_steps_ys : okA t_web_steps_ys) (ok_t_web_steps_zs : okA t_web_steps_zs) (ok_t_web_there : okZ t_web_there) (ok_v1 : inI v1) (ok_v2 : inI v2) (hs : m_X10_lines_0 t_web_froms t_web_tos t_web_steps_many t_web_steps_xs t_web_steps_ys t_web_steps_zs t_web_there v1 v2 = some r) : G l E b0 M_X10_lines (fun _ => True) (ZM E b0 (some (vI r)) (ov [a_t, (a_t + 3), (a_t + 5), (a_t + 6), (a_t + 7), (a_t + 8), (a_t + 9), (a_t + 10), (a_t + 11)] [.inr (10, fsX10 a_t a_c a_s), .inr (9, fsX9 (a_t + 3) t_web_knotMany t_web_thereMany t_web_groupMany), IA E 120 t_web_froms, IA E 120 t_web_tos, .inr (8, fsX8 (a_t + 7) t_web_steps_many), IA E 120 t_web_steps_xs, IA E 120 t_web_steps_ys, IA E 120 t_web_steps_zs, ZA E 120 t_web_there] h) n (inI r) 0 0) 0 0 n (ov [a_t, (a_t + 3), (a_t + 5), (a_t + 6), (a_t + 7), (a_t + 8), (a_t + 9), (a_t + 10), (a_t + 11)] [.inr (10, fsX10 a_t a_c a_s), .inr (9, fsX9 (a_t + 3) t_web_knotMany t_web_thereMany t_web_groupMany), IA E 120 t_web_froms, IA E 120 t_web_tos, .inr (8, fsX8 (a_t + 7) t_web_steps_many), IA E 120 t_web_steps_xs, IA E 120 t_web_steps_ys, IA E 120 t_web_steps_zs, ZA E 120 t_web_there] h) 0 [some (.ref a_t), some (vI v1), some (vI v2)] [] := by
  rw [m_X10_lines_0] at hs
  refine g_aload_n e_X10_lines_0 rfl ?_
  refine g_get 0 1 ao rfl rfl fsX10_g1 fl_X10_19 e_X10_lines_1 ?_
  refine g_iload_n e_X10_lines_4 rfl ?_
  refine g_iload_n e_X10_lines_5 rfl ?_
  obtain ⟨y1, hy1, hs⟩ := bind_elim hs
  refine g_callVr [vI v1, vI v2] cv_X10_133 ⟨rfl, rfl, Nat.le_of_ble_eq_true rfl, Nat.le_of_ble_eq_true rfl⟩ (ct_X9_tellLine (a_t := (a_t + 3)) (AO_call [1, 2, 3, 4, 5, 6, 7, 8] ao (by decide) rfl) (FA_call [1, 2, 3, 4, 5, 6, 7, 8] ao.1 rfl rfl) ok_t_web_froms ok_t_web_tos ok_t_web_steps_many ok_t_web_steps_xs ok_t_web_steps_ys ok_t_web_steps_zs ok_t_web_there ok_v1 ok_v2 hy1) e_X10_lines_6 (ao.2 1 _ rfl) (ov_get 1 ao.1 rfl rfl) rfl rfl rfl (Nat.le_of_ble_eq_true rfl) ⟨Nat.le_refl _, Nat.le_refl _⟩ (fun Py1 => ?_)
  obtain rfl := Option.some.inj hs
  exact g_iret rfl Py1 e_X10_lines_9

noncomputable def m_X10_lines (t_web_froms : Nat → Int) (t_web_tos : Nat → Int) (t_web_steps_many : Int) (t_web_steps_xs : Nat → Int) (t_web_steps_ys : Nat → Int) (t_web_steps_zs : Nat → Int) (t_web_there : Nat → Int) (v1 : Int) (v2 : Int) : Option (Int) := m_X10_lines_0 t_web_froms t_web_tos t_web_steps_many t_web_steps_xs t_web_steps_ys t_web_steps_zs t_web_there v1 v2

set_option maxRecDepth 10000 in
set_option maxHeartbeats 8000000 in
theorem ct_X10_lines {l : Launch} {E : EE} {b0 n : Nat} {h : AH} {a_t a_c a_s : Nat} {t_web_knotMany t_web_thereMany t_web_groupMany t_web_steps_many : Int} {t_web_froms t_web_tos t_web_steps_xs t_web_steps_ys t_web_steps_zs t_web_there : Nat → Int} {v1 v2 : Int} (ao : AO b0 n [a_t, (a_t + 3), (a_t + 5), (a_t + 6), (a_t + 7), (a_t + 8), (a_t + 9), (a_t + 10), (a_t + 11)]) (hf : FA h [a_t, (a_t + 3), (a_t + 5), (a_t + 6), (a_t + 7), (a_t + 8), (a_t + 9), (a_t + 10), (a_t + 11)] [.inr (10, fsX10 a_t a_c a_s), .inr (9, fsX9 (a_t + 3) t_web_knotMany t_web_thereMany t_web_groupMany), IA E 120 t_web_froms, IA E 120 t_web_tos, .inr (8, fsX8 (a_t + 7) t_web_steps_many), IA E 120 t_web_steps_xs, IA E 120 t_web_steps_ys, IA E 120 t_web_steps_zs, ZA E 120 t_web_there]) (ok_t_web_froms : okA t_web_froms) (ok_t_web_tos : okA t_web_tos) (ok_t_web_steps_many : inI t_web_steps_many) (ok_t_web_steps_xs : okA t_web_steps_xs) (ok_t_web_steps_ys : okA t_web_steps_ys) (ok_t_web_steps_zs : okA t_web_steps_zs) (ok_t_web_there : okZ t_web_there) (ok_v1 : inI v1) (ok_v2 : inI v2) {r : Int} (hm : m_X10_lines t_web_froms t_web_tos t_web_steps_many t_web_steps_xs t_web_steps_ys t_web_steps_zs t_web_there v1 v2 = some r) : Ct l E b0 M_X10_lines 0 0 [.ref a_t, vI v1, vI v2] h n (some (vI r)) h n (inI r) := by
  rw [m_X10_lines] at hm
  have hg : G l E b0 M_X10_lines (fun _ => True) (ZM E b0 (some (vI r)) (ov [a_t, (a_t + 3), (a_t + 5), (a_t + 6), (a_t + 7), (a_t + 8), (a_t + 9), (a_t + 10), (a_t + 11)] [.inr (10, fsX10 a_t a_c a_s), .inr (9, fsX9 (a_t + 3) t_web_knotMany t_web_thereMany t_web_groupMany), IA E 120 t_web_froms, IA E 120 t_web_tos, .inr (8, fsX8 (a_t + 7) t_web_steps_many), IA E 120 t_web_steps_xs, IA E 120 t_web_steps_ys, IA E 120 t_web_steps_zs, ZA E 120 t_web_there] h) n (inI r) 0 0) 0 0 n (ov [a_t, (a_t + 3), (a_t + 5), (a_t + 6), (a_t + 7), (a_t + 8), (a_t + 9), (a_t + 10), (a_t + 11)] [.inr (10, fsX10 a_t a_c a_s), .inr (9, fsX9 (a_t + 3) t_web_knotMany t_web_thereMany t_web_groupMany), IA E 120 t_web_froms, IA E 120 t_web_tos, .inr (8, fsX8 (a_t + 7) t_web_steps_many), IA E 120 t_web_steps_xs, IA E 120 t_web_steps_ys, IA E 120 t_web_steps_zs, ZA E 120 t_web_there] h) 0 [some (.ref a_t), some (vI v1), some (vI v2)] [] := by
    have hs := hm
    exact g_X10_lines_0 ao ok_t_web_froms ok_t_web_tos ok_t_web_steps_many ok_t_web_steps_xs ok_t_web_steps_ys ok_t_web_steps_zs ok_t_web_there ok_v1 ok_v2 hs
  rw [FA_id hf] at hg
  exact Ct_of [some (.ref a_t), some (vI v1), some (vI v2)] ⟨by decide +kernel, rfl⟩ rfl (Nat.le_of_ble_eq_true rfl) hg

/-! ===== X10_unsound ===== -/
theorem e_X10_unsound_0 : DC cX10_unsound 0 (.aload_n 0) 1 1 := ⟨by decide +kernel, rfl⟩
theorem e_X10_unsound_1 : DC cX10_unsound 1 (.getfield 19) 3 4 := ⟨by decide +kernel, rfl⟩
theorem e_X10_unsound_4 : DC cX10_unsound 4 (.invokevirtual 143) 3 7 := ⟨by decide +kernel, rfl⟩
theorem e_X10_unsound_7 : DC cX10_unsound 7 (.ireturn) 1 8 := ⟨by decide +kernel, rfl⟩
noncomputable def m_X10_unsound_0 (t_web_knotMany : Int) (t_web_rims : Nat → Int) (t_web_froms : Nat → Int) (t_web_tos : Nat → Int) (t_web_steps_many : Int) (t_web_steps_xs : Nat → Int) (t_web_steps_ys : Nat → Int) (t_web_steps_zs : Nat → Int) (t_web_there : Nat → Int) : Option (Int) :=
  (m_X9_firstUnsound t_web_knotMany t_web_rims t_web_froms t_web_tos t_web_steps_many t_web_steps_xs t_web_steps_ys t_web_steps_zs t_web_there).bind (fun y1 => some (y1))

set_option maxRecDepth 10000 in
set_option maxHeartbeats 8000000 in
theorem g_X10_unsound_0 {l : Launch} {E : EE} {b0 n : Nat} {h : AH} {a_t a_c a_s : Nat} {t_web_knotMany t_web_thereMany t_web_groupMany t_web_steps_many : Int} {t_web_rims t_web_froms t_web_tos t_web_steps_xs t_web_steps_ys t_web_steps_zs t_web_there : Nat → Int} {r : Int} (ao : AO b0 n [a_t, (a_t + 3), (a_t + 4), (a_t + 5), (a_t + 6), (a_t + 7), (a_t + 8), (a_t + 9), (a_t + 10), (a_t + 11)]) (ok_t_web_knotMany : inI t_web_knotMany) (ok_t_web_rims : okZ t_web_rims) (ok_t_web_froms : okA t_web_froms) (ok_t_web_tos : okA t_web_tos) (ok_t_web_steps_many : inI t_web_steps_many) (ok_t_web_steps_xs : okA t_web_steps_xs) (ok_t_web_steps_ys : okA t_web_steps_ys) (ok_t_web_steps_zs : okA t_web_steps_zs) (ok_t_web_there : okZ t_web_there) (hs : m_X10_unsound_0 t_web_knotMany t_web_rims t_web_froms t_web_tos t_web_steps_many t_web_steps_xs t_web_steps_ys t_web_steps_zs t_web_there = some r) : G l E b0 M_X10_unsound (fun _ => True) (ZM E b0 (some (vI r)) (ov [a_t, (a_t + 3), (a_t + 4), (a_t + 5), (a_t + 6), (a_t + 7), (a_t + 8), (a_t + 9), (a_t + 10), (a_t + 11)] [.inr (10, fsX10 a_t a_c a_s), .inr (9, fsX9 (a_t + 3) t_web_knotMany t_web_thereMany t_web_groupMany), ZA E 60 t_web_rims, IA E 120 t_web_froms, IA E 120 t_web_tos, .inr (8, fsX8 (a_t + 7) t_web_steps_many), IA E 120 t_web_steps_xs, IA E 120 t_web_steps_ys, IA E 120 t_web_steps_zs, ZA E 120 t_web_there] h) n (inI r) 0 0) 0 0 n (ov [a_t, (a_t + 3), (a_t + 4), (a_t + 5), (a_t + 6), (a_t + 7), (a_t + 8), (a_t + 9), (a_t + 10), (a_t + 11)] [.inr (10, fsX10 a_t a_c a_s), .inr (9, fsX9 (a_t + 3) t_web_knotMany t_web_thereMany t_web_groupMany), ZA E 60 t_web_rims, IA E 120 t_web_froms, IA E 120 t_web_tos, .inr (8, fsX8 (a_t + 7) t_web_steps_many), IA E 120 t_web_steps_xs, IA E 120 t_web_steps_ys, IA E 120 t_web_steps_zs, ZA E 120 t_web_there] h) 0 [some (.ref a_t)] [] := by
  rw [m_X10_unsound_0] at hs
  refine g_aload_n e_X10_unsound_0 rfl ?_
  refine g_get 0 1 ao rfl rfl fsX10_g1 fl_X10_19 e_X10_unsound_1 ?_
  obtain ⟨y1, hy1, hs⟩ := bind_elim hs
  refine g_callVr [] cv_X10_143 ⟨rfl, rfl, Nat.le_of_ble_eq_true rfl, Nat.le_of_ble_eq_true rfl⟩ (ct_X9_firstUnsound (a_t := (a_t + 3)) (AO_call [1, 2, 3, 4, 5, 6, 7, 8, 9] ao (by decide) rfl) (FA_call [1, 2, 3, 4, 5, 6, 7, 8, 9] ao.1 rfl rfl) ok_t_web_knotMany ok_t_web_rims ok_t_web_froms ok_t_web_tos ok_t_web_steps_many ok_t_web_steps_xs ok_t_web_steps_ys ok_t_web_steps_zs ok_t_web_there hy1) e_X10_unsound_4 (ao.2 1 _ rfl) (ov_get 1 ao.1 rfl rfl) rfl rfl rfl (Nat.le_of_ble_eq_true rfl) ⟨Nat.le_refl _, Nat.le_refl _⟩ (fun Py1 => ?_)
  obtain rfl := Option.some.inj hs
  exact g_iret rfl Py1 e_X10_unsound_7

noncomputable def m_X10_unsound (t_web_knotMany : Int) (t_web_rims : Nat → Int) (t_web_froms : Nat → Int) (t_web_tos : Nat → Int) (t_web_steps_many : Int) (t_web_steps_xs : Nat → Int) (t_web_steps_ys : Nat → Int) (t_web_steps_zs : Nat → Int) (t_web_there : Nat → Int) : Option (Int) := m_X10_unsound_0 t_web_knotMany t_web_rims t_web_froms t_web_tos t_web_steps_many t_web_steps_xs t_web_steps_ys t_web_steps_zs t_web_there

set_option maxRecDepth 10000 in
set_option maxHeartbeats 8000000 in
theorem ct_X10_unsound {l : Launch} {E : EE} {b0 n : Nat} {h : AH} {a_t a_c a_s : Nat} {t_web_knotMany t_web_thereMany t_web_groupMany t_web_steps_many : Int} {t_web_rims t_web_froms t_web_tos t_web_steps_xs t_web_steps_ys t_web_steps_zs t_web_there : Nat → Int} (ao : AO b0 n [a_t, (a_t + 3), (a_t + 4), (a_t + 5), (a_t + 6), (a_t + 7), (a_t + 8), (a_t + 9), (a_t + 10), (a_t + 11)]) (hf : FA h [a_t, (a_t + 3), (a_t + 4), (a_t + 5), (a_t + 6), (a_t + 7), (a_t + 8), (a_t + 9), (a_t + 10), (a_t + 11)] [.inr (10, fsX10 a_t a_c a_s), .inr (9, fsX9 (a_t + 3) t_web_knotMany t_web_thereMany t_web_groupMany), ZA E 60 t_web_rims, IA E 120 t_web_froms, IA E 120 t_web_tos, .inr (8, fsX8 (a_t + 7) t_web_steps_many), IA E 120 t_web_steps_xs, IA E 120 t_web_steps_ys, IA E 120 t_web_steps_zs, ZA E 120 t_web_there]) (ok_t_web_knotMany : inI t_web_knotMany) (ok_t_web_rims : okZ t_web_rims) (ok_t_web_froms : okA t_web_froms) (ok_t_web_tos : okA t_web_tos) (ok_t_web_steps_many : inI t_web_steps_many) (ok_t_web_steps_xs : okA t_web_steps_xs) (ok_t_web_steps_ys : okA t_web_steps_ys) (ok_t_web_steps_zs : okA t_web_steps_zs) (ok_t_web_there : okZ t_web_there) {r : Int} (hm : m_X10_unsound t_web_knotMany t_web_rims t_web_froms t_web_tos t_web_steps_many t_web_steps_xs t_web_steps_ys t_web_steps_zs t_web_there = some r) : Ct l E b0 M_X10_unsound 0 0 [.ref a_t] h n (some (vI r)) h n (inI r) := by
  rw [m_X10_unsound] at hm
  have hg : G l E b0 M_X10_unsound (fun _ => True) (ZM E b0 (some (vI r)) (ov [a_t, (a_t + 3), (a_t + 4), (a_t + 5), (a_t + 6), (a_t + 7), (a_t + 8), (a_t + 9), (a_t + 10), (a_t + 11)] [.inr (10, fsX10 a_t a_c a_s), .inr (9, fsX9 (a_t + 3) t_web_knotMany t_web_thereMany t_web_groupMany), ZA E 60 t_web_rims, IA E 120 t_web_froms, IA E 120 t_web_tos, .inr (8, fsX8 (a_t + 7) t_web_steps_many), IA E 120 t_web_steps_xs, IA E 120 t_web_steps_ys, IA E 120 t_web_steps_zs, ZA E 120 t_web_there] h) n (inI r) 0 0) 0 0 n (ov [a_t, (a_t + 3), (a_t + 4), (a_t + 5), (a_t + 6), (a_t + 7), (a_t + 8), (a_t + 9), (a_t + 10), (a_t + 11)] [.inr (10, fsX10 a_t a_c a_s), .inr (9, fsX9 (a_t + 3) t_web_knotMany t_web_thereMany t_web_groupMany), ZA E 60 t_web_rims, IA E 120 t_web_froms, IA E 120 t_web_tos, .inr (8, fsX8 (a_t + 7) t_web_steps_many), IA E 120 t_web_steps_xs, IA E 120 t_web_steps_ys, IA E 120 t_web_steps_zs, ZA E 120 t_web_there] h) 0 [some (.ref a_t)] [] := by
    have hs := hm
    exact g_X10_unsound_0 ao ok_t_web_knotMany ok_t_web_rims ok_t_web_froms ok_t_web_tos ok_t_web_steps_many ok_t_web_steps_xs ok_t_web_steps_ys ok_t_web_steps_zs ok_t_web_there hs
  rw [FA_id hf] at hg
  exact Ct_of [some (.ref a_t)] ⟨by decide +kernel, rfl⟩ rfl (Nat.le_of_ble_eq_true rfl) hg

/-! ===== X10_at ===== -/
theorem e_X10_at_0 : DC cX10_at 0 (.aload_n 0) 1 1 := ⟨by decide +kernel, rfl⟩
theorem e_X10_at_1 : DC cX10_at 1 (.getfield 33) 3 4 := ⟨by decide +kernel, rfl⟩
theorem e_X10_at_4 : DC cX10_at 4 (.iload_n 1) 1 5 := ⟨by decide +kernel, rfl⟩
theorem e_X10_at_5 : DC cX10_at 5 (.invokevirtual 202) 3 8 := ⟨by decide +kernel, rfl⟩
theorem e_X10_at_8 : DC cX10_at 8 (.ireturn) 1 9 := ⟨by decide +kernel, rfl⟩
noncomputable def m_X10_at_0 (t_row_signs : Nat → Int) (v1 : Int) : Option (Int) :=
  (m_X6_signAt t_row_signs v1).bind (fun y1 => some (y1))

set_option maxRecDepth 10000 in
set_option maxHeartbeats 8000000 in
theorem g_X10_at_0 {l : Launch} {E : EE} {b0 n : Nat} {h : AH} {a_t a_c a_s : Nat} {t_row_flaws t_row_slipped t_row_gone t_row_work t_row_out t_row_lost t_row_came v1 : Int} {t_row_signs : Nat → Int} {r : Int} (ao : AO b0 n [a_t, (a_t + 22), (a_t + 23)]) (ok_t_row_signs : okA t_row_signs) (ok_v1 : inI v1) (hs : m_X10_at_0 t_row_signs v1 = some r) : G l E b0 M_X10_at (fun _ => True) (ZM E b0 (some (vI r)) (ov [a_t, (a_t + 22), (a_t + 23)] [.inr (10, fsX10 a_t a_c a_s), .inr (6, fsX6 (a_t + 22) t_row_flaws t_row_slipped t_row_gone t_row_work t_row_out t_row_lost t_row_came), IA E 100 t_row_signs] h) n (inI r) 0 0) 0 0 n (ov [a_t, (a_t + 22), (a_t + 23)] [.inr (10, fsX10 a_t a_c a_s), .inr (6, fsX6 (a_t + 22) t_row_flaws t_row_slipped t_row_gone t_row_work t_row_out t_row_lost t_row_came), IA E 100 t_row_signs] h) 0 [some (.ref a_t), some (vI v1)] [] := by
  rw [m_X10_at_0] at hs
  refine g_aload_n e_X10_at_0 rfl ?_
  refine g_get 0 3 ao rfl rfl fsX10_g3 fl_X10_33 e_X10_at_1 ?_
  refine g_iload_n e_X10_at_4 rfl ?_
  obtain ⟨y1, hy1, hs⟩ := bind_elim hs
  refine g_callVr [vI v1] cv_X10_202 ⟨rfl, rfl, Nat.le_of_ble_eq_true rfl, Nat.le_of_ble_eq_true rfl⟩ (ct_X6_signAt (a_t := (a_t + 22)) (AO_call [1, 2] ao (by decide) rfl) (FA_call [1, 2] ao.1 rfl rfl) ok_t_row_signs ok_v1 hy1) e_X10_at_5 (ao.2 1 _ rfl) (ov_get 1 ao.1 rfl rfl) rfl rfl rfl (Nat.le_of_ble_eq_true rfl) ⟨Nat.le_refl _, Nat.le_refl _⟩ (fun Py1 => ?_)
  obtain rfl := Option.some.inj hs
  exact g_iret rfl Py1 e_X10_at_8

noncomputable def m_X10_at (t_row_signs : Nat → Int) (v1 : Int) : Option (Int) := m_X10_at_0 t_row_signs v1

set_option maxRecDepth 10000 in
set_option maxHeartbeats 8000000 in
theorem ct_X10_at {l : Launch} {E : EE} {b0 n : Nat} {h : AH} {a_t a_c a_s : Nat} {t_row_flaws t_row_slipped t_row_gone t_row_work t_row_out t_row_lost t_row_came : Int} {t_row_signs : Nat → Int} {v1 : Int} (ao : AO b0 n [a_t, (a_t + 22), (a_t + 23)]) (hf : FA h [a_t, (a_t + 22), (a_t + 23)] [.inr (10, fsX10 a_t a_c a_s), .inr (6, fsX6 (a_t + 22) t_row_flaws t_row_slipped t_row_gone t_row_work t_row_out t_row_lost t_row_came), IA E 100 t_row_signs]) (ok_t_row_signs : okA t_row_signs) (ok_v1 : inI v1) {r : Int} (hm : m_X10_at t_row_signs v1 = some r) : Ct l E b0 M_X10_at 0 0 [.ref a_t, vI v1] h n (some (vI r)) h n (inI r) := by
  rw [m_X10_at] at hm
  have hg : G l E b0 M_X10_at (fun _ => True) (ZM E b0 (some (vI r)) (ov [a_t, (a_t + 22), (a_t + 23)] [.inr (10, fsX10 a_t a_c a_s), .inr (6, fsX6 (a_t + 22) t_row_flaws t_row_slipped t_row_gone t_row_work t_row_out t_row_lost t_row_came), IA E 100 t_row_signs] h) n (inI r) 0 0) 0 0 n (ov [a_t, (a_t + 22), (a_t + 23)] [.inr (10, fsX10 a_t a_c a_s), .inr (6, fsX6 (a_t + 22) t_row_flaws t_row_slipped t_row_gone t_row_work t_row_out t_row_lost t_row_came), IA E 100 t_row_signs] h) 0 [some (.ref a_t), some (vI v1)] [] := by
    have hs := hm
    exact g_X10_at_0 ao ok_t_row_signs ok_v1 hs
  rw [FA_id hf] at hg
  exact Ct_of [some (.ref a_t), some (vI v1)] ⟨by decide +kernel, rfl⟩ rfl (Nat.le_of_ble_eq_true rfl) hg

/-! ===== X10_mark ===== -/
theorem e_X10_mark_0 : DC cX10_mark 0 (.aload_n 0) 1 1 := ⟨by decide +kernel, rfl⟩
theorem e_X10_mark_1 : DC cX10_mark 1 (.getfield 37) 3 4 := ⟨by decide +kernel, rfl⟩
theorem e_X10_mark_4 : DC cX10_mark 4 (.aload_n 0) 1 5 := ⟨by decide +kernel, rfl⟩
theorem e_X10_mark_5 : DC cX10_mark 5 (.getfield 33) 3 8 := ⟨by decide +kernel, rfl⟩
theorem e_X10_mark_8 : DC cX10_mark 8 (.invokevirtual 220) 3 11 := ⟨by decide +kernel, rfl⟩
theorem e_X10_mark_11 : DC cX10_mark 11 (.return_) 1 12 := ⟨by decide +kernel, rfl⟩
noncomputable def m_X10_mark_0 (t_row_flaws : Int) (t_row_signs : Nat → Int) (t_marked_flaws : Int) (t_marked_signs : Nat → Int) : Option (Int × (Nat → Int)) :=
  (m_X6_standAs t_marked_flaws t_marked_signs t_row_flaws t_row_signs).bind (fun y1 => some (y1.1, y1.2))

set_option maxRecDepth 10000 in
set_option maxHeartbeats 8000000 in
theorem g_X10_mark_0 {l : Launch} {E : EE} {b0 n : Nat} {h : AH} {a_t a_c a_s : Nat} {t_row_flaws t_row_slipped t_row_gone t_row_work t_row_out t_row_lost t_row_came t_marked_flaws t_marked_slipped t_marked_gone t_marked_work t_marked_out t_marked_lost t_marked_came : Int} {t_row_signs t_marked_signs : Nat → Int} {r : Int × (Nat → Int)} (ao : AO b0 n [a_t, (a_t + 22), (a_t + 23), (a_t + 26), (a_t + 27)]) (ok_t_row_flaws : inI t_row_flaws) (ok_t_row_signs : okA t_row_signs) (ok_t_marked_flaws : inI t_marked_flaws) (ok_t_marked_signs : okA t_marked_signs) (hs : m_X10_mark_0 t_row_flaws t_row_signs t_marked_flaws t_marked_signs = some r) : G l E b0 M_X10_mark (fun _ => True) (ZM E b0 (none) (ov [a_t, (a_t + 22), (a_t + 23), (a_t + 26), (a_t + 27)] [.inr (10, fsX10 a_t a_c a_s), .inr (6, fsX6 (a_t + 22) t_row_flaws t_row_slipped t_row_gone t_row_work t_row_out t_row_lost t_row_came), IA E 100 t_row_signs, .inr (6, fsX6 (a_t + 26) r.1 t_marked_slipped t_marked_gone t_marked_work t_marked_out t_marked_lost t_marked_came), IA E 100 r.2] h) n (inI r.1 ∧ okA r.2) 0 0) 0 0 n (ov [a_t, (a_t + 22), (a_t + 23), (a_t + 26), (a_t + 27)] [.inr (10, fsX10 a_t a_c a_s), .inr (6, fsX6 (a_t + 22) t_row_flaws t_row_slipped t_row_gone t_row_work t_row_out t_row_lost t_row_came), IA E 100 t_row_signs, .inr (6, fsX6 (a_t + 26) t_marked_flaws t_marked_slipped t_marked_gone t_marked_work t_marked_out t_marked_lost t_marked_came), IA E 100 t_marked_signs] h) 0 [some (.ref a_t)] [] := by
  rw [m_X10_mark_0] at hs
  refine g_aload_n e_X10_mark_0 rfl ?_
  refine g_get 0 4 ao rfl rfl fsX10_g4 fl_X10_37 e_X10_mark_1 ?_
  refine g_aload_n e_X10_mark_4 rfl ?_
  refine g_get 0 3 ao rfl rfl fsX10_g3 fl_X10_33 e_X10_mark_5 ?_
  obtain ⟨y1, hy1, hs⟩ := bind_elim hs
  refine g_callVv [.ref (a_t + 22)] cv_X10_220 ⟨rfl, rfl, Nat.le_of_ble_eq_true rfl, Nat.le_of_ble_eq_true rfl⟩ (Ct_heap (ct_X6_standAs (a_t := (a_t + 26)) (a_p1 := (a_t + 22)) (AO_call [3, 4, 1, 2] ao (by decide) rfl) (FA_call [3, 4, 1, 2] ao.1 rfl rfl) ok_t_marked_flaws ok_t_marked_signs ok_t_row_flaws ok_t_row_signs hy1) (ov_callN (esn := [.inr (10, fsX10 a_t a_c a_s), .inr (6, fsX6 (a_t + 22) t_row_flaws t_row_slipped t_row_gone t_row_work t_row_out t_row_lost t_row_came), IA E 100 t_row_signs, .inr (6, fsX6 (a_t + 26) y1.1 t_marked_slipped t_marked_gone t_marked_work t_marked_out t_marked_lost t_marked_came), IA E 100 y1.2]) [3, 4, 1, 2] [true, false, false, false, false] ao.1 rfl rfl rfl rfl rfl rfl (by decide))) e_X10_mark_8 (ao.2 3 _ rfl) (ov_get 3 ao.1 rfl rfl) rfl rfl rfl (Nat.le_of_ble_eq_true rfl) ⟨Nat.le_refl _, Nat.le_refl _⟩ (fun Py1 => ?_)
  obtain rfl := Option.some.inj hs
  exact g_vret rfl ⟨Py1.1, Py1.2⟩ e_X10_mark_11

noncomputable def m_X10_mark (t_row_flaws : Int) (t_row_signs : Nat → Int) (t_marked_flaws : Int) (t_marked_signs : Nat → Int) : Option (Int × (Nat → Int)) := m_X10_mark_0 t_row_flaws t_row_signs t_marked_flaws t_marked_signs

set_option maxRecDepth 10000 in
set_option maxHeartbeats 8000000 in
theorem ct_X10_mark {l : Launch} {E : EE} {b0 n : Nat} {h : AH} {a_t a_c a_s : Nat} {t_row_flaws t_row_slipped t_row_gone t_row_work t_row_out t_row_lost t_row_came t_marked_flaws t_marked_slipped t_marked_gone t_marked_work t_marked_out t_marked_lost t_marked_came : Int} {t_row_signs t_marked_signs : Nat → Int} (ao : AO b0 n [a_t, (a_t + 22), (a_t + 23), (a_t + 26), (a_t + 27)]) (hf : FA h [a_t, (a_t + 22), (a_t + 23), (a_t + 26), (a_t + 27)] [.inr (10, fsX10 a_t a_c a_s), .inr (6, fsX6 (a_t + 22) t_row_flaws t_row_slipped t_row_gone t_row_work t_row_out t_row_lost t_row_came), IA E 100 t_row_signs, .inr (6, fsX6 (a_t + 26) t_marked_flaws t_marked_slipped t_marked_gone t_marked_work t_marked_out t_marked_lost t_marked_came), IA E 100 t_marked_signs]) (ok_t_row_flaws : inI t_row_flaws) (ok_t_row_signs : okA t_row_signs) (ok_t_marked_flaws : inI t_marked_flaws) (ok_t_marked_signs : okA t_marked_signs) {r : Int × (Nat → Int)} (hm : m_X10_mark t_row_flaws t_row_signs t_marked_flaws t_marked_signs = some r) : Ct l E b0 M_X10_mark 0 0 [.ref a_t] h n (none) (ov [a_t, (a_t + 22), (a_t + 23), (a_t + 26), (a_t + 27)] [.inr (10, fsX10 a_t a_c a_s), .inr (6, fsX6 (a_t + 22) t_row_flaws t_row_slipped t_row_gone t_row_work t_row_out t_row_lost t_row_came), IA E 100 t_row_signs, .inr (6, fsX6 (a_t + 26) r.1 t_marked_slipped t_marked_gone t_marked_work t_marked_out t_marked_lost t_marked_came), IA E 100 r.2] h) n (inI r.1 ∧ okA r.2) := by
  rw [m_X10_mark] at hm
  have hg : G l E b0 M_X10_mark (fun _ => True) (ZM E b0 (none) (ov [a_t, (a_t + 22), (a_t + 23), (a_t + 26), (a_t + 27)] [.inr (10, fsX10 a_t a_c a_s), .inr (6, fsX6 (a_t + 22) t_row_flaws t_row_slipped t_row_gone t_row_work t_row_out t_row_lost t_row_came), IA E 100 t_row_signs, .inr (6, fsX6 (a_t + 26) r.1 t_marked_slipped t_marked_gone t_marked_work t_marked_out t_marked_lost t_marked_came), IA E 100 r.2] h) n (inI r.1 ∧ okA r.2) 0 0) 0 0 n (ov [a_t, (a_t + 22), (a_t + 23), (a_t + 26), (a_t + 27)] [.inr (10, fsX10 a_t a_c a_s), .inr (6, fsX6 (a_t + 22) t_row_flaws t_row_slipped t_row_gone t_row_work t_row_out t_row_lost t_row_came), IA E 100 t_row_signs, .inr (6, fsX6 (a_t + 26) t_marked_flaws t_marked_slipped t_marked_gone t_marked_work t_marked_out t_marked_lost t_marked_came), IA E 100 t_marked_signs] h) 0 [some (.ref a_t)] [] := by
    have hs := hm
    exact g_X10_mark_0 ao ok_t_row_flaws ok_t_row_signs ok_t_marked_flaws ok_t_marked_signs hs
  rw [FA_id hf] at hg
  exact Ct_of [some (.ref a_t)] ⟨by decide +kernel, rfl⟩ rfl (Nat.le_of_ble_eq_true rfl) hg

/-! ===== X10_seen ===== -/
theorem e_X10_seen_0 : DC cX10_seen 0 (.aload_n 0) 1 1 := ⟨by decide +kernel, rfl⟩
theorem e_X10_seen_1 : DC cX10_seen 1 (.getfield 19) 3 4 := ⟨by decide +kernel, rfl⟩
theorem e_X10_seen_4 : DC cX10_seen 4 (.iload_n 1) 1 5 := ⟨by decide +kernel, rfl⟩
theorem e_X10_seen_5 : DC cX10_seen 5 (.invokevirtual 266) 3 8 := ⟨by decide +kernel, rfl⟩
theorem e_X10_seen_8 : DB cX10_seen 8 (.ifCond .eq 17) (17) 3 11 25 := ⟨by decide +kernel, rfl, rfl⟩
theorem e_X10_seen_11 : DC cX10_seen 11 (.aload_n 0) 1 12 := ⟨by decide +kernel, rfl⟩
theorem e_X10_seen_12 : DC cX10_seen 12 (.getfield 64) 3 15 := ⟨by decide +kernel, rfl⟩
theorem e_X10_seen_15 : DC cX10_seen 15 (.getfield 269) 3 18 := ⟨by decide +kernel, rfl⟩
theorem e_X10_seen_18 : DC cX10_seen 18 (.iload_n 2) 1 19 := ⟨by decide +kernel, rfl⟩
theorem e_X10_seen_19 : DC cX10_seen 19 (.invokevirtual 94) 3 22 := ⟨by decide +kernel, rfl⟩
theorem e_X10_seen_22 : DB cX10_seen 22 (.ifCond .ne 5) (5) 3 25 27 := ⟨by decide +kernel, rfl, rfl⟩
theorem e_X10_seen_25 : DC cX10_seen 25 (.iconst (-1)) 1 26 := ⟨by decide +kernel, rfl⟩
theorem e_X10_seen_26 : DC cX10_seen 26 (.ireturn) 1 27 := ⟨by decide +kernel, rfl⟩
theorem e_X10_seen_27 : DC cX10_seen 27 (.aload_n 0) 1 28 := ⟨by decide +kernel, rfl⟩
theorem e_X10_seen_28 : DC cX10_seen 28 (.getfield 64) 3 31 := ⟨by decide +kernel, rfl⟩
theorem e_X10_seen_31 : DC cX10_seen 31 (.getfield 269) 3 34 := ⟨by decide +kernel, rfl⟩
theorem e_X10_seen_34 : DC cX10_seen 34 (.iload_n 2) 1 35 := ⟨by decide +kernel, rfl⟩
theorem e_X10_seen_35 : DC cX10_seen 35 (.aload_n 0) 1 36 := ⟨by decide +kernel, rfl⟩
theorem e_X10_seen_36 : DC cX10_seen 36 (.getfield 19) 3 39 := ⟨by decide +kernel, rfl⟩
theorem e_X10_seen_39 : DC cX10_seen 39 (.getfield 272) 3 42 := ⟨by decide +kernel, rfl⟩
theorem e_X10_seen_42 : DC cX10_seen 42 (.iload_n 1) 1 43 := ⟨by decide +kernel, rfl⟩
theorem e_X10_seen_43 : DC cX10_seen 43 (.invokevirtual 273) 3 46 := ⟨by decide +kernel, rfl⟩
theorem e_X10_seen_46 : DB cX10_seen 46 (.ifCond .eq 7) (7) 3 49 53 := ⟨by decide +kernel, rfl, rfl⟩
theorem e_X10_seen_49 : DC cX10_seen 49 (.iconst 1) 1 50 := ⟨by decide +kernel, rfl⟩
theorem e_X10_seen_50 : DB cX10_seen 50 (.goto 4) (4) 3 53 54 := ⟨by decide +kernel, rfl, rfl⟩
theorem e_X10_seen_53 : DC cX10_seen 53 (.iconst 0) 1 54 := ⟨by decide +kernel, rfl⟩
theorem e_X10_seen_54 : DC cX10_seen 54 (.ireturn) 1 55 := ⟨by decide +kernel, rfl⟩
noncomputable def m_X10_seen_0 (t_web_steps_many : Int) (t_web_steps_xs : Nat → Int) (t_web_steps_ys : Nat → Int) (t_web_steps_zs : Nat → Int) (t_web_there : Nat → Int) (t_crystal_eyes_many : Int) (t_crystal_eyes_xs : Nat → Int) (t_crystal_eyes_ys : Nat → Int) (t_crystal_eyes_zs : Nat → Int) (v1 : Int) (v2 : Int) : Option (Int) :=
  (m_X9_isThere t_web_steps_many t_web_there v1).bind (fun y1 => if y1 = 0 then (some ((-1))) else ((m_X8_has t_crystal_eyes_many v2).bind (fun y2 => if y2 = 0 then (some ((-1))) else ((m_X8_product 120 16 t_crystal_eyes_many t_crystal_eyes_xs t_crystal_eyes_ys t_crystal_eyes_zs t_web_steps_many t_web_steps_xs t_web_steps_ys t_web_steps_zs v2 v1).bind (fun y3 => if y3 = 0 then (some (0)) else (some (1)))))))

set_option maxRecDepth 10000 in
set_option maxHeartbeats 8000000 in
theorem g_X10_seen_0 {l : Launch} {E : EE} {b0 n : Nat} {h : AH} {a_t a_c a_s : Nat} {t_web_knotMany t_web_thereMany t_web_groupMany t_web_steps_many t_crystal_sightMany t_crystal_eyes_many v1 v2 : Int} {t_web_steps_xs t_web_steps_ys t_web_steps_zs t_web_there t_crystal_eyes_xs t_crystal_eyes_ys t_crystal_eyes_zs : Nat → Int} {r : Int} (ao : AO b0 n [a_t, (a_t + 3), (a_t + 7), (a_t + 8), (a_t + 9), (a_t + 10), (a_t + 11), a_c, (a_c + 9), (a_c + 10), (a_c + 11), (a_c + 12)]) (ok_t_web_steps_many : inI t_web_steps_many) (ok_t_web_steps_xs : okA t_web_steps_xs) (ok_t_web_steps_ys : okA t_web_steps_ys) (ok_t_web_steps_zs : okA t_web_steps_zs) (ok_t_web_there : okZ t_web_there) (ok_t_crystal_eyes_many : inI t_crystal_eyes_many) (ok_t_crystal_eyes_xs : okA t_crystal_eyes_xs) (ok_t_crystal_eyes_ys : okA t_crystal_eyes_ys) (ok_t_crystal_eyes_zs : okA t_crystal_eyes_zs) (ok_v1 : inI v1) (ok_v2 : inI v2) (hs : m_X10_seen_0 t_web_steps_many t_web_steps_xs t_web_steps_ys t_web_steps_zs t_web_there t_crystal_eyes_many t_crystal_eyes_xs t_crystal_eyes_ys t_crystal_eyes_zs v1 v2 = some r) : G l E b0 M_X10_seen (fun _ => True) (ZM E b0 (some (vI r)) (ov [a_t, (a_t + 3), (a_t + 7), (a_t + 8), (a_t + 9), (a_t + 10), (a_t + 11), a_c, (a_c + 9), (a_c + 10), (a_c + 11), (a_c + 12)] [.inr (10, fsX10 a_t a_c a_s), .inr (9, fsX9 (a_t + 3) t_web_knotMany t_web_thereMany t_web_groupMany), .inr (8, fsX8 (a_t + 7) t_web_steps_many), IA E 120 t_web_steps_xs, IA E 120 t_web_steps_ys, IA E 120 t_web_steps_zs, ZA E 120 t_web_there, .inr (1, fsX1 a_c t_crystal_sightMany), .inr (8, fsX8 (a_c + 9) t_crystal_eyes_many), IA E 16 t_crystal_eyes_xs, IA E 16 t_crystal_eyes_ys, IA E 16 t_crystal_eyes_zs] h) n (inI r) 0 0) 0 0 n (ov [a_t, (a_t + 3), (a_t + 7), (a_t + 8), (a_t + 9), (a_t + 10), (a_t + 11), a_c, (a_c + 9), (a_c + 10), (a_c + 11), (a_c + 12)] [.inr (10, fsX10 a_t a_c a_s), .inr (9, fsX9 (a_t + 3) t_web_knotMany t_web_thereMany t_web_groupMany), .inr (8, fsX8 (a_t + 7) t_web_steps_many), IA E 120 t_web_steps_xs, IA E 120 t_web_steps_ys, IA E 120 t_web_steps_zs, ZA E 120 t_web_there, .inr (1, fsX1 a_c t_crystal_sightMany), .inr (8, fsX8 (a_c + 9) t_crystal_eyes_many), IA E 16 t_crystal_eyes_xs, IA E 16 t_crystal_eyes_ys, IA E 16 t_crystal_eyes_zs] h) 0 [some (.ref a_t), some (vI v1), some (vI v2)] [] := by
  rw [m_X10_seen_0] at hs
  refine g_aload_n e_X10_seen_0 rfl ?_
  refine g_get 0 1 ao rfl rfl fsX10_g1 fl_X10_19 e_X10_seen_1 ?_
  refine g_iload_n e_X10_seen_4 rfl ?_
  obtain ⟨y1, hy1, hs⟩ := bind_elim hs
  refine g_callVr [vI v1] cv_X10_266 ⟨rfl, rfl, Nat.le_of_ble_eq_true rfl, Nat.le_of_ble_eq_true rfl⟩ (ct_X9_isThere (a_t := (a_t + 3)) (AO_call [1, 2, 6] ao (by decide) rfl) (FA_call [1, 2, 6] ao.1 rfl rfl) ok_t_web_steps_many ok_t_web_there ok_v1 hy1) e_X10_seen_5 (ao.2 1 _ rfl) (ov_get 1 ao.1 rfl rfl) rfl rfl rfl (Nat.le_of_ble_eq_true rfl) ⟨Nat.le_refl _, Nat.le_refl _⟩ (fun Py1 => ?_)
  refine g_if_eq e_X10_seen_8 (inZ_I Py1) hs (fun c8 hs => ?_) (fun c8 hs => ?_)
  · refine g_iconst e_X10_seen_25 ?_
    obtain rfl := Option.some.inj hs
    exact g_iret rfl (by decide : inI (-1)) e_X10_seen_26
  · refine g_aload_n e_X10_seen_11 rfl ?_
    refine g_get 0 8 ao rfl rfl fsX10_g8 fl_X10_64 e_X10_seen_12 ?_
    refine g_get 7 2 ao rfl rfl fsX1_g2 fl_X10_269 e_X10_seen_15 ?_
    refine g_iload_n e_X10_seen_18 rfl ?_
    obtain ⟨y2, hy2, hs⟩ := bind_elim hs
    refine g_callVr [vI v2] cv_X10_94 ⟨rfl, rfl, Nat.le_of_ble_eq_true rfl, Nat.le_of_ble_eq_true rfl⟩ (ct_X8_has (a_t := (a_c + 9)) (AO_call [8] ao (by decide) rfl) (FA_call [8] ao.1 rfl rfl) ok_t_crystal_eyes_many ok_v2 hy2) e_X10_seen_19 (ao.2 8 _ rfl) (ov_get 8 ao.1 rfl rfl) rfl rfl rfl (Nat.le_of_ble_eq_true rfl) ⟨Nat.le_refl _, Nat.le_refl _⟩ (fun Py2 => ?_)
    refine g_if_ne e_X10_seen_22 (inZ_I Py2) hs (fun c22 hs => ?_) (fun c22 hs => ?_)
    · refine g_iconst e_X10_seen_25 ?_
      obtain rfl := Option.some.inj hs
      exact g_iret rfl (by decide : inI (-1)) e_X10_seen_26
    · refine g_aload_n e_X10_seen_27 rfl ?_
      refine g_get 0 8 ao rfl rfl fsX10_g8 fl_X10_64 e_X10_seen_28 ?_
      refine g_get 7 2 ao rfl rfl fsX1_g2 fl_X10_269 e_X10_seen_31 ?_
      refine g_iload_n e_X10_seen_34 rfl ?_
      refine g_aload_n e_X10_seen_35 rfl ?_
      refine g_get 0 1 ao rfl rfl fsX10_g1 fl_X10_19 e_X10_seen_36 ?_
      refine g_get 1 3 ao rfl rfl fsX9_g3 fl_X10_272 e_X10_seen_39 ?_
      refine g_iload_n e_X10_seen_42 rfl ?_
      obtain ⟨y3, hy3, hs⟩ := bind_elim hs
      refine g_callVr [vI v2, .ref (a_t + 7), vI v1] cv_X10_273 ⟨rfl, rfl, Nat.le_of_ble_eq_true rfl, Nat.le_of_ble_eq_true rfl⟩ (ct_X8_product (a_t := (a_c + 9)) (a_p2 := (a_t + 7)) (AO_call [8, 9, 10, 11, 2, 3, 4, 5] ao (by decide) rfl) (by omega) (by omega) (FA_call [8, 9, 10, 11, 2, 3, 4, 5] ao.1 rfl rfl) ok_t_crystal_eyes_many ok_t_crystal_eyes_xs ok_t_crystal_eyes_ys ok_t_crystal_eyes_zs ok_t_web_steps_many ok_t_web_steps_xs ok_t_web_steps_ys ok_t_web_steps_zs ok_v2 ok_v1 hy3) e_X10_seen_43 (ao.2 8 _ rfl) (ov_get 8 ao.1 rfl rfl) rfl rfl rfl (Nat.le_of_ble_eq_true rfl) ⟨Nat.le_refl _, Nat.le_refl _⟩ (fun Py3 => ?_)
      refine g_if_eq e_X10_seen_46 Py3 hs (fun c46 hs => ?_) (fun c46 hs => ?_)
      · refine g_iconst e_X10_seen_53 ?_
        obtain rfl := Option.some.inj hs
        exact g_iret rfl (by decide : inI 0) e_X10_seen_54
      · refine g_iconst e_X10_seen_49 ?_
        refine g_goto e_X10_seen_50 ?_
        obtain rfl := Option.some.inj hs
        exact g_iret rfl (by decide : inI 1) e_X10_seen_54

noncomputable def m_X10_seen (t_web_steps_many : Int) (t_web_steps_xs : Nat → Int) (t_web_steps_ys : Nat → Int) (t_web_steps_zs : Nat → Int) (t_web_there : Nat → Int) (t_crystal_eyes_many : Int) (t_crystal_eyes_xs : Nat → Int) (t_crystal_eyes_ys : Nat → Int) (t_crystal_eyes_zs : Nat → Int) (v1 : Int) (v2 : Int) : Option (Int) := m_X10_seen_0 t_web_steps_many t_web_steps_xs t_web_steps_ys t_web_steps_zs t_web_there t_crystal_eyes_many t_crystal_eyes_xs t_crystal_eyes_ys t_crystal_eyes_zs v1 v2

set_option maxRecDepth 10000 in
set_option maxHeartbeats 8000000 in
theorem ct_X10_seen {l : Launch} {E : EE} {b0 n : Nat} {h : AH} {a_t a_c a_s : Nat} {t_web_knotMany t_web_thereMany t_web_groupMany t_web_steps_many t_crystal_sightMany t_crystal_eyes_many : Int} {t_web_steps_xs t_web_steps_ys t_web_steps_zs t_web_there t_crystal_eyes_xs t_crystal_eyes_ys t_crystal_eyes_zs : Nat → Int} {v1 v2 : Int} (ao : AO b0 n [a_t, (a_t + 3), (a_t + 7), (a_t + 8), (a_t + 9), (a_t + 10), (a_t + 11), a_c, (a_c + 9), (a_c + 10), (a_c + 11), (a_c + 12)]) (hf : FA h [a_t, (a_t + 3), (a_t + 7), (a_t + 8), (a_t + 9), (a_t + 10), (a_t + 11), a_c, (a_c + 9), (a_c + 10), (a_c + 11), (a_c + 12)] [.inr (10, fsX10 a_t a_c a_s), .inr (9, fsX9 (a_t + 3) t_web_knotMany t_web_thereMany t_web_groupMany), .inr (8, fsX8 (a_t + 7) t_web_steps_many), IA E 120 t_web_steps_xs, IA E 120 t_web_steps_ys, IA E 120 t_web_steps_zs, ZA E 120 t_web_there, .inr (1, fsX1 a_c t_crystal_sightMany), .inr (8, fsX8 (a_c + 9) t_crystal_eyes_many), IA E 16 t_crystal_eyes_xs, IA E 16 t_crystal_eyes_ys, IA E 16 t_crystal_eyes_zs]) (ok_t_web_steps_many : inI t_web_steps_many) (ok_t_web_steps_xs : okA t_web_steps_xs) (ok_t_web_steps_ys : okA t_web_steps_ys) (ok_t_web_steps_zs : okA t_web_steps_zs) (ok_t_web_there : okZ t_web_there) (ok_t_crystal_eyes_many : inI t_crystal_eyes_many) (ok_t_crystal_eyes_xs : okA t_crystal_eyes_xs) (ok_t_crystal_eyes_ys : okA t_crystal_eyes_ys) (ok_t_crystal_eyes_zs : okA t_crystal_eyes_zs) (ok_v1 : inI v1) (ok_v2 : inI v2) {r : Int} (hm : m_X10_seen t_web_steps_many t_web_steps_xs t_web_steps_ys t_web_steps_zs t_web_there t_crystal_eyes_many t_crystal_eyes_xs t_crystal_eyes_ys t_crystal_eyes_zs v1 v2 = some r) : Ct l E b0 M_X10_seen 0 0 [.ref a_t, vI v1, vI v2] h n (some (vI r)) h n (inI r) := by
  rw [m_X10_seen] at hm
  have hg : G l E b0 M_X10_seen (fun _ => True) (ZM E b0 (some (vI r)) (ov [a_t, (a_t + 3), (a_t + 7), (a_t + 8), (a_t + 9), (a_t + 10), (a_t + 11), a_c, (a_c + 9), (a_c + 10), (a_c + 11), (a_c + 12)] [.inr (10, fsX10 a_t a_c a_s), .inr (9, fsX9 (a_t + 3) t_web_knotMany t_web_thereMany t_web_groupMany), .inr (8, fsX8 (a_t + 7) t_web_steps_many), IA E 120 t_web_steps_xs, IA E 120 t_web_steps_ys, IA E 120 t_web_steps_zs, ZA E 120 t_web_there, .inr (1, fsX1 a_c t_crystal_sightMany), .inr (8, fsX8 (a_c + 9) t_crystal_eyes_many), IA E 16 t_crystal_eyes_xs, IA E 16 t_crystal_eyes_ys, IA E 16 t_crystal_eyes_zs] h) n (inI r) 0 0) 0 0 n (ov [a_t, (a_t + 3), (a_t + 7), (a_t + 8), (a_t + 9), (a_t + 10), (a_t + 11), a_c, (a_c + 9), (a_c + 10), (a_c + 11), (a_c + 12)] [.inr (10, fsX10 a_t a_c a_s), .inr (9, fsX9 (a_t + 3) t_web_knotMany t_web_thereMany t_web_groupMany), .inr (8, fsX8 (a_t + 7) t_web_steps_many), IA E 120 t_web_steps_xs, IA E 120 t_web_steps_ys, IA E 120 t_web_steps_zs, ZA E 120 t_web_there, .inr (1, fsX1 a_c t_crystal_sightMany), .inr (8, fsX8 (a_c + 9) t_crystal_eyes_many), IA E 16 t_crystal_eyes_xs, IA E 16 t_crystal_eyes_ys, IA E 16 t_crystal_eyes_zs] h) 0 [some (.ref a_t), some (vI v1), some (vI v2)] [] := by
    have hs := hm
    exact g_X10_seen_0 ao ok_t_web_steps_many ok_t_web_steps_xs ok_t_web_steps_ys ok_t_web_steps_zs ok_t_web_there ok_t_crystal_eyes_many ok_t_crystal_eyes_xs ok_t_crystal_eyes_ys ok_t_crystal_eyes_zs ok_v1 ok_v2 hs
  rw [FA_id hf] at hg
  exact Ct_of [some (.ref a_t), some (vI v1), some (vI v2)] ⟨by decide +kernel, rfl⟩ rfl (Nat.le_of_ble_eq_true rfl) hg

/-! ===== X10_forget ===== -/
theorem e_X10_forget_0 : DC cX10_forget 0 (.aload_n 0) 1 1 := ⟨by decide +kernel, rfl⟩
theorem e_X10_forget_1 : DC cX10_forget 1 (.getfield 64) 3 4 := ⟨by decide +kernel, rfl⟩
theorem e_X10_forget_4 : DC cX10_forget 4 (.invokevirtual 281) 3 7 := ⟨by decide +kernel, rfl⟩
theorem e_X10_forget_7 : DC cX10_forget 7 (.ireturn) 1 8 := ⟨by decide +kernel, rfl⟩
noncomputable def m_X10_forget_0 (t_crystal_sightMany : Int) : Option (Int × Int) :=
  (m_X1_dropSights t_crystal_sightMany).bind (fun y1 => some (y1.1, y1.2))

set_option maxRecDepth 10000 in
set_option maxHeartbeats 8000000 in
theorem g_X10_forget_0 {l : Launch} {E : EE} {b0 n : Nat} {h : AH} {a_t a_c a_s : Nat} {t_crystal_sightMany : Int} {r : Int × Int} (ao : AO b0 n [a_t, a_c]) (ok_t_crystal_sightMany : inI t_crystal_sightMany) (hs : m_X10_forget_0 t_crystal_sightMany = some r) : G l E b0 M_X10_forget (fun _ => True) (ZM E b0 (some (vI r.1)) (ov [a_t, a_c] [.inr (10, fsX10 a_t a_c a_s), .inr (1, fsX1 a_c r.2)] h) n (inI r.1 ∧ inI r.2) 0 0) 0 0 n (ov [a_t, a_c] [.inr (10, fsX10 a_t a_c a_s), .inr (1, fsX1 a_c t_crystal_sightMany)] h) 0 [some (.ref a_t)] [] := by
  rw [m_X10_forget_0] at hs
  refine g_aload_n e_X10_forget_0 rfl ?_
  refine g_get 0 8 ao rfl rfl fsX10_g8 fl_X10_64 e_X10_forget_1 ?_
  obtain ⟨y1, hy1, hs⟩ := bind_elim hs
  refine g_callVr [] cv_X10_281 ⟨rfl, rfl, Nat.le_of_ble_eq_true rfl, Nat.le_of_ble_eq_true rfl⟩ (Ct_heap (ct_X1_dropSights (a_t := a_c) (AO_call [1] ao (by decide) rfl) (FA_call [1] ao.1 rfl rfl) ok_t_crystal_sightMany hy1) (ov_callN (esn := [.inr (10, fsX10 a_t a_c a_s), .inr (1, fsX1 a_c y1.2)]) [1] [true, false] ao.1 rfl rfl rfl rfl rfl rfl (by decide))) e_X10_forget_4 (ao.2 1 _ rfl) (ov_get 1 ao.1 rfl rfl) rfl rfl rfl (Nat.le_of_ble_eq_true rfl) ⟨Nat.le_refl _, Nat.le_refl _⟩ (fun Py1 => ?_)
  obtain rfl := Option.some.inj hs
  exact g_iret rfl ⟨Py1.1, Py1.2⟩ e_X10_forget_7

noncomputable def m_X10_forget (t_crystal_sightMany : Int) : Option (Int × Int) := m_X10_forget_0 t_crystal_sightMany

set_option maxRecDepth 10000 in
set_option maxHeartbeats 8000000 in
theorem ct_X10_forget {l : Launch} {E : EE} {b0 n : Nat} {h : AH} {a_t a_c a_s : Nat} {t_crystal_sightMany : Int} (ao : AO b0 n [a_t, a_c]) (hf : FA h [a_t, a_c] [.inr (10, fsX10 a_t a_c a_s), .inr (1, fsX1 a_c t_crystal_sightMany)]) (ok_t_crystal_sightMany : inI t_crystal_sightMany) {r : Int × Int} (hm : m_X10_forget t_crystal_sightMany = some r) : Ct l E b0 M_X10_forget 0 0 [.ref a_t] h n (some (vI r.1)) (ov [a_t, a_c] [.inr (10, fsX10 a_t a_c a_s), .inr (1, fsX1 a_c r.2)] h) n (inI r.1 ∧ inI r.2) := by
  rw [m_X10_forget] at hm
  have hg : G l E b0 M_X10_forget (fun _ => True) (ZM E b0 (some (vI r.1)) (ov [a_t, a_c] [.inr (10, fsX10 a_t a_c a_s), .inr (1, fsX1 a_c r.2)] h) n (inI r.1 ∧ inI r.2) 0 0) 0 0 n (ov [a_t, a_c] [.inr (10, fsX10 a_t a_c a_s), .inr (1, fsX1 a_c t_crystal_sightMany)] h) 0 [some (.ref a_t)] [] := by
    have hs := hm
    exact g_X10_forget_0 ao ok_t_crystal_sightMany hs
  rw [FA_id hf] at hg
  exact Ct_of [some (.ref a_t)] ⟨by decide +kernel, rfl⟩ rfl (Nat.le_of_ble_eq_true rfl) hg

/-! ===== X10_count ===== -/
theorem e_X10_count_0 : DC cX10_count 0 (.iload_n 1) 1 1 := ⟨by decide +kernel, rfl⟩
theorem e_X10_count_1 : DC cX10_count 1 (.tableswitch 218 0 14 #[75, 87, 99, 111, 120, 129, 138, 147, 155, 164, 173, 182, 191, 200, 209]) 75 76 := ⟨by decide +kernel, rfl⟩
theorem e_X10_count_76 : DC cX10_count 76 (.aload_n 0) 1 77 := ⟨by decide +kernel, rfl⟩
theorem e_X10_count_77 : DC cX10_count 77 (.getfield 64) 3 80 := ⟨by decide +kernel, rfl⟩
theorem e_X10_count_80 : DC cX10_count 80 (.getfield 149) 3 83 := ⟨by decide +kernel, rfl⟩
theorem e_X10_count_83 : DC cX10_count 83 (.getfield 357) 3 86 := ⟨by decide +kernel, rfl⟩
theorem e_X10_count_86 : DC cX10_count 86 (.i2l) 1 87 := ⟨by decide +kernel, rfl⟩
theorem e_X10_count_87 : DC cX10_count 87 (.lreturn) 1 88 := ⟨by decide +kernel, rfl⟩
theorem e_X10_count_88 : DC cX10_count 88 (.aload_n 0) 1 89 := ⟨by decide +kernel, rfl⟩
theorem e_X10_count_89 : DC cX10_count 89 (.getfield 64) 3 92 := ⟨by decide +kernel, rfl⟩
theorem e_X10_count_92 : DC cX10_count 92 (.getfield 234) 3 95 := ⟨by decide +kernel, rfl⟩
theorem e_X10_count_95 : DC cX10_count 95 (.getfield 357) 3 98 := ⟨by decide +kernel, rfl⟩
theorem e_X10_count_98 : DC cX10_count 98 (.i2l) 1 99 := ⟨by decide +kernel, rfl⟩
theorem e_X10_count_99 : DC cX10_count 99 (.lreturn) 1 100 := ⟨by decide +kernel, rfl⟩
theorem e_X10_count_100 : DC cX10_count 100 (.aload_n 0) 1 101 := ⟨by decide +kernel, rfl⟩
theorem e_X10_count_101 : DC cX10_count 101 (.getfield 64) 3 104 := ⟨by decide +kernel, rfl⟩
theorem e_X10_count_104 : DC cX10_count 104 (.getfield 269) 3 107 := ⟨by decide +kernel, rfl⟩
theorem e_X10_count_107 : DC cX10_count 107 (.getfield 357) 3 110 := ⟨by decide +kernel, rfl⟩
theorem e_X10_count_110 : DC cX10_count 110 (.i2l) 1 111 := ⟨by decide +kernel, rfl⟩
theorem e_X10_count_111 : DC cX10_count 111 (.lreturn) 1 112 := ⟨by decide +kernel, rfl⟩
theorem e_X10_count_112 : DC cX10_count 112 (.aload_n 0) 1 113 := ⟨by decide +kernel, rfl⟩
theorem e_X10_count_113 : DC cX10_count 113 (.getfield 19) 3 116 := ⟨by decide +kernel, rfl⟩
theorem e_X10_count_116 : DC cX10_count 116 (.getfield 360) 3 119 := ⟨by decide +kernel, rfl⟩
theorem e_X10_count_119 : DC cX10_count 119 (.i2l) 1 120 := ⟨by decide +kernel, rfl⟩
theorem e_X10_count_120 : DC cX10_count 120 (.lreturn) 1 121 := ⟨by decide +kernel, rfl⟩
theorem e_X10_count_121 : DC cX10_count 121 (.aload_n 0) 1 122 := ⟨by decide +kernel, rfl⟩
theorem e_X10_count_122 : DC cX10_count 122 (.getfield 19) 3 125 := ⟨by decide +kernel, rfl⟩
theorem e_X10_count_125 : DC cX10_count 125 (.getfield 363) 3 128 := ⟨by decide +kernel, rfl⟩
theorem e_X10_count_128 : DC cX10_count 128 (.i2l) 1 129 := ⟨by decide +kernel, rfl⟩
theorem e_X10_count_129 : DC cX10_count 129 (.lreturn) 1 130 := ⟨by decide +kernel, rfl⟩
theorem e_X10_count_130 : DC cX10_count 130 (.aload_n 0) 1 131 := ⟨by decide +kernel, rfl⟩
theorem e_X10_count_131 : DC cX10_count 131 (.getfield 33) 3 134 := ⟨by decide +kernel, rfl⟩
theorem e_X10_count_134 : DC cX10_count 134 (.getfield 213) 3 137 := ⟨by decide +kernel, rfl⟩
theorem e_X10_count_137 : DC cX10_count 137 (.i2l) 1 138 := ⟨by decide +kernel, rfl⟩
theorem e_X10_count_138 : DC cX10_count 138 (.lreturn) 1 139 := ⟨by decide +kernel, rfl⟩
theorem e_X10_count_139 : DC cX10_count 139 (.aload_n 0) 1 140 := ⟨by decide +kernel, rfl⟩
theorem e_X10_count_140 : DC cX10_count 140 (.getfield 33) 3 143 := ⟨by decide +kernel, rfl⟩
theorem e_X10_count_143 : DC cX10_count 143 (.getfield 239) 3 146 := ⟨by decide +kernel, rfl⟩
theorem e_X10_count_146 : DC cX10_count 146 (.i2l) 1 147 := ⟨by decide +kernel, rfl⟩
theorem e_X10_count_147 : DC cX10_count 147 (.lreturn) 1 148 := ⟨by decide +kernel, rfl⟩
theorem e_X10_count_148 : DC cX10_count 148 (.aload_n 0) 1 149 := ⟨by decide +kernel, rfl⟩
theorem e_X10_count_149 : DC cX10_count 149 (.getfield 33) 3 152 := ⟨by decide +kernel, rfl⟩
theorem e_X10_count_152 : DC cX10_count 152 (.getfield 366) 3 155 := ⟨by decide +kernel, rfl⟩
theorem e_X10_count_155 : DC cX10_count 155 (.lreturn) 1 156 := ⟨by decide +kernel, rfl⟩
theorem e_X10_count_156 : DC cX10_count 156 (.aload_n 0) 1 157 := ⟨by decide +kernel, rfl⟩
theorem e_X10_count_157 : DC cX10_count 157 (.getfield 33) 3 160 := ⟨by decide +kernel, rfl⟩
theorem e_X10_count_160 : DC cX10_count 160 (.getfield 369) 3 163 := ⟨by decide +kernel, rfl⟩
theorem e_X10_count_163 : DC cX10_count 163 (.i2l) 1 164 := ⟨by decide +kernel, rfl⟩
theorem e_X10_count_164 : DC cX10_count 164 (.lreturn) 1 165 := ⟨by decide +kernel, rfl⟩
theorem e_X10_count_165 : DC cX10_count 165 (.aload_n 0) 1 166 := ⟨by decide +kernel, rfl⟩
theorem e_X10_count_166 : DC cX10_count 166 (.getfield 33) 3 169 := ⟨by decide +kernel, rfl⟩
theorem e_X10_count_169 : DC cX10_count 169 (.getfield 372) 3 172 := ⟨by decide +kernel, rfl⟩
theorem e_X10_count_172 : DC cX10_count 172 (.i2l) 1 173 := ⟨by decide +kernel, rfl⟩
theorem e_X10_count_173 : DC cX10_count 173 (.lreturn) 1 174 := ⟨by decide +kernel, rfl⟩
theorem e_X10_count_174 : DC cX10_count 174 (.aload_n 0) 1 175 := ⟨by decide +kernel, rfl⟩
theorem e_X10_count_175 : DC cX10_count 175 (.getfield 33) 3 178 := ⟨by decide +kernel, rfl⟩
theorem e_X10_count_178 : DC cX10_count 178 (.getfield 375) 3 181 := ⟨by decide +kernel, rfl⟩
theorem e_X10_count_181 : DC cX10_count 181 (.i2l) 1 182 := ⟨by decide +kernel, rfl⟩
theorem e_X10_count_182 : DC cX10_count 182 (.lreturn) 1 183 := ⟨by decide +kernel, rfl⟩
theorem e_X10_count_183 : DC cX10_count 183 (.aload_n 0) 1 184 := ⟨by decide +kernel, rfl⟩
theorem e_X10_count_184 : DC cX10_count 184 (.getfield 10) 3 187 := ⟨by decide +kernel, rfl⟩
theorem e_X10_count_187 : DC cX10_count 187 (.invokevirtual 79) 3 190 := ⟨by decide +kernel, rfl⟩
theorem e_X10_count_190 : DC cX10_count 190 (.i2l) 1 191 := ⟨by decide +kernel, rfl⟩
theorem e_X10_count_191 : DC cX10_count 191 (.lreturn) 1 192 := ⟨by decide +kernel, rfl⟩
theorem e_X10_count_192 : DC cX10_count 192 (.aload_n 0) 1 193 := ⟨by decide +kernel, rfl⟩
theorem e_X10_count_193 : DC cX10_count 193 (.getfield 64) 3 196 := ⟨by decide +kernel, rfl⟩
theorem e_X10_count_196 : DC cX10_count 196 (.getfield 378) 3 199 := ⟨by decide +kernel, rfl⟩
theorem e_X10_count_199 : DC cX10_count 199 (.i2l) 1 200 := ⟨by decide +kernel, rfl⟩
theorem e_X10_count_200 : DC cX10_count 200 (.lreturn) 1 201 := ⟨by decide +kernel, rfl⟩
theorem e_X10_count_201 : DC cX10_count 201 (.aload_n 0) 1 202 := ⟨by decide +kernel, rfl⟩
theorem e_X10_count_202 : DC cX10_count 202 (.getfield 57) 3 205 := ⟨by decide +kernel, rfl⟩
theorem e_X10_count_205 : DC cX10_count 205 (.getfield 381) 3 208 := ⟨by decide +kernel, rfl⟩
theorem e_X10_count_208 : DC cX10_count 208 (.i2l) 1 209 := ⟨by decide +kernel, rfl⟩
theorem e_X10_count_209 : DC cX10_count 209 (.lreturn) 1 210 := ⟨by decide +kernel, rfl⟩
theorem e_X10_count_210 : DC cX10_count 210 (.aload_n 0) 1 211 := ⟨by decide +kernel, rfl⟩
theorem e_X10_count_211 : DC cX10_count 211 (.getfield 43) 3 214 := ⟨by decide +kernel, rfl⟩
theorem e_X10_count_214 : DC cX10_count 214 (.getfield 382) 3 217 := ⟨by decide +kernel, rfl⟩
theorem e_X10_count_217 : DC cX10_count 217 (.i2l) 1 218 := ⟨by decide +kernel, rfl⟩
theorem e_X10_count_218 : DC cX10_count 218 (.lreturn) 1 219 := ⟨by decide +kernel, rfl⟩
theorem e_X10_count_219 : DC cX10_count 219 (.ldc2_w 172) 3 222 := ⟨by decide +kernel, rfl⟩
theorem e_X10_count_222 : DC cX10_count 222 (.lreturn) 1 223 := ⟨by decide +kernel, rfl⟩
noncomputable def m_X10_count_0 (t_reader_many : Int) (t_web_knotMany : Int) (t_web_thereMany : Int) (t_row_flaws : Int) (t_row_slipped : Int) (t_row_work : Int) (t_row_out : Int) (t_row_lost : Int) (t_row_came : Int) (t_acts_now : Int) (t_grain_many : Int) (t_crystal_sightMany : Int) (t_crystal_steps_many : Int) (t_crystal_planes_many : Int) (t_crystal_eyes_many : Int) (v1 : Int) : Option (Int) :=
  if v1 = 0 then (some (t_crystal_steps_many)) else (if v1 = 1 then (some (t_crystal_planes_many)) else (if v1 = 2 then (some (t_crystal_eyes_many)) else (if v1 = 3 then (some (t_web_knotMany)) else (if v1 = 4 then (some (t_web_thereMany)) else (if v1 = 5 then (some (t_row_flaws)) else (if v1 = 6 then (some (t_row_slipped)) else (if v1 = 7 then (some (t_row_work)) else (if v1 = 8 then (some (t_row_out)) else (if v1 = 9 then (some (t_row_lost)) else (if v1 = 10 then (some (t_row_came)) else (if v1 = 11 then ((m_X5_size t_reader_many).bind (fun y1 => some (y1))) else (if v1 = 12 then (some (t_crystal_sightMany)) else (if v1 = 13 then (some (t_grain_many)) else (if v1 = 14 then (some (t_acts_now)) else (some ((-1)))))))))))))))))

set_option maxRecDepth 10000 in
set_option maxHeartbeats 8000000 in
theorem g_X10_count_0 {l : Launch} {E : EE} {b0 n : Nat} {h : AH} {a_t a_c a_s : Nat} {t_reader_many t_reader_place t_reader_fault t_reader_numberPlace t_web_knotMany t_web_thereMany t_web_groupMany t_row_flaws t_row_slipped t_row_gone t_row_work t_row_out t_row_lost t_row_came t_acts_now t_acts_last t_grain_many t_grain_ownPart t_grain_crossPart t_grain_pointMany t_grain_wallFirst t_grain_wallSize t_crystal_sightMany t_crystal_steps_many t_crystal_planes_many t_crystal_eyes_many v1 : Int} {r : Int} (ao : AO b0 n [a_t, (a_t + 1), (a_t + 3), (a_t + 22), (a_t + 30), (a_t + 276), a_c, (a_c + 1), (a_c + 5), (a_c + 9)]) (ok_t_reader_many : inI t_reader_many) (ok_t_web_knotMany : inI t_web_knotMany) (ok_t_web_thereMany : inI t_web_thereMany) (ok_t_row_flaws : inI t_row_flaws) (ok_t_row_slipped : inI t_row_slipped) (ok_t_row_work : inJ t_row_work) (ok_t_row_out : inI t_row_out) (ok_t_row_lost : inI t_row_lost) (ok_t_row_came : inI t_row_came) (ok_t_acts_now : inI t_acts_now) (ok_t_grain_many : inI t_grain_many) (ok_t_crystal_sightMany : inI t_crystal_sightMany) (ok_t_crystal_steps_many : inI t_crystal_steps_many) (ok_t_crystal_planes_many : inI t_crystal_planes_many) (ok_t_crystal_eyes_many : inI t_crystal_eyes_many) (ok_v1 : inI v1) (hs : m_X10_count_0 t_reader_many t_web_knotMany t_web_thereMany t_row_flaws t_row_slipped t_row_work t_row_out t_row_lost t_row_came t_acts_now t_grain_many t_crystal_sightMany t_crystal_steps_many t_crystal_planes_many t_crystal_eyes_many v1 = some r) : G l E b0 M_X10_count (fun _ => True) (ZM E b0 (some (vJ r)) (ov [a_t, (a_t + 1), (a_t + 3), (a_t + 22), (a_t + 30), (a_t + 276), a_c, (a_c + 1), (a_c + 5), (a_c + 9)] [.inr (10, fsX10 a_t a_c a_s), .inr (5, fsX5 (a_t + 1) t_reader_many t_reader_place t_reader_fault t_reader_numberPlace), .inr (9, fsX9 (a_t + 3) t_web_knotMany t_web_thereMany t_web_groupMany), .inr (6, fsX6 (a_t + 22) t_row_flaws t_row_slipped t_row_gone t_row_work t_row_out t_row_lost t_row_came), .inr (0, fsX0 (a_t + 30) t_acts_now t_acts_last), .inr (2, fsX2 (a_t + 276) t_grain_many t_grain_ownPart t_grain_crossPart t_grain_pointMany t_grain_wallFirst t_grain_wallSize), .inr (1, fsX1 a_c t_crystal_sightMany), .inr (8, fsX8 (a_c + 1) t_crystal_steps_many), .inr (8, fsX8 (a_c + 5) t_crystal_planes_many), .inr (8, fsX8 (a_c + 9) t_crystal_eyes_many)] h) n (inJ r) 0 0) 0 0 n (ov [a_t, (a_t + 1), (a_t + 3), (a_t + 22), (a_t + 30), (a_t + 276), a_c, (a_c + 1), (a_c + 5), (a_c + 9)] [.inr (10, fsX10 a_t a_c a_s), .inr (5, fsX5 (a_t + 1) t_reader_many t_reader_place t_reader_fault t_reader_numberPlace), .inr (9, fsX9 (a_t + 3) t_web_knotMany t_web_thereMany t_web_groupMany), .inr (6, fsX6 (a_t + 22) t_row_flaws t_row_slipped t_row_gone t_row_work t_row_out t_row_lost t_row_came), .inr (0, fsX0 (a_t + 30) t_acts_now t_acts_last), .inr (2, fsX2 (a_t + 276) t_grain_many t_grain_ownPart t_grain_crossPart t_grain_pointMany t_grain_wallFirst t_grain_wallSize), .inr (1, fsX1 a_c t_crystal_sightMany), .inr (8, fsX8 (a_c + 1) t_crystal_steps_many), .inr (8, fsX8 (a_c + 5) t_crystal_planes_many), .inr (8, fsX8 (a_c + 9) t_crystal_eyes_many)] h) 0 [some (.ref a_t), some (vI v1)] [] := by
  rw [m_X10_count_0] at hs
  refine g_iload_n e_X10_count_0 rfl ?_
  by_cases c1_0 : v1 = 0
  · rw [if_pos c1_0] at hs
    refine g_tableIn (off := 75) (tgt := 76) e_X10_count_1 ok_v1 (by rw [c1_0]; decide) (by rw [c1_0]; decide) (by rw [c1_0]; rfl) rfl ?_
    refine g_aload_n e_X10_count_76 rfl ?_
    refine g_get 0 8 ao rfl rfl fsX10_g8 fl_X10_64 e_X10_count_77 ?_
    refine g_get 6 0 ao rfl rfl fsX1_g0 fl_X10_149 e_X10_count_80 ?_
    refine g_get 7 3 ao rfl rfl fsX8_g3 fl_X10_357 e_X10_count_83 ?_
    refine g_i2l e_X10_count_86 ok_t_crystal_steps_many ?_
    obtain rfl := Option.some.inj hs
    exact g_lret rfl (inI_J ok_t_crystal_steps_many) e_X10_count_87
  · rw [if_neg c1_0] at hs
    by_cases c1_1 : v1 = 1
    · rw [if_pos c1_1] at hs
      refine g_tableIn (off := 87) (tgt := 88) e_X10_count_1 ok_v1 (by rw [c1_1]; decide) (by rw [c1_1]; decide) (by rw [c1_1]; rfl) rfl ?_
      refine g_aload_n e_X10_count_88 rfl ?_
      refine g_get 0 8 ao rfl rfl fsX10_g8 fl_X10_64 e_X10_count_89 ?_
      refine g_get 6 1 ao rfl rfl fsX1_g1 fl_X10_234 e_X10_count_92 ?_
      refine g_get 8 3 ao rfl rfl fsX8_g3 fl_X10_357 e_X10_count_95 ?_
      refine g_i2l e_X10_count_98 ok_t_crystal_planes_many ?_
      obtain rfl := Option.some.inj hs
      exact g_lret rfl (inI_J ok_t_crystal_planes_many) e_X10_count_99
    · rw [if_neg c1_1] at hs
      by_cases c1_2 : v1 = 2
      · rw [if_pos c1_2] at hs
        refine g_tableIn (off := 99) (tgt := 100) e_X10_count_1 ok_v1 (by rw [c1_2]; decide) (by rw [c1_2]; decide) (by rw [c1_2]; rfl) rfl ?_
        refine g_aload_n e_X10_count_100 rfl ?_
        refine g_get 0 8 ao rfl rfl fsX10_g8 fl_X10_64 e_X10_count_101 ?_
        refine g_get 6 2 ao rfl rfl fsX1_g2 fl_X10_269 e_X10_count_104 ?_
        refine g_get 9 3 ao rfl rfl fsX8_g3 fl_X10_357 e_X10_count_107 ?_
        refine g_i2l e_X10_count_110 ok_t_crystal_eyes_many ?_
        obtain rfl := Option.some.inj hs
        exact g_lret rfl (inI_J ok_t_crystal_eyes_many) e_X10_count_111
      · rw [if_neg c1_2] at hs
        by_cases c1_3 : v1 = 3
        · rw [if_pos c1_3] at hs
          refine g_tableIn (off := 111) (tgt := 112) e_X10_count_1 ok_v1 (by rw [c1_3]; decide) (by rw [c1_3]; decide) (by rw [c1_3]; rfl) rfl ?_
          refine g_aload_n e_X10_count_112 rfl ?_
          refine g_get 0 1 ao rfl rfl fsX10_g1 fl_X10_19 e_X10_count_113 ?_
          refine g_get 2 5 ao rfl rfl fsX9_g5 fl_X10_360 e_X10_count_116 ?_
          refine g_i2l e_X10_count_119 ok_t_web_knotMany ?_
          obtain rfl := Option.some.inj hs
          exact g_lret rfl (inI_J ok_t_web_knotMany) e_X10_count_120
        · rw [if_neg c1_3] at hs
          by_cases c1_4 : v1 = 4
          · rw [if_pos c1_4] at hs
            refine g_tableIn (off := 120) (tgt := 121) e_X10_count_1 ok_v1 (by rw [c1_4]; decide) (by rw [c1_4]; decide) (by rw [c1_4]; rfl) rfl ?_
            refine g_aload_n e_X10_count_121 rfl ?_
            refine g_get 0 1 ao rfl rfl fsX10_g1 fl_X10_19 e_X10_count_122 ?_
            refine g_get 2 6 ao rfl rfl fsX9_g6 fl_X10_363 e_X10_count_125 ?_
            refine g_i2l e_X10_count_128 ok_t_web_thereMany ?_
            obtain rfl := Option.some.inj hs
            exact g_lret rfl (inI_J ok_t_web_thereMany) e_X10_count_129
          · rw [if_neg c1_4] at hs
            by_cases c1_5 : v1 = 5
            · rw [if_pos c1_5] at hs
              refine g_tableIn (off := 129) (tgt := 130) e_X10_count_1 ok_v1 (by rw [c1_5]; decide) (by rw [c1_5]; decide) (by rw [c1_5]; rfl) rfl ?_
              refine g_aload_n e_X10_count_130 rfl ?_
              refine g_get 0 3 ao rfl rfl fsX10_g3 fl_X10_33 e_X10_count_131 ?_
              refine g_get 3 3 ao rfl rfl fsX6_g3 fl_X10_213 e_X10_count_134 ?_
              refine g_i2l e_X10_count_137 ok_t_row_flaws ?_
              obtain rfl := Option.some.inj hs
              exact g_lret rfl (inI_J ok_t_row_flaws) e_X10_count_138
            · rw [if_neg c1_5] at hs
              by_cases c1_6 : v1 = 6
              · rw [if_pos c1_6] at hs
                refine g_tableIn (off := 138) (tgt := 139) e_X10_count_1 ok_v1 (by rw [c1_6]; decide) (by rw [c1_6]; decide) (by rw [c1_6]; rfl) rfl ?_
                refine g_aload_n e_X10_count_139 rfl ?_
                refine g_get 0 3 ao rfl rfl fsX10_g3 fl_X10_33 e_X10_count_140 ?_
                refine g_get 3 4 ao rfl rfl fsX6_g4 fl_X10_239 e_X10_count_143 ?_
                refine g_i2l e_X10_count_146 ok_t_row_slipped ?_
                obtain rfl := Option.some.inj hs
                exact g_lret rfl (inI_J ok_t_row_slipped) e_X10_count_147
              · rw [if_neg c1_6] at hs
                by_cases c1_7 : v1 = 7
                · rw [if_pos c1_7] at hs
                  refine g_tableIn (off := 147) (tgt := 148) e_X10_count_1 ok_v1 (by rw [c1_7]; decide) (by rw [c1_7]; decide) (by rw [c1_7]; rfl) rfl ?_
                  refine g_aload_n e_X10_count_148 rfl ?_
                  refine g_get 0 3 ao rfl rfl fsX10_g3 fl_X10_33 e_X10_count_149 ?_
                  refine g_get 3 6 ao rfl rfl fsX6_g6 fl_X10_366 e_X10_count_152 ?_
                  obtain rfl := Option.some.inj hs
                  exact g_lret rfl ok_t_row_work e_X10_count_155
                · rw [if_neg c1_7] at hs
                  by_cases c1_8 : v1 = 8
                  · rw [if_pos c1_8] at hs
                    refine g_tableIn (off := 155) (tgt := 156) e_X10_count_1 ok_v1 (by rw [c1_8]; decide) (by rw [c1_8]; decide) (by rw [c1_8]; rfl) rfl ?_
                    refine g_aload_n e_X10_count_156 rfl ?_
                    refine g_get 0 3 ao rfl rfl fsX10_g3 fl_X10_33 e_X10_count_157 ?_
                    refine g_get 3 7 ao rfl rfl fsX6_g7 fl_X10_369 e_X10_count_160 ?_
                    refine g_i2l e_X10_count_163 ok_t_row_out ?_
                    obtain rfl := Option.some.inj hs
                    exact g_lret rfl (inI_J ok_t_row_out) e_X10_count_164
                  · rw [if_neg c1_8] at hs
                    by_cases c1_9 : v1 = 9
                    · rw [if_pos c1_9] at hs
                      refine g_tableIn (off := 164) (tgt := 165) e_X10_count_1 ok_v1 (by rw [c1_9]; decide) (by rw [c1_9]; decide) (by rw [c1_9]; rfl) rfl ?_
                      refine g_aload_n e_X10_count_165 rfl ?_
                      refine g_get 0 3 ao rfl rfl fsX10_g3 fl_X10_33 e_X10_count_166 ?_
                      refine g_get 3 8 ao rfl rfl fsX6_g8 fl_X10_372 e_X10_count_169 ?_
                      refine g_i2l e_X10_count_172 ok_t_row_lost ?_
                      obtain rfl := Option.some.inj hs
                      exact g_lret rfl (inI_J ok_t_row_lost) e_X10_count_173
                    · rw [if_neg c1_9] at hs
                      by_cases c1_10 : v1 = 10
                      · rw [if_pos c1_10] at hs
                        refine g_tableIn (off := 173) (tgt := 174) e_X10_count_1 ok_v1 (by rw [c1_10]; decide) (by rw [c1_10]; decide) (by rw [c1_10]; rfl) rfl ?_
                        refine g_aload_n e_X10_count_174 rfl ?_
                        refine g_get 0 3 ao rfl rfl fsX10_g3 fl_X10_33 e_X10_count_175 ?_
                        refine g_get 3 9 ao rfl rfl fsX6_g9 fl_X10_375 e_X10_count_178 ?_
                        refine g_i2l e_X10_count_181 ok_t_row_came ?_
                        obtain rfl := Option.some.inj hs
                        exact g_lret rfl (inI_J ok_t_row_came) e_X10_count_182
                      · rw [if_neg c1_10] at hs
                        by_cases c1_11 : v1 = 11
                        · rw [if_pos c1_11] at hs
                          refine g_tableIn (off := 182) (tgt := 183) e_X10_count_1 ok_v1 (by rw [c1_11]; decide) (by rw [c1_11]; decide) (by rw [c1_11]; rfl) rfl ?_
                          refine g_aload_n e_X10_count_183 rfl ?_
                          refine g_get 0 0 ao rfl rfl fsX10_g0 fl_X10_10 e_X10_count_184 ?_
                          obtain ⟨y1, hy1, hs⟩ := bind_elim hs
                          refine g_callVr [] cv_X10_79 ⟨rfl, rfl, Nat.le_of_ble_eq_true rfl, Nat.le_of_ble_eq_true rfl⟩ (ct_X5_size (a_t := (a_t + 1)) (AO_call [1] ao (by decide) rfl) (FA_call [1] ao.1 rfl rfl) ok_t_reader_many hy1) e_X10_count_187 (ao.2 1 _ rfl) (ov_get 1 ao.1 rfl rfl) rfl rfl rfl (Nat.le_of_ble_eq_true rfl) ⟨Nat.le_refl _, Nat.le_refl _⟩ (fun Py1 => ?_)
                          refine g_i2l e_X10_count_190 Py1 ?_
                          obtain rfl := Option.some.inj hs
                          exact g_lret rfl (inI_J Py1) e_X10_count_191
                        · rw [if_neg c1_11] at hs
                          by_cases c1_12 : v1 = 12
                          · rw [if_pos c1_12] at hs
                            refine g_tableIn (off := 191) (tgt := 192) e_X10_count_1 ok_v1 (by rw [c1_12]; decide) (by rw [c1_12]; decide) (by rw [c1_12]; rfl) rfl ?_
                            refine g_aload_n e_X10_count_192 rfl ?_
                            refine g_get 0 8 ao rfl rfl fsX10_g8 fl_X10_64 e_X10_count_193 ?_
                            refine g_get 6 6 ao rfl rfl fsX1_g6 fl_X10_378 e_X10_count_196 ?_
                            refine g_i2l e_X10_count_199 ok_t_crystal_sightMany ?_
                            obtain rfl := Option.some.inj hs
                            exact g_lret rfl (inI_J ok_t_crystal_sightMany) e_X10_count_200
                          · rw [if_neg c1_12] at hs
                            by_cases c1_13 : v1 = 13
                            · rw [if_pos c1_13] at hs
                              refine g_tableIn (off := 200) (tgt := 201) e_X10_count_1 ok_v1 (by rw [c1_13]; decide) (by rw [c1_13]; decide) (by rw [c1_13]; rfl) rfl ?_
                              refine g_aload_n e_X10_count_201 rfl ?_
                              refine g_get 0 7 ao rfl rfl fsX10_g7 fl_X10_57 e_X10_count_202 ?_
                              refine g_get 5 6 ao rfl rfl fsX2_g6 fl_X10_381 e_X10_count_205 ?_
                              refine g_i2l e_X10_count_208 ok_t_grain_many ?_
                              obtain rfl := Option.some.inj hs
                              exact g_lret rfl (inI_J ok_t_grain_many) e_X10_count_209
                            · rw [if_neg c1_13] at hs
                              by_cases c1_14 : v1 = 14
                              · rw [if_pos c1_14] at hs
                                refine g_tableIn (off := 209) (tgt := 210) e_X10_count_1 ok_v1 (by rw [c1_14]; decide) (by rw [c1_14]; decide) (by rw [c1_14]; rfl) rfl ?_
                                refine g_aload_n e_X10_count_210 rfl ?_
                                refine g_get 0 5 ao rfl rfl fsX10_g5 fl_X10_43 e_X10_count_211 ?_
                                refine g_get 4 1 ao rfl rfl fsX0_g1 fl_X10_382 e_X10_count_214 ?_
                                refine g_i2l e_X10_count_217 ok_t_acts_now ?_
                                obtain rfl := Option.some.inj hs
                                exact g_lret rfl (inI_J ok_t_acts_now) e_X10_count_218
                              · rw [if_neg c1_14] at hs
                                refine g_tableOut (tgt := 219) e_X10_count_1 ok_v1 (by omega) rfl ?_
                                refine g_ldc2 (a := -1) e_X10_count_219 k_X10_172 ?_
                                obtain rfl := Option.some.inj hs
                                exact g_lret rfl (by decide : inJ (-1)) e_X10_count_222

noncomputable def m_X10_count (t_reader_many : Int) (t_web_knotMany : Int) (t_web_thereMany : Int) (t_row_flaws : Int) (t_row_slipped : Int) (t_row_work : Int) (t_row_out : Int) (t_row_lost : Int) (t_row_came : Int) (t_acts_now : Int) (t_grain_many : Int) (t_crystal_sightMany : Int) (t_crystal_steps_many : Int) (t_crystal_planes_many : Int) (t_crystal_eyes_many : Int) (v1 : Int) : Option (Int) := m_X10_count_0 t_reader_many t_web_knotMany t_web_thereMany t_row_flaws t_row_slipped t_row_work t_row_out t_row_lost t_row_came t_acts_now t_grain_many t_crystal_sightMany t_crystal_steps_many t_crystal_planes_many t_crystal_eyes_many v1

set_option maxRecDepth 10000 in
set_option maxHeartbeats 8000000 in
theorem ct_X10_count {l : Launch} {E : EE} {b0 n : Nat} {h : AH} {a_t a_c a_s : Nat} {t_reader_many t_reader_place t_reader_fault t_reader_numberPlace t_web_knotMany t_web_thereMany t_web_groupMany t_row_flaws t_row_slipped t_row_gone t_row_work t_row_out t_row_lost t_row_came t_acts_now t_acts_last t_grain_many t_grain_ownPart t_grain_crossPart t_grain_pointMany t_grain_wallFirst t_grain_wallSize t_crystal_sightMany t_crystal_steps_many t_crystal_planes_many t_crystal_eyes_many : Int} {v1 : Int} (ao : AO b0 n [a_t, (a_t + 1), (a_t + 3), (a_t + 22), (a_t + 30), (a_t + 276), a_c, (a_c + 1), (a_c + 5), (a_c + 9)]) (hf : FA h [a_t, (a_t + 1), (a_t + 3), (a_t + 22), (a_t + 30), (a_t + 276), a_c, (a_c + 1), (a_c + 5), (a_c + 9)] [.inr (10, fsX10 a_t a_c a_s), .inr (5, fsX5 (a_t + 1) t_reader_many t_reader_place t_reader_fault t_reader_numberPlace), .inr (9, fsX9 (a_t + 3) t_web_knotMany t_web_thereMany t_web_groupMany), .inr (6, fsX6 (a_t + 22) t_row_flaws t_row_slipped t_row_gone t_row_work t_row_out t_row_lost t_row_came), .inr (0, fsX0 (a_t + 30) t_acts_now t_acts_last), .inr (2, fsX2 (a_t + 276) t_grain_many t_grain_ownPart t_grain_crossPart t_grain_pointMany t_grain_wallFirst t_grain_wallSize), .inr (1, fsX1 a_c t_crystal_sightMany), .inr (8, fsX8 (a_c + 1) t_crystal_steps_many), .inr (8, fsX8 (a_c + 5) t_crystal_planes_many), .inr (8, fsX8 (a_c + 9) t_crystal_eyes_many)]) (ok_t_reader_many : inI t_reader_many) (ok_t_web_knotMany : inI t_web_knotMany) (ok_t_web_thereMany : inI t_web_thereMany) (ok_t_row_flaws : inI t_row_flaws) (ok_t_row_slipped : inI t_row_slipped) (ok_t_row_work : inJ t_row_work) (ok_t_row_out : inI t_row_out) (ok_t_row_lost : inI t_row_lost) (ok_t_row_came : inI t_row_came) (ok_t_acts_now : inI t_acts_now) (ok_t_grain_many : inI t_grain_many) (ok_t_crystal_sightMany : inI t_crystal_sightMany) (ok_t_crystal_steps_many : inI t_crystal_steps_many) (ok_t_crystal_planes_many : inI t_crystal_planes_many) (ok_t_crystal_eyes_many : inI t_crystal_eyes_many) (ok_v1 : inI v1) {r : Int} (hm : m_X10_count t_reader_many t_web_knotMany t_web_thereMany t_row_flaws t_row_slipped t_row_work t_row_out t_row_lost t_row_came t_acts_now t_grain_many t_crystal_sightMany t_crystal_steps_many t_crystal_planes_many t_crystal_eyes_many v1 = some r) : Ct l E b0 M_X10_count 0 0 [.ref a_t, vI v1] h n (some (vJ r)) h n (inJ r) := by
  rw [m_X10_count] at hm
  have hg : G l E b0 M_X10_count (fun _ => True) (ZM E b0 (some (vJ r)) (ov [a_t, (a_t + 1), (a_t + 3), (a_t + 22), (a_t + 30), (a_t + 276), a_c, (a_c + 1), (a_c + 5), (a_c + 9)] [.inr (10, fsX10 a_t a_c a_s), .inr (5, fsX5 (a_t + 1) t_reader_many t_reader_place t_reader_fault t_reader_numberPlace), .inr (9, fsX9 (a_t + 3) t_web_knotMany t_web_thereMany t_web_groupMany), .inr (6, fsX6 (a_t + 22) t_row_flaws t_row_slipped t_row_gone t_row_work t_row_out t_row_lost t_row_came), .inr (0, fsX0 (a_t + 30) t_acts_now t_acts_last), .inr (2, fsX2 (a_t + 276) t_grain_many t_grain_ownPart t_grain_crossPart t_grain_pointMany t_grain_wallFirst t_grain_wallSize), .inr (1, fsX1 a_c t_crystal_sightMany), .inr (8, fsX8 (a_c + 1) t_crystal_steps_many), .inr (8, fsX8 (a_c + 5) t_crystal_planes_many), .inr (8, fsX8 (a_c + 9) t_crystal_eyes_many)] h) n (inJ r) 0 0) 0 0 n (ov [a_t, (a_t + 1), (a_t + 3), (a_t + 22), (a_t + 30), (a_t + 276), a_c, (a_c + 1), (a_c + 5), (a_c + 9)] [.inr (10, fsX10 a_t a_c a_s), .inr (5, fsX5 (a_t + 1) t_reader_many t_reader_place t_reader_fault t_reader_numberPlace), .inr (9, fsX9 (a_t + 3) t_web_knotMany t_web_thereMany t_web_groupMany), .inr (6, fsX6 (a_t + 22) t_row_flaws t_row_slipped t_row_gone t_row_work t_row_out t_row_lost t_row_came), .inr (0, fsX0 (a_t + 30) t_acts_now t_acts_last), .inr (2, fsX2 (a_t + 276) t_grain_many t_grain_ownPart t_grain_crossPart t_grain_pointMany t_grain_wallFirst t_grain_wallSize), .inr (1, fsX1 a_c t_crystal_sightMany), .inr (8, fsX8 (a_c + 1) t_crystal_steps_many), .inr (8, fsX8 (a_c + 5) t_crystal_planes_many), .inr (8, fsX8 (a_c + 9) t_crystal_eyes_many)] h) 0 [some (.ref a_t), some (vI v1)] [] := by
    have hs := hm
    exact g_X10_count_0 ao ok_t_reader_many ok_t_web_knotMany ok_t_web_thereMany ok_t_row_flaws ok_t_row_slipped ok_t_row_work ok_t_row_out ok_t_row_lost ok_t_row_came ok_t_acts_now ok_t_grain_many ok_t_crystal_sightMany ok_t_crystal_steps_many ok_t_crystal_planes_many ok_t_crystal_eyes_many ok_v1 hs
  rw [FA_id hf] at hg
  exact Ct_of [some (.ref a_t), some (vI v1)] ⟨by decide +kernel, rfl⟩ rfl (Nat.le_of_ble_eq_true rfl) hg

/-! ===== X10_end ===== -/
theorem e_X10_end_0 : DC cX10_end 0 (.aload_n 0) 1 1 := ⟨by decide +kernel, rfl⟩
theorem e_X10_end_1 : DC cX10_end 1 (.getfield 10) 3 4 := ⟨by decide +kernel, rfl⟩
theorem e_X10_end_4 : DC cX10_end 4 (.iload_n 1) 1 5 := ⟨by decide +kernel, rfl⟩
theorem e_X10_end_5 : DC cX10_end 5 (.invokevirtual 83) 3 8 := ⟨by decide +kernel, rfl⟩
theorem e_X10_end_8 : DB cX10_end 8 (.ifCond .eq 7) (7) 3 11 15 := ⟨by decide +kernel, rfl, rfl⟩
theorem e_X10_end_11 : DC cX10_end 11 (.iload_n 1) 1 12 := ⟨by decide +kernel, rfl⟩
theorem e_X10_end_12 : DB cX10_end 12 (.goto 4) (4) 3 15 16 := ⟨by decide +kernel, rfl, rfl⟩
theorem e_X10_end_15 : DC cX10_end 15 (.iconst (-1)) 1 16 := ⟨by decide +kernel, rfl⟩
theorem e_X10_end_16 : DC cX10_end 16 (.ireturn) 1 17 := ⟨by decide +kernel, rfl⟩
noncomputable def m_X10_end_0 (t_reader_many : Int) (v1 : Int) : Option (Int × Int) :=
  (m_X5_cut t_reader_many v1).bind (fun y1 => if y1.1 = 0 then (some ((-1), y1.2)) else (some (v1, y1.2)))

set_option maxRecDepth 10000 in
set_option maxHeartbeats 8000000 in
theorem g_X10_end_0 {l : Launch} {E : EE} {b0 n : Nat} {h : AH} {a_t a_c a_s : Nat} {t_reader_many t_reader_place t_reader_fault t_reader_numberPlace v1 : Int} {r : Int × Int} (ao : AO b0 n [a_t, (a_t + 1)]) (ok_t_reader_many : inI t_reader_many) (ok_v1 : inI v1) (hs : m_X10_end_0 t_reader_many v1 = some r) : G l E b0 M_X10_end (fun _ => True) (ZM E b0 (some (vI r.1)) (ov [a_t, (a_t + 1)] [.inr (10, fsX10 a_t a_c a_s), .inr (5, fsX5 (a_t + 1) r.2 t_reader_place t_reader_fault t_reader_numberPlace)] h) n (inI r.1 ∧ inI r.2) 0 0) 0 0 n (ov [a_t, (a_t + 1)] [.inr (10, fsX10 a_t a_c a_s), .inr (5, fsX5 (a_t + 1) t_reader_many t_reader_place t_reader_fault t_reader_numberPlace)] h) 0 [some (.ref a_t), some (vI v1)] [] := by
  rw [m_X10_end_0] at hs
  refine g_aload_n e_X10_end_0 rfl ?_
  refine g_get 0 0 ao rfl rfl fsX10_g0 fl_X10_10 e_X10_end_1 ?_
  refine g_iload_n e_X10_end_4 rfl ?_
  obtain ⟨y1, hy1, hs⟩ := bind_elim hs
  refine g_callVr [vI v1] cv_X10_83 ⟨rfl, rfl, Nat.le_of_ble_eq_true rfl, Nat.le_of_ble_eq_true rfl⟩ (Ct_heap (ct_X5_cut (a_t := (a_t + 1)) (AO_call [1] ao (by decide) rfl) (FA_call [1] ao.1 rfl rfl) ok_t_reader_many ok_v1 hy1) (ov_callN (esn := [.inr (10, fsX10 a_t a_c a_s), .inr (5, fsX5 (a_t + 1) y1.2 t_reader_place t_reader_fault t_reader_numberPlace)]) [1] [true, false] ao.1 rfl rfl rfl rfl rfl rfl (by decide))) e_X10_end_5 (ao.2 1 _ rfl) (ov_get 1 ao.1 rfl rfl) rfl rfl rfl (Nat.le_of_ble_eq_true rfl) ⟨Nat.le_refl _, Nat.le_refl _⟩ (fun Py1 => ?_)
  refine g_if_eq e_X10_end_8 (inZ_I Py1.1) hs (fun c8 hs => ?_) (fun c8 hs => ?_)
  · refine g_iconst e_X10_end_15 ?_
    obtain rfl := Option.some.inj hs
    exact g_iret rfl ⟨(by decide : inI (-1)), Py1.2⟩ e_X10_end_16
  · refine g_iload_n e_X10_end_11 rfl ?_
    refine g_goto e_X10_end_12 ?_
    obtain rfl := Option.some.inj hs
    exact g_iret rfl ⟨ok_v1, Py1.2⟩ e_X10_end_16

noncomputable def m_X10_end (t_reader_many : Int) (v1 : Int) : Option (Int × Int) := m_X10_end_0 t_reader_many v1

set_option maxRecDepth 10000 in
set_option maxHeartbeats 8000000 in
theorem ct_X10_end {l : Launch} {E : EE} {b0 n : Nat} {h : AH} {a_t a_c a_s : Nat} {t_reader_many t_reader_place t_reader_fault t_reader_numberPlace : Int} {v1 : Int} (ao : AO b0 n [a_t, (a_t + 1)]) (hf : FA h [a_t, (a_t + 1)] [.inr (10, fsX10 a_t a_c a_s), .inr (5, fsX5 (a_t + 1) t_reader_many t_reader_place t_reader_fault t_reader_numberPlace)]) (ok_t_reader_many : inI t_reader_many) (ok_v1 : inI v1) {r : Int × Int} (hm : m_X10_end t_reader_many v1 = some r) : Ct l E b0 M_X10_end 0 0 [.ref a_t, vI v1] h n (some (vI r.1)) (ov [a_t, (a_t + 1)] [.inr (10, fsX10 a_t a_c a_s), .inr (5, fsX5 (a_t + 1) r.2 t_reader_place t_reader_fault t_reader_numberPlace)] h) n (inI r.1 ∧ inI r.2) := by
  rw [m_X10_end] at hm
  have hg : G l E b0 M_X10_end (fun _ => True) (ZM E b0 (some (vI r.1)) (ov [a_t, (a_t + 1)] [.inr (10, fsX10 a_t a_c a_s), .inr (5, fsX5 (a_t + 1) r.2 t_reader_place t_reader_fault t_reader_numberPlace)] h) n (inI r.1 ∧ inI r.2) 0 0) 0 0 n (ov [a_t, (a_t + 1)] [.inr (10, fsX10 a_t a_c a_s), .inr (5, fsX5 (a_t + 1) t_reader_many t_reader_place t_reader_fault t_reader_numberPlace)] h) 0 [some (.ref a_t), some (vI v1)] [] := by
    have hs := hm
    exact g_X10_end_0 ao ok_t_reader_many ok_v1 hs
  rw [FA_id hf] at hg
  exact Ct_of [some (.ref a_t), some (vI v1)] ⟨by decide +kernel, rfl⟩ rfl (Nat.le_of_ble_eq_true rfl) hg

/-! ===== X10_push ===== -/
theorem e_X10_push_0 : DC cX10_push 0 (.aload_n 0) 1 1 := ⟨by decide +kernel, rfl⟩
theorem e_X10_push_1 : DC cX10_push 1 (.getfield 64) 3 4 := ⟨by decide +kernel, rfl⟩
theorem e_X10_push_4 : DC cX10_push 4 (.getfield 106) 3 7 := ⟨by decide +kernel, rfl⟩
theorem e_X10_push_7 : DC cX10_push 7 (.iload_n 1) 1 8 := ⟨by decide +kernel, rfl⟩
theorem e_X10_push_8 : DC cX10_push 8 (.invokevirtual 110) 3 11 := ⟨by decide +kernel, rfl⟩
theorem e_X10_push_11 : DC cX10_push 11 (.ireturn) 1 12 := ⟨by decide +kernel, rfl⟩
noncomputable def m_X10_push_0 (t_crystal_ground_pushes : Nat → Int) (v1 : Int) : Option (Int) :=
  (m_X3_pushAt t_crystal_ground_pushes v1).bind (fun y1 => some (y1))

set_option maxRecDepth 10000 in
set_option maxHeartbeats 8000000 in
theorem g_X10_push_0 {l : Launch} {E : EE} {b0 n : Nat} {h : AH} {a_t a_c a_s : Nat} {t_crystal_sightMany t_crystal_ground_speckMany t_crystal_ground_sourceMany t_crystal_ground_baseTold t_crystal_ground_baseLow t_crystal_ground_baseHigh t_crystal_ground_reach v1 : Int} {t_crystal_ground_pushes : Nat → Int} {r : Int} (ao : AO b0 n [a_t, a_c, (a_c + 13), (a_c + 14)]) (ok_t_crystal_ground_pushes : okA t_crystal_ground_pushes) (ok_v1 : inI v1) (hs : m_X10_push_0 t_crystal_ground_pushes v1 = some r) : G l E b0 M_X10_push (fun _ => True) (ZM E b0 (some (vI r)) (ov [a_t, a_c, (a_c + 13), (a_c + 14)] [.inr (10, fsX10 a_t a_c a_s), .inr (1, fsX1 a_c t_crystal_sightMany), .inr (3, fsX3 (a_c + 13) t_crystal_ground_speckMany t_crystal_ground_sourceMany t_crystal_ground_baseTold t_crystal_ground_baseLow t_crystal_ground_baseHigh t_crystal_ground_reach), IA E 21 t_crystal_ground_pushes] h) n (inI r) 0 0) 0 0 n (ov [a_t, a_c, (a_c + 13), (a_c + 14)] [.inr (10, fsX10 a_t a_c a_s), .inr (1, fsX1 a_c t_crystal_sightMany), .inr (3, fsX3 (a_c + 13) t_crystal_ground_speckMany t_crystal_ground_sourceMany t_crystal_ground_baseTold t_crystal_ground_baseLow t_crystal_ground_baseHigh t_crystal_ground_reach), IA E 21 t_crystal_ground_pushes] h) 0 [some (.ref a_t), some (vI v1)] [] := by
  rw [m_X10_push_0] at hs
  refine g_aload_n e_X10_push_0 rfl ?_
  refine g_get 0 8 ao rfl rfl fsX10_g8 fl_X10_64 e_X10_push_1 ?_
  refine g_get 1 3 ao rfl rfl fsX1_g3 fl_X10_106 e_X10_push_4 ?_
  refine g_iload_n e_X10_push_7 rfl ?_
  obtain ⟨y1, hy1, hs⟩ := bind_elim hs
  refine g_callVr [vI v1] cv_X10_110 ⟨rfl, rfl, Nat.le_of_ble_eq_true rfl, Nat.le_of_ble_eq_true rfl⟩ (ct_X3_pushAt (a_t := (a_c + 13)) (AO_call [2, 3] ao (by decide) rfl) (FA_call [2, 3] ao.1 rfl rfl) ok_t_crystal_ground_pushes ok_v1 hy1) e_X10_push_8 (ao.2 2 _ rfl) (ov_get 2 ao.1 rfl rfl) rfl rfl rfl (Nat.le_of_ble_eq_true rfl) ⟨Nat.le_refl _, Nat.le_refl _⟩ (fun Py1 => ?_)
  obtain rfl := Option.some.inj hs
  exact g_iret rfl Py1 e_X10_push_11

noncomputable def m_X10_push (t_crystal_ground_pushes : Nat → Int) (v1 : Int) : Option (Int) := m_X10_push_0 t_crystal_ground_pushes v1

set_option maxRecDepth 10000 in
set_option maxHeartbeats 8000000 in
theorem ct_X10_push {l : Launch} {E : EE} {b0 n : Nat} {h : AH} {a_t a_c a_s : Nat} {t_crystal_sightMany t_crystal_ground_speckMany t_crystal_ground_sourceMany t_crystal_ground_baseTold t_crystal_ground_baseLow t_crystal_ground_baseHigh t_crystal_ground_reach : Int} {t_crystal_ground_pushes : Nat → Int} {v1 : Int} (ao : AO b0 n [a_t, a_c, (a_c + 13), (a_c + 14)]) (hf : FA h [a_t, a_c, (a_c + 13), (a_c + 14)] [.inr (10, fsX10 a_t a_c a_s), .inr (1, fsX1 a_c t_crystal_sightMany), .inr (3, fsX3 (a_c + 13) t_crystal_ground_speckMany t_crystal_ground_sourceMany t_crystal_ground_baseTold t_crystal_ground_baseLow t_crystal_ground_baseHigh t_crystal_ground_reach), IA E 21 t_crystal_ground_pushes]) (ok_t_crystal_ground_pushes : okA t_crystal_ground_pushes) (ok_v1 : inI v1) {r : Int} (hm : m_X10_push t_crystal_ground_pushes v1 = some r) : Ct l E b0 M_X10_push 0 0 [.ref a_t, vI v1] h n (some (vI r)) h n (inI r) := by
  rw [m_X10_push] at hm
  have hg : G l E b0 M_X10_push (fun _ => True) (ZM E b0 (some (vI r)) (ov [a_t, a_c, (a_c + 13), (a_c + 14)] [.inr (10, fsX10 a_t a_c a_s), .inr (1, fsX1 a_c t_crystal_sightMany), .inr (3, fsX3 (a_c + 13) t_crystal_ground_speckMany t_crystal_ground_sourceMany t_crystal_ground_baseTold t_crystal_ground_baseLow t_crystal_ground_baseHigh t_crystal_ground_reach), IA E 21 t_crystal_ground_pushes] h) n (inI r) 0 0) 0 0 n (ov [a_t, a_c, (a_c + 13), (a_c + 14)] [.inr (10, fsX10 a_t a_c a_s), .inr (1, fsX1 a_c t_crystal_sightMany), .inr (3, fsX3 (a_c + 13) t_crystal_ground_speckMany t_crystal_ground_sourceMany t_crystal_ground_baseTold t_crystal_ground_baseLow t_crystal_ground_baseHigh t_crystal_ground_reach), IA E 21 t_crystal_ground_pushes] h) 0 [some (.ref a_t), some (vI v1)] [] := by
    have hs := hm
    exact g_X10_push_0 ao ok_t_crystal_ground_pushes ok_v1 hs
  rw [FA_id hf] at hg
  exact Ct_of [some (.ref a_t), some (vI v1)] ⟨by decide +kernel, rfl⟩ rfl (Nat.le_of_ble_eq_true rfl) hg

/-! ===== X10_hold ===== -/
theorem e_X10_hold_0 : DC cX10_hold 0 (.iload_n 1) 1 1 := ⟨by decide +kernel, rfl⟩
theorem e_X10_hold_1 : DC cX10_hold 1 (.invokestatic 116) 3 4 := ⟨by decide +kernel, rfl⟩
theorem e_X10_hold_4 : DB cX10_hold 4 (.ifCond .eq 25) (25) 3 7 29 := ⟨by decide +kernel, rfl, rfl⟩
theorem e_X10_hold_7 : DC cX10_hold 7 (.iload_n 2) 1 8 := ⟨by decide +kernel, rfl⟩
theorem e_X10_hold_8 : DC cX10_hold 8 (.invokestatic 119) 3 11 := ⟨by decide +kernel, rfl⟩
theorem e_X10_hold_11 : DB cX10_hold 11 (.ifCond .eq 18) (18) 3 14 29 := ⟨by decide +kernel, rfl, rfl⟩
theorem e_X10_hold_14 : DC cX10_hold 14 (.aload_n 0) 1 15 := ⟨by decide +kernel, rfl⟩
theorem e_X10_hold_15 : DC cX10_hold 15 (.getfield 64) 3 18 := ⟨by decide +kernel, rfl⟩
theorem e_X10_hold_18 : DC cX10_hold 18 (.getfield 106) 3 21 := ⟨by decide +kernel, rfl⟩
theorem e_X10_hold_21 : DC cX10_hold 21 (.iload_n 1) 1 22 := ⟨by decide +kernel, rfl⟩
theorem e_X10_hold_22 : DC cX10_hold 22 (.iload_n 2) 1 23 := ⟨by decide +kernel, rfl⟩
theorem e_X10_hold_23 : DC cX10_hold 23 (.invokevirtual 122) 3 26 := ⟨by decide +kernel, rfl⟩
theorem e_X10_hold_26 : DB cX10_hold 26 (.goto 4) (4) 3 29 30 := ⟨by decide +kernel, rfl, rfl⟩
theorem e_X10_hold_29 : DC cX10_hold 29 (.iconst (-1)) 1 30 := ⟨by decide +kernel, rfl⟩
theorem e_X10_hold_30 : DC cX10_hold 30 (.ireturn) 1 31 := ⟨by decide +kernel, rfl⟩
noncomputable def m_X10_hold_0 (t_crystal_ground_lows : Nat → Int) (t_crystal_ground_highs : Nat → Int) (v1 : Int) (v2 : Int) : Option (Int) :=
  (m_X10_isPlace v1).bind (fun y1 => if y1 = 0 then (some ((-1))) else ((m_X10_isSide v2).bind (fun y2 => if y2 = 0 then (some ((-1))) else ((m_X3_holdAt t_crystal_ground_lows t_crystal_ground_highs v1 v2).bind (fun y3 => some (y3))))))

set_option maxRecDepth 10000 in
set_option maxHeartbeats 8000000 in
theorem g_X10_hold_0 {l : Launch} {E : EE} {b0 n : Nat} {h : AH} {a_t a_c a_s : Nat} {t_crystal_sightMany t_crystal_ground_speckMany t_crystal_ground_sourceMany t_crystal_ground_baseTold t_crystal_ground_baseLow t_crystal_ground_baseHigh t_crystal_ground_reach v1 v2 : Int} {t_crystal_ground_lows t_crystal_ground_highs : Nat → Int} {r : Int} (ao : AO b0 n [a_t, a_c, (a_c + 13), (a_c + 16), (a_c + 17)]) (ok_t_crystal_ground_lows : okA t_crystal_ground_lows) (ok_t_crystal_ground_highs : okA t_crystal_ground_highs) (ok_v1 : inI v1) (ok_v2 : inI v2) (hs : m_X10_hold_0 t_crystal_ground_lows t_crystal_ground_highs v1 v2 = some r) : G l E b0 M_X10_hold (fun _ => True) (ZM E b0 (some (vI r)) (ov [a_t, a_c, (a_c + 13), (a_c + 16), (a_c + 17)] [.inr (10, fsX10 a_t a_c a_s), .inr (1, fsX1 a_c t_crystal_sightMany), .inr (3, fsX3 (a_c + 13) t_crystal_ground_speckMany t_crystal_ground_sourceMany t_crystal_ground_baseTold t_crystal_ground_baseLow t_crystal_ground_baseHigh t_crystal_ground_reach), IA E 100 t_crystal_ground_lows, IA E 100 t_crystal_ground_highs] h) n (inI r) 0 0) 0 0 n (ov [a_t, a_c, (a_c + 13), (a_c + 16), (a_c + 17)] [.inr (10, fsX10 a_t a_c a_s), .inr (1, fsX1 a_c t_crystal_sightMany), .inr (3, fsX3 (a_c + 13) t_crystal_ground_speckMany t_crystal_ground_sourceMany t_crystal_ground_baseTold t_crystal_ground_baseLow t_crystal_ground_baseHigh t_crystal_ground_reach), IA E 100 t_crystal_ground_lows, IA E 100 t_crystal_ground_highs] h) 0 [some (.ref a_t), some (vI v1), some (vI v2)] [] := by
  rw [m_X10_hold_0] at hs
  refine g_iload_n e_X10_hold_0 rfl ?_
  obtain ⟨y1, hy1, hs⟩ := bind_elim hs
  refine g_callSr [vI v1] cs_X10_116 ⟨rfl, rfl, Nat.le_of_ble_eq_true rfl, Nat.le_of_ble_eq_true rfl⟩ (ct_X10_isPlace ⟨List.nodup_nil, fun i a h => by simp at h⟩ (fun i a e h => by simp at h) ok_v1 hy1) e_X10_hold_1 rfl rfl (Nat.le_of_ble_eq_true rfl) ⟨Nat.le_refl _, Nat.le_refl _⟩ (fun Py1 => ?_)
  refine g_if_eq e_X10_hold_4 (inZ_I Py1) hs (fun c4 hs => ?_) (fun c4 hs => ?_)
  · refine g_iconst e_X10_hold_29 ?_
    obtain rfl := Option.some.inj hs
    exact g_iret rfl (by decide : inI (-1)) e_X10_hold_30
  · refine g_iload_n e_X10_hold_7 rfl ?_
    obtain ⟨y2, hy2, hs⟩ := bind_elim hs
    refine g_callSr [vI v2] cs_X10_119 ⟨rfl, rfl, Nat.le_of_ble_eq_true rfl, Nat.le_of_ble_eq_true rfl⟩ (ct_X10_isSide ⟨List.nodup_nil, fun i a h => by simp at h⟩ (fun i a e h => by simp at h) ok_v2 hy2) e_X10_hold_8 rfl rfl (Nat.le_of_ble_eq_true rfl) ⟨Nat.le_refl _, Nat.le_refl _⟩ (fun Py2 => ?_)
    refine g_if_eq e_X10_hold_11 (inZ_I Py2) hs (fun c11 hs => ?_) (fun c11 hs => ?_)
    · refine g_iconst e_X10_hold_29 ?_
      obtain rfl := Option.some.inj hs
      exact g_iret rfl (by decide : inI (-1)) e_X10_hold_30
    · refine g_aload_n e_X10_hold_14 rfl ?_
      refine g_get 0 8 ao rfl rfl fsX10_g8 fl_X10_64 e_X10_hold_15 ?_
      refine g_get 1 3 ao rfl rfl fsX1_g3 fl_X10_106 e_X10_hold_18 ?_
      refine g_iload_n e_X10_hold_21 rfl ?_
      refine g_iload_n e_X10_hold_22 rfl ?_
      obtain ⟨y3, hy3, hs⟩ := bind_elim hs
      refine g_callVr [vI v1, vI v2] cv_X10_122 ⟨rfl, rfl, Nat.le_of_ble_eq_true rfl, Nat.le_of_ble_eq_true rfl⟩ (ct_X3_holdAt (a_t := (a_c + 13)) (AO_call [2, 3, 4] ao (by decide) rfl) (FA_call [2, 3, 4] ao.1 rfl rfl) ok_t_crystal_ground_lows ok_t_crystal_ground_highs ok_v1 ok_v2 hy3) e_X10_hold_23 (ao.2 2 _ rfl) (ov_get 2 ao.1 rfl rfl) rfl rfl rfl (Nat.le_of_ble_eq_true rfl) ⟨Nat.le_refl _, Nat.le_refl _⟩ (fun Py3 => ?_)
      refine g_goto e_X10_hold_26 ?_
      obtain rfl := Option.some.inj hs
      exact g_iret rfl Py3 e_X10_hold_30

noncomputable def m_X10_hold (t_crystal_ground_lows : Nat → Int) (t_crystal_ground_highs : Nat → Int) (v1 : Int) (v2 : Int) : Option (Int) := m_X10_hold_0 t_crystal_ground_lows t_crystal_ground_highs v1 v2

set_option maxRecDepth 10000 in
set_option maxHeartbeats 8000000 in
theorem ct_X10_hold {l : Launch} {E : EE} {b0 n : Nat} {h : AH} {a_t a_c a_s : Nat} {t_crystal_sightMany t_crystal_ground_speckMany t_crystal_ground_sourceMany t_crystal_ground_baseTold t_crystal_ground_baseLow t_crystal_ground_baseHigh t_crystal_ground_reach : Int} {t_crystal_ground_lows t_crystal_ground_highs : Nat → Int} {v1 v2 : Int} (ao : AO b0 n [a_t, a_c, (a_c + 13), (a_c + 16), (a_c + 17)]) (hf : FA h [a_t, a_c, (a_c + 13), (a_c + 16), (a_c + 17)] [.inr (10, fsX10 a_t a_c a_s), .inr (1, fsX1 a_c t_crystal_sightMany), .inr (3, fsX3 (a_c + 13) t_crystal_ground_speckMany t_crystal_ground_sourceMany t_crystal_ground_baseTold t_crystal_ground_baseLow t_crystal_ground_baseHigh t_crystal_ground_reach), IA E 100 t_crystal_ground_lows, IA E 100 t_crystal_ground_highs]) (ok_t_crystal_ground_lows : okA t_crystal_ground_lows) (ok_t_crystal_ground_highs : okA t_crystal_ground_highs) (ok_v1 : inI v1) (ok_v2 : inI v2) {r : Int} (hm : m_X10_hold t_crystal_ground_lows t_crystal_ground_highs v1 v2 = some r) : Ct l E b0 M_X10_hold 0 0 [.ref a_t, vI v1, vI v2] h n (some (vI r)) h n (inI r) := by
  rw [m_X10_hold] at hm
  have hg : G l E b0 M_X10_hold (fun _ => True) (ZM E b0 (some (vI r)) (ov [a_t, a_c, (a_c + 13), (a_c + 16), (a_c + 17)] [.inr (10, fsX10 a_t a_c a_s), .inr (1, fsX1 a_c t_crystal_sightMany), .inr (3, fsX3 (a_c + 13) t_crystal_ground_speckMany t_crystal_ground_sourceMany t_crystal_ground_baseTold t_crystal_ground_baseLow t_crystal_ground_baseHigh t_crystal_ground_reach), IA E 100 t_crystal_ground_lows, IA E 100 t_crystal_ground_highs] h) n (inI r) 0 0) 0 0 n (ov [a_t, a_c, (a_c + 13), (a_c + 16), (a_c + 17)] [.inr (10, fsX10 a_t a_c a_s), .inr (1, fsX1 a_c t_crystal_sightMany), .inr (3, fsX3 (a_c + 13) t_crystal_ground_speckMany t_crystal_ground_sourceMany t_crystal_ground_baseTold t_crystal_ground_baseLow t_crystal_ground_baseHigh t_crystal_ground_reach), IA E 100 t_crystal_ground_lows, IA E 100 t_crystal_ground_highs] h) 0 [some (.ref a_t), some (vI v1), some (vI v2)] [] := by
    have hs := hm
    exact g_X10_hold_0 ao ok_t_crystal_ground_lows ok_t_crystal_ground_highs ok_v1 ok_v2 hs
  rw [FA_id hf] at hg
  exact Ct_of [some (.ref a_t), some (vI v1), some (vI v2)] ⟨by decide +kernel, rfl⟩ rfl (Nat.le_of_ble_eq_true rfl) hg

/-! ===== X10_sum ===== -/
theorem e_X10_sum_0 : DC cX10_sum 0 (.aload_n 0) 1 1 := ⟨by decide +kernel, rfl⟩
theorem e_X10_sum_1 : DC cX10_sum 1 (.getfield 19) 3 4 := ⟨by decide +kernel, rfl⟩
theorem e_X10_sum_4 : DC cX10_sum 4 (.iload_n 1) 1 5 := ⟨by decide +kernel, rfl⟩
theorem e_X10_sum_5 : DC cX10_sum 5 (.invokevirtual 136) 3 8 := ⟨by decide +kernel, rfl⟩
theorem e_X10_sum_8 : DB cX10_sum 8 (.ifCond .eq 22) (22) 3 11 30 := ⟨by decide +kernel, rfl, rfl⟩
theorem e_X10_sum_11 : DC cX10_sum 11 (.iload_n 2) 1 12 := ⟨by decide +kernel, rfl⟩
theorem e_X10_sum_12 : DC cX10_sum 12 (.invokestatic 99) 3 15 := ⟨by decide +kernel, rfl⟩
theorem e_X10_sum_15 : DB cX10_sum 15 (.ifCond .eq 15) (15) 3 18 30 := ⟨by decide +kernel, rfl, rfl⟩
theorem e_X10_sum_18 : DC cX10_sum 18 (.aload_n 0) 1 19 := ⟨by decide +kernel, rfl⟩
theorem e_X10_sum_19 : DC cX10_sum 19 (.getfield 19) 3 22 := ⟨by decide +kernel, rfl⟩
theorem e_X10_sum_22 : DC cX10_sum 22 (.iload_n 1) 1 23 := ⟨by decide +kernel, rfl⟩
theorem e_X10_sum_23 : DC cX10_sum 23 (.iload_n 2) 1 24 := ⟨by decide +kernel, rfl⟩
theorem e_X10_sum_24 : DC cX10_sum 24 (.invokevirtual 139) 3 27 := ⟨by decide +kernel, rfl⟩
theorem e_X10_sum_27 : DB cX10_sum 27 (.goto 5) (5) 3 30 32 := ⟨by decide +kernel, rfl, rfl⟩
theorem e_X10_sum_30 : DC cX10_sum 30 (.ldc 142) 2 32 := ⟨by decide +kernel, rfl⟩
theorem e_X10_sum_32 : DC cX10_sum 32 (.ireturn) 1 33 := ⟨by decide +kernel, rfl⟩
noncomputable def m_X10_sum_0 (t_web_knotMany : Int) (t_web_froms : Nat → Int) (t_web_tos : Nat → Int) (t_web_steps_many : Int) (t_web_steps_xs : Nat → Int) (t_web_steps_ys : Nat → Int) (t_web_steps_zs : Nat → Int) (t_web_there : Nat → Int) (v1 : Int) (v2 : Int) : Option (Int) :=
  (m_X9_isKnot t_web_knotMany v1).bind (fun y1 => if y1 = 0 then (some ((-100000))) else ((m_X10_isPart v2).bind (fun y2 => if y2 = 0 then (some ((-100000))) else ((m_X9_sumAt t_web_froms t_web_tos t_web_steps_many t_web_steps_xs t_web_steps_ys t_web_steps_zs t_web_there v1 v2).bind (fun y3 => some (y3))))))

set_option maxRecDepth 10000 in
set_option maxHeartbeats 8000000 in
theorem g_X10_sum_0 {l : Launch} {E : EE} {b0 n : Nat} {h : AH} {a_t a_c a_s : Nat} {t_web_knotMany t_web_thereMany t_web_groupMany t_web_steps_many v1 v2 : Int} {t_web_froms t_web_tos t_web_steps_xs t_web_steps_ys t_web_steps_zs t_web_there : Nat → Int} {r : Int} (ao : AO b0 n [a_t, (a_t + 3), (a_t + 5), (a_t + 6), (a_t + 7), (a_t + 8), (a_t + 9), (a_t + 10), (a_t + 11)]) (ok_t_web_knotMany : inI t_web_knotMany) (ok_t_web_froms : okA t_web_froms) (ok_t_web_tos : okA t_web_tos) (ok_t_web_steps_many : inI t_web_steps_many) (ok_t_web_steps_xs : okA t_web_steps_xs) (ok_t_web_steps_ys : okA t_web_steps_ys) (ok_t_web_steps_zs : okA t_web_steps_zs) (ok_t_web_there : okZ t_web_there) (ok_v1 : inI v1) (ok_v2 : inI v2) (hs : m_X10_sum_0 t_web_knotMany t_web_froms t_web_tos t_web_steps_many t_web_steps_xs t_web_steps_ys t_web_steps_zs t_web_there v1 v2 = some r) : G l E b0 M_X10_sum (fun _ => True) (ZM E b0 (some (vI r)) (ov [a_t, (a_t + 3), (a_t + 5), (a_t + 6), (a_t + 7), (a_t + 8), (a_t + 9), (a_t + 10), (a_t + 11)] [.inr (10, fsX10 a_t a_c a_s), .inr (9, fsX9 (a_t + 3) t_web_knotMany t_web_thereMany t_web_groupMany), IA E 120 t_web_froms, IA E 120 t_web_tos, .inr (8, fsX8 (a_t + 7) t_web_steps_many), IA E 120 t_web_steps_xs, IA E 120 t_web_steps_ys, IA E 120 t_web_steps_zs, ZA E 120 t_web_there] h) n (inI r) 0 0) 0 0 n (ov [a_t, (a_t + 3), (a_t + 5), (a_t + 6), (a_t + 7), (a_t + 8), (a_t + 9), (a_t + 10), (a_t + 11)] [.inr (10, fsX10 a_t a_c a_s), .inr (9, fsX9 (a_t + 3) t_web_knotMany t_web_thereMany t_web_groupMany), IA E 120 t_web_froms, IA E 120 t_web_tos, .inr (8, fsX8 (a_t + 7) t_web_steps_many), IA E 120 t_web_steps_xs, IA E 120 t_web_steps_ys, IA E 120 t_web_steps_zs, ZA E 120 t_web_there] h) 0 [some (.ref a_t), some (vI v1), some (vI v2)] [] := by
  rw [m_X10_sum_0] at hs
  refine g_aload_n e_X10_sum_0 rfl ?_
  refine g_get 0 1 ao rfl rfl fsX10_g1 fl_X10_19 e_X10_sum_1 ?_
  refine g_iload_n e_X10_sum_4 rfl ?_
  obtain ⟨y1, hy1, hs⟩ := bind_elim hs
  refine g_callVr [vI v1] cv_X10_136 ⟨rfl, rfl, Nat.le_of_ble_eq_true rfl, Nat.le_of_ble_eq_true rfl⟩ (ct_X9_isKnot (a_t := (a_t + 3)) (AO_call [1] ao (by decide) rfl) (FA_call [1] ao.1 rfl rfl) ok_t_web_knotMany ok_v1 hy1) e_X10_sum_5 (ao.2 1 _ rfl) (ov_get 1 ao.1 rfl rfl) rfl rfl rfl (Nat.le_of_ble_eq_true rfl) ⟨Nat.le_refl _, Nat.le_refl _⟩ (fun Py1 => ?_)
  refine g_if_eq e_X10_sum_8 (inZ_I Py1) hs (fun c8 hs => ?_) (fun c8 hs => ?_)
  · refine g_ldc (a := -100000) e_X10_sum_30 k_X10_142 ?_
    obtain rfl := Option.some.inj hs
    exact g_iret rfl (by decide : inI (-100000)) e_X10_sum_32
  · refine g_iload_n e_X10_sum_11 rfl ?_
    obtain ⟨y2, hy2, hs⟩ := bind_elim hs
    refine g_callSr [vI v2] cs_X10_99 ⟨rfl, rfl, Nat.le_of_ble_eq_true rfl, Nat.le_of_ble_eq_true rfl⟩ (ct_X10_isPart ⟨List.nodup_nil, fun i a h => by simp at h⟩ (fun i a e h => by simp at h) ok_v2 hy2) e_X10_sum_12 rfl rfl (Nat.le_of_ble_eq_true rfl) ⟨Nat.le_refl _, Nat.le_refl _⟩ (fun Py2 => ?_)
    refine g_if_eq e_X10_sum_15 (inZ_I Py2) hs (fun c15 hs => ?_) (fun c15 hs => ?_)
    · refine g_ldc (a := -100000) e_X10_sum_30 k_X10_142 ?_
      obtain rfl := Option.some.inj hs
      exact g_iret rfl (by decide : inI (-100000)) e_X10_sum_32
    · refine g_aload_n e_X10_sum_18 rfl ?_
      refine g_get 0 1 ao rfl rfl fsX10_g1 fl_X10_19 e_X10_sum_19 ?_
      refine g_iload_n e_X10_sum_22 rfl ?_
      refine g_iload_n e_X10_sum_23 rfl ?_
      obtain ⟨y3, hy3, hs⟩ := bind_elim hs
      refine g_callVr [vI v1, vI v2] cv_X10_139 ⟨rfl, rfl, Nat.le_of_ble_eq_true rfl, Nat.le_of_ble_eq_true rfl⟩ (ct_X9_sumAt (a_t := (a_t + 3)) (AO_call [1, 2, 3, 4, 5, 6, 7, 8] ao (by decide) rfl) (FA_call [1, 2, 3, 4, 5, 6, 7, 8] ao.1 rfl rfl) ok_t_web_froms ok_t_web_tos ok_t_web_steps_many ok_t_web_steps_xs ok_t_web_steps_ys ok_t_web_steps_zs ok_t_web_there ok_v1 ok_v2 hy3) e_X10_sum_24 (ao.2 1 _ rfl) (ov_get 1 ao.1 rfl rfl) rfl rfl rfl (Nat.le_of_ble_eq_true rfl) ⟨Nat.le_refl _, Nat.le_refl _⟩ (fun Py3 => ?_)
      refine g_goto e_X10_sum_27 ?_
      obtain rfl := Option.some.inj hs
      exact g_iret rfl Py3 e_X10_sum_32

noncomputable def m_X10_sum (t_web_knotMany : Int) (t_web_froms : Nat → Int) (t_web_tos : Nat → Int) (t_web_steps_many : Int) (t_web_steps_xs : Nat → Int) (t_web_steps_ys : Nat → Int) (t_web_steps_zs : Nat → Int) (t_web_there : Nat → Int) (v1 : Int) (v2 : Int) : Option (Int) := m_X10_sum_0 t_web_knotMany t_web_froms t_web_tos t_web_steps_many t_web_steps_xs t_web_steps_ys t_web_steps_zs t_web_there v1 v2

set_option maxRecDepth 10000 in
set_option maxHeartbeats 8000000 in
theorem ct_X10_sum {l : Launch} {E : EE} {b0 n : Nat} {h : AH} {a_t a_c a_s : Nat} {t_web_knotMany t_web_thereMany t_web_groupMany t_web_steps_many : Int} {t_web_froms t_web_tos t_web_steps_xs t_web_steps_ys t_web_steps_zs t_web_there : Nat → Int} {v1 v2 : Int} (ao : AO b0 n [a_t, (a_t + 3), (a_t + 5), (a_t + 6), (a_t + 7), (a_t + 8), (a_t + 9), (a_t + 10), (a_t + 11)]) (hf : FA h [a_t, (a_t + 3), (a_t + 5), (a_t + 6), (a_t + 7), (a_t + 8), (a_t + 9), (a_t + 10), (a_t + 11)] [.inr (10, fsX10 a_t a_c a_s), .inr (9, fsX9 (a_t + 3) t_web_knotMany t_web_thereMany t_web_groupMany), IA E 120 t_web_froms, IA E 120 t_web_tos, .inr (8, fsX8 (a_t + 7) t_web_steps_many), IA E 120 t_web_steps_xs, IA E 120 t_web_steps_ys, IA E 120 t_web_steps_zs, ZA E 120 t_web_there]) (ok_t_web_knotMany : inI t_web_knotMany) (ok_t_web_froms : okA t_web_froms) (ok_t_web_tos : okA t_web_tos) (ok_t_web_steps_many : inI t_web_steps_many) (ok_t_web_steps_xs : okA t_web_steps_xs) (ok_t_web_steps_ys : okA t_web_steps_ys) (ok_t_web_steps_zs : okA t_web_steps_zs) (ok_t_web_there : okZ t_web_there) (ok_v1 : inI v1) (ok_v2 : inI v2) {r : Int} (hm : m_X10_sum t_web_knotMany t_web_froms t_web_tos t_web_steps_many t_web_steps_xs t_web_steps_ys t_web_steps_zs t_web_there v1 v2 = some r) : Ct l E b0 M_X10_sum 0 0 [.ref a_t, vI v1, vI v2] h n (some (vI r)) h n (inI r) := by
  rw [m_X10_sum] at hm
  have hg : G l E b0 M_X10_sum (fun _ => True) (ZM E b0 (some (vI r)) (ov [a_t, (a_t + 3), (a_t + 5), (a_t + 6), (a_t + 7), (a_t + 8), (a_t + 9), (a_t + 10), (a_t + 11)] [.inr (10, fsX10 a_t a_c a_s), .inr (9, fsX9 (a_t + 3) t_web_knotMany t_web_thereMany t_web_groupMany), IA E 120 t_web_froms, IA E 120 t_web_tos, .inr (8, fsX8 (a_t + 7) t_web_steps_many), IA E 120 t_web_steps_xs, IA E 120 t_web_steps_ys, IA E 120 t_web_steps_zs, ZA E 120 t_web_there] h) n (inI r) 0 0) 0 0 n (ov [a_t, (a_t + 3), (a_t + 5), (a_t + 6), (a_t + 7), (a_t + 8), (a_t + 9), (a_t + 10), (a_t + 11)] [.inr (10, fsX10 a_t a_c a_s), .inr (9, fsX9 (a_t + 3) t_web_knotMany t_web_thereMany t_web_groupMany), IA E 120 t_web_froms, IA E 120 t_web_tos, .inr (8, fsX8 (a_t + 7) t_web_steps_many), IA E 120 t_web_steps_xs, IA E 120 t_web_steps_ys, IA E 120 t_web_steps_zs, ZA E 120 t_web_there] h) 0 [some (.ref a_t), some (vI v1), some (vI v2)] [] := by
    have hs := hm
    exact g_X10_sum_0 ao ok_t_web_knotMany ok_t_web_froms ok_t_web_tos ok_t_web_steps_many ok_t_web_steps_xs ok_t_web_steps_ys ok_t_web_steps_zs ok_t_web_there ok_v1 ok_v2 hs
  rw [FA_id hf] at hg
  exact Ct_of [some (.ref a_t), some (vI v1), some (vI v2)] ⟨by decide +kernel, rfl⟩ rfl (Nat.le_of_ble_eq_true rfl) hg

/-! ===== X10_group ===== -/
theorem e_X10_group_0 : DC cX10_group 0 (.aload_n 0) 1 1 := ⟨by decide +kernel, rfl⟩
theorem e_X10_group_1 : DC cX10_group 1 (.getfield 19) 3 4 := ⟨by decide +kernel, rfl⟩
theorem e_X10_group_4 : DC cX10_group 4 (.iload_n 1) 1 5 := ⟨by decide +kernel, rfl⟩
theorem e_X10_group_5 : DC cX10_group 5 (.invokevirtual 161) 3 8 := ⟨by decide +kernel, rfl⟩
theorem e_X10_group_8 : DC cX10_group 8 (.ireturn) 1 9 := ⟨by decide +kernel, rfl⟩
noncomputable def m_X10_group_0 (t_web_groupMany : Int) (t_web_groups : Nat → Int) (v1 : Int) : Option (Int) :=
  (m_X9_groupOf t_web_groupMany t_web_groups v1).bind (fun y1 => some (y1))

set_option maxRecDepth 10000 in
set_option maxHeartbeats 8000000 in
theorem g_X10_group_0 {l : Launch} {E : EE} {b0 n : Nat} {h : AH} {a_t a_c a_s : Nat} {t_web_knotMany t_web_thereMany t_web_groupMany v1 : Int} {t_web_groups : Nat → Int} {r : Int} (ao : AO b0 n [a_t, (a_t + 3), (a_t + 13)]) (ok_t_web_groupMany : inI t_web_groupMany) (ok_t_web_groups : okA t_web_groups) (ok_v1 : inI v1) (hs : m_X10_group_0 t_web_groupMany t_web_groups v1 = some r) : G l E b0 M_X10_group (fun _ => True) (ZM E b0 (some (vI r)) (ov [a_t, (a_t + 3), (a_t + 13)] [.inr (10, fsX10 a_t a_c a_s), .inr (9, fsX9 (a_t + 3) t_web_knotMany t_web_thereMany t_web_groupMany), IA E 8 t_web_groups] h) n (inI r) 0 0) 0 0 n (ov [a_t, (a_t + 3), (a_t + 13)] [.inr (10, fsX10 a_t a_c a_s), .inr (9, fsX9 (a_t + 3) t_web_knotMany t_web_thereMany t_web_groupMany), IA E 8 t_web_groups] h) 0 [some (.ref a_t), some (vI v1)] [] := by
  rw [m_X10_group_0] at hs
  refine g_aload_n e_X10_group_0 rfl ?_
  refine g_get 0 1 ao rfl rfl fsX10_g1 fl_X10_19 e_X10_group_1 ?_
  refine g_iload_n e_X10_group_4 rfl ?_
  obtain ⟨y1, hy1, hs⟩ := bind_elim hs
  refine g_callVr [vI v1] cv_X10_161 ⟨rfl, rfl, Nat.le_of_ble_eq_true rfl, Nat.le_of_ble_eq_true rfl⟩ (ct_X9_groupOf (a_t := (a_t + 3)) (AO_call [1, 2] ao (by decide) rfl) (FA_call [1, 2] ao.1 rfl rfl) ok_t_web_groupMany ok_t_web_groups ok_v1 hy1) e_X10_group_5 (ao.2 1 _ rfl) (ov_get 1 ao.1 rfl rfl) rfl rfl rfl (Nat.le_of_ble_eq_true rfl) ⟨Nat.le_refl _, Nat.le_refl _⟩ (fun Py1 => ?_)
  obtain rfl := Option.some.inj hs
  exact g_iret rfl Py1 e_X10_group_8

noncomputable def m_X10_group (t_web_groupMany : Int) (t_web_groups : Nat → Int) (v1 : Int) : Option (Int) := m_X10_group_0 t_web_groupMany t_web_groups v1

set_option maxRecDepth 10000 in
set_option maxHeartbeats 8000000 in
theorem ct_X10_group {l : Launch} {E : EE} {b0 n : Nat} {h : AH} {a_t a_c a_s : Nat} {t_web_knotMany t_web_thereMany t_web_groupMany : Int} {t_web_groups : Nat → Int} {v1 : Int} (ao : AO b0 n [a_t, (a_t + 3), (a_t + 13)]) (hf : FA h [a_t, (a_t + 3), (a_t + 13)] [.inr (10, fsX10 a_t a_c a_s), .inr (9, fsX9 (a_t + 3) t_web_knotMany t_web_thereMany t_web_groupMany), IA E 8 t_web_groups]) (ok_t_web_groupMany : inI t_web_groupMany) (ok_t_web_groups : okA t_web_groups) (ok_v1 : inI v1) {r : Int} (hm : m_X10_group t_web_groupMany t_web_groups v1 = some r) : Ct l E b0 M_X10_group 0 0 [.ref a_t, vI v1] h n (some (vI r)) h n (inI r) := by
  rw [m_X10_group] at hm
  have hg : G l E b0 M_X10_group (fun _ => True) (ZM E b0 (some (vI r)) (ov [a_t, (a_t + 3), (a_t + 13)] [.inr (10, fsX10 a_t a_c a_s), .inr (9, fsX9 (a_t + 3) t_web_knotMany t_web_thereMany t_web_groupMany), IA E 8 t_web_groups] h) n (inI r) 0 0) 0 0 n (ov [a_t, (a_t + 3), (a_t + 13)] [.inr (10, fsX10 a_t a_c a_s), .inr (9, fsX9 (a_t + 3) t_web_knotMany t_web_thereMany t_web_groupMany), IA E 8 t_web_groups] h) 0 [some (.ref a_t), some (vI v1)] [] := by
    have hs := hm
    exact g_X10_group_0 ao ok_t_web_groupMany ok_t_web_groups ok_v1 hs
  rw [FA_id hf] at hg
  exact Ct_of [some (.ref a_t), some (vI v1)] ⟨by decide +kernel, rfl⟩ rfl (Nat.le_of_ble_eq_true rfl) hg

/-! ===== X10_put ===== -/
theorem e_X10_put_0 : DC cX10_put 0 (.aload_n 0) 1 1 := ⟨by decide +kernel, rfl⟩
theorem e_X10_put_1 : DC cX10_put 1 (.getfield 33) 3 4 := ⟨by decide +kernel, rfl⟩
theorem e_X10_put_4 : DC cX10_put 4 (.iload_n 1) 1 5 := ⟨by decide +kernel, rfl⟩
theorem e_X10_put_5 : DC cX10_put 5 (.iload_n 2) 1 6 := ⟨by decide +kernel, rfl⟩
theorem e_X10_put_6 : DC cX10_put 6 (.invokevirtual 195) 3 9 := ⟨by decide +kernel, rfl⟩
theorem e_X10_put_9 : DC cX10_put 9 (.istore_n 3) 1 10 := ⟨by decide +kernel, rfl⟩
theorem e_X10_put_10 : DC cX10_put 10 (.iload_n 3) 1 11 := ⟨by decide +kernel, rfl⟩
theorem e_X10_put_11 : DB cX10_put 11 (.ifCond .eq 14) (14) 3 14 25 := ⟨by decide +kernel, rfl, rfl⟩
theorem e_X10_put_14 : DC cX10_put 14 (.aload_n 0) 1 15 := ⟨by decide +kernel, rfl⟩
theorem e_X10_put_15 : DC cX10_put 15 (.getfield 43) 3 18 := ⟨by decide +kernel, rfl⟩
theorem e_X10_put_18 : DC cX10_put 18 (.aload_n 0) 1 19 := ⟨by decide +kernel, rfl⟩
theorem e_X10_put_19 : DC cX10_put 19 (.getfield 33) 3 22 := ⟨by decide +kernel, rfl⟩
theorem e_X10_put_22 : DC cX10_put 22 (.invokevirtual 198) 3 25 := ⟨by decide +kernel, rfl⟩
theorem e_X10_put_25 : DC cX10_put 25 (.iload_n 3) 1 26 := ⟨by decide +kernel, rfl⟩
theorem e_X10_put_26 : DC cX10_put 26 (.ireturn) 1 27 := ⟨by decide +kernel, rfl⟩
noncomputable def m_X10_put_0 (t_row_flaws : Int) (t_row_slipped : Int) (t_row_gone : Int) (t_row_work : Int) (t_row_out : Int) (t_row_lost : Int) (t_row_came : Int) (t_row_signs : Nat → Int) (t_acts_now : Int) (t_acts_last : Int) (t_acts_kept : Nat → Nat) (t_acts_kept_R : Nat → RowT) (v1 : Int) (v2 : Int) : Option (Int × Int × (Nat → Int) × Int × Int × (Nat → Nat) × (Nat → RowT)) :=
  (m_X6_bring t_row_flaws t_row_signs v1 v2).bind (fun y1 => if y1.1 = 0 then (some (y1.1, y1.2.1, y1.2.2, t_acts_now, t_acts_last, t_acts_kept, t_acts_kept_R)) else ((m_X0_keep t_acts_now t_acts_last t_acts_kept y1.2.1 t_row_slipped t_row_gone t_row_work t_row_out t_row_lost t_row_came y1.2.2 t_acts_kept_R).bind (fun y2 => some (y1.1, y1.2.1, y1.2.2, y2.1, y2.2.1, y2.2.2.1, y2.2.2.2))))

set_option maxRecDepth 10000 in
set_option maxHeartbeats 8000000 in
theorem g_X10_put_0 {l : Launch} {E : EE} {b0 n : Nat} {h : AH} {a_t a_c a_s : Nat} {t_row_flaws t_row_slipped t_row_gone t_row_work t_row_out t_row_lost t_row_came t_acts_now t_acts_last v1 v2 : Int} {t_row_signs : Nat → Int} {t_acts_kept : Nat → Nat} {t_acts_kept_R : Nat → RowT} {r : Int × Int × (Nat → Int) × Int × Int × (Nat → Nat) × (Nat → RowT)} (ao : AO b0 n [a_t, (a_t + 22), (a_t + 23), (a_t + 30), (a_t + 31)]) (fo : FO b0 n [a_t, (a_t + 22), (a_t + 23), (a_t + 30), (a_t + 31)] (a_t + 32) 51) (ok_t_row_flaws : inI t_row_flaws) (ok_t_row_slipped : inI t_row_slipped) (ok_t_row_gone : inI t_row_gone) (ok_t_row_work : inJ t_row_work) (ok_t_row_out : inI t_row_out) (ok_t_row_lost : inI t_row_lost) (ok_t_row_came : inI t_row_came) (ok_t_row_signs : okA t_row_signs) (ok_t_acts_now : inI t_acts_now) (ok_t_acts_last : inI t_acts_last) (ok_t_acts_kept : True) (ok_t_acts_kept_R : okR t_acts_kept_R) (ok_v1 : inI v1) (ok_v2 : inI v2) (hs : m_X10_put_0 t_row_flaws t_row_slipped t_row_gone t_row_work t_row_out t_row_lost t_row_came t_row_signs t_acts_now t_acts_last t_acts_kept t_acts_kept_R v1 v2 = some r) : G l E b0 M_X10_put (fun _ => True) (ZM E b0 (some (vI r.1)) (ov [a_t, (a_t + 22), (a_t + 23), (a_t + 30), (a_t + 31)] [.inr (10, fsX10 a_t a_c a_s), .inr (6, fsX6 (a_t + 22) r.2.1 t_row_slipped t_row_gone t_row_work t_row_out t_row_lost t_row_came), IA E 100 r.2.2.1, .inr (0, fsX0 (a_t + 30) r.2.2.2.1 r.2.2.2.2.1), RK E 51 (a_t + 32) r.2.2.2.2.2.1] (fam E (a_t + 32) 51 r.2.2.2.2.2.2 h)) n (inZ r.1 ∧ inI r.2.1 ∧ okA r.2.2.1 ∧ inI r.2.2.2.1 ∧ inI r.2.2.2.2.1 ∧ True ∧ okR r.2.2.2.2.2.2) 0 0) 0 0 n (ov [a_t, (a_t + 22), (a_t + 23), (a_t + 30), (a_t + 31)] [.inr (10, fsX10 a_t a_c a_s), .inr (6, fsX6 (a_t + 22) t_row_flaws t_row_slipped t_row_gone t_row_work t_row_out t_row_lost t_row_came), IA E 100 t_row_signs, .inr (0, fsX0 (a_t + 30) t_acts_now t_acts_last), RK E 51 (a_t + 32) t_acts_kept] (fam E (a_t + 32) 51 t_acts_kept_R h)) 0 [some (.ref a_t), some (vI v1), some (vI v2), none] [] := by
  rw [m_X10_put_0] at hs
  refine g_aload_n e_X10_put_0 rfl ?_
  refine g_get 0 3 ao rfl rfl fsX10_g3 fl_X10_33 e_X10_put_1 ?_
  refine g_iload_n e_X10_put_4 rfl ?_
  refine g_iload_n e_X10_put_5 rfl ?_
  obtain ⟨y1, hy1, hs⟩ := bind_elim hs
  refine g_callVr [vI v1, vI v2] cv_X10_195 ⟨rfl, rfl, Nat.le_of_ble_eq_true rfl, Nat.le_of_ble_eq_true rfl⟩ (Ct_heap (ct_X6_bring (a_t := (a_t + 22)) (AO_call [1, 2] ao (by decide) rfl) (FA_call [1, 2] ao.1 rfl rfl) ok_t_row_flaws ok_t_row_signs ok_v1 ok_v2 hy1) (ov_callN (esn := [.inr (10, fsX10 a_t a_c a_s), .inr (6, fsX6 (a_t + 22) y1.2.1 t_row_slipped t_row_gone t_row_work t_row_out t_row_lost t_row_came), IA E 100 y1.2.2, .inr (0, fsX0 (a_t + 30) t_acts_now t_acts_last), RK E 51 (a_t + 32) t_acts_kept]) [1, 2] [true, false, false, true, true] ao.1 rfl rfl rfl rfl rfl rfl (by decide))) e_X10_put_6 (ao.2 1 _ rfl) (ov_get 1 ao.1 rfl rfl) rfl rfl rfl (Nat.le_of_ble_eq_true rfl) ⟨Nat.le_refl _, Nat.le_refl _⟩ (fun Py1 => ?_)
  refine g_istore_n e_X10_put_9 st1_3 rfl ?_
  refine g_iload_n e_X10_put_10 rfl ?_
  refine g_if_eq e_X10_put_11 (inZ_I Py1.1) hs (fun c11 hs => ?_) (fun c11 hs => ?_)
  · refine g_iload_n e_X10_put_25 rfl ?_
    obtain rfl := Option.some.inj hs
    exact g_zret rfl Py1.1 ⟨Py1.1, Py1.2.1, Py1.2.2, ok_t_acts_now, ok_t_acts_last, ok_t_acts_kept, ok_t_acts_kept_R⟩ e_X10_put_26
  · refine g_aload_n e_X10_put_14 rfl ?_
    refine g_get 0 5 ao rfl rfl fsX10_g5 fl_X10_43 e_X10_put_15 ?_
    refine g_aload_n e_X10_put_18 rfl ?_
    refine g_get 0 3 ao rfl rfl fsX10_g3 fl_X10_33 e_X10_put_19 ?_
    obtain ⟨y2, hy2, hs⟩ := bind_elim hs
    refine g_callVv [.ref (a_t + 22)] cv_X10_198 ⟨rfl, rfl, Nat.le_of_ble_eq_true rfl, Nat.le_of_ble_eq_true rfl⟩ (Ct_heap (ct_X0_keep (a_t := (a_t + 30)) (a_p1 := (a_t + 22)) (AO_call [3, 4, 1, 2] ao (by decide) rfl) (FO_call [3, 4, 1, 2] fo rfl) (FA_call [3, 4, 1, 2] ao.1 rfl rfl) (FF_ov fo) ok_t_acts_now ok_t_acts_last ok_t_acts_kept Py1.2.1 ok_t_row_slipped ok_t_row_gone ok_t_row_work ok_t_row_out ok_t_row_lost ok_t_row_came Py1.2.2 ok_t_acts_kept_R hy2) (ovF_callN (esn := [.inr (10, fsX10 a_t a_c a_s), .inr (6, fsX6 (a_t + 22) y1.2.1 t_row_slipped t_row_gone t_row_work t_row_out t_row_lost t_row_came), IA E 100 y1.2.2, .inr (0, fsX0 (a_t + 30) y2.1 y2.2.1), RK E 51 (a_t + 32) y2.2.2.1]) [3, 4, 1, 2] [true, false, false, false, false] fo ao.1 rfl rfl rfl rfl rfl rfl (by decide))) e_X10_put_22 (ao.2 3 _ rfl) (ov_get 3 ao.1 rfl rfl) rfl rfl rfl (Nat.le_of_ble_eq_true rfl) ⟨Nat.le_refl _, Nat.le_refl _⟩ (fun Py2 => ?_)
    refine g_iload_n e_X10_put_25 rfl ?_
    obtain rfl := Option.some.inj hs
    exact g_zret rfl Py1.1 ⟨Py1.1, Py1.2.1, Py1.2.2, Py2.1, Py2.2.1, Py2.2.2.1, Py2.2.2.2⟩ e_X10_put_26

noncomputable def m_X10_put (t_row_flaws : Int) (t_row_slipped : Int) (t_row_gone : Int) (t_row_work : Int) (t_row_out : Int) (t_row_lost : Int) (t_row_came : Int) (t_row_signs : Nat → Int) (t_acts_now : Int) (t_acts_last : Int) (t_acts_kept : Nat → Nat) (t_acts_kept_R : Nat → RowT) (v1 : Int) (v2 : Int) : Option (Int × Int × (Nat → Int) × Int × Int × (Nat → Nat) × (Nat → RowT)) := m_X10_put_0 t_row_flaws t_row_slipped t_row_gone t_row_work t_row_out t_row_lost t_row_came t_row_signs t_acts_now t_acts_last t_acts_kept t_acts_kept_R v1 v2

set_option maxRecDepth 10000 in
set_option maxHeartbeats 8000000 in
theorem ct_X10_put {l : Launch} {E : EE} {b0 n : Nat} {h : AH} {a_t a_c a_s : Nat} {t_row_flaws t_row_slipped t_row_gone t_row_work t_row_out t_row_lost t_row_came t_acts_now t_acts_last : Int} {t_row_signs : Nat → Int} {t_acts_kept : Nat → Nat} {t_acts_kept_R : Nat → RowT} {v1 v2 : Int} (ao : AO b0 n [a_t, (a_t + 22), (a_t + 23), (a_t + 30), (a_t + 31)]) (fo : FO b0 n [a_t, (a_t + 22), (a_t + 23), (a_t + 30), (a_t + 31)] (a_t + 32) 51) (hf : FA h [a_t, (a_t + 22), (a_t + 23), (a_t + 30), (a_t + 31)] [.inr (10, fsX10 a_t a_c a_s), .inr (6, fsX6 (a_t + 22) t_row_flaws t_row_slipped t_row_gone t_row_work t_row_out t_row_lost t_row_came), IA E 100 t_row_signs, .inr (0, fsX0 (a_t + 30) t_acts_now t_acts_last), RK E 51 (a_t + 32) t_acts_kept]) (hF : FF E h (a_t + 32) 51 t_acts_kept_R) (ok_t_row_flaws : inI t_row_flaws) (ok_t_row_slipped : inI t_row_slipped) (ok_t_row_gone : inI t_row_gone) (ok_t_row_work : inJ t_row_work) (ok_t_row_out : inI t_row_out) (ok_t_row_lost : inI t_row_lost) (ok_t_row_came : inI t_row_came) (ok_t_row_signs : okA t_row_signs) (ok_t_acts_now : inI t_acts_now) (ok_t_acts_last : inI t_acts_last) (ok_t_acts_kept : True) (ok_t_acts_kept_R : okR t_acts_kept_R) (ok_v1 : inI v1) (ok_v2 : inI v2) {r : Int × Int × (Nat → Int) × Int × Int × (Nat → Nat) × (Nat → RowT)} (hm : m_X10_put t_row_flaws t_row_slipped t_row_gone t_row_work t_row_out t_row_lost t_row_came t_row_signs t_acts_now t_acts_last t_acts_kept t_acts_kept_R v1 v2 = some r) : Ct l E b0 M_X10_put 0 0 [.ref a_t, vI v1, vI v2] h n (some (vI r.1)) (ov [a_t, (a_t + 22), (a_t + 23), (a_t + 30), (a_t + 31)] [.inr (10, fsX10 a_t a_c a_s), .inr (6, fsX6 (a_t + 22) r.2.1 t_row_slipped t_row_gone t_row_work t_row_out t_row_lost t_row_came), IA E 100 r.2.2.1, .inr (0, fsX0 (a_t + 30) r.2.2.2.1 r.2.2.2.2.1), RK E 51 (a_t + 32) r.2.2.2.2.2.1] (fam E (a_t + 32) 51 r.2.2.2.2.2.2 h)) n (inZ r.1 ∧ inI r.2.1 ∧ okA r.2.2.1 ∧ inI r.2.2.2.1 ∧ inI r.2.2.2.2.1 ∧ True ∧ okR r.2.2.2.2.2.2) := by
  rw [m_X10_put] at hm
  have hg : G l E b0 M_X10_put (fun _ => True) (ZM E b0 (some (vI r.1)) (ov [a_t, (a_t + 22), (a_t + 23), (a_t + 30), (a_t + 31)] [.inr (10, fsX10 a_t a_c a_s), .inr (6, fsX6 (a_t + 22) r.2.1 t_row_slipped t_row_gone t_row_work t_row_out t_row_lost t_row_came), IA E 100 r.2.2.1, .inr (0, fsX0 (a_t + 30) r.2.2.2.1 r.2.2.2.2.1), RK E 51 (a_t + 32) r.2.2.2.2.2.1] (fam E (a_t + 32) 51 r.2.2.2.2.2.2 h)) n (inZ r.1 ∧ inI r.2.1 ∧ okA r.2.2.1 ∧ inI r.2.2.2.1 ∧ inI r.2.2.2.2.1 ∧ True ∧ okR r.2.2.2.2.2.2) 0 0) 0 0 n (ov [a_t, (a_t + 22), (a_t + 23), (a_t + 30), (a_t + 31)] [.inr (10, fsX10 a_t a_c a_s), .inr (6, fsX6 (a_t + 22) t_row_flaws t_row_slipped t_row_gone t_row_work t_row_out t_row_lost t_row_came), IA E 100 t_row_signs, .inr (0, fsX0 (a_t + 30) t_acts_now t_acts_last), RK E 51 (a_t + 32) t_acts_kept] (fam E (a_t + 32) 51 t_acts_kept_R h)) 0 [some (.ref a_t), some (vI v1), some (vI v2), none] [] := by
    have hs := hm
    exact g_X10_put_0 ao fo ok_t_row_flaws ok_t_row_slipped ok_t_row_gone ok_t_row_work ok_t_row_out ok_t_row_lost ok_t_row_came ok_t_row_signs ok_t_acts_now ok_t_acts_last ok_t_acts_kept ok_t_acts_kept_R ok_v1 ok_v2 hs
  rw [FF_id hF] at hg
  rw [FA_id hf] at hg
  exact Ct_of [some (.ref a_t), some (vI v1), some (vI v2), none] ⟨by decide +kernel, rfl⟩ rfl (Nat.le_of_ble_eq_true rfl) hg

/-! ===== X10_feels ===== -/
theorem e_X10_feels_0 : DC cX10_feels 0 (.aload_n 0) 1 1 := ⟨by decide +kernel, rfl⟩
theorem e_X10_feels_1 : DC cX10_feels 1 (.getfield 33) 3 4 := ⟨by decide +kernel, rfl⟩
theorem e_X10_feels_4 : DC cX10_feels 4 (.iload_n 1) 1 5 := ⟨by decide +kernel, rfl⟩
theorem e_X10_feels_5 : DC cX10_feels 5 (.invokevirtual 202) 3 8 := ⟨by decide +kernel, rfl⟩
theorem e_X10_feels_8 : DC cX10_feels 8 (.istore_n 3) 1 9 := ⟨by decide +kernel, rfl⟩
theorem e_X10_feels_9 : DC cX10_feels 9 (.iload_n 3) 1 10 := ⟨by decide +kernel, rfl⟩
theorem e_X10_feels_10 : DB cX10_feels 10 (.ifCond .eq 10) (10) 3 13 20 := ⟨by decide +kernel, rfl, rfl⟩
theorem e_X10_feels_13 : DC cX10_feels 13 (.iload_n 2) 1 14 := ⟨by decide +kernel, rfl⟩
theorem e_X10_feels_14 : DC cX10_feels 14 (.invokestatic 205) 3 17 := ⟨by decide +kernel, rfl⟩
theorem e_X10_feels_17 : DB cX10_feels 17 (.ifCond .ne 8) (8) 3 20 25 := ⟨by decide +kernel, rfl, rfl⟩
theorem e_X10_feels_20 : DC cX10_feels 20 (.ldc 208) 2 22 := ⟨by decide +kernel, rfl⟩
theorem e_X10_feels_22 : DB cX10_feels 22 (.goto 21) (21) 3 25 43 := ⟨by decide +kernel, rfl, rfl⟩
theorem e_X10_feels_25 : DC cX10_feels 25 (.iload_n 3) 1 26 := ⟨by decide +kernel, rfl⟩
theorem e_X10_feels_26 : DC cX10_feels 26 (.aload_n 0) 1 27 := ⟨by decide +kernel, rfl⟩
theorem e_X10_feels_27 : DC cX10_feels 27 (.getfield 33) 3 30 := ⟨by decide +kernel, rfl⟩
theorem e_X10_feels_30 : DC cX10_feels 30 (.aload_n 0) 1 31 := ⟨by decide +kernel, rfl⟩
theorem e_X10_feels_31 : DC cX10_feels 31 (.getfield 64) 3 34 := ⟨by decide +kernel, rfl⟩
theorem e_X10_feels_34 : DC cX10_feels 34 (.getfield 106) 3 37 := ⟨by decide +kernel, rfl⟩
theorem e_X10_feels_37 : DC cX10_feels 37 (.iload_n 1) 1 38 := ⟨by decide +kernel, rfl⟩
theorem e_X10_feels_38 : DC cX10_feels 38 (.iload_n 2) 1 39 := ⟨by decide +kernel, rfl⟩
theorem e_X10_feels_39 : DC cX10_feels 39 (.invokevirtual 209) 3 42 := ⟨by decide +kernel, rfl⟩
theorem e_X10_feels_42 : DC cX10_feels 42 (.imul) 1 43 := ⟨by decide +kernel, rfl⟩
theorem e_X10_feels_43 : DC cX10_feels 43 (.ireturn) 1 44 := ⟨by decide +kernel, rfl⟩
noncomputable def m_X10_feels_20 : Option (Int) :=
  some ((-1000000000))

set_option maxRecDepth 10000 in
set_option maxHeartbeats 8000000 in
theorem g_X10_feels_20 {l : Launch} {E : EE} {b0 n : Nat} {h : AH} {a_t a_c a_s : Nat} {t_row_flaws t_row_slipped t_row_gone t_row_work t_row_out t_row_lost t_row_came t_crystal_sightMany t_crystal_ground_speckMany t_crystal_ground_sourceMany t_crystal_ground_baseTold t_crystal_ground_baseLow t_crystal_ground_baseHigh t_crystal_ground_reach : Int} {t_row_signs t_crystal_ground_pushes : Nat → Int} {r : Int} (ao : AO b0 n [a_t, (a_t + 22), (a_t + 23), a_c, (a_c + 13), (a_c + 14)]) (ok_t_row_signs : okA t_row_signs) (ok_t_crystal_ground_reach : inI t_crystal_ground_reach) (ok_t_crystal_ground_pushes : okA t_crystal_ground_pushes) (hs : m_X10_feels_20 = some r) : G l E b0 M_X10_feels (fun _ => True) (ZM E b0 (some (vI r)) (ov [a_t, (a_t + 22), (a_t + 23), a_c, (a_c + 13), (a_c + 14)] [.inr (10, fsX10 a_t a_c a_s), .inr (6, fsX6 (a_t + 22) t_row_flaws t_row_slipped t_row_gone t_row_work t_row_out t_row_lost t_row_came), IA E 100 t_row_signs, .inr (1, fsX1 a_c t_crystal_sightMany), .inr (3, fsX3 (a_c + 13) t_crystal_ground_speckMany t_crystal_ground_sourceMany t_crystal_ground_baseTold t_crystal_ground_baseLow t_crystal_ground_baseHigh t_crystal_ground_reach), IA E 21 t_crystal_ground_pushes] h) n (inI r) 0 0) 0 0 n (ov [a_t, (a_t + 22), (a_t + 23), a_c, (a_c + 13), (a_c + 14)] [.inr (10, fsX10 a_t a_c a_s), .inr (6, fsX6 (a_t + 22) t_row_flaws t_row_slipped t_row_gone t_row_work t_row_out t_row_lost t_row_came), IA E 100 t_row_signs, .inr (1, fsX1 a_c t_crystal_sightMany), .inr (3, fsX3 (a_c + 13) t_crystal_ground_speckMany t_crystal_ground_sourceMany t_crystal_ground_baseTold t_crystal_ground_baseLow t_crystal_ground_baseHigh t_crystal_ground_reach), IA E 21 t_crystal_ground_pushes] h) 20 [none, none, none, none] [] := by
  rw [m_X10_feels_20] at hs
  refine g_ldc (a := -1000000000) e_X10_feels_20 k_X10_208 ?_
  refine g_goto e_X10_feels_22 ?_
  obtain rfl := Option.some.inj hs
  exact g_iret rfl (by decide : inI (-1000000000)) e_X10_feels_43

noncomputable def m_X10_feels_0 (t_row_signs : Nat → Int) (t_crystal_ground_reach : Int) (t_crystal_ground_pushes : Nat → Int) (v1 : Int) (v2 : Int) : Option (Int) :=
  (m_X6_signAt t_row_signs v1).bind (fun y1 => if y1 = 0 then (m_X10_feels_20) else ((m_X10_isPull v2).bind (fun y2 => if y2 = 0 then (m_X10_feels_20) else ((m_X6_forceAt t_row_signs t_crystal_ground_reach t_crystal_ground_pushes v1 v2).bind (fun y3 => chk (inI (y1 * y3)) (some (y1 * y3)))))))

set_option maxRecDepth 10000 in
set_option maxHeartbeats 8000000 in
theorem g_X10_feels_0 {l : Launch} {E : EE} {b0 n : Nat} {h : AH} {a_t a_c a_s : Nat} {t_row_flaws t_row_slipped t_row_gone t_row_work t_row_out t_row_lost t_row_came t_crystal_sightMany t_crystal_ground_speckMany t_crystal_ground_sourceMany t_crystal_ground_baseTold t_crystal_ground_baseLow t_crystal_ground_baseHigh t_crystal_ground_reach v1 v2 : Int} {t_row_signs t_crystal_ground_pushes : Nat → Int} {r : Int} (ao : AO b0 n [a_t, (a_t + 22), (a_t + 23), a_c, (a_c + 13), (a_c + 14)]) (ok_t_row_signs : okA t_row_signs) (ok_t_crystal_ground_reach : inI t_crystal_ground_reach) (ok_t_crystal_ground_pushes : okA t_crystal_ground_pushes) (ok_v1 : inI v1) (ok_v2 : inI v2) (hs : m_X10_feels_0 t_row_signs t_crystal_ground_reach t_crystal_ground_pushes v1 v2 = some r) : G l E b0 M_X10_feels (fun _ => True) (ZM E b0 (some (vI r)) (ov [a_t, (a_t + 22), (a_t + 23), a_c, (a_c + 13), (a_c + 14)] [.inr (10, fsX10 a_t a_c a_s), .inr (6, fsX6 (a_t + 22) t_row_flaws t_row_slipped t_row_gone t_row_work t_row_out t_row_lost t_row_came), IA E 100 t_row_signs, .inr (1, fsX1 a_c t_crystal_sightMany), .inr (3, fsX3 (a_c + 13) t_crystal_ground_speckMany t_crystal_ground_sourceMany t_crystal_ground_baseTold t_crystal_ground_baseLow t_crystal_ground_baseHigh t_crystal_ground_reach), IA E 21 t_crystal_ground_pushes] h) n (inI r) 0 0) 0 0 n (ov [a_t, (a_t + 22), (a_t + 23), a_c, (a_c + 13), (a_c + 14)] [.inr (10, fsX10 a_t a_c a_s), .inr (6, fsX6 (a_t + 22) t_row_flaws t_row_slipped t_row_gone t_row_work t_row_out t_row_lost t_row_came), IA E 100 t_row_signs, .inr (1, fsX1 a_c t_crystal_sightMany), .inr (3, fsX3 (a_c + 13) t_crystal_ground_speckMany t_crystal_ground_sourceMany t_crystal_ground_baseTold t_crystal_ground_baseLow t_crystal_ground_baseHigh t_crystal_ground_reach), IA E 21 t_crystal_ground_pushes] h) 0 [some (.ref a_t), some (vI v1), some (vI v2), none] [] := by
  rw [m_X10_feels_0] at hs
  refine g_aload_n e_X10_feels_0 rfl ?_
  refine g_get 0 3 ao rfl rfl fsX10_g3 fl_X10_33 e_X10_feels_1 ?_
  refine g_iload_n e_X10_feels_4 rfl ?_
  obtain ⟨y1, hy1, hs⟩ := bind_elim hs
  refine g_callVr [vI v1] cv_X10_202 ⟨rfl, rfl, Nat.le_of_ble_eq_true rfl, Nat.le_of_ble_eq_true rfl⟩ (ct_X6_signAt (a_t := (a_t + 22)) (AO_call [1, 2] ao (by decide) rfl) (FA_call [1, 2] ao.1 rfl rfl) ok_t_row_signs ok_v1 hy1) e_X10_feels_5 (ao.2 1 _ rfl) (ov_get 1 ao.1 rfl rfl) rfl rfl rfl (Nat.le_of_ble_eq_true rfl) ⟨Nat.le_refl _, Nat.le_refl _⟩ (fun Py1 => ?_)
  refine g_istore_n e_X10_feels_8 st1_3 rfl ?_
  refine g_iload_n e_X10_feels_9 rfl ?_
  refine g_if_eq e_X10_feels_10 Py1 hs (fun c10 hs => ?_) (fun c10 hs => ?_)
  · exact g_mask [false, false, false, false] (g_X10_feels_20 ao ok_t_row_signs ok_t_crystal_ground_reach ok_t_crystal_ground_pushes hs)
  · refine g_iload_n e_X10_feels_13 rfl ?_
    obtain ⟨y2, hy2, hs⟩ := bind_elim hs
    refine g_callSr [vI v2] cs_X10_205 ⟨rfl, rfl, Nat.le_of_ble_eq_true rfl, Nat.le_of_ble_eq_true rfl⟩ (ct_X10_isPull ⟨List.nodup_nil, fun i a h => by simp at h⟩ (fun i a e h => by simp at h) ok_v2 hy2) e_X10_feels_14 rfl rfl (Nat.le_of_ble_eq_true rfl) ⟨Nat.le_refl _, Nat.le_refl _⟩ (fun Py2 => ?_)
    refine g_if_ne e_X10_feels_17 (inZ_I Py2) hs (fun c17 hs => ?_) (fun c17 hs => ?_)
    · exact g_mask [false, false, false, false] (g_X10_feels_20 ao ok_t_row_signs ok_t_crystal_ground_reach ok_t_crystal_ground_pushes hs)
    · refine g_iload_n e_X10_feels_25 rfl ?_
      refine g_aload_n e_X10_feels_26 rfl ?_
      refine g_get 0 3 ao rfl rfl fsX10_g3 fl_X10_33 e_X10_feels_27 ?_
      refine g_aload_n e_X10_feels_30 rfl ?_
      refine g_get 0 8 ao rfl rfl fsX10_g8 fl_X10_64 e_X10_feels_31 ?_
      refine g_get 3 3 ao rfl rfl fsX1_g3 fl_X10_106 e_X10_feels_34 ?_
      refine g_iload_n e_X10_feels_37 rfl ?_
      refine g_iload_n e_X10_feels_38 rfl ?_
      obtain ⟨y3, hy3, hs⟩ := bind_elim hs
      refine g_callVr [.ref (a_c + 13), vI v1, vI v2] cv_X10_209 ⟨rfl, rfl, Nat.le_of_ble_eq_true rfl, Nat.le_of_ble_eq_true rfl⟩ (ct_X6_forceAt (a_t := (a_t + 22)) (a_p1 := (a_c + 13)) (AO_call [1, 2, 4, 5] ao (by decide) rfl) (FA_call [1, 2, 4, 5] ao.1 rfl rfl) ok_t_row_signs ok_t_crystal_ground_reach ok_t_crystal_ground_pushes ok_v1 ok_v2 hy3) e_X10_feels_39 (ao.2 1 _ rfl) (ov_get 1 ao.1 rfl rfl) rfl rfl rfl (Nat.le_of_ble_eq_true rfl) ⟨Nat.le_refl _, Nat.le_refl _⟩ (fun Py3 => ?_)
      refine g_imul e_X10_feels_42 ?_
      obtain ⟨hc4, hs⟩ := chk_elim hs
      obtain rfl := Option.some.inj hs
      exact g_iret rfl hc4 e_X10_feels_43

noncomputable def m_X10_feels (t_row_signs : Nat → Int) (t_crystal_ground_reach : Int) (t_crystal_ground_pushes : Nat → Int) (v1 : Int) (v2 : Int) : Option (Int) := m_X10_feels_0 t_row_signs t_crystal_ground_reach t_crystal_ground_pushes v1 v2

set_option maxRecDepth 10000 in
set_option maxHeartbeats 8000000 in
theorem ct_X10_feels {l : Launch} {E : EE} {b0 n : Nat} {h : AH} {a_t a_c a_s : Nat} {t_row_flaws t_row_slipped t_row_gone t_row_work t_row_out t_row_lost t_row_came t_crystal_sightMany t_crystal_ground_speckMany t_crystal_ground_sourceMany t_crystal_ground_baseTold t_crystal_ground_baseLow t_crystal_ground_baseHigh t_crystal_ground_reach : Int} {t_row_signs t_crystal_ground_pushes : Nat → Int} {v1 v2 : Int} (ao : AO b0 n [a_t, (a_t + 22), (a_t + 23), a_c, (a_c + 13), (a_c + 14)]) (hf : FA h [a_t, (a_t + 22), (a_t + 23), a_c, (a_c + 13), (a_c + 14)] [.inr (10, fsX10 a_t a_c a_s), .inr (6, fsX6 (a_t + 22) t_row_flaws t_row_slipped t_row_gone t_row_work t_row_out t_row_lost t_row_came), IA E 100 t_row_signs, .inr (1, fsX1 a_c t_crystal_sightMany), .inr (3, fsX3 (a_c + 13) t_crystal_ground_speckMany t_crystal_ground_sourceMany t_crystal_ground_baseTold t_crystal_ground_baseLow t_crystal_ground_baseHigh t_crystal_ground_reach), IA E 21 t_crystal_ground_pushes]) (ok_t_row_signs : okA t_row_signs) (ok_t_crystal_ground_reach : inI t_crystal_ground_reach) (ok_t_crystal_ground_pushes : okA t_crystal_ground_pushes) (ok_v1 : inI v1) (ok_v2 : inI v2) {r : Int} (hm : m_X10_feels t_row_signs t_crystal_ground_reach t_crystal_ground_pushes v1 v2 = some r) : Ct l E b0 M_X10_feels 0 0 [.ref a_t, vI v1, vI v2] h n (some (vI r)) h n (inI r) := by
  rw [m_X10_feels] at hm
  have hg : G l E b0 M_X10_feels (fun _ => True) (ZM E b0 (some (vI r)) (ov [a_t, (a_t + 22), (a_t + 23), a_c, (a_c + 13), (a_c + 14)] [.inr (10, fsX10 a_t a_c a_s), .inr (6, fsX6 (a_t + 22) t_row_flaws t_row_slipped t_row_gone t_row_work t_row_out t_row_lost t_row_came), IA E 100 t_row_signs, .inr (1, fsX1 a_c t_crystal_sightMany), .inr (3, fsX3 (a_c + 13) t_crystal_ground_speckMany t_crystal_ground_sourceMany t_crystal_ground_baseTold t_crystal_ground_baseLow t_crystal_ground_baseHigh t_crystal_ground_reach), IA E 21 t_crystal_ground_pushes] h) n (inI r) 0 0) 0 0 n (ov [a_t, (a_t + 22), (a_t + 23), a_c, (a_c + 13), (a_c + 14)] [.inr (10, fsX10 a_t a_c a_s), .inr (6, fsX6 (a_t + 22) t_row_flaws t_row_slipped t_row_gone t_row_work t_row_out t_row_lost t_row_came), IA E 100 t_row_signs, .inr (1, fsX1 a_c t_crystal_sightMany), .inr (3, fsX3 (a_c + 13) t_crystal_ground_speckMany t_crystal_ground_sourceMany t_crystal_ground_baseTold t_crystal_ground_baseLow t_crystal_ground_baseHigh t_crystal_ground_reach), IA E 21 t_crystal_ground_pushes] h) 0 [some (.ref a_t), some (vI v1), some (vI v2), none] [] := by
    have hs := hm
    exact g_X10_feels_0 ao ok_t_row_signs ok_t_crystal_ground_reach ok_t_crystal_ground_pushes ok_v1 ok_v2 hs
  rw [FA_id hf] at hg
  exact Ct_of [some (.ref a_t), some (vI v1), some (vI v2), none] ⟨by decide +kernel, rfl⟩ rfl (Nat.le_of_ble_eq_true rfl) hg

/-! ===== X10_clear ===== -/
theorem e_X10_clear_0 : DC cX10_clear 0 (.aload_n 0) 1 1 := ⟨by decide +kernel, rfl⟩
theorem e_X10_clear_1 : DC cX10_clear 1 (.getfield 33) 3 4 := ⟨by decide +kernel, rfl⟩
theorem e_X10_clear_4 : DC cX10_clear 4 (.getfield 213) 3 7 := ⟨by decide +kernel, rfl⟩
theorem e_X10_clear_7 : DC cX10_clear 7 (.istore_n 1) 1 8 := ⟨by decide +kernel, rfl⟩
theorem e_X10_clear_8 : DC cX10_clear 8 (.aload_n 0) 1 9 := ⟨by decide +kernel, rfl⟩
theorem e_X10_clear_9 : DC cX10_clear 9 (.getfield 33) 3 12 := ⟨by decide +kernel, rfl⟩
theorem e_X10_clear_12 : DC cX10_clear 12 (.invokevirtual 217) 3 15 := ⟨by decide +kernel, rfl⟩
theorem e_X10_clear_15 : DC cX10_clear 15 (.aload_n 0) 1 16 := ⟨by decide +kernel, rfl⟩
theorem e_X10_clear_16 : DC cX10_clear 16 (.getfield 43) 3 19 := ⟨by decide +kernel, rfl⟩
theorem e_X10_clear_19 : DC cX10_clear 19 (.aload_n 0) 1 20 := ⟨by decide +kernel, rfl⟩
theorem e_X10_clear_20 : DC cX10_clear 20 (.getfield 33) 3 23 := ⟨by decide +kernel, rfl⟩
theorem e_X10_clear_23 : DC cX10_clear 23 (.invokevirtual 198) 3 26 := ⟨by decide +kernel, rfl⟩
theorem e_X10_clear_26 : DC cX10_clear 26 (.iload_n 1) 1 27 := ⟨by decide +kernel, rfl⟩
theorem e_X10_clear_27 : DC cX10_clear 27 (.ireturn) 1 28 := ⟨by decide +kernel, rfl⟩
noncomputable def m_X10_clear_0 (t_row_flaws : Int) (t_row_slipped : Int) (t_row_gone : Int) (t_row_work : Int) (t_row_out : Int) (t_row_lost : Int) (t_row_came : Int) (t_row_signs : Nat → Int) (t_acts_now : Int) (t_acts_last : Int) (t_acts_kept : Nat → Nat) (t_acts_kept_R : Nat → RowT) : Option (Int × Int × Int × Int × Int × Int × Int × Int × (Nat → Int) × Int × Int × (Nat → Nat) × (Nat → RowT)) :=
  (m_X6_drop t_row_flaws t_row_slipped t_row_gone t_row_work t_row_out t_row_lost t_row_came t_row_signs).bind (fun y1 => (m_X0_keep t_acts_now t_acts_last t_acts_kept y1.1 y1.2.1 y1.2.2.1 y1.2.2.2.1 y1.2.2.2.2.1 y1.2.2.2.2.2.1 y1.2.2.2.2.2.2.1 y1.2.2.2.2.2.2.2 t_acts_kept_R).bind (fun y2 => some (t_row_flaws, y1.1, y1.2.1, y1.2.2.1, y1.2.2.2.1, y1.2.2.2.2.1, y1.2.2.2.2.2.1, y1.2.2.2.2.2.2.1, y1.2.2.2.2.2.2.2, y2.1, y2.2.1, y2.2.2.1, y2.2.2.2)))

set_option maxRecDepth 10000 in
set_option maxHeartbeats 8000000 in
theorem g_X10_clear_0 {l : Launch} {E : EE} {b0 n : Nat} {h : AH} {a_t a_c a_s : Nat} {t_row_flaws t_row_slipped t_row_gone t_row_work t_row_out t_row_lost t_row_came t_acts_now t_acts_last : Int} {t_row_signs : Nat → Int} {t_acts_kept : Nat → Nat} {t_acts_kept_R : Nat → RowT} {r : Int × Int × Int × Int × Int × Int × Int × Int × (Nat → Int) × Int × Int × (Nat → Nat) × (Nat → RowT)} (ao : AO b0 n [a_t, (a_t + 22), (a_t + 23), (a_t + 30), (a_t + 31)]) (fo : FO b0 n [a_t, (a_t + 22), (a_t + 23), (a_t + 30), (a_t + 31)] (a_t + 32) 51) (ok_t_row_flaws : inI t_row_flaws) (ok_t_row_slipped : inI t_row_slipped) (ok_t_row_gone : inI t_row_gone) (ok_t_row_work : inJ t_row_work) (ok_t_row_out : inI t_row_out) (ok_t_row_lost : inI t_row_lost) (ok_t_row_came : inI t_row_came) (ok_t_row_signs : okA t_row_signs) (ok_t_acts_now : inI t_acts_now) (ok_t_acts_last : inI t_acts_last) (ok_t_acts_kept : True) (ok_t_acts_kept_R : okR t_acts_kept_R) (hs : m_X10_clear_0 t_row_flaws t_row_slipped t_row_gone t_row_work t_row_out t_row_lost t_row_came t_row_signs t_acts_now t_acts_last t_acts_kept t_acts_kept_R = some r) : G l E b0 M_X10_clear (fun _ => True) (ZM E b0 (some (vI r.1)) (ov [a_t, (a_t + 22), (a_t + 23), (a_t + 30), (a_t + 31)] [.inr (10, fsX10 a_t a_c a_s), .inr (6, fsX6 (a_t + 22) r.2.1 r.2.2.1 r.2.2.2.1 r.2.2.2.2.1 r.2.2.2.2.2.1 r.2.2.2.2.2.2.1 r.2.2.2.2.2.2.2.1), IA E 100 r.2.2.2.2.2.2.2.2.1, .inr (0, fsX0 (a_t + 30) r.2.2.2.2.2.2.2.2.2.1 r.2.2.2.2.2.2.2.2.2.2.1), RK E 51 (a_t + 32) r.2.2.2.2.2.2.2.2.2.2.2.1] (fam E (a_t + 32) 51 r.2.2.2.2.2.2.2.2.2.2.2.2 h)) n (inI r.1 ∧ inI r.2.1 ∧ inI r.2.2.1 ∧ inI r.2.2.2.1 ∧ inJ r.2.2.2.2.1 ∧ inI r.2.2.2.2.2.1 ∧ inI r.2.2.2.2.2.2.1 ∧ inI r.2.2.2.2.2.2.2.1 ∧ okA r.2.2.2.2.2.2.2.2.1 ∧ inI r.2.2.2.2.2.2.2.2.2.1 ∧ inI r.2.2.2.2.2.2.2.2.2.2.1 ∧ True ∧ okR r.2.2.2.2.2.2.2.2.2.2.2.2) 0 0) 0 0 n (ov [a_t, (a_t + 22), (a_t + 23), (a_t + 30), (a_t + 31)] [.inr (10, fsX10 a_t a_c a_s), .inr (6, fsX6 (a_t + 22) t_row_flaws t_row_slipped t_row_gone t_row_work t_row_out t_row_lost t_row_came), IA E 100 t_row_signs, .inr (0, fsX0 (a_t + 30) t_acts_now t_acts_last), RK E 51 (a_t + 32) t_acts_kept] (fam E (a_t + 32) 51 t_acts_kept_R h)) 0 [some (.ref a_t), none] [] := by
  rw [m_X10_clear_0] at hs
  refine g_aload_n e_X10_clear_0 rfl ?_
  refine g_get 0 3 ao rfl rfl fsX10_g3 fl_X10_33 e_X10_clear_1 ?_
  refine g_get 1 3 ao rfl rfl fsX6_g3 fl_X10_213 e_X10_clear_4 ?_
  refine g_istore_n e_X10_clear_7 st1_1 rfl ?_
  refine g_aload_n e_X10_clear_8 rfl ?_
  refine g_get 0 3 ao rfl rfl fsX10_g3 fl_X10_33 e_X10_clear_9 ?_
  obtain ⟨y1, hy1, hs⟩ := bind_elim hs
  refine g_callVv [] cv_X10_217 ⟨rfl, rfl, Nat.le_of_ble_eq_true rfl, Nat.le_of_ble_eq_true rfl⟩ (Ct_heap (ct_X6_drop (a_t := (a_t + 22)) (AO_call [1, 2] ao (by decide) rfl) (FA_call [1, 2] ao.1 rfl rfl) ok_t_row_flaws ok_t_row_slipped ok_t_row_gone ok_t_row_work ok_t_row_out ok_t_row_lost ok_t_row_came ok_t_row_signs hy1) (ov_callN (esn := [.inr (10, fsX10 a_t a_c a_s), .inr (6, fsX6 (a_t + 22) y1.1 y1.2.1 y1.2.2.1 y1.2.2.2.1 y1.2.2.2.2.1 y1.2.2.2.2.2.1 y1.2.2.2.2.2.2.1), IA E 100 y1.2.2.2.2.2.2.2, .inr (0, fsX0 (a_t + 30) t_acts_now t_acts_last), RK E 51 (a_t + 32) t_acts_kept]) [1, 2] [true, false, false, true, true] ao.1 rfl rfl rfl rfl rfl rfl (by decide))) e_X10_clear_12 (ao.2 1 _ rfl) (ov_get 1 ao.1 rfl rfl) rfl rfl rfl (Nat.le_of_ble_eq_true rfl) ⟨Nat.le_refl _, Nat.le_refl _⟩ (fun Py1 => ?_)
  refine g_aload_n e_X10_clear_15 rfl ?_
  refine g_get 0 5 ao rfl rfl fsX10_g5 fl_X10_43 e_X10_clear_16 ?_
  refine g_aload_n e_X10_clear_19 rfl ?_
  refine g_get 0 3 ao rfl rfl fsX10_g3 fl_X10_33 e_X10_clear_20 ?_
  obtain ⟨y2, hy2, hs⟩ := bind_elim hs
  refine g_callVv [.ref (a_t + 22)] cv_X10_198 ⟨rfl, rfl, Nat.le_of_ble_eq_true rfl, Nat.le_of_ble_eq_true rfl⟩ (Ct_heap (ct_X0_keep (a_t := (a_t + 30)) (a_p1 := (a_t + 22)) (AO_call [3, 4, 1, 2] ao (by decide) rfl) (FO_call [3, 4, 1, 2] fo rfl) (FA_call [3, 4, 1, 2] ao.1 rfl rfl) (FF_ov fo) ok_t_acts_now ok_t_acts_last ok_t_acts_kept Py1.1 Py1.2.1 Py1.2.2.1 Py1.2.2.2.1 Py1.2.2.2.2.1 Py1.2.2.2.2.2.1 Py1.2.2.2.2.2.2.1 Py1.2.2.2.2.2.2.2 ok_t_acts_kept_R hy2) (ovF_callN (esn := [.inr (10, fsX10 a_t a_c a_s), .inr (6, fsX6 (a_t + 22) y1.1 y1.2.1 y1.2.2.1 y1.2.2.2.1 y1.2.2.2.2.1 y1.2.2.2.2.2.1 y1.2.2.2.2.2.2.1), IA E 100 y1.2.2.2.2.2.2.2, .inr (0, fsX0 (a_t + 30) y2.1 y2.2.1), RK E 51 (a_t + 32) y2.2.2.1]) [3, 4, 1, 2] [true, false, false, false, false] fo ao.1 rfl rfl rfl rfl rfl rfl (by decide))) e_X10_clear_23 (ao.2 3 _ rfl) (ov_get 3 ao.1 rfl rfl) rfl rfl rfl (Nat.le_of_ble_eq_true rfl) ⟨Nat.le_refl _, Nat.le_refl _⟩ (fun Py2 => ?_)
  refine g_iload_n e_X10_clear_26 rfl ?_
  obtain rfl := Option.some.inj hs
  exact g_iret rfl ⟨ok_t_row_flaws, Py1.1, Py1.2.1, Py1.2.2.1, Py1.2.2.2.1, Py1.2.2.2.2.1, Py1.2.2.2.2.2.1, Py1.2.2.2.2.2.2.1, Py1.2.2.2.2.2.2.2, Py2.1, Py2.2.1, Py2.2.2.1, Py2.2.2.2⟩ e_X10_clear_27

noncomputable def m_X10_clear (t_row_flaws : Int) (t_row_slipped : Int) (t_row_gone : Int) (t_row_work : Int) (t_row_out : Int) (t_row_lost : Int) (t_row_came : Int) (t_row_signs : Nat → Int) (t_acts_now : Int) (t_acts_last : Int) (t_acts_kept : Nat → Nat) (t_acts_kept_R : Nat → RowT) : Option (Int × Int × Int × Int × Int × Int × Int × Int × (Nat → Int) × Int × Int × (Nat → Nat) × (Nat → RowT)) := m_X10_clear_0 t_row_flaws t_row_slipped t_row_gone t_row_work t_row_out t_row_lost t_row_came t_row_signs t_acts_now t_acts_last t_acts_kept t_acts_kept_R

set_option maxRecDepth 10000 in
set_option maxHeartbeats 8000000 in
theorem ct_X10_clear {l : Launch} {E : EE} {b0 n : Nat} {h : AH} {a_t a_c a_s : Nat} {t_row_flaws t_row_slipped t_row_gone t_row_work t_row_out t_row_lost t_row_came t_acts_now t_acts_last : Int} {t_row_signs : Nat → Int} {t_acts_kept : Nat → Nat} {t_acts_kept_R : Nat → RowT} (ao : AO b0 n [a_t, (a_t + 22), (a_t + 23), (a_t + 30), (a_t + 31)]) (fo : FO b0 n [a_t, (a_t + 22), (a_t + 23), (a_t + 30), (a_t + 31)] (a_t + 32) 51) (hf : FA h [a_t, (a_t + 22), (a_t + 23), (a_t + 30), (a_t + 31)] [.inr (10, fsX10 a_t a_c a_s), .inr (6, fsX6 (a_t + 22) t_row_flaws t_row_slipped t_row_gone t_row_work t_row_out t_row_lost t_row_came), IA E 100 t_row_signs, .inr (0, fsX0 (a_t + 30) t_acts_now t_acts_last), RK E 51 (a_t + 32) t_acts_kept]) (hF : FF E h (a_t + 32) 51 t_acts_kept_R) (ok_t_row_flaws : inI t_row_flaws) (ok_t_row_slipped : inI t_row_slipped) (ok_t_row_gone : inI t_row_gone) (ok_t_row_work : inJ t_row_work) (ok_t_row_out : inI t_row_out) (ok_t_row_lost : inI t_row_lost) (ok_t_row_came : inI t_row_came) (ok_t_row_signs : okA t_row_signs) (ok_t_acts_now : inI t_acts_now) (ok_t_acts_last : inI t_acts_last) (ok_t_acts_kept : True) (ok_t_acts_kept_R : okR t_acts_kept_R) {r : Int × Int × Int × Int × Int × Int × Int × Int × (Nat → Int) × Int × Int × (Nat → Nat) × (Nat → RowT)} (hm : m_X10_clear t_row_flaws t_row_slipped t_row_gone t_row_work t_row_out t_row_lost t_row_came t_row_signs t_acts_now t_acts_last t_acts_kept t_acts_kept_R = some r) : Ct l E b0 M_X10_clear 0 0 [.ref a_t] h n (some (vI r.1)) (ov [a_t, (a_t + 22), (a_t + 23), (a_t + 30), (a_t + 31)] [.inr (10, fsX10 a_t a_c a_s), .inr (6, fsX6 (a_t + 22) r.2.1 r.2.2.1 r.2.2.2.1 r.2.2.2.2.1 r.2.2.2.2.2.1 r.2.2.2.2.2.2.1 r.2.2.2.2.2.2.2.1), IA E 100 r.2.2.2.2.2.2.2.2.1, .inr (0, fsX0 (a_t + 30) r.2.2.2.2.2.2.2.2.2.1 r.2.2.2.2.2.2.2.2.2.2.1), RK E 51 (a_t + 32) r.2.2.2.2.2.2.2.2.2.2.2.1] (fam E (a_t + 32) 51 r.2.2.2.2.2.2.2.2.2.2.2.2 h)) n (inI r.1 ∧ inI r.2.1 ∧ inI r.2.2.1 ∧ inI r.2.2.2.1 ∧ inJ r.2.2.2.2.1 ∧ inI r.2.2.2.2.2.1 ∧ inI r.2.2.2.2.2.2.1 ∧ inI r.2.2.2.2.2.2.2.1 ∧ okA r.2.2.2.2.2.2.2.2.1 ∧ inI r.2.2.2.2.2.2.2.2.2.1 ∧ inI r.2.2.2.2.2.2.2.2.2.2.1 ∧ True ∧ okR r.2.2.2.2.2.2.2.2.2.2.2.2) := by
  rw [m_X10_clear] at hm
  have hg : G l E b0 M_X10_clear (fun _ => True) (ZM E b0 (some (vI r.1)) (ov [a_t, (a_t + 22), (a_t + 23), (a_t + 30), (a_t + 31)] [.inr (10, fsX10 a_t a_c a_s), .inr (6, fsX6 (a_t + 22) r.2.1 r.2.2.1 r.2.2.2.1 r.2.2.2.2.1 r.2.2.2.2.2.1 r.2.2.2.2.2.2.1 r.2.2.2.2.2.2.2.1), IA E 100 r.2.2.2.2.2.2.2.2.1, .inr (0, fsX0 (a_t + 30) r.2.2.2.2.2.2.2.2.2.1 r.2.2.2.2.2.2.2.2.2.2.1), RK E 51 (a_t + 32) r.2.2.2.2.2.2.2.2.2.2.2.1] (fam E (a_t + 32) 51 r.2.2.2.2.2.2.2.2.2.2.2.2 h)) n (inI r.1 ∧ inI r.2.1 ∧ inI r.2.2.1 ∧ inI r.2.2.2.1 ∧ inJ r.2.2.2.2.1 ∧ inI r.2.2.2.2.2.1 ∧ inI r.2.2.2.2.2.2.1 ∧ inI r.2.2.2.2.2.2.2.1 ∧ okA r.2.2.2.2.2.2.2.2.1 ∧ inI r.2.2.2.2.2.2.2.2.2.1 ∧ inI r.2.2.2.2.2.2.2.2.2.2.1 ∧ True ∧ okR r.2.2.2.2.2.2.2.2.2.2.2.2) 0 0) 0 0 n (ov [a_t, (a_t + 22), (a_t + 23), (a_t + 30), (a_t + 31)] [.inr (10, fsX10 a_t a_c a_s), .inr (6, fsX6 (a_t + 22) t_row_flaws t_row_slipped t_row_gone t_row_work t_row_out t_row_lost t_row_came), IA E 100 t_row_signs, .inr (0, fsX0 (a_t + 30) t_acts_now t_acts_last), RK E 51 (a_t + 32) t_acts_kept] (fam E (a_t + 32) 51 t_acts_kept_R h)) 0 [some (.ref a_t), none] [] := by
    have hs := hm
    exact g_X10_clear_0 ao fo ok_t_row_flaws ok_t_row_slipped ok_t_row_gone ok_t_row_work ok_t_row_out ok_t_row_lost ok_t_row_came ok_t_row_signs ok_t_acts_now ok_t_acts_last ok_t_acts_kept ok_t_acts_kept_R hs
  rw [FF_id hF] at hg
  rw [FA_id hf] at hg
  exact Ct_of [some (.ref a_t), none] ⟨by decide +kernel, rfl⟩ rfl (Nat.le_of_ble_eq_true rfl) hg

/-! ===== X10_back ===== -/
theorem e_X10_back_0 : DC cX10_back 0 (.aload_n 0) 1 1 := ⟨by decide +kernel, rfl⟩
theorem e_X10_back_1 : DC cX10_back 1 (.getfield 33) 3 4 := ⟨by decide +kernel, rfl⟩
theorem e_X10_back_4 : DC cX10_back 4 (.aload_n 0) 1 5 := ⟨by decide +kernel, rfl⟩
theorem e_X10_back_5 : DC cX10_back 5 (.getfield 37) 3 8 := ⟨by decide +kernel, rfl⟩
theorem e_X10_back_8 : DC cX10_back 8 (.invokevirtual 220) 3 11 := ⟨by decide +kernel, rfl⟩
theorem e_X10_back_11 : DC cX10_back 11 (.aload_n 0) 1 12 := ⟨by decide +kernel, rfl⟩
theorem e_X10_back_12 : DC cX10_back 12 (.getfield 43) 3 15 := ⟨by decide +kernel, rfl⟩
theorem e_X10_back_15 : DC cX10_back 15 (.aload_n 0) 1 16 := ⟨by decide +kernel, rfl⟩
theorem e_X10_back_16 : DC cX10_back 16 (.getfield 33) 3 19 := ⟨by decide +kernel, rfl⟩
theorem e_X10_back_19 : DC cX10_back 19 (.invokevirtual 198) 3 22 := ⟨by decide +kernel, rfl⟩
theorem e_X10_back_22 : DC cX10_back 22 (.aload_n 0) 1 23 := ⟨by decide +kernel, rfl⟩
theorem e_X10_back_23 : DC cX10_back 23 (.getfield 33) 3 26 := ⟨by decide +kernel, rfl⟩
theorem e_X10_back_26 : DC cX10_back 26 (.getfield 213) 3 29 := ⟨by decide +kernel, rfl⟩
theorem e_X10_back_29 : DC cX10_back 29 (.ireturn) 1 30 := ⟨by decide +kernel, rfl⟩
noncomputable def m_X10_back_0 (t_row_flaws : Int) (t_row_slipped : Int) (t_row_gone : Int) (t_row_work : Int) (t_row_out : Int) (t_row_lost : Int) (t_row_came : Int) (t_row_signs : Nat → Int) (t_marked_flaws : Int) (t_marked_signs : Nat → Int) (t_acts_now : Int) (t_acts_last : Int) (t_acts_kept : Nat → Nat) (t_acts_kept_R : Nat → RowT) : Option (Int × Int × (Nat → Int) × Int × Int × (Nat → Nat) × (Nat → RowT)) :=
  (m_X6_standAs t_row_flaws t_row_signs t_marked_flaws t_marked_signs).bind (fun y1 => (m_X0_keep t_acts_now t_acts_last t_acts_kept y1.1 t_row_slipped t_row_gone t_row_work t_row_out t_row_lost t_row_came y1.2 t_acts_kept_R).bind (fun y2 => some (y1.1, y1.1, y1.2, y2.1, y2.2.1, y2.2.2.1, y2.2.2.2)))

set_option maxRecDepth 10000 in
set_option maxHeartbeats 8000000 in
theorem g_X10_back_0 {l : Launch} {E : EE} {b0 n : Nat} {h : AH} {a_t a_c a_s : Nat} {t_row_flaws t_row_slipped t_row_gone t_row_work t_row_out t_row_lost t_row_came t_marked_flaws t_marked_slipped t_marked_gone t_marked_work t_marked_out t_marked_lost t_marked_came t_acts_now t_acts_last : Int} {t_row_signs t_marked_signs : Nat → Int} {t_acts_kept : Nat → Nat} {t_acts_kept_R : Nat → RowT} {r : Int × Int × (Nat → Int) × Int × Int × (Nat → Nat) × (Nat → RowT)} (ao : AO b0 n [a_t, (a_t + 22), (a_t + 23), (a_t + 26), (a_t + 27), (a_t + 30), (a_t + 31)]) (fo : FO b0 n [a_t, (a_t + 22), (a_t + 23), (a_t + 26), (a_t + 27), (a_t + 30), (a_t + 31)] (a_t + 32) 51) (ok_t_row_flaws : inI t_row_flaws) (ok_t_row_slipped : inI t_row_slipped) (ok_t_row_gone : inI t_row_gone) (ok_t_row_work : inJ t_row_work) (ok_t_row_out : inI t_row_out) (ok_t_row_lost : inI t_row_lost) (ok_t_row_came : inI t_row_came) (ok_t_row_signs : okA t_row_signs) (ok_t_marked_flaws : inI t_marked_flaws) (ok_t_marked_signs : okA t_marked_signs) (ok_t_acts_now : inI t_acts_now) (ok_t_acts_last : inI t_acts_last) (ok_t_acts_kept : True) (ok_t_acts_kept_R : okR t_acts_kept_R) (hs : m_X10_back_0 t_row_flaws t_row_slipped t_row_gone t_row_work t_row_out t_row_lost t_row_came t_row_signs t_marked_flaws t_marked_signs t_acts_now t_acts_last t_acts_kept t_acts_kept_R = some r) : G l E b0 M_X10_back (fun _ => True) (ZM E b0 (some (vI r.1)) (ov [a_t, (a_t + 22), (a_t + 23), (a_t + 26), (a_t + 27), (a_t + 30), (a_t + 31)] [.inr (10, fsX10 a_t a_c a_s), .inr (6, fsX6 (a_t + 22) r.2.1 t_row_slipped t_row_gone t_row_work t_row_out t_row_lost t_row_came), IA E 100 r.2.2.1, .inr (6, fsX6 (a_t + 26) t_marked_flaws t_marked_slipped t_marked_gone t_marked_work t_marked_out t_marked_lost t_marked_came), IA E 100 t_marked_signs, .inr (0, fsX0 (a_t + 30) r.2.2.2.1 r.2.2.2.2.1), RK E 51 (a_t + 32) r.2.2.2.2.2.1] (fam E (a_t + 32) 51 r.2.2.2.2.2.2 h)) n (inI r.1 ∧ inI r.2.1 ∧ okA r.2.2.1 ∧ inI r.2.2.2.1 ∧ inI r.2.2.2.2.1 ∧ True ∧ okR r.2.2.2.2.2.2) 0 0) 0 0 n (ov [a_t, (a_t + 22), (a_t + 23), (a_t + 26), (a_t + 27), (a_t + 30), (a_t + 31)] [.inr (10, fsX10 a_t a_c a_s), .inr (6, fsX6 (a_t + 22) t_row_flaws t_row_slipped t_row_gone t_row_work t_row_out t_row_lost t_row_came), IA E 100 t_row_signs, .inr (6, fsX6 (a_t + 26) t_marked_flaws t_marked_slipped t_marked_gone t_marked_work t_marked_out t_marked_lost t_marked_came), IA E 100 t_marked_signs, .inr (0, fsX0 (a_t + 30) t_acts_now t_acts_last), RK E 51 (a_t + 32) t_acts_kept] (fam E (a_t + 32) 51 t_acts_kept_R h)) 0 [some (.ref a_t)] [] := by
  rw [m_X10_back_0] at hs
  refine g_aload_n e_X10_back_0 rfl ?_
  refine g_get 0 3 ao rfl rfl fsX10_g3 fl_X10_33 e_X10_back_1 ?_
  refine g_aload_n e_X10_back_4 rfl ?_
  refine g_get 0 4 ao rfl rfl fsX10_g4 fl_X10_37 e_X10_back_5 ?_
  obtain ⟨y1, hy1, hs⟩ := bind_elim hs
  refine g_callVv [.ref (a_t + 26)] cv_X10_220 ⟨rfl, rfl, Nat.le_of_ble_eq_true rfl, Nat.le_of_ble_eq_true rfl⟩ (Ct_heap (ct_X6_standAs (a_t := (a_t + 22)) (a_p1 := (a_t + 26)) (AO_call [1, 2, 3, 4] ao (by decide) rfl) (FA_call [1, 2, 3, 4] ao.1 rfl rfl) ok_t_row_flaws ok_t_row_signs ok_t_marked_flaws ok_t_marked_signs hy1) (ov_callN (esn := [.inr (10, fsX10 a_t a_c a_s), .inr (6, fsX6 (a_t + 22) y1.1 t_row_slipped t_row_gone t_row_work t_row_out t_row_lost t_row_came), IA E 100 y1.2, .inr (6, fsX6 (a_t + 26) t_marked_flaws t_marked_slipped t_marked_gone t_marked_work t_marked_out t_marked_lost t_marked_came), IA E 100 t_marked_signs, .inr (0, fsX0 (a_t + 30) t_acts_now t_acts_last), RK E 51 (a_t + 32) t_acts_kept]) [1, 2, 3, 4] [true, false, false, false, false, true, true] ao.1 rfl rfl rfl rfl rfl rfl (by decide))) e_X10_back_8 (ao.2 1 _ rfl) (ov_get 1 ao.1 rfl rfl) rfl rfl rfl (Nat.le_of_ble_eq_true rfl) ⟨Nat.le_refl _, Nat.le_refl _⟩ (fun Py1 => ?_)
  refine g_aload_n e_X10_back_11 rfl ?_
  refine g_get 0 5 ao rfl rfl fsX10_g5 fl_X10_43 e_X10_back_12 ?_
  refine g_aload_n e_X10_back_15 rfl ?_
  refine g_get 0 3 ao rfl rfl fsX10_g3 fl_X10_33 e_X10_back_16 ?_
  obtain ⟨y2, hy2, hs⟩ := bind_elim hs
  refine g_callVv [.ref (a_t + 22)] cv_X10_198 ⟨rfl, rfl, Nat.le_of_ble_eq_true rfl, Nat.le_of_ble_eq_true rfl⟩ (Ct_heap (ct_X0_keep (a_t := (a_t + 30)) (a_p1 := (a_t + 22)) (AO_call [5, 6, 1, 2] ao (by decide) rfl) (FO_call [5, 6, 1, 2] fo rfl) (FA_call [5, 6, 1, 2] ao.1 rfl rfl) (FF_ov fo) ok_t_acts_now ok_t_acts_last ok_t_acts_kept Py1.1 ok_t_row_slipped ok_t_row_gone ok_t_row_work ok_t_row_out ok_t_row_lost ok_t_row_came Py1.2 ok_t_acts_kept_R hy2) (ovF_callN (esn := [.inr (10, fsX10 a_t a_c a_s), .inr (6, fsX6 (a_t + 22) y1.1 t_row_slipped t_row_gone t_row_work t_row_out t_row_lost t_row_came), IA E 100 y1.2, .inr (6, fsX6 (a_t + 26) t_marked_flaws t_marked_slipped t_marked_gone t_marked_work t_marked_out t_marked_lost t_marked_came), IA E 100 t_marked_signs, .inr (0, fsX0 (a_t + 30) y2.1 y2.2.1), RK E 51 (a_t + 32) y2.2.2.1]) [5, 6, 1, 2] [true, false, false, true, true, false, false] fo ao.1 rfl rfl rfl rfl rfl rfl (by decide))) e_X10_back_19 (ao.2 5 _ rfl) (ov_get 5 ao.1 rfl rfl) rfl rfl rfl (Nat.le_of_ble_eq_true rfl) ⟨Nat.le_refl _, Nat.le_refl _⟩ (fun Py2 => ?_)
  refine g_aload_n e_X10_back_22 rfl ?_
  refine g_get 0 3 ao rfl rfl fsX10_g3 fl_X10_33 e_X10_back_23 ?_
  refine g_get 1 3 ao rfl rfl fsX6_g3 fl_X10_213 e_X10_back_26 ?_
  obtain rfl := Option.some.inj hs
  exact g_iret rfl ⟨Py1.1, Py1.1, Py1.2, Py2.1, Py2.2.1, Py2.2.2.1, Py2.2.2.2⟩ e_X10_back_29

noncomputable def m_X10_back (t_row_flaws : Int) (t_row_slipped : Int) (t_row_gone : Int) (t_row_work : Int) (t_row_out : Int) (t_row_lost : Int) (t_row_came : Int) (t_row_signs : Nat → Int) (t_marked_flaws : Int) (t_marked_signs : Nat → Int) (t_acts_now : Int) (t_acts_last : Int) (t_acts_kept : Nat → Nat) (t_acts_kept_R : Nat → RowT) : Option (Int × Int × (Nat → Int) × Int × Int × (Nat → Nat) × (Nat → RowT)) := m_X10_back_0 t_row_flaws t_row_slipped t_row_gone t_row_work t_row_out t_row_lost t_row_came t_row_signs t_marked_flaws t_marked_signs t_acts_now t_acts_last t_acts_kept t_acts_kept_R

set_option maxRecDepth 10000 in
set_option maxHeartbeats 8000000 in
theorem ct_X10_back {l : Launch} {E : EE} {b0 n : Nat} {h : AH} {a_t a_c a_s : Nat} {t_row_flaws t_row_slipped t_row_gone t_row_work t_row_out t_row_lost t_row_came t_marked_flaws t_marked_slipped t_marked_gone t_marked_work t_marked_out t_marked_lost t_marked_came t_acts_now t_acts_last : Int} {t_row_signs t_marked_signs : Nat → Int} {t_acts_kept : Nat → Nat} {t_acts_kept_R : Nat → RowT} (ao : AO b0 n [a_t, (a_t + 22), (a_t + 23), (a_t + 26), (a_t + 27), (a_t + 30), (a_t + 31)]) (fo : FO b0 n [a_t, (a_t + 22), (a_t + 23), (a_t + 26), (a_t + 27), (a_t + 30), (a_t + 31)] (a_t + 32) 51) (hf : FA h [a_t, (a_t + 22), (a_t + 23), (a_t + 26), (a_t + 27), (a_t + 30), (a_t + 31)] [.inr (10, fsX10 a_t a_c a_s), .inr (6, fsX6 (a_t + 22) t_row_flaws t_row_slipped t_row_gone t_row_work t_row_out t_row_lost t_row_came), IA E 100 t_row_signs, .inr (6, fsX6 (a_t + 26) t_marked_flaws t_marked_slipped t_marked_gone t_marked_work t_marked_out t_marked_lost t_marked_came), IA E 100 t_marked_signs, .inr (0, fsX0 (a_t + 30) t_acts_now t_acts_last), RK E 51 (a_t + 32) t_acts_kept]) (hF : FF E h (a_t + 32) 51 t_acts_kept_R) (ok_t_row_flaws : inI t_row_flaws) (ok_t_row_slipped : inI t_row_slipped) (ok_t_row_gone : inI t_row_gone) (ok_t_row_work : inJ t_row_work) (ok_t_row_out : inI t_row_out) (ok_t_row_lost : inI t_row_lost) (ok_t_row_came : inI t_row_came) (ok_t_row_signs : okA t_row_signs) (ok_t_marked_flaws : inI t_marked_flaws) (ok_t_marked_signs : okA t_marked_signs) (ok_t_acts_now : inI t_acts_now) (ok_t_acts_last : inI t_acts_last) (ok_t_acts_kept : True) (ok_t_acts_kept_R : okR t_acts_kept_R) {r : Int × Int × (Nat → Int) × Int × Int × (Nat → Nat) × (Nat → RowT)} (hm : m_X10_back t_row_flaws t_row_slipped t_row_gone t_row_work t_row_out t_row_lost t_row_came t_row_signs t_marked_flaws t_marked_signs t_acts_now t_acts_last t_acts_kept t_acts_kept_R = some r) : Ct l E b0 M_X10_back 0 0 [.ref a_t] h n (some (vI r.1)) (ov [a_t, (a_t + 22), (a_t + 23), (a_t + 26), (a_t + 27), (a_t + 30), (a_t + 31)] [.inr (10, fsX10 a_t a_c a_s), .inr (6, fsX6 (a_t + 22) r.2.1 t_row_slipped t_row_gone t_row_work t_row_out t_row_lost t_row_came), IA E 100 r.2.2.1, .inr (6, fsX6 (a_t + 26) t_marked_flaws t_marked_slipped t_marked_gone t_marked_work t_marked_out t_marked_lost t_marked_came), IA E 100 t_marked_signs, .inr (0, fsX0 (a_t + 30) r.2.2.2.1 r.2.2.2.2.1), RK E 51 (a_t + 32) r.2.2.2.2.2.1] (fam E (a_t + 32) 51 r.2.2.2.2.2.2 h)) n (inI r.1 ∧ inI r.2.1 ∧ okA r.2.2.1 ∧ inI r.2.2.2.1 ∧ inI r.2.2.2.2.1 ∧ True ∧ okR r.2.2.2.2.2.2) := by
  rw [m_X10_back] at hm
  have hg : G l E b0 M_X10_back (fun _ => True) (ZM E b0 (some (vI r.1)) (ov [a_t, (a_t + 22), (a_t + 23), (a_t + 26), (a_t + 27), (a_t + 30), (a_t + 31)] [.inr (10, fsX10 a_t a_c a_s), .inr (6, fsX6 (a_t + 22) r.2.1 t_row_slipped t_row_gone t_row_work t_row_out t_row_lost t_row_came), IA E 100 r.2.2.1, .inr (6, fsX6 (a_t + 26) t_marked_flaws t_marked_slipped t_marked_gone t_marked_work t_marked_out t_marked_lost t_marked_came), IA E 100 t_marked_signs, .inr (0, fsX0 (a_t + 30) r.2.2.2.1 r.2.2.2.2.1), RK E 51 (a_t + 32) r.2.2.2.2.2.1] (fam E (a_t + 32) 51 r.2.2.2.2.2.2 h)) n (inI r.1 ∧ inI r.2.1 ∧ okA r.2.2.1 ∧ inI r.2.2.2.1 ∧ inI r.2.2.2.2.1 ∧ True ∧ okR r.2.2.2.2.2.2) 0 0) 0 0 n (ov [a_t, (a_t + 22), (a_t + 23), (a_t + 26), (a_t + 27), (a_t + 30), (a_t + 31)] [.inr (10, fsX10 a_t a_c a_s), .inr (6, fsX6 (a_t + 22) t_row_flaws t_row_slipped t_row_gone t_row_work t_row_out t_row_lost t_row_came), IA E 100 t_row_signs, .inr (6, fsX6 (a_t + 26) t_marked_flaws t_marked_slipped t_marked_gone t_marked_work t_marked_out t_marked_lost t_marked_came), IA E 100 t_marked_signs, .inr (0, fsX0 (a_t + 30) t_acts_now t_acts_last), RK E 51 (a_t + 32) t_acts_kept] (fam E (a_t + 32) 51 t_acts_kept_R h)) 0 [some (.ref a_t)] [] := by
    have hs := hm
    exact g_X10_back_0 ao fo ok_t_row_flaws ok_t_row_slipped ok_t_row_gone ok_t_row_work ok_t_row_out ok_t_row_lost ok_t_row_came ok_t_row_signs ok_t_marked_flaws ok_t_marked_signs ok_t_acts_now ok_t_acts_last ok_t_acts_kept ok_t_acts_kept_R hs
  rw [FF_id hF] at hg
  rw [FA_id hf] at hg
  exact Ct_of [some (.ref a_t)] ⟨by decide +kernel, rfl⟩ rfl (Nat.le_of_ble_eq_true rfl) hg

/-! ===== X10_shape ===== -/
theorem e_X10_shape_0 : DC cX10_shape 0 (.aload_n 0) 1 1 := ⟨by decide +kernel, rfl⟩
theorem e_X10_shape_1 : DC cX10_shape 1 (.getfield 64) 3 4 := ⟨by decide +kernel, rfl⟩
theorem e_X10_shape_4 : DC cX10_shape 4 (.getfield 149) 3 7 := ⟨by decide +kernel, rfl⟩
theorem e_X10_shape_7 : DC cX10_shape 7 (.iload_n 1) 1 8 := ⟨by decide +kernel, rfl⟩
theorem e_X10_shape_8 : DC cX10_shape 8 (.invokevirtual 94) 3 11 := ⟨by decide +kernel, rfl⟩
theorem e_X10_shape_11 : DB cX10_shape 11 (.ifCond .eq 32) (32) 3 14 43 := ⟨by decide +kernel, rfl, rfl⟩
theorem e_X10_shape_14 : DC cX10_shape 14 (.aload_n 0) 1 15 := ⟨by decide +kernel, rfl⟩
theorem e_X10_shape_15 : DC cX10_shape 15 (.getfield 64) 3 18 := ⟨by decide +kernel, rfl⟩
theorem e_X10_shape_18 : DC cX10_shape 18 (.getfield 234) 3 21 := ⟨by decide +kernel, rfl⟩
theorem e_X10_shape_21 : DC cX10_shape 21 (.iload_n 2) 1 22 := ⟨by decide +kernel, rfl⟩
theorem e_X10_shape_22 : DC cX10_shape 22 (.invokevirtual 94) 3 25 := ⟨by decide +kernel, rfl⟩
theorem e_X10_shape_25 : DB cX10_shape 25 (.ifCond .eq 18) (18) 3 28 43 := ⟨by decide +kernel, rfl, rfl⟩
theorem e_X10_shape_28 : DC cX10_shape 28 (.iload_n 3) 1 29 := ⟨by decide +kernel, rfl⟩
theorem e_X10_shape_29 : DC cX10_shape 29 (.invokestatic 99) 3 32 := ⟨by decide +kernel, rfl⟩
theorem e_X10_shape_32 : DB cX10_shape 32 (.ifCond .eq 11) (11) 3 35 43 := ⟨by decide +kernel, rfl, rfl⟩
theorem e_X10_shape_35 : DC cX10_shape 35 (.iload 4) 2 37 := ⟨by decide +kernel, rfl⟩
theorem e_X10_shape_37 : DC cX10_shape 37 (.invokestatic 99) 3 40 := ⟨by decide +kernel, rfl⟩
theorem e_X10_shape_40 : DB cX10_shape 40 (.ifCond .ne 7) (7) 3 43 47 := ⟨by decide +kernel, rfl, rfl⟩
theorem e_X10_shape_43 : DC cX10_shape 43 (.ldc2_w 237) 3 46 := ⟨by decide +kernel, rfl⟩
theorem e_X10_shape_46 : DC cX10_shape 46 (.lreturn) 1 47 := ⟨by decide +kernel, rfl⟩
theorem e_X10_shape_47 : DC cX10_shape 47 (.aload_n 0) 1 48 := ⟨by decide +kernel, rfl⟩
theorem e_X10_shape_48 : DC cX10_shape 48 (.getfield 33) 3 51 := ⟨by decide +kernel, rfl⟩
theorem e_X10_shape_51 : DC cX10_shape 51 (.getfield 239) 3 54 := ⟨by decide +kernel, rfl⟩
theorem e_X10_shape_54 : DC cX10_shape 54 (.i2l) 1 55 := ⟨by decide +kernel, rfl⟩
theorem e_X10_shape_55 : DC cX10_shape 55 (.aload_n 0) 1 56 := ⟨by decide +kernel, rfl⟩
theorem e_X10_shape_56 : DC cX10_shape 56 (.getfield 64) 3 59 := ⟨by decide +kernel, rfl⟩
theorem e_X10_shape_59 : DC cX10_shape 59 (.getfield 149) 3 62 := ⟨by decide +kernel, rfl⟩
theorem e_X10_shape_62 : DC cX10_shape 62 (.iload_n 1) 1 63 := ⟨by decide +kernel, rfl⟩
theorem e_X10_shape_63 : DC cX10_shape 63 (.iload_n 3) 1 64 := ⟨by decide +kernel, rfl⟩
theorem e_X10_shape_64 : DC cX10_shape 64 (.invokevirtual 102) 3 67 := ⟨by decide +kernel, rfl⟩
theorem e_X10_shape_67 : DC cX10_shape 67 (.i2l) 1 68 := ⟨by decide +kernel, rfl⟩
theorem e_X10_shape_68 : DC cX10_shape 68 (.lmul) 1 69 := ⟨by decide +kernel, rfl⟩
theorem e_X10_shape_69 : DC cX10_shape 69 (.aload_n 0) 1 70 := ⟨by decide +kernel, rfl⟩
theorem e_X10_shape_70 : DC cX10_shape 70 (.getfield 64) 3 73 := ⟨by decide +kernel, rfl⟩
theorem e_X10_shape_73 : DC cX10_shape 73 (.getfield 234) 3 76 := ⟨by decide +kernel, rfl⟩
theorem e_X10_shape_76 : DC cX10_shape 76 (.iload_n 2) 1 77 := ⟨by decide +kernel, rfl⟩
theorem e_X10_shape_77 : DC cX10_shape 77 (.iload 4) 2 79 := ⟨by decide +kernel, rfl⟩
theorem e_X10_shape_79 : DC cX10_shape 79 (.invokevirtual 102) 3 82 := ⟨by decide +kernel, rfl⟩
theorem e_X10_shape_82 : DC cX10_shape 82 (.i2l) 1 83 := ⟨by decide +kernel, rfl⟩
theorem e_X10_shape_83 : DC cX10_shape 83 (.lmul) 1 84 := ⟨by decide +kernel, rfl⟩
theorem e_X10_shape_84 : DC cX10_shape 84 (.lreturn) 1 85 := ⟨by decide +kernel, rfl⟩
noncomputable def m_X10_shape_0 (t_row_slipped : Int) (t_crystal_steps_many : Int) (t_crystal_steps_xs : Nat → Int) (t_crystal_steps_ys : Nat → Int) (t_crystal_steps_zs : Nat → Int) (t_crystal_planes_many : Int) (t_crystal_planes_xs : Nat → Int) (t_crystal_planes_ys : Nat → Int) (t_crystal_planes_zs : Nat → Int) (v1 : Int) (v2 : Int) (v3 : Int) (v4 : Int) : Option (Int) :=
  (m_X8_has t_crystal_steps_many v1).bind (fun y1 => if y1 = 0 then (some ((-1000000000000))) else ((m_X8_has t_crystal_planes_many v2).bind (fun y2 => if y2 = 0 then (some ((-1000000000000))) else ((m_X10_isPart v3).bind (fun y3 => if y3 = 0 then (some ((-1000000000000))) else ((m_X10_isPart v4).bind (fun y4 => if y4 = 0 then (some ((-1000000000000))) else ((m_X8_partOf 16 t_crystal_steps_many t_crystal_steps_xs t_crystal_steps_ys t_crystal_steps_zs v1 v3).bind (fun y5 => (m_X8_partOf 16 t_crystal_planes_many t_crystal_planes_xs t_crystal_planes_ys t_crystal_planes_zs v2 v4).bind (fun y6 => chk (inJ ((t_row_slipped * y5) * y6)) (some ((t_row_slipped * y5) * y6))))))))))))

set_option maxRecDepth 10000 in
set_option maxHeartbeats 8000000 in
theorem g_X10_shape_0 {l : Launch} {E : EE} {b0 n : Nat} {h : AH} {a_t a_c a_s : Nat} {t_row_flaws t_row_slipped t_row_gone t_row_work t_row_out t_row_lost t_row_came t_crystal_sightMany t_crystal_steps_many t_crystal_planes_many v1 v2 v3 v4 : Int} {t_crystal_steps_xs t_crystal_steps_ys t_crystal_steps_zs t_crystal_planes_xs t_crystal_planes_ys t_crystal_planes_zs : Nat → Int} {r : Int} (ao : AO b0 n [a_t, (a_t + 22), a_c, (a_c + 1), (a_c + 2), (a_c + 3), (a_c + 4), (a_c + 5), (a_c + 6), (a_c + 7), (a_c + 8)]) (ok_t_row_slipped : inI t_row_slipped) (ok_t_crystal_steps_many : inI t_crystal_steps_many) (ok_t_crystal_steps_xs : okA t_crystal_steps_xs) (ok_t_crystal_steps_ys : okA t_crystal_steps_ys) (ok_t_crystal_steps_zs : okA t_crystal_steps_zs) (ok_t_crystal_planes_many : inI t_crystal_planes_many) (ok_t_crystal_planes_xs : okA t_crystal_planes_xs) (ok_t_crystal_planes_ys : okA t_crystal_planes_ys) (ok_t_crystal_planes_zs : okA t_crystal_planes_zs) (ok_v1 : inI v1) (ok_v2 : inI v2) (ok_v3 : inI v3) (ok_v4 : inI v4) (hs : m_X10_shape_0 t_row_slipped t_crystal_steps_many t_crystal_steps_xs t_crystal_steps_ys t_crystal_steps_zs t_crystal_planes_many t_crystal_planes_xs t_crystal_planes_ys t_crystal_planes_zs v1 v2 v3 v4 = some r) : G l E b0 M_X10_shape (fun _ => True) (ZM E b0 (some (vJ r)) (ov [a_t, (a_t + 22), a_c, (a_c + 1), (a_c + 2), (a_c + 3), (a_c + 4), (a_c + 5), (a_c + 6), (a_c + 7), (a_c + 8)] [.inr (10, fsX10 a_t a_c a_s), .inr (6, fsX6 (a_t + 22) t_row_flaws t_row_slipped t_row_gone t_row_work t_row_out t_row_lost t_row_came), .inr (1, fsX1 a_c t_crystal_sightMany), .inr (8, fsX8 (a_c + 1) t_crystal_steps_many), IA E 16 t_crystal_steps_xs, IA E 16 t_crystal_steps_ys, IA E 16 t_crystal_steps_zs, .inr (8, fsX8 (a_c + 5) t_crystal_planes_many), IA E 16 t_crystal_planes_xs, IA E 16 t_crystal_planes_ys, IA E 16 t_crystal_planes_zs] h) n (inJ r) 0 0) 0 0 n (ov [a_t, (a_t + 22), a_c, (a_c + 1), (a_c + 2), (a_c + 3), (a_c + 4), (a_c + 5), (a_c + 6), (a_c + 7), (a_c + 8)] [.inr (10, fsX10 a_t a_c a_s), .inr (6, fsX6 (a_t + 22) t_row_flaws t_row_slipped t_row_gone t_row_work t_row_out t_row_lost t_row_came), .inr (1, fsX1 a_c t_crystal_sightMany), .inr (8, fsX8 (a_c + 1) t_crystal_steps_many), IA E 16 t_crystal_steps_xs, IA E 16 t_crystal_steps_ys, IA E 16 t_crystal_steps_zs, .inr (8, fsX8 (a_c + 5) t_crystal_planes_many), IA E 16 t_crystal_planes_xs, IA E 16 t_crystal_planes_ys, IA E 16 t_crystal_planes_zs] h) 0 [some (.ref a_t), some (vI v1), some (vI v2), some (vI v3), some (vI v4)] [] := by
  rw [m_X10_shape_0] at hs
  refine g_aload_n e_X10_shape_0 rfl ?_
  refine g_get 0 8 ao rfl rfl fsX10_g8 fl_X10_64 e_X10_shape_1 ?_
  refine g_get 2 0 ao rfl rfl fsX1_g0 fl_X10_149 e_X10_shape_4 ?_
  refine g_iload_n e_X10_shape_7 rfl ?_
  obtain ⟨y1, hy1, hs⟩ := bind_elim hs
  refine g_callVr [vI v1] cv_X10_94 ⟨rfl, rfl, Nat.le_of_ble_eq_true rfl, Nat.le_of_ble_eq_true rfl⟩ (ct_X8_has (a_t := (a_c + 1)) (AO_call [3] ao (by decide) rfl) (FA_call [3] ao.1 rfl rfl) ok_t_crystal_steps_many ok_v1 hy1) e_X10_shape_8 (ao.2 3 _ rfl) (ov_get 3 ao.1 rfl rfl) rfl rfl rfl (Nat.le_of_ble_eq_true rfl) ⟨Nat.le_refl _, Nat.le_refl _⟩ (fun Py1 => ?_)
  refine g_if_eq e_X10_shape_11 (inZ_I Py1) hs (fun c11 hs => ?_) (fun c11 hs => ?_)
  · refine g_ldc2 (a := -1000000000000) e_X10_shape_43 k_X10_237 ?_
    obtain rfl := Option.some.inj hs
    exact g_lret rfl (by decide : inJ (-1000000000000)) e_X10_shape_46
  · refine g_aload_n e_X10_shape_14 rfl ?_
    refine g_get 0 8 ao rfl rfl fsX10_g8 fl_X10_64 e_X10_shape_15 ?_
    refine g_get 2 1 ao rfl rfl fsX1_g1 fl_X10_234 e_X10_shape_18 ?_
    refine g_iload_n e_X10_shape_21 rfl ?_
    obtain ⟨y2, hy2, hs⟩ := bind_elim hs
    refine g_callVr [vI v2] cv_X10_94 ⟨rfl, rfl, Nat.le_of_ble_eq_true rfl, Nat.le_of_ble_eq_true rfl⟩ (ct_X8_has (a_t := (a_c + 5)) (AO_call [7] ao (by decide) rfl) (FA_call [7] ao.1 rfl rfl) ok_t_crystal_planes_many ok_v2 hy2) e_X10_shape_22 (ao.2 7 _ rfl) (ov_get 7 ao.1 rfl rfl) rfl rfl rfl (Nat.le_of_ble_eq_true rfl) ⟨Nat.le_refl _, Nat.le_refl _⟩ (fun Py2 => ?_)
    refine g_if_eq e_X10_shape_25 (inZ_I Py2) hs (fun c25 hs => ?_) (fun c25 hs => ?_)
    · refine g_ldc2 (a := -1000000000000) e_X10_shape_43 k_X10_237 ?_
      obtain rfl := Option.some.inj hs
      exact g_lret rfl (by decide : inJ (-1000000000000)) e_X10_shape_46
    · refine g_iload_n e_X10_shape_28 rfl ?_
      obtain ⟨y3, hy3, hs⟩ := bind_elim hs
      refine g_callSr [vI v3] cs_X10_99 ⟨rfl, rfl, Nat.le_of_ble_eq_true rfl, Nat.le_of_ble_eq_true rfl⟩ (ct_X10_isPart ⟨List.nodup_nil, fun i a h => by simp at h⟩ (fun i a e h => by simp at h) ok_v3 hy3) e_X10_shape_29 rfl rfl (Nat.le_of_ble_eq_true rfl) ⟨Nat.le_refl _, Nat.le_refl _⟩ (fun Py3 => ?_)
      refine g_if_eq e_X10_shape_32 (inZ_I Py3) hs (fun c32 hs => ?_) (fun c32 hs => ?_)
      · refine g_ldc2 (a := -1000000000000) e_X10_shape_43 k_X10_237 ?_
        obtain rfl := Option.some.inj hs
        exact g_lret rfl (by decide : inJ (-1000000000000)) e_X10_shape_46
      · refine g_iload e_X10_shape_35 rfl ?_
        obtain ⟨y4, hy4, hs⟩ := bind_elim hs
        refine g_callSr [vI v4] cs_X10_99 ⟨rfl, rfl, Nat.le_of_ble_eq_true rfl, Nat.le_of_ble_eq_true rfl⟩ (ct_X10_isPart ⟨List.nodup_nil, fun i a h => by simp at h⟩ (fun i a e h => by simp at h) ok_v4 hy4) e_X10_shape_37 rfl rfl (Nat.le_of_ble_eq_true rfl) ⟨Nat.le_refl _, Nat.le_refl _⟩ (fun Py4 => ?_)
        refine g_if_ne e_X10_shape_40 (inZ_I Py4) hs (fun c40 hs => ?_) (fun c40 hs => ?_)
        · refine g_ldc2 (a := -1000000000000) e_X10_shape_43 k_X10_237 ?_
          obtain rfl := Option.some.inj hs
          exact g_lret rfl (by decide : inJ (-1000000000000)) e_X10_shape_46
        · refine g_aload_n e_X10_shape_47 rfl ?_
          refine g_get 0 3 ao rfl rfl fsX10_g3 fl_X10_33 e_X10_shape_48 ?_
          refine g_get 1 4 ao rfl rfl fsX6_g4 fl_X10_239 e_X10_shape_51 ?_
          refine g_i2l e_X10_shape_54 ok_t_row_slipped ?_
          refine g_aload_n e_X10_shape_55 rfl ?_
          refine g_get 0 8 ao rfl rfl fsX10_g8 fl_X10_64 e_X10_shape_56 ?_
          refine g_get 2 0 ao rfl rfl fsX1_g0 fl_X10_149 e_X10_shape_59 ?_
          refine g_iload_n e_X10_shape_62 rfl ?_
          refine g_iload_n e_X10_shape_63 rfl ?_
          obtain ⟨y5, hy5, hs⟩ := bind_elim hs
          refine g_callVr [vI v1, vI v3] cv_X10_102 ⟨rfl, rfl, Nat.le_of_ble_eq_true rfl, Nat.le_of_ble_eq_true rfl⟩ (ct_X8_partOf (a_t := (a_c + 1)) (AO_call [3, 4, 5, 6] ao (by decide) rfl) (by omega) (FA_call [3, 4, 5, 6] ao.1 rfl rfl) ok_t_crystal_steps_many ok_t_crystal_steps_xs ok_t_crystal_steps_ys ok_t_crystal_steps_zs ok_v1 ok_v3 hy5) e_X10_shape_64 (ao.2 3 _ rfl) (ov_get 3 ao.1 rfl rfl) rfl rfl rfl (Nat.le_of_ble_eq_true rfl) ⟨Nat.le_refl _, Nat.le_refl _⟩ (fun Py5 => ?_)
          refine g_i2l e_X10_shape_67 Py5 ?_
          refine g_lmul e_X10_shape_68 ?_
          refine g_aload_n e_X10_shape_69 rfl ?_
          refine g_get 0 8 ao rfl rfl fsX10_g8 fl_X10_64 e_X10_shape_70 ?_
          refine g_get 2 1 ao rfl rfl fsX1_g1 fl_X10_234 e_X10_shape_73 ?_
          refine g_iload_n e_X10_shape_76 rfl ?_
          refine g_iload e_X10_shape_77 rfl ?_
          obtain ⟨y6, hy6, hs⟩ := bind_elim hs
          refine g_callVr [vI v2, vI v4] cv_X10_102 ⟨rfl, rfl, Nat.le_of_ble_eq_true rfl, Nat.le_of_ble_eq_true rfl⟩ (ct_X8_partOf (a_t := (a_c + 5)) (AO_call [7, 8, 9, 10] ao (by decide) rfl) (by omega) (FA_call [7, 8, 9, 10] ao.1 rfl rfl) ok_t_crystal_planes_many ok_t_crystal_planes_xs ok_t_crystal_planes_ys ok_t_crystal_planes_zs ok_v2 ok_v4 hy6) e_X10_shape_79 (ao.2 7 _ rfl) (ov_get 7 ao.1 rfl rfl) rfl rfl rfl (Nat.le_of_ble_eq_true rfl) ⟨Nat.le_refl _, Nat.le_refl _⟩ (fun Py6 => ?_)
          refine g_i2l e_X10_shape_82 Py6 ?_
          refine g_lmul e_X10_shape_83 ?_
          obtain ⟨hc7, hs⟩ := chk_elim hs
          obtain rfl := Option.some.inj hs
          exact g_lret rfl hc7 e_X10_shape_84

noncomputable def m_X10_shape (t_row_slipped : Int) (t_crystal_steps_many : Int) (t_crystal_steps_xs : Nat → Int) (t_crystal_steps_ys : Nat → Int) (t_crystal_steps_zs : Nat → Int) (t_crystal_planes_many : Int) (t_crystal_planes_xs : Nat → Int) (t_crystal_planes_ys : Nat → Int) (t_crystal_planes_zs : Nat → Int) (v1 : Int) (v2 : Int) (v3 : Int) (v4 : Int) : Option (Int) := m_X10_shape_0 t_row_slipped t_crystal_steps_many t_crystal_steps_xs t_crystal_steps_ys t_crystal_steps_zs t_crystal_planes_many t_crystal_planes_xs t_crystal_planes_ys t_crystal_planes_zs v1 v2 v3 v4

set_option maxRecDepth 10000 in
set_option maxHeartbeats 8000000 in
theorem ct_X10_shape {l : Launch} {E : EE} {b0 n : Nat} {h : AH} {a_t a_c a_s : Nat} {t_row_flaws t_row_slipped t_row_gone t_row_work t_row_out t_row_lost t_row_came t_crystal_sightMany t_crystal_steps_many t_crystal_planes_many : Int} {t_crystal_steps_xs t_crystal_steps_ys t_crystal_steps_zs t_crystal_planes_xs t_crystal_planes_ys t_crystal_planes_zs : Nat → Int} {v1 v2 v3 v4 : Int} (ao : AO b0 n [a_t, (a_t + 22), a_c, (a_c + 1), (a_c + 2), (a_c + 3), (a_c + 4), (a_c + 5), (a_c + 6), (a_c + 7), (a_c + 8)]) (hf : FA h [a_t, (a_t + 22), a_c, (a_c + 1), (a_c + 2), (a_c + 3), (a_c + 4), (a_c + 5), (a_c + 6), (a_c + 7), (a_c + 8)] [.inr (10, fsX10 a_t a_c a_s), .inr (6, fsX6 (a_t + 22) t_row_flaws t_row_slipped t_row_gone t_row_work t_row_out t_row_lost t_row_came), .inr (1, fsX1 a_c t_crystal_sightMany), .inr (8, fsX8 (a_c + 1) t_crystal_steps_many), IA E 16 t_crystal_steps_xs, IA E 16 t_crystal_steps_ys, IA E 16 t_crystal_steps_zs, .inr (8, fsX8 (a_c + 5) t_crystal_planes_many), IA E 16 t_crystal_planes_xs, IA E 16 t_crystal_planes_ys, IA E 16 t_crystal_planes_zs]) (ok_t_row_slipped : inI t_row_slipped) (ok_t_crystal_steps_many : inI t_crystal_steps_many) (ok_t_crystal_steps_xs : okA t_crystal_steps_xs) (ok_t_crystal_steps_ys : okA t_crystal_steps_ys) (ok_t_crystal_steps_zs : okA t_crystal_steps_zs) (ok_t_crystal_planes_many : inI t_crystal_planes_many) (ok_t_crystal_planes_xs : okA t_crystal_planes_xs) (ok_t_crystal_planes_ys : okA t_crystal_planes_ys) (ok_t_crystal_planes_zs : okA t_crystal_planes_zs) (ok_v1 : inI v1) (ok_v2 : inI v2) (ok_v3 : inI v3) (ok_v4 : inI v4) {r : Int} (hm : m_X10_shape t_row_slipped t_crystal_steps_many t_crystal_steps_xs t_crystal_steps_ys t_crystal_steps_zs t_crystal_planes_many t_crystal_planes_xs t_crystal_planes_ys t_crystal_planes_zs v1 v2 v3 v4 = some r) : Ct l E b0 M_X10_shape 0 0 [.ref a_t, vI v1, vI v2, vI v3, vI v4] h n (some (vJ r)) h n (inJ r) := by
  rw [m_X10_shape] at hm
  have hg : G l E b0 M_X10_shape (fun _ => True) (ZM E b0 (some (vJ r)) (ov [a_t, (a_t + 22), a_c, (a_c + 1), (a_c + 2), (a_c + 3), (a_c + 4), (a_c + 5), (a_c + 6), (a_c + 7), (a_c + 8)] [.inr (10, fsX10 a_t a_c a_s), .inr (6, fsX6 (a_t + 22) t_row_flaws t_row_slipped t_row_gone t_row_work t_row_out t_row_lost t_row_came), .inr (1, fsX1 a_c t_crystal_sightMany), .inr (8, fsX8 (a_c + 1) t_crystal_steps_many), IA E 16 t_crystal_steps_xs, IA E 16 t_crystal_steps_ys, IA E 16 t_crystal_steps_zs, .inr (8, fsX8 (a_c + 5) t_crystal_planes_many), IA E 16 t_crystal_planes_xs, IA E 16 t_crystal_planes_ys, IA E 16 t_crystal_planes_zs] h) n (inJ r) 0 0) 0 0 n (ov [a_t, (a_t + 22), a_c, (a_c + 1), (a_c + 2), (a_c + 3), (a_c + 4), (a_c + 5), (a_c + 6), (a_c + 7), (a_c + 8)] [.inr (10, fsX10 a_t a_c a_s), .inr (6, fsX6 (a_t + 22) t_row_flaws t_row_slipped t_row_gone t_row_work t_row_out t_row_lost t_row_came), .inr (1, fsX1 a_c t_crystal_sightMany), .inr (8, fsX8 (a_c + 1) t_crystal_steps_many), IA E 16 t_crystal_steps_xs, IA E 16 t_crystal_steps_ys, IA E 16 t_crystal_steps_zs, .inr (8, fsX8 (a_c + 5) t_crystal_planes_many), IA E 16 t_crystal_planes_xs, IA E 16 t_crystal_planes_ys, IA E 16 t_crystal_planes_zs] h) 0 [some (.ref a_t), some (vI v1), some (vI v2), some (vI v3), some (vI v4)] [] := by
    have hs := hm
    exact g_X10_shape_0 ao ok_t_row_slipped ok_t_crystal_steps_many ok_t_crystal_steps_xs ok_t_crystal_steps_ys ok_t_crystal_steps_zs ok_t_crystal_planes_many ok_t_crystal_planes_xs ok_t_crystal_planes_ys ok_t_crystal_planes_zs ok_v1 ok_v2 ok_v3 ok_v4 hs
  rw [FA_id hf] at hg
  exact Ct_of [some (.ref a_t), some (vI v1), some (vI v2), some (vI v3), some (vI v4)] ⟨by decide +kernel, rfl⟩ rfl (Nat.le_of_ble_eq_true rfl) hg

/-! ===== X10_aimed ===== -/
theorem e_X10_aimed_0 : DC cX10_aimed 0 (.aload_n 0) 1 1 := ⟨by decide +kernel, rfl⟩
theorem e_X10_aimed_1 : DC cX10_aimed 1 (.getfield 50) 3 4 := ⟨by decide +kernel, rfl⟩
theorem e_X10_aimed_4 : DC cX10_aimed 4 (.iload_n 1) 1 5 := ⟨by decide +kernel, rfl⟩
theorem e_X10_aimed_5 : DC cX10_aimed 5 (.invokevirtual 250) 3 8 := ⟨by decide +kernel, rfl⟩
theorem e_X10_aimed_8 : DC cX10_aimed 8 (.ireturn) 1 9 := ⟨by decide +kernel, rfl⟩
noncomputable def m_X10_aimed_0 (t_trials_bestMany : Int) (t_trials_best : Nat → Int) (v1 : Int) : Option (Int) :=
  (m_X7_pullFound t_trials_bestMany t_trials_best v1).bind (fun y1 => some (y1))

set_option maxRecDepth 10000 in
set_option maxHeartbeats 8000000 in
theorem g_X10_aimed_0 {l : Launch} {E : EE} {b0 n : Nat} {h : AH} {a_t a_c a_s : Nat} {t_trials_pullMany t_trials_bestMany t_trials_distanceMany t_trials_pushStep t_trials_foundMany v1 : Int} {t_trials_best : Nat → Int} {r : Int} (ao : AO b0 n [a_t, (a_t + 236), (a_t + 249)]) (ok_t_trials_bestMany : inI t_trials_bestMany) (ok_t_trials_best : okA t_trials_best) (ok_v1 : inI v1) (hs : m_X10_aimed_0 t_trials_bestMany t_trials_best v1 = some r) : G l E b0 M_X10_aimed (fun _ => True) (ZM E b0 (some (vI r)) (ov [a_t, (a_t + 236), (a_t + 249)] [.inr (10, fsX10 a_t a_c a_s), .inr (7, fsX7 (a_t + 236) t_trials_pullMany t_trials_bestMany t_trials_distanceMany t_trials_pushStep t_trials_foundMany), IA E 5 t_trials_best] h) n (inI r) 0 0) 0 0 n (ov [a_t, (a_t + 236), (a_t + 249)] [.inr (10, fsX10 a_t a_c a_s), .inr (7, fsX7 (a_t + 236) t_trials_pullMany t_trials_bestMany t_trials_distanceMany t_trials_pushStep t_trials_foundMany), IA E 5 t_trials_best] h) 0 [some (.ref a_t), some (vI v1)] [] := by
  rw [m_X10_aimed_0] at hs
  refine g_aload_n e_X10_aimed_0 rfl ?_
  refine g_get 0 6 ao rfl rfl fsX10_g6 fl_X10_50 e_X10_aimed_1 ?_
  refine g_iload_n e_X10_aimed_4 rfl ?_
  obtain ⟨y1, hy1, hs⟩ := bind_elim hs
  refine g_callVr [vI v1] cv_X10_250 ⟨rfl, rfl, Nat.le_of_ble_eq_true rfl, Nat.le_of_ble_eq_true rfl⟩ (ct_X7_pullFound (a_t := (a_t + 236)) (AO_call [1, 2] ao (by decide) rfl) (FA_call [1, 2] ao.1 rfl rfl) ok_t_trials_bestMany ok_t_trials_best ok_v1 hy1) e_X10_aimed_5 (ao.2 1 _ rfl) (ov_get 1 ao.1 rfl rfl) rfl rfl rfl (Nat.le_of_ble_eq_true rfl) ⟨Nat.le_refl _, Nat.le_refl _⟩ (fun Py1 => ?_)
  obtain rfl := Option.some.inj hs
  exact g_iret rfl Py1 e_X10_aimed_8

noncomputable def m_X10_aimed (t_trials_bestMany : Int) (t_trials_best : Nat → Int) (v1 : Int) : Option (Int) := m_X10_aimed_0 t_trials_bestMany t_trials_best v1

set_option maxRecDepth 10000 in
set_option maxHeartbeats 8000000 in
theorem ct_X10_aimed {l : Launch} {E : EE} {b0 n : Nat} {h : AH} {a_t a_c a_s : Nat} {t_trials_pullMany t_trials_bestMany t_trials_distanceMany t_trials_pushStep t_trials_foundMany : Int} {t_trials_best : Nat → Int} {v1 : Int} (ao : AO b0 n [a_t, (a_t + 236), (a_t + 249)]) (hf : FA h [a_t, (a_t + 236), (a_t + 249)] [.inr (10, fsX10 a_t a_c a_s), .inr (7, fsX7 (a_t + 236) t_trials_pullMany t_trials_bestMany t_trials_distanceMany t_trials_pushStep t_trials_foundMany), IA E 5 t_trials_best]) (ok_t_trials_bestMany : inI t_trials_bestMany) (ok_t_trials_best : okA t_trials_best) (ok_v1 : inI v1) {r : Int} (hm : m_X10_aimed t_trials_bestMany t_trials_best v1 = some r) : Ct l E b0 M_X10_aimed 0 0 [.ref a_t, vI v1] h n (some (vI r)) h n (inI r) := by
  rw [m_X10_aimed] at hm
  have hg : G l E b0 M_X10_aimed (fun _ => True) (ZM E b0 (some (vI r)) (ov [a_t, (a_t + 236), (a_t + 249)] [.inr (10, fsX10 a_t a_c a_s), .inr (7, fsX7 (a_t + 236) t_trials_pullMany t_trials_bestMany t_trials_distanceMany t_trials_pushStep t_trials_foundMany), IA E 5 t_trials_best] h) n (inI r) 0 0) 0 0 n (ov [a_t, (a_t + 236), (a_t + 249)] [.inr (10, fsX10 a_t a_c a_s), .inr (7, fsX7 (a_t + 236) t_trials_pullMany t_trials_bestMany t_trials_distanceMany t_trials_pushStep t_trials_foundMany), IA E 5 t_trials_best] h) 0 [some (.ref a_t), some (vI v1)] [] := by
    have hs := hm
    exact g_X10_aimed_0 ao ok_t_trials_bestMany ok_t_trials_best ok_v1 hs
  rw [FA_id hf] at hg
  exact Ct_of [some (.ref a_t), some (vI v1)] ⟨by decide +kernel, rfl⟩ rfl (Nat.le_of_ble_eq_true rfl) hg

/-! ===== X10_fitted ===== -/
theorem e_X10_fitted_0 : DC cX10_fitted 0 (.aload_n 0) 1 1 := ⟨by decide +kernel, rfl⟩
theorem e_X10_fitted_1 : DC cX10_fitted 1 (.getfield 50) 3 4 := ⟨by decide +kernel, rfl⟩
theorem e_X10_fitted_4 : DC cX10_fitted 4 (.iload_n 1) 1 5 := ⟨by decide +kernel, rfl⟩
theorem e_X10_fitted_5 : DC cX10_fitted 5 (.iload_n 2) 1 6 := ⟨by decide +kernel, rfl⟩
theorem e_X10_fitted_6 : DC cX10_fitted 6 (.invokevirtual 263) 3 9 := ⟨by decide +kernel, rfl⟩
theorem e_X10_fitted_9 : DC cX10_fitted 9 (.ireturn) 1 10 := ⟨by decide +kernel, rfl⟩
noncomputable def m_X10_fitted_0 (t_trials_distanceMany : Int) (t_trials_pushStep : Int) (t_trials_foundMany : Int) (t_trials_found : Nat → Int) (v1 : Int) (v2 : Int) : Option (Int) :=
  (m_X7_pushFound t_trials_distanceMany t_trials_pushStep t_trials_foundMany t_trials_found v1 v2).bind (fun y1 => some (y1))

set_option maxRecDepth 10000 in
set_option maxHeartbeats 8000000 in
theorem g_X10_fitted_0 {l : Launch} {E : EE} {b0 n : Nat} {h : AH} {a_t a_c a_s : Nat} {t_trials_pullMany t_trials_bestMany t_trials_distanceMany t_trials_pushStep t_trials_foundMany v1 v2 : Int} {t_trials_found : Nat → Int} {r : Int} (ao : AO b0 n [a_t, (a_t + 236), (a_t + 251)]) (ok_t_trials_distanceMany : inI t_trials_distanceMany) (ok_t_trials_pushStep : inI t_trials_pushStep) (ok_t_trials_foundMany : inI t_trials_foundMany) (ok_t_trials_found : okA t_trials_found) (ok_v1 : inI v1) (ok_v2 : inI v2) (hs : m_X10_fitted_0 t_trials_distanceMany t_trials_pushStep t_trials_foundMany t_trials_found v1 v2 = some r) : G l E b0 M_X10_fitted (fun _ => True) (ZM E b0 (some (vI r)) (ov [a_t, (a_t + 236), (a_t + 251)] [.inr (10, fsX10 a_t a_c a_s), .inr (7, fsX7 (a_t + 236) t_trials_pullMany t_trials_bestMany t_trials_distanceMany t_trials_pushStep t_trials_foundMany), IA E 512 t_trials_found] h) n (inI r) 0 0) 0 0 n (ov [a_t, (a_t + 236), (a_t + 251)] [.inr (10, fsX10 a_t a_c a_s), .inr (7, fsX7 (a_t + 236) t_trials_pullMany t_trials_bestMany t_trials_distanceMany t_trials_pushStep t_trials_foundMany), IA E 512 t_trials_found] h) 0 [some (.ref a_t), some (vI v1), some (vI v2)] [] := by
  rw [m_X10_fitted_0] at hs
  refine g_aload_n e_X10_fitted_0 rfl ?_
  refine g_get 0 6 ao rfl rfl fsX10_g6 fl_X10_50 e_X10_fitted_1 ?_
  refine g_iload_n e_X10_fitted_4 rfl ?_
  refine g_iload_n e_X10_fitted_5 rfl ?_
  obtain ⟨y1, hy1, hs⟩ := bind_elim hs
  refine g_callVr [vI v1, vI v2] cv_X10_263 ⟨rfl, rfl, Nat.le_of_ble_eq_true rfl, Nat.le_of_ble_eq_true rfl⟩ (ct_X7_pushFound (a_t := (a_t + 236)) (AO_call [1, 2] ao (by decide) rfl) (FA_call [1, 2] ao.1 rfl rfl) ok_t_trials_distanceMany ok_t_trials_pushStep ok_t_trials_foundMany ok_t_trials_found ok_v1 ok_v2 hy1) e_X10_fitted_6 (ao.2 1 _ rfl) (ov_get 1 ao.1 rfl rfl) rfl rfl rfl (Nat.le_of_ble_eq_true rfl) ⟨Nat.le_refl _, Nat.le_refl _⟩ (fun Py1 => ?_)
  obtain rfl := Option.some.inj hs
  exact g_iret rfl Py1 e_X10_fitted_9

noncomputable def m_X10_fitted (t_trials_distanceMany : Int) (t_trials_pushStep : Int) (t_trials_foundMany : Int) (t_trials_found : Nat → Int) (v1 : Int) (v2 : Int) : Option (Int) := m_X10_fitted_0 t_trials_distanceMany t_trials_pushStep t_trials_foundMany t_trials_found v1 v2

set_option maxRecDepth 10000 in
set_option maxHeartbeats 8000000 in
theorem ct_X10_fitted {l : Launch} {E : EE} {b0 n : Nat} {h : AH} {a_t a_c a_s : Nat} {t_trials_pullMany t_trials_bestMany t_trials_distanceMany t_trials_pushStep t_trials_foundMany : Int} {t_trials_found : Nat → Int} {v1 v2 : Int} (ao : AO b0 n [a_t, (a_t + 236), (a_t + 251)]) (hf : FA h [a_t, (a_t + 236), (a_t + 251)] [.inr (10, fsX10 a_t a_c a_s), .inr (7, fsX7 (a_t + 236) t_trials_pullMany t_trials_bestMany t_trials_distanceMany t_trials_pushStep t_trials_foundMany), IA E 512 t_trials_found]) (ok_t_trials_distanceMany : inI t_trials_distanceMany) (ok_t_trials_pushStep : inI t_trials_pushStep) (ok_t_trials_foundMany : inI t_trials_foundMany) (ok_t_trials_found : okA t_trials_found) (ok_v1 : inI v1) (ok_v2 : inI v2) {r : Int} (hm : m_X10_fitted t_trials_distanceMany t_trials_pushStep t_trials_foundMany t_trials_found v1 v2 = some r) : Ct l E b0 M_X10_fitted 0 0 [.ref a_t, vI v1, vI v2] h n (some (vI r)) h n (inI r) := by
  rw [m_X10_fitted] at hm
  have hg : G l E b0 M_X10_fitted (fun _ => True) (ZM E b0 (some (vI r)) (ov [a_t, (a_t + 236), (a_t + 251)] [.inr (10, fsX10 a_t a_c a_s), .inr (7, fsX7 (a_t + 236) t_trials_pullMany t_trials_bestMany t_trials_distanceMany t_trials_pushStep t_trials_foundMany), IA E 512 t_trials_found] h) n (inI r) 0 0) 0 0 n (ov [a_t, (a_t + 236), (a_t + 251)] [.inr (10, fsX10 a_t a_c a_s), .inr (7, fsX7 (a_t + 236) t_trials_pullMany t_trials_bestMany t_trials_distanceMany t_trials_pushStep t_trials_foundMany), IA E 512 t_trials_found] h) 0 [some (.ref a_t), some (vI v1), some (vI v2)] [] := by
    have hs := hm
    exact g_X10_fitted_0 ao ok_t_trials_distanceMany ok_t_trials_pushStep ok_t_trials_foundMany ok_t_trials_found ok_v1 ok_v2 hs
  rw [FA_id hf] at hg
  exact Ct_of [some (.ref a_t), some (vI v1), some (vI v2)] ⟨by decide +kernel, rfl⟩ rfl (Nat.le_of_ble_eq_true rfl) hg

/-! ===== X10_sight ===== -/
theorem e_X10_sight_0 : DC cX10_sight 0 (.aload_n 0) 1 1 := ⟨by decide +kernel, rfl⟩
theorem e_X10_sight_1 : DC cX10_sight 1 (.getfield 64) 3 4 := ⟨by decide +kernel, rfl⟩
theorem e_X10_sight_4 : DC cX10_sight 4 (.iload_n 1) 1 5 := ⟨by decide +kernel, rfl⟩
theorem e_X10_sight_5 : DC cX10_sight 5 (.iload_n 2) 1 6 := ⟨by decide +kernel, rfl⟩
theorem e_X10_sight_6 : DC cX10_sight 6 (.invokevirtual 277) 3 9 := ⟨by decide +kernel, rfl⟩
theorem e_X10_sight_9 : DC cX10_sight 9 (.ireturn) 1 10 := ⟨by decide +kernel, rfl⟩
noncomputable def m_X10_sight_0 (t_crystal_sightMany : Int) (t_crystal_eyes_many : Int) (t_crystal_sightEyes : Nat → Int) (t_crystal_sightSeen : Nat → Int) (v1 : Int) (v2 : Int) : Option (Int × Int × (Nat → Int) × (Nat → Int)) :=
  (m_X1_addSight t_crystal_sightMany t_crystal_eyes_many t_crystal_sightEyes t_crystal_sightSeen v1 v2).bind (fun y1 => some (y1.1, y1.2.1, y1.2.2.1, y1.2.2.2))

set_option maxRecDepth 10000 in
set_option maxHeartbeats 8000000 in
theorem g_X10_sight_0 {l : Launch} {E : EE} {b0 n : Nat} {h : AH} {a_t a_c a_s : Nat} {t_crystal_sightMany t_crystal_eyes_many v1 v2 : Int} {t_crystal_sightEyes t_crystal_sightSeen : Nat → Int} {r : Int × Int × (Nat → Int) × (Nat → Int)} (ao : AO b0 n [a_t, a_c, (a_c + 9), (a_c + 22), (a_c + 23)]) (ok_t_crystal_sightMany : inI t_crystal_sightMany) (ok_t_crystal_eyes_many : inI t_crystal_eyes_many) (ok_t_crystal_sightEyes : okA t_crystal_sightEyes) (ok_t_crystal_sightSeen : okZ t_crystal_sightSeen) (ok_v1 : inI v1) (ok_v2 : inZ v2) (hs : m_X10_sight_0 t_crystal_sightMany t_crystal_eyes_many t_crystal_sightEyes t_crystal_sightSeen v1 v2 = some r) : G l E b0 M_X10_sight (fun _ => True) (ZM E b0 (some (vI r.1)) (ov [a_t, a_c, (a_c + 9), (a_c + 22), (a_c + 23)] [.inr (10, fsX10 a_t a_c a_s), .inr (1, fsX1 a_c r.2.1), .inr (8, fsX8 (a_c + 9) t_crystal_eyes_many), IA E 20 r.2.2.1, ZA E 20 r.2.2.2] h) n (inI r.1 ∧ inI r.2.1 ∧ okA r.2.2.1 ∧ okZ r.2.2.2) 0 0) 0 0 n (ov [a_t, a_c, (a_c + 9), (a_c + 22), (a_c + 23)] [.inr (10, fsX10 a_t a_c a_s), .inr (1, fsX1 a_c t_crystal_sightMany), .inr (8, fsX8 (a_c + 9) t_crystal_eyes_many), IA E 20 t_crystal_sightEyes, ZA E 20 t_crystal_sightSeen] h) 0 [some (.ref a_t), some (vI v1), some (vI v2)] [] := by
  rw [m_X10_sight_0] at hs
  refine g_aload_n e_X10_sight_0 rfl ?_
  refine g_get 0 8 ao rfl rfl fsX10_g8 fl_X10_64 e_X10_sight_1 ?_
  refine g_iload_n e_X10_sight_4 rfl ?_
  refine g_iload_n e_X10_sight_5 rfl ?_
  obtain ⟨y1, hy1, hs⟩ := bind_elim hs
  refine g_callVr [vI v1, vI v2] cv_X10_277 ⟨rfl, rfl, Nat.le_of_ble_eq_true rfl, Nat.le_of_ble_eq_true rfl⟩ (Ct_heap (ct_X1_addSight (a_t := a_c) (AO_call [1, 2, 3, 4] ao (by decide) rfl) (FA_call [1, 2, 3, 4] ao.1 rfl rfl) ok_t_crystal_sightMany ok_t_crystal_eyes_many ok_t_crystal_sightEyes ok_t_crystal_sightSeen ok_v1 ok_v2 hy1) (ov_callN (esn := [.inr (10, fsX10 a_t a_c a_s), .inr (1, fsX1 a_c y1.2.1), .inr (8, fsX8 (a_c + 9) t_crystal_eyes_many), IA E 20 y1.2.2.1, ZA E 20 y1.2.2.2]) [1, 2, 3, 4] [true, false, false, false, false] ao.1 rfl rfl rfl rfl rfl rfl (by decide))) e_X10_sight_6 (ao.2 1 _ rfl) (ov_get 1 ao.1 rfl rfl) rfl rfl rfl (Nat.le_of_ble_eq_true rfl) ⟨Nat.le_refl _, Nat.le_refl _⟩ (fun Py1 => ?_)
  obtain rfl := Option.some.inj hs
  exact g_iret rfl ⟨Py1.1, Py1.2.1, Py1.2.2.1, Py1.2.2.2⟩ e_X10_sight_9

noncomputable def m_X10_sight (t_crystal_sightMany : Int) (t_crystal_eyes_many : Int) (t_crystal_sightEyes : Nat → Int) (t_crystal_sightSeen : Nat → Int) (v1 : Int) (v2 : Int) : Option (Int × Int × (Nat → Int) × (Nat → Int)) := m_X10_sight_0 t_crystal_sightMany t_crystal_eyes_many t_crystal_sightEyes t_crystal_sightSeen v1 v2

set_option maxRecDepth 10000 in
set_option maxHeartbeats 8000000 in
theorem ct_X10_sight {l : Launch} {E : EE} {b0 n : Nat} {h : AH} {a_t a_c a_s : Nat} {t_crystal_sightMany t_crystal_eyes_many : Int} {t_crystal_sightEyes t_crystal_sightSeen : Nat → Int} {v1 v2 : Int} (ao : AO b0 n [a_t, a_c, (a_c + 9), (a_c + 22), (a_c + 23)]) (hf : FA h [a_t, a_c, (a_c + 9), (a_c + 22), (a_c + 23)] [.inr (10, fsX10 a_t a_c a_s), .inr (1, fsX1 a_c t_crystal_sightMany), .inr (8, fsX8 (a_c + 9) t_crystal_eyes_many), IA E 20 t_crystal_sightEyes, ZA E 20 t_crystal_sightSeen]) (ok_t_crystal_sightMany : inI t_crystal_sightMany) (ok_t_crystal_eyes_many : inI t_crystal_eyes_many) (ok_t_crystal_sightEyes : okA t_crystal_sightEyes) (ok_t_crystal_sightSeen : okZ t_crystal_sightSeen) (ok_v1 : inI v1) (ok_v2 : inZ v2) {r : Int × Int × (Nat → Int) × (Nat → Int)} (hm : m_X10_sight t_crystal_sightMany t_crystal_eyes_many t_crystal_sightEyes t_crystal_sightSeen v1 v2 = some r) : Ct l E b0 M_X10_sight 0 0 [.ref a_t, vI v1, vI v2] h n (some (vI r.1)) (ov [a_t, a_c, (a_c + 9), (a_c + 22), (a_c + 23)] [.inr (10, fsX10 a_t a_c a_s), .inr (1, fsX1 a_c r.2.1), .inr (8, fsX8 (a_c + 9) t_crystal_eyes_many), IA E 20 r.2.2.1, ZA E 20 r.2.2.2] h) n (inI r.1 ∧ inI r.2.1 ∧ okA r.2.2.1 ∧ okZ r.2.2.2) := by
  rw [m_X10_sight] at hm
  have hg : G l E b0 M_X10_sight (fun _ => True) (ZM E b0 (some (vI r.1)) (ov [a_t, a_c, (a_c + 9), (a_c + 22), (a_c + 23)] [.inr (10, fsX10 a_t a_c a_s), .inr (1, fsX1 a_c r.2.1), .inr (8, fsX8 (a_c + 9) t_crystal_eyes_many), IA E 20 r.2.2.1, ZA E 20 r.2.2.2] h) n (inI r.1 ∧ inI r.2.1 ∧ okA r.2.2.1 ∧ okZ r.2.2.2) 0 0) 0 0 n (ov [a_t, a_c, (a_c + 9), (a_c + 22), (a_c + 23)] [.inr (10, fsX10 a_t a_c a_s), .inr (1, fsX1 a_c t_crystal_sightMany), .inr (8, fsX8 (a_c + 9) t_crystal_eyes_many), IA E 20 t_crystal_sightEyes, ZA E 20 t_crystal_sightSeen] h) 0 [some (.ref a_t), some (vI v1), some (vI v2)] [] := by
    have hs := hm
    exact g_X10_sight_0 ao ok_t_crystal_sightMany ok_t_crystal_eyes_many ok_t_crystal_sightEyes ok_t_crystal_sightSeen ok_v1 ok_v2 hs
  rw [FA_id hf] at hg
  exact Ct_of [some (.ref a_t), some (vI v1), some (vI v2)] ⟨by decide +kernel, rfl⟩ rfl (Nat.le_of_ble_eq_true rfl) hg

/-! ===== X10_readBack ===== -/
theorem e_X10_readBack_0 : DC cX10_readBack 0 (.aload_n 0) 1 1 := ⟨by decide +kernel, rfl⟩
theorem e_X10_readBack_1 : DC cX10_readBack 1 (.getfield 64) 3 4 := ⟨by decide +kernel, rfl⟩
theorem e_X10_readBack_4 : DC cX10_readBack 4 (.iload_n 1) 1 5 := ⟨by decide +kernel, rfl⟩
theorem e_X10_readBack_5 : DC cX10_readBack 5 (.invokevirtual 284) 3 8 := ⟨by decide +kernel, rfl⟩
theorem e_X10_readBack_8 : DC cX10_readBack 8 (.ireturn) 1 9 := ⟨by decide +kernel, rfl⟩
noncomputable def m_X10_readBack_0 (t_crystal_sightMany : Int) (t_crystal_steps_many : Int) (t_crystal_steps_xs : Nat → Int) (t_crystal_steps_ys : Nat → Int) (t_crystal_steps_zs : Nat → Int) (t_crystal_eyes_many : Int) (t_crystal_eyes_xs : Nat → Int) (t_crystal_eyes_ys : Nat → Int) (t_crystal_eyes_zs : Nat → Int) (t_crystal_sightEyes : Nat → Int) (t_crystal_sightSeen : Nat → Int) (v1 : Int) : Option (Int) :=
  (m_X1_fitting t_crystal_sightMany t_crystal_steps_many t_crystal_steps_xs t_crystal_steps_ys t_crystal_steps_zs t_crystal_eyes_many t_crystal_eyes_xs t_crystal_eyes_ys t_crystal_eyes_zs t_crystal_sightEyes t_crystal_sightSeen v1).bind (fun y1 => some (y1))

set_option maxRecDepth 10000 in
set_option maxHeartbeats 8000000 in
theorem g_X10_readBack_0 {l : Launch} {E : EE} {b0 n : Nat} {h : AH} {a_t a_c a_s : Nat} {t_crystal_sightMany t_crystal_steps_many t_crystal_eyes_many v1 : Int} {t_crystal_steps_xs t_crystal_steps_ys t_crystal_steps_zs t_crystal_eyes_xs t_crystal_eyes_ys t_crystal_eyes_zs t_crystal_sightEyes t_crystal_sightSeen : Nat → Int} {r : Int} (ao : AO b0 n [a_t, a_c, (a_c + 1), (a_c + 2), (a_c + 3), (a_c + 4), (a_c + 9), (a_c + 10), (a_c + 11), (a_c + 12), (a_c + 22), (a_c + 23)]) (ok_t_crystal_sightMany : inI t_crystal_sightMany) (ok_t_crystal_steps_many : inI t_crystal_steps_many) (ok_t_crystal_steps_xs : okA t_crystal_steps_xs) (ok_t_crystal_steps_ys : okA t_crystal_steps_ys) (ok_t_crystal_steps_zs : okA t_crystal_steps_zs) (ok_t_crystal_eyes_many : inI t_crystal_eyes_many) (ok_t_crystal_eyes_xs : okA t_crystal_eyes_xs) (ok_t_crystal_eyes_ys : okA t_crystal_eyes_ys) (ok_t_crystal_eyes_zs : okA t_crystal_eyes_zs) (ok_t_crystal_sightEyes : okA t_crystal_sightEyes) (ok_t_crystal_sightSeen : okZ t_crystal_sightSeen) (ok_v1 : inI v1) (hs : m_X10_readBack_0 t_crystal_sightMany t_crystal_steps_many t_crystal_steps_xs t_crystal_steps_ys t_crystal_steps_zs t_crystal_eyes_many t_crystal_eyes_xs t_crystal_eyes_ys t_crystal_eyes_zs t_crystal_sightEyes t_crystal_sightSeen v1 = some r) : G l E b0 M_X10_readBack (fun _ => True) (ZM E b0 (some (vI r)) (ov [a_t, a_c, (a_c + 1), (a_c + 2), (a_c + 3), (a_c + 4), (a_c + 9), (a_c + 10), (a_c + 11), (a_c + 12), (a_c + 22), (a_c + 23)] [.inr (10, fsX10 a_t a_c a_s), .inr (1, fsX1 a_c t_crystal_sightMany), .inr (8, fsX8 (a_c + 1) t_crystal_steps_many), IA E 16 t_crystal_steps_xs, IA E 16 t_crystal_steps_ys, IA E 16 t_crystal_steps_zs, .inr (8, fsX8 (a_c + 9) t_crystal_eyes_many), IA E 16 t_crystal_eyes_xs, IA E 16 t_crystal_eyes_ys, IA E 16 t_crystal_eyes_zs, IA E 20 t_crystal_sightEyes, ZA E 20 t_crystal_sightSeen] h) n (inI r) 0 0) 0 0 n (ov [a_t, a_c, (a_c + 1), (a_c + 2), (a_c + 3), (a_c + 4), (a_c + 9), (a_c + 10), (a_c + 11), (a_c + 12), (a_c + 22), (a_c + 23)] [.inr (10, fsX10 a_t a_c a_s), .inr (1, fsX1 a_c t_crystal_sightMany), .inr (8, fsX8 (a_c + 1) t_crystal_steps_many), IA E 16 t_crystal_steps_xs, IA E 16 t_crystal_steps_ys, IA E 16 t_crystal_steps_zs, .inr (8, fsX8 (a_c + 9) t_crystal_eyes_many), IA E 16 t_crystal_eyes_xs, IA E 16 t_crystal_eyes_ys, IA E 16 t_crystal_eyes_zs, IA E 20 t_crystal_sightEyes, ZA E 20 t_crystal_sightSeen] h) 0 [some (.ref a_t), some (vI v1)] [] := by
  rw [m_X10_readBack_0] at hs
  refine g_aload_n e_X10_readBack_0 rfl ?_
  refine g_get 0 8 ao rfl rfl fsX10_g8 fl_X10_64 e_X10_readBack_1 ?_
  refine g_iload_n e_X10_readBack_4 rfl ?_
  obtain ⟨y1, hy1, hs⟩ := bind_elim hs
  refine g_callVr [vI v1] cv_X10_284 ⟨rfl, rfl, Nat.le_of_ble_eq_true rfl, Nat.le_of_ble_eq_true rfl⟩ (ct_X1_fitting (a_t := a_c) (AO_call [1, 2, 3, 4, 5, 6, 7, 8, 9, 10, 11] ao (by decide) rfl) (FA_call [1, 2, 3, 4, 5, 6, 7, 8, 9, 10, 11] ao.1 rfl rfl) ok_t_crystal_sightMany ok_t_crystal_steps_many ok_t_crystal_steps_xs ok_t_crystal_steps_ys ok_t_crystal_steps_zs ok_t_crystal_eyes_many ok_t_crystal_eyes_xs ok_t_crystal_eyes_ys ok_t_crystal_eyes_zs ok_t_crystal_sightEyes ok_t_crystal_sightSeen ok_v1 hy1) e_X10_readBack_5 (ao.2 1 _ rfl) (ov_get 1 ao.1 rfl rfl) rfl rfl rfl (Nat.le_of_ble_eq_true rfl) ⟨Nat.le_refl _, Nat.le_refl _⟩ (fun Py1 => ?_)
  obtain rfl := Option.some.inj hs
  exact g_iret rfl Py1 e_X10_readBack_8

noncomputable def m_X10_readBack (t_crystal_sightMany : Int) (t_crystal_steps_many : Int) (t_crystal_steps_xs : Nat → Int) (t_crystal_steps_ys : Nat → Int) (t_crystal_steps_zs : Nat → Int) (t_crystal_eyes_many : Int) (t_crystal_eyes_xs : Nat → Int) (t_crystal_eyes_ys : Nat → Int) (t_crystal_eyes_zs : Nat → Int) (t_crystal_sightEyes : Nat → Int) (t_crystal_sightSeen : Nat → Int) (v1 : Int) : Option (Int) := m_X10_readBack_0 t_crystal_sightMany t_crystal_steps_many t_crystal_steps_xs t_crystal_steps_ys t_crystal_steps_zs t_crystal_eyes_many t_crystal_eyes_xs t_crystal_eyes_ys t_crystal_eyes_zs t_crystal_sightEyes t_crystal_sightSeen v1

set_option maxRecDepth 10000 in
set_option maxHeartbeats 8000000 in
theorem ct_X10_readBack {l : Launch} {E : EE} {b0 n : Nat} {h : AH} {a_t a_c a_s : Nat} {t_crystal_sightMany t_crystal_steps_many t_crystal_eyes_many : Int} {t_crystal_steps_xs t_crystal_steps_ys t_crystal_steps_zs t_crystal_eyes_xs t_crystal_eyes_ys t_crystal_eyes_zs t_crystal_sightEyes t_crystal_sightSeen : Nat → Int} {v1 : Int} (ao : AO b0 n [a_t, a_c, (a_c + 1), (a_c + 2), (a_c + 3), (a_c + 4), (a_c + 9), (a_c + 10), (a_c + 11), (a_c + 12), (a_c + 22), (a_c + 23)]) (hf : FA h [a_t, a_c, (a_c + 1), (a_c + 2), (a_c + 3), (a_c + 4), (a_c + 9), (a_c + 10), (a_c + 11), (a_c + 12), (a_c + 22), (a_c + 23)] [.inr (10, fsX10 a_t a_c a_s), .inr (1, fsX1 a_c t_crystal_sightMany), .inr (8, fsX8 (a_c + 1) t_crystal_steps_many), IA E 16 t_crystal_steps_xs, IA E 16 t_crystal_steps_ys, IA E 16 t_crystal_steps_zs, .inr (8, fsX8 (a_c + 9) t_crystal_eyes_many), IA E 16 t_crystal_eyes_xs, IA E 16 t_crystal_eyes_ys, IA E 16 t_crystal_eyes_zs, IA E 20 t_crystal_sightEyes, ZA E 20 t_crystal_sightSeen]) (ok_t_crystal_sightMany : inI t_crystal_sightMany) (ok_t_crystal_steps_many : inI t_crystal_steps_many) (ok_t_crystal_steps_xs : okA t_crystal_steps_xs) (ok_t_crystal_steps_ys : okA t_crystal_steps_ys) (ok_t_crystal_steps_zs : okA t_crystal_steps_zs) (ok_t_crystal_eyes_many : inI t_crystal_eyes_many) (ok_t_crystal_eyes_xs : okA t_crystal_eyes_xs) (ok_t_crystal_eyes_ys : okA t_crystal_eyes_ys) (ok_t_crystal_eyes_zs : okA t_crystal_eyes_zs) (ok_t_crystal_sightEyes : okA t_crystal_sightEyes) (ok_t_crystal_sightSeen : okZ t_crystal_sightSeen) (ok_v1 : inI v1) {r : Int} (hm : m_X10_readBack t_crystal_sightMany t_crystal_steps_many t_crystal_steps_xs t_crystal_steps_ys t_crystal_steps_zs t_crystal_eyes_many t_crystal_eyes_xs t_crystal_eyes_ys t_crystal_eyes_zs t_crystal_sightEyes t_crystal_sightSeen v1 = some r) : Ct l E b0 M_X10_readBack 0 0 [.ref a_t, vI v1] h n (some (vI r)) h n (inI r) := by
  rw [m_X10_readBack] at hm
  have hg : G l E b0 M_X10_readBack (fun _ => True) (ZM E b0 (some (vI r)) (ov [a_t, a_c, (a_c + 1), (a_c + 2), (a_c + 3), (a_c + 4), (a_c + 9), (a_c + 10), (a_c + 11), (a_c + 12), (a_c + 22), (a_c + 23)] [.inr (10, fsX10 a_t a_c a_s), .inr (1, fsX1 a_c t_crystal_sightMany), .inr (8, fsX8 (a_c + 1) t_crystal_steps_many), IA E 16 t_crystal_steps_xs, IA E 16 t_crystal_steps_ys, IA E 16 t_crystal_steps_zs, .inr (8, fsX8 (a_c + 9) t_crystal_eyes_many), IA E 16 t_crystal_eyes_xs, IA E 16 t_crystal_eyes_ys, IA E 16 t_crystal_eyes_zs, IA E 20 t_crystal_sightEyes, ZA E 20 t_crystal_sightSeen] h) n (inI r) 0 0) 0 0 n (ov [a_t, a_c, (a_c + 1), (a_c + 2), (a_c + 3), (a_c + 4), (a_c + 9), (a_c + 10), (a_c + 11), (a_c + 12), (a_c + 22), (a_c + 23)] [.inr (10, fsX10 a_t a_c a_s), .inr (1, fsX1 a_c t_crystal_sightMany), .inr (8, fsX8 (a_c + 1) t_crystal_steps_many), IA E 16 t_crystal_steps_xs, IA E 16 t_crystal_steps_ys, IA E 16 t_crystal_steps_zs, .inr (8, fsX8 (a_c + 9) t_crystal_eyes_many), IA E 16 t_crystal_eyes_xs, IA E 16 t_crystal_eyes_ys, IA E 16 t_crystal_eyes_zs, IA E 20 t_crystal_sightEyes, ZA E 20 t_crystal_sightSeen] h) 0 [some (.ref a_t), some (vI v1)] [] := by
    have hs := hm
    exact g_X10_readBack_0 ao ok_t_crystal_sightMany ok_t_crystal_steps_many ok_t_crystal_steps_xs ok_t_crystal_steps_ys ok_t_crystal_steps_zs ok_t_crystal_eyes_many ok_t_crystal_eyes_xs ok_t_crystal_eyes_ys ok_t_crystal_eyes_zs ok_t_crystal_sightEyes ok_t_crystal_sightSeen ok_v1 hs
  rw [FA_id hf] at hg
  exact Ct_of [some (.ref a_t), some (vI v1)] ⟨by decide +kernel, rfl⟩ rfl (Nat.le_of_ble_eq_true rfl) hg

/-! ===== X10_system ===== -/
theorem e_X10_system_0 : DC cX10_system 0 (.aload_n 0) 1 1 := ⟨by decide +kernel, rfl⟩
theorem e_X10_system_1 : DC cX10_system 1 (.getfield 64) 3 4 := ⟨by decide +kernel, rfl⟩
theorem e_X10_system_4 : DC cX10_system 4 (.getfield 234) 3 7 := ⟨by decide +kernel, rfl⟩
theorem e_X10_system_7 : DC cX10_system 7 (.iload_n 1) 1 8 := ⟨by decide +kernel, rfl⟩
theorem e_X10_system_8 : DC cX10_system 8 (.invokevirtual 94) 3 11 := ⟨by decide +kernel, rfl⟩
theorem e_X10_system_11 : DB cX10_system 11 (.ifCond .eq 17) (17) 3 14 28 := ⟨by decide +kernel, rfl, rfl⟩
theorem e_X10_system_14 : DC cX10_system 14 (.aload_n 0) 1 15 := ⟨by decide +kernel, rfl⟩
theorem e_X10_system_15 : DC cX10_system 15 (.getfield 64) 3 18 := ⟨by decide +kernel, rfl⟩
theorem e_X10_system_18 : DC cX10_system 18 (.getfield 149) 3 21 := ⟨by decide +kernel, rfl⟩
theorem e_X10_system_21 : DC cX10_system 21 (.iload_n 2) 1 22 := ⟨by decide +kernel, rfl⟩
theorem e_X10_system_22 : DC cX10_system 22 (.invokevirtual 94) 3 25 := ⟨by decide +kernel, rfl⟩
theorem e_X10_system_25 : DB cX10_system 25 (.ifCond .ne 5) (5) 3 28 30 := ⟨by decide +kernel, rfl, rfl⟩
theorem e_X10_system_28 : DC cX10_system 28 (.iconst (-1)) 1 29 := ⟨by decide +kernel, rfl⟩
theorem e_X10_system_29 : DC cX10_system 29 (.ireturn) 1 30 := ⟨by decide +kernel, rfl⟩
theorem e_X10_system_30 : DC cX10_system 30 (.aload_n 0) 1 31 := ⟨by decide +kernel, rfl⟩
theorem e_X10_system_31 : DC cX10_system 31 (.getfield 64) 3 34 := ⟨by decide +kernel, rfl⟩
theorem e_X10_system_34 : DC cX10_system 34 (.getfield 234) 3 37 := ⟨by decide +kernel, rfl⟩
theorem e_X10_system_37 : DC cX10_system 37 (.iload_n 1) 1 38 := ⟨by decide +kernel, rfl⟩
theorem e_X10_system_38 : DC cX10_system 38 (.aload_n 0) 1 39 := ⟨by decide +kernel, rfl⟩
theorem e_X10_system_39 : DC cX10_system 39 (.getfield 64) 3 42 := ⟨by decide +kernel, rfl⟩
theorem e_X10_system_42 : DC cX10_system 42 (.getfield 149) 3 45 := ⟨by decide +kernel, rfl⟩
theorem e_X10_system_45 : DC cX10_system 45 (.iload_n 2) 1 46 := ⟨by decide +kernel, rfl⟩
theorem e_X10_system_46 : DC cX10_system 46 (.invokevirtual 273) 3 49 := ⟨by decide +kernel, rfl⟩
theorem e_X10_system_49 : DB cX10_system 49 (.ifCond .eq 5) (5) 3 52 54 := ⟨by decide +kernel, rfl, rfl⟩
theorem e_X10_system_52 : DC cX10_system 52 (.iconst (-1)) 1 53 := ⟨by decide +kernel, rfl⟩
theorem e_X10_system_53 : DC cX10_system 53 (.ireturn) 1 54 := ⟨by decide +kernel, rfl⟩
theorem e_X10_system_54 : DC cX10_system 54 (.aload_n 0) 1 55 := ⟨by decide +kernel, rfl⟩
theorem e_X10_system_55 : DC cX10_system 55 (.getfield 57) 3 58 := ⟨by decide +kernel, rfl⟩
theorem e_X10_system_58 : DC cX10_system 58 (.aload_n 0) 1 59 := ⟨by decide +kernel, rfl⟩
theorem e_X10_system_59 : DC cX10_system 59 (.getfield 64) 3 62 := ⟨by decide +kernel, rfl⟩
theorem e_X10_system_62 : DC cX10_system 62 (.iload_n 1) 1 63 := ⟨by decide +kernel, rfl⟩
theorem e_X10_system_63 : DC cX10_system 63 (.iload_n 2) 1 64 := ⟨by decide +kernel, rfl⟩
theorem e_X10_system_64 : DC cX10_system 64 (.invokevirtual 290) 3 67 := ⟨by decide +kernel, rfl⟩
theorem e_X10_system_67 : DC cX10_system 67 (.ireturn) 1 68 := ⟨by decide +kernel, rfl⟩
noncomputable def m_X10_system_0 (t_grain_many : Int) (t_grain_planes_many : Int) (t_grain_planes_xs : Nat → Int) (t_grain_planes_ys : Nat → Int) (t_grain_planes_zs : Nat → Int) (t_grain_steps_many : Int) (t_grain_steps_xs : Nat → Int) (t_grain_steps_ys : Nat → Int) (t_grain_steps_zs : Nat → Int) (t_crystal_steps_many : Int) (t_crystal_steps_xs : Nat → Int) (t_crystal_steps_ys : Nat → Int) (t_crystal_steps_zs : Nat → Int) (t_crystal_planes_many : Int) (t_crystal_planes_xs : Nat → Int) (t_crystal_planes_ys : Nat → Int) (t_crystal_planes_zs : Nat → Int) (v1 : Int) (v2 : Int) : Option (Int × Int × Int × (Nat → Int) × (Nat → Int) × (Nat → Int) × Int × (Nat → Int) × (Nat → Int) × (Nat → Int)) :=
  (m_X8_has t_crystal_planes_many v1).bind (fun y1 => if y1 = 0 then (some ((-1), t_grain_many, t_grain_planes_many, t_grain_planes_xs, t_grain_planes_ys, t_grain_planes_zs, t_grain_steps_many, t_grain_steps_xs, t_grain_steps_ys, t_grain_steps_zs)) else ((m_X8_has t_crystal_steps_many v2).bind (fun y2 => if y2 = 0 then (some ((-1), t_grain_many, t_grain_planes_many, t_grain_planes_xs, t_grain_planes_ys, t_grain_planes_zs, t_grain_steps_many, t_grain_steps_xs, t_grain_steps_ys, t_grain_steps_zs)) else ((m_X8_product 16 16 t_crystal_planes_many t_crystal_planes_xs t_crystal_planes_ys t_crystal_planes_zs t_crystal_steps_many t_crystal_steps_xs t_crystal_steps_ys t_crystal_steps_zs v1 v2).bind (fun y3 => if y3 = 0 then ((m_X2_newSystem t_grain_many t_grain_planes_many t_grain_planes_xs t_grain_planes_ys t_grain_planes_zs t_grain_steps_many t_grain_steps_xs t_grain_steps_ys t_grain_steps_zs t_crystal_steps_many t_crystal_steps_xs t_crystal_steps_ys t_crystal_steps_zs t_crystal_planes_many t_crystal_planes_xs t_crystal_planes_ys t_crystal_planes_zs v1 v2).bind (fun y4 => some (y4.1, y4.2.1, y4.2.2.1, y4.2.2.2.1, y4.2.2.2.2.1, y4.2.2.2.2.2.1, y4.2.2.2.2.2.2.1, y4.2.2.2.2.2.2.2.1, y4.2.2.2.2.2.2.2.2.1, y4.2.2.2.2.2.2.2.2.2))) else (some ((-1), t_grain_many, t_grain_planes_many, t_grain_planes_xs, t_grain_planes_ys, t_grain_planes_zs, t_grain_steps_many, t_grain_steps_xs, t_grain_steps_ys, t_grain_steps_zs)))))))

set_option maxRecDepth 10000 in
set_option maxHeartbeats 8000000 in
theorem g_X10_system_0 {l : Launch} {E : EE} {b0 n : Nat} {h : AH} {a_t a_c a_s : Nat} {t_grain_many t_grain_ownPart t_grain_crossPart t_grain_pointMany t_grain_wallFirst t_grain_wallSize t_grain_planes_many t_grain_steps_many t_crystal_sightMany t_crystal_steps_many t_crystal_planes_many v1 v2 : Int} {t_grain_planes_xs t_grain_planes_ys t_grain_planes_zs t_grain_steps_xs t_grain_steps_ys t_grain_steps_zs t_crystal_steps_xs t_crystal_steps_ys t_crystal_steps_zs t_crystal_planes_xs t_crystal_planes_ys t_crystal_planes_zs : Nat → Int} {r : Int × Int × Int × (Nat → Int) × (Nat → Int) × (Nat → Int) × Int × (Nat → Int) × (Nat → Int) × (Nat → Int)} (ao : AO b0 n [a_t, (a_t + 276), (a_t + 278), (a_t + 279), (a_t + 280), (a_t + 281), (a_t + 282), (a_t + 283), (a_t + 284), (a_t + 285), a_c, (a_c + 1), (a_c + 2), (a_c + 3), (a_c + 4), (a_c + 5), (a_c + 6), (a_c + 7), (a_c + 8)]) (ok_t_grain_many : inI t_grain_many) (ok_t_grain_planes_many : inI t_grain_planes_many) (ok_t_grain_planes_xs : okA t_grain_planes_xs) (ok_t_grain_planes_ys : okA t_grain_planes_ys) (ok_t_grain_planes_zs : okA t_grain_planes_zs) (ok_t_grain_steps_many : inI t_grain_steps_many) (ok_t_grain_steps_xs : okA t_grain_steps_xs) (ok_t_grain_steps_ys : okA t_grain_steps_ys) (ok_t_grain_steps_zs : okA t_grain_steps_zs) (ok_t_crystal_steps_many : inI t_crystal_steps_many) (ok_t_crystal_steps_xs : okA t_crystal_steps_xs) (ok_t_crystal_steps_ys : okA t_crystal_steps_ys) (ok_t_crystal_steps_zs : okA t_crystal_steps_zs) (ok_t_crystal_planes_many : inI t_crystal_planes_many) (ok_t_crystal_planes_xs : okA t_crystal_planes_xs) (ok_t_crystal_planes_ys : okA t_crystal_planes_ys) (ok_t_crystal_planes_zs : okA t_crystal_planes_zs) (ok_v1 : inI v1) (ok_v2 : inI v2) (hs : m_X10_system_0 t_grain_many t_grain_planes_many t_grain_planes_xs t_grain_planes_ys t_grain_planes_zs t_grain_steps_many t_grain_steps_xs t_grain_steps_ys t_grain_steps_zs t_crystal_steps_many t_crystal_steps_xs t_crystal_steps_ys t_crystal_steps_zs t_crystal_planes_many t_crystal_planes_xs t_crystal_planes_ys t_crystal_planes_zs v1 v2 = some r) : G l E b0 M_X10_system (fun _ => True) (ZM E b0 (some (vI r.1)) (ov [a_t, (a_t + 276), (a_t + 278), (a_t + 279), (a_t + 280), (a_t + 281), (a_t + 282), (a_t + 283), (a_t + 284), (a_t + 285), a_c, (a_c + 1), (a_c + 2), (a_c + 3), (a_c + 4), (a_c + 5), (a_c + 6), (a_c + 7), (a_c + 8)] [.inr (10, fsX10 a_t a_c a_s), .inr (2, fsX2 (a_t + 276) r.2.1 t_grain_ownPart t_grain_crossPart t_grain_pointMany t_grain_wallFirst t_grain_wallSize), .inr (8, fsX8 (a_t + 278) r.2.2.1), IA E 8 r.2.2.2.1, IA E 8 r.2.2.2.2.1, IA E 8 r.2.2.2.2.2.1, .inr (8, fsX8 (a_t + 282) r.2.2.2.2.2.2.1), IA E 8 r.2.2.2.2.2.2.2.1, IA E 8 r.2.2.2.2.2.2.2.2.1, IA E 8 r.2.2.2.2.2.2.2.2.2, .inr (1, fsX1 a_c t_crystal_sightMany), .inr (8, fsX8 (a_c + 1) t_crystal_steps_many), IA E 16 t_crystal_steps_xs, IA E 16 t_crystal_steps_ys, IA E 16 t_crystal_steps_zs, .inr (8, fsX8 (a_c + 5) t_crystal_planes_many), IA E 16 t_crystal_planes_xs, IA E 16 t_crystal_planes_ys, IA E 16 t_crystal_planes_zs] h) n (inI r.1 ∧ inI r.2.1 ∧ inI r.2.2.1 ∧ okA r.2.2.2.1 ∧ okA r.2.2.2.2.1 ∧ okA r.2.2.2.2.2.1 ∧ inI r.2.2.2.2.2.2.1 ∧ okA r.2.2.2.2.2.2.2.1 ∧ okA r.2.2.2.2.2.2.2.2.1 ∧ okA r.2.2.2.2.2.2.2.2.2) 0 0) 0 0 n (ov [a_t, (a_t + 276), (a_t + 278), (a_t + 279), (a_t + 280), (a_t + 281), (a_t + 282), (a_t + 283), (a_t + 284), (a_t + 285), a_c, (a_c + 1), (a_c + 2), (a_c + 3), (a_c + 4), (a_c + 5), (a_c + 6), (a_c + 7), (a_c + 8)] [.inr (10, fsX10 a_t a_c a_s), .inr (2, fsX2 (a_t + 276) t_grain_many t_grain_ownPart t_grain_crossPart t_grain_pointMany t_grain_wallFirst t_grain_wallSize), .inr (8, fsX8 (a_t + 278) t_grain_planes_many), IA E 8 t_grain_planes_xs, IA E 8 t_grain_planes_ys, IA E 8 t_grain_planes_zs, .inr (8, fsX8 (a_t + 282) t_grain_steps_many), IA E 8 t_grain_steps_xs, IA E 8 t_grain_steps_ys, IA E 8 t_grain_steps_zs, .inr (1, fsX1 a_c t_crystal_sightMany), .inr (8, fsX8 (a_c + 1) t_crystal_steps_many), IA E 16 t_crystal_steps_xs, IA E 16 t_crystal_steps_ys, IA E 16 t_crystal_steps_zs, .inr (8, fsX8 (a_c + 5) t_crystal_planes_many), IA E 16 t_crystal_planes_xs, IA E 16 t_crystal_planes_ys, IA E 16 t_crystal_planes_zs] h) 0 [some (.ref a_t), some (vI v1), some (vI v2)] [] := by
  rw [m_X10_system_0] at hs
  refine g_aload_n e_X10_system_0 rfl ?_
  refine g_get 0 8 ao rfl rfl fsX10_g8 fl_X10_64 e_X10_system_1 ?_
  refine g_get 10 1 ao rfl rfl fsX1_g1 fl_X10_234 e_X10_system_4 ?_
  refine g_iload_n e_X10_system_7 rfl ?_
  obtain ⟨y1, hy1, hs⟩ := bind_elim hs
  refine g_callVr [vI v1] cv_X10_94 ⟨rfl, rfl, Nat.le_of_ble_eq_true rfl, Nat.le_of_ble_eq_true rfl⟩ (ct_X8_has (a_t := (a_c + 5)) (AO_call [15] ao (by decide) rfl) (FA_call [15] ao.1 rfl rfl) ok_t_crystal_planes_many ok_v1 hy1) e_X10_system_8 (ao.2 15 _ rfl) (ov_get 15 ao.1 rfl rfl) rfl rfl rfl (Nat.le_of_ble_eq_true rfl) ⟨Nat.le_refl _, Nat.le_refl _⟩ (fun Py1 => ?_)
  refine g_if_eq e_X10_system_11 (inZ_I Py1) hs (fun c11 hs => ?_) (fun c11 hs => ?_)
  · refine g_iconst e_X10_system_28 ?_
    obtain rfl := Option.some.inj hs
    exact g_iret rfl ⟨(by decide : inI (-1)), ok_t_grain_many, ok_t_grain_planes_many, ok_t_grain_planes_xs, ok_t_grain_planes_ys, ok_t_grain_planes_zs, ok_t_grain_steps_many, ok_t_grain_steps_xs, ok_t_grain_steps_ys, ok_t_grain_steps_zs⟩ e_X10_system_29
  · refine g_aload_n e_X10_system_14 rfl ?_
    refine g_get 0 8 ao rfl rfl fsX10_g8 fl_X10_64 e_X10_system_15 ?_
    refine g_get 10 0 ao rfl rfl fsX1_g0 fl_X10_149 e_X10_system_18 ?_
    refine g_iload_n e_X10_system_21 rfl ?_
    obtain ⟨y2, hy2, hs⟩ := bind_elim hs
    refine g_callVr [vI v2] cv_X10_94 ⟨rfl, rfl, Nat.le_of_ble_eq_true rfl, Nat.le_of_ble_eq_true rfl⟩ (ct_X8_has (a_t := (a_c + 1)) (AO_call [11] ao (by decide) rfl) (FA_call [11] ao.1 rfl rfl) ok_t_crystal_steps_many ok_v2 hy2) e_X10_system_22 (ao.2 11 _ rfl) (ov_get 11 ao.1 rfl rfl) rfl rfl rfl (Nat.le_of_ble_eq_true rfl) ⟨Nat.le_refl _, Nat.le_refl _⟩ (fun Py2 => ?_)
    refine g_if_ne e_X10_system_25 (inZ_I Py2) hs (fun c25 hs => ?_) (fun c25 hs => ?_)
    · refine g_iconst e_X10_system_28 ?_
      obtain rfl := Option.some.inj hs
      exact g_iret rfl ⟨(by decide : inI (-1)), ok_t_grain_many, ok_t_grain_planes_many, ok_t_grain_planes_xs, ok_t_grain_planes_ys, ok_t_grain_planes_zs, ok_t_grain_steps_many, ok_t_grain_steps_xs, ok_t_grain_steps_ys, ok_t_grain_steps_zs⟩ e_X10_system_29
    · refine g_aload_n e_X10_system_30 rfl ?_
      refine g_get 0 8 ao rfl rfl fsX10_g8 fl_X10_64 e_X10_system_31 ?_
      refine g_get 10 1 ao rfl rfl fsX1_g1 fl_X10_234 e_X10_system_34 ?_
      refine g_iload_n e_X10_system_37 rfl ?_
      refine g_aload_n e_X10_system_38 rfl ?_
      refine g_get 0 8 ao rfl rfl fsX10_g8 fl_X10_64 e_X10_system_39 ?_
      refine g_get 10 0 ao rfl rfl fsX1_g0 fl_X10_149 e_X10_system_42 ?_
      refine g_iload_n e_X10_system_45 rfl ?_
      obtain ⟨y3, hy3, hs⟩ := bind_elim hs
      refine g_callVr [vI v1, .ref (a_c + 1), vI v2] cv_X10_273 ⟨rfl, rfl, Nat.le_of_ble_eq_true rfl, Nat.le_of_ble_eq_true rfl⟩ (ct_X8_product (a_t := (a_c + 5)) (a_p2 := (a_c + 1)) (AO_call [15, 16, 17, 18, 11, 12, 13, 14] ao (by decide) rfl) (by omega) (by omega) (FA_call [15, 16, 17, 18, 11, 12, 13, 14] ao.1 rfl rfl) ok_t_crystal_planes_many ok_t_crystal_planes_xs ok_t_crystal_planes_ys ok_t_crystal_planes_zs ok_t_crystal_steps_many ok_t_crystal_steps_xs ok_t_crystal_steps_ys ok_t_crystal_steps_zs ok_v1 ok_v2 hy3) e_X10_system_46 (ao.2 15 _ rfl) (ov_get 15 ao.1 rfl rfl) rfl rfl rfl (Nat.le_of_ble_eq_true rfl) ⟨Nat.le_refl _, Nat.le_refl _⟩ (fun Py3 => ?_)
      refine g_if_eq e_X10_system_49 Py3 hs (fun c49 hs => ?_) (fun c49 hs => ?_)
      · refine g_aload_n e_X10_system_54 rfl ?_
        refine g_get 0 7 ao rfl rfl fsX10_g7 fl_X10_57 e_X10_system_55 ?_
        refine g_aload_n e_X10_system_58 rfl ?_
        refine g_get 0 8 ao rfl rfl fsX10_g8 fl_X10_64 e_X10_system_59 ?_
        refine g_iload_n e_X10_system_62 rfl ?_
        refine g_iload_n e_X10_system_63 rfl ?_
        obtain ⟨y4, hy4, hs⟩ := bind_elim hs
        refine g_callVr [.ref a_c, vI v1, vI v2] cv_X10_290 ⟨rfl, rfl, Nat.le_of_ble_eq_true rfl, Nat.le_of_ble_eq_true rfl⟩ (Ct_heap (ct_X2_newSystem (a_t := (a_t + 276)) (a_p1 := a_c) (AO_call [1, 2, 3, 4, 5, 6, 7, 8, 9, 10, 11, 12, 13, 14, 15, 16, 17, 18] ao (by decide) rfl) (FA_call [1, 2, 3, 4, 5, 6, 7, 8, 9, 10, 11, 12, 13, 14, 15, 16, 17, 18] ao.1 rfl rfl) ok_t_grain_many ok_t_grain_planes_many ok_t_grain_planes_xs ok_t_grain_planes_ys ok_t_grain_planes_zs ok_t_grain_steps_many ok_t_grain_steps_xs ok_t_grain_steps_ys ok_t_grain_steps_zs ok_t_crystal_steps_many ok_t_crystal_steps_xs ok_t_crystal_steps_ys ok_t_crystal_steps_zs ok_t_crystal_planes_many ok_t_crystal_planes_xs ok_t_crystal_planes_ys ok_t_crystal_planes_zs ok_v1 ok_v2 hy4) (ov_callN (esn := [.inr (10, fsX10 a_t a_c a_s), .inr (2, fsX2 (a_t + 276) y4.2.1 t_grain_ownPart t_grain_crossPart t_grain_pointMany t_grain_wallFirst t_grain_wallSize), .inr (8, fsX8 (a_t + 278) y4.2.2.1), IA E 8 y4.2.2.2.1, IA E 8 y4.2.2.2.2.1, IA E 8 y4.2.2.2.2.2.1, .inr (8, fsX8 (a_t + 282) y4.2.2.2.2.2.2.1), IA E 8 y4.2.2.2.2.2.2.2.1, IA E 8 y4.2.2.2.2.2.2.2.2.1, IA E 8 y4.2.2.2.2.2.2.2.2.2, .inr (1, fsX1 a_c t_crystal_sightMany), .inr (8, fsX8 (a_c + 1) t_crystal_steps_many), IA E 16 t_crystal_steps_xs, IA E 16 t_crystal_steps_ys, IA E 16 t_crystal_steps_zs, .inr (8, fsX8 (a_c + 5) t_crystal_planes_many), IA E 16 t_crystal_planes_xs, IA E 16 t_crystal_planes_ys, IA E 16 t_crystal_planes_zs]) [1, 2, 3, 4, 5, 6, 7, 8, 9, 10, 11, 12, 13, 14, 15, 16, 17, 18] [true, false, false, false, false, false, false, false, false, false, false, false, false, false, false, false, false, false, false] ao.1 rfl rfl rfl rfl rfl rfl (by decide))) e_X10_system_64 (ao.2 1 _ rfl) (ov_get 1 ao.1 rfl rfl) rfl rfl rfl (Nat.le_of_ble_eq_true rfl) ⟨Nat.le_refl _, Nat.le_refl _⟩ (fun Py4 => ?_)
        obtain rfl := Option.some.inj hs
        exact g_iret rfl ⟨Py4.1, Py4.2.1, Py4.2.2.1, Py4.2.2.2.1, Py4.2.2.2.2.1, Py4.2.2.2.2.2.1, Py4.2.2.2.2.2.2.1, Py4.2.2.2.2.2.2.2.1, Py4.2.2.2.2.2.2.2.2.1, Py4.2.2.2.2.2.2.2.2.2⟩ e_X10_system_67
      · refine g_iconst e_X10_system_52 ?_
        obtain rfl := Option.some.inj hs
        exact g_iret rfl ⟨(by decide : inI (-1)), ok_t_grain_many, ok_t_grain_planes_many, ok_t_grain_planes_xs, ok_t_grain_planes_ys, ok_t_grain_planes_zs, ok_t_grain_steps_many, ok_t_grain_steps_xs, ok_t_grain_steps_ys, ok_t_grain_steps_zs⟩ e_X10_system_53

noncomputable def m_X10_system (t_grain_many : Int) (t_grain_planes_many : Int) (t_grain_planes_xs : Nat → Int) (t_grain_planes_ys : Nat → Int) (t_grain_planes_zs : Nat → Int) (t_grain_steps_many : Int) (t_grain_steps_xs : Nat → Int) (t_grain_steps_ys : Nat → Int) (t_grain_steps_zs : Nat → Int) (t_crystal_steps_many : Int) (t_crystal_steps_xs : Nat → Int) (t_crystal_steps_ys : Nat → Int) (t_crystal_steps_zs : Nat → Int) (t_crystal_planes_many : Int) (t_crystal_planes_xs : Nat → Int) (t_crystal_planes_ys : Nat → Int) (t_crystal_planes_zs : Nat → Int) (v1 : Int) (v2 : Int) : Option (Int × Int × Int × (Nat → Int) × (Nat → Int) × (Nat → Int) × Int × (Nat → Int) × (Nat → Int) × (Nat → Int)) := m_X10_system_0 t_grain_many t_grain_planes_many t_grain_planes_xs t_grain_planes_ys t_grain_planes_zs t_grain_steps_many t_grain_steps_xs t_grain_steps_ys t_grain_steps_zs t_crystal_steps_many t_crystal_steps_xs t_crystal_steps_ys t_crystal_steps_zs t_crystal_planes_many t_crystal_planes_xs t_crystal_planes_ys t_crystal_planes_zs v1 v2

set_option maxRecDepth 10000 in
set_option maxHeartbeats 8000000 in
theorem ct_X10_system {l : Launch} {E : EE} {b0 n : Nat} {h : AH} {a_t a_c a_s : Nat} {t_grain_many t_grain_ownPart t_grain_crossPart t_grain_pointMany t_grain_wallFirst t_grain_wallSize t_grain_planes_many t_grain_steps_many t_crystal_sightMany t_crystal_steps_many t_crystal_planes_many : Int} {t_grain_planes_xs t_grain_planes_ys t_grain_planes_zs t_grain_steps_xs t_grain_steps_ys t_grain_steps_zs t_crystal_steps_xs t_crystal_steps_ys t_crystal_steps_zs t_crystal_planes_xs t_crystal_planes_ys t_crystal_planes_zs : Nat → Int} {v1 v2 : Int} (ao : AO b0 n [a_t, (a_t + 276), (a_t + 278), (a_t + 279), (a_t + 280), (a_t + 281), (a_t + 282), (a_t + 283), (a_t + 284), (a_t + 285), a_c, (a_c + 1), (a_c + 2), (a_c + 3), (a_c + 4), (a_c + 5), (a_c + 6), (a_c + 7), (a_c + 8)]) (hf : FA h [a_t, (a_t + 276), (a_t + 278), (a_t + 279), (a_t + 280), (a_t + 281), (a_t + 282), (a_t + 283), (a_t + 284), (a_t + 285), a_c, (a_c + 1), (a_c + 2), (a_c + 3), (a_c + 4), (a_c + 5), (a_c + 6), (a_c + 7), (a_c + 8)] [.inr (10, fsX10 a_t a_c a_s), .inr (2, fsX2 (a_t + 276) t_grain_many t_grain_ownPart t_grain_crossPart t_grain_pointMany t_grain_wallFirst t_grain_wallSize), .inr (8, fsX8 (a_t + 278) t_grain_planes_many), IA E 8 t_grain_planes_xs, IA E 8 t_grain_planes_ys, IA E 8 t_grain_planes_zs, .inr (8, fsX8 (a_t + 282) t_grain_steps_many), IA E 8 t_grain_steps_xs, IA E 8 t_grain_steps_ys, IA E 8 t_grain_steps_zs, .inr (1, fsX1 a_c t_crystal_sightMany), .inr (8, fsX8 (a_c + 1) t_crystal_steps_many), IA E 16 t_crystal_steps_xs, IA E 16 t_crystal_steps_ys, IA E 16 t_crystal_steps_zs, .inr (8, fsX8 (a_c + 5) t_crystal_planes_many), IA E 16 t_crystal_planes_xs, IA E 16 t_crystal_planes_ys, IA E 16 t_crystal_planes_zs]) (ok_t_grain_many : inI t_grain_many) (ok_t_grain_planes_many : inI t_grain_planes_many) (ok_t_grain_planes_xs : okA t_grain_planes_xs) (ok_t_grain_planes_ys : okA t_grain_planes_ys) (ok_t_grain_planes_zs : okA t_grain_planes_zs) (ok_t_grain_steps_many : inI t_grain_steps_many) (ok_t_grain_steps_xs : okA t_grain_steps_xs) (ok_t_grain_steps_ys : okA t_grain_steps_ys) (ok_t_grain_steps_zs : okA t_grain_steps_zs) (ok_t_crystal_steps_many : inI t_crystal_steps_many) (ok_t_crystal_steps_xs : okA t_crystal_steps_xs) (ok_t_crystal_steps_ys : okA t_crystal_steps_ys) (ok_t_crystal_steps_zs : okA t_crystal_steps_zs) (ok_t_crystal_planes_many : inI t_crystal_planes_many) (ok_t_crystal_planes_xs : okA t_crystal_planes_xs) (ok_t_crystal_planes_ys : okA t_crystal_planes_ys) (ok_t_crystal_planes_zs : okA t_crystal_planes_zs) (ok_v1 : inI v1) (ok_v2 : inI v2) {r : Int × Int × Int × (Nat → Int) × (Nat → Int) × (Nat → Int) × Int × (Nat → Int) × (Nat → Int) × (Nat → Int)} (hm : m_X10_system t_grain_many t_grain_planes_many t_grain_planes_xs t_grain_planes_ys t_grain_planes_zs t_grain_steps_many t_grain_steps_xs t_grain_steps_ys t_grain_steps_zs t_crystal_steps_many t_crystal_steps_xs t_crystal_steps_ys t_crystal_steps_zs t_crystal_planes_many t_crystal_planes_xs t_crystal_planes_ys t_crystal_planes_zs v1 v2 = some r) : Ct l E b0 M_X10_system 0 0 [.ref a_t, vI v1, vI v2] h n (some (vI r.1)) (ov [a_t, (a_t + 276), (a_t + 278), (a_t + 279), (a_t + 280), (a_t + 281), (a_t + 282), (a_t + 283), (a_t + 284), (a_t + 285), a_c, (a_c + 1), (a_c + 2), (a_c + 3), (a_c + 4), (a_c + 5), (a_c + 6), (a_c + 7), (a_c + 8)] [.inr (10, fsX10 a_t a_c a_s), .inr (2, fsX2 (a_t + 276) r.2.1 t_grain_ownPart t_grain_crossPart t_grain_pointMany t_grain_wallFirst t_grain_wallSize), .inr (8, fsX8 (a_t + 278) r.2.2.1), IA E 8 r.2.2.2.1, IA E 8 r.2.2.2.2.1, IA E 8 r.2.2.2.2.2.1, .inr (8, fsX8 (a_t + 282) r.2.2.2.2.2.2.1), IA E 8 r.2.2.2.2.2.2.2.1, IA E 8 r.2.2.2.2.2.2.2.2.1, IA E 8 r.2.2.2.2.2.2.2.2.2, .inr (1, fsX1 a_c t_crystal_sightMany), .inr (8, fsX8 (a_c + 1) t_crystal_steps_many), IA E 16 t_crystal_steps_xs, IA E 16 t_crystal_steps_ys, IA E 16 t_crystal_steps_zs, .inr (8, fsX8 (a_c + 5) t_crystal_planes_many), IA E 16 t_crystal_planes_xs, IA E 16 t_crystal_planes_ys, IA E 16 t_crystal_planes_zs] h) n (inI r.1 ∧ inI r.2.1 ∧ inI r.2.2.1 ∧ okA r.2.2.2.1 ∧ okA r.2.2.2.2.1 ∧ okA r.2.2.2.2.2.1 ∧ inI r.2.2.2.2.2.2.1 ∧ okA r.2.2.2.2.2.2.2.1 ∧ okA r.2.2.2.2.2.2.2.2.1 ∧ okA r.2.2.2.2.2.2.2.2.2) := by
  rw [m_X10_system] at hm
  have hg : G l E b0 M_X10_system (fun _ => True) (ZM E b0 (some (vI r.1)) (ov [a_t, (a_t + 276), (a_t + 278), (a_t + 279), (a_t + 280), (a_t + 281), (a_t + 282), (a_t + 283), (a_t + 284), (a_t + 285), a_c, (a_c + 1), (a_c + 2), (a_c + 3), (a_c + 4), (a_c + 5), (a_c + 6), (a_c + 7), (a_c + 8)] [.inr (10, fsX10 a_t a_c a_s), .inr (2, fsX2 (a_t + 276) r.2.1 t_grain_ownPart t_grain_crossPart t_grain_pointMany t_grain_wallFirst t_grain_wallSize), .inr (8, fsX8 (a_t + 278) r.2.2.1), IA E 8 r.2.2.2.1, IA E 8 r.2.2.2.2.1, IA E 8 r.2.2.2.2.2.1, .inr (8, fsX8 (a_t + 282) r.2.2.2.2.2.2.1), IA E 8 r.2.2.2.2.2.2.2.1, IA E 8 r.2.2.2.2.2.2.2.2.1, IA E 8 r.2.2.2.2.2.2.2.2.2, .inr (1, fsX1 a_c t_crystal_sightMany), .inr (8, fsX8 (a_c + 1) t_crystal_steps_many), IA E 16 t_crystal_steps_xs, IA E 16 t_crystal_steps_ys, IA E 16 t_crystal_steps_zs, .inr (8, fsX8 (a_c + 5) t_crystal_planes_many), IA E 16 t_crystal_planes_xs, IA E 16 t_crystal_planes_ys, IA E 16 t_crystal_planes_zs] h) n (inI r.1 ∧ inI r.2.1 ∧ inI r.2.2.1 ∧ okA r.2.2.2.1 ∧ okA r.2.2.2.2.1 ∧ okA r.2.2.2.2.2.1 ∧ inI r.2.2.2.2.2.2.1 ∧ okA r.2.2.2.2.2.2.2.1 ∧ okA r.2.2.2.2.2.2.2.2.1 ∧ okA r.2.2.2.2.2.2.2.2.2) 0 0) 0 0 n (ov [a_t, (a_t + 276), (a_t + 278), (a_t + 279), (a_t + 280), (a_t + 281), (a_t + 282), (a_t + 283), (a_t + 284), (a_t + 285), a_c, (a_c + 1), (a_c + 2), (a_c + 3), (a_c + 4), (a_c + 5), (a_c + 6), (a_c + 7), (a_c + 8)] [.inr (10, fsX10 a_t a_c a_s), .inr (2, fsX2 (a_t + 276) t_grain_many t_grain_ownPart t_grain_crossPart t_grain_pointMany t_grain_wallFirst t_grain_wallSize), .inr (8, fsX8 (a_t + 278) t_grain_planes_many), IA E 8 t_grain_planes_xs, IA E 8 t_grain_planes_ys, IA E 8 t_grain_planes_zs, .inr (8, fsX8 (a_t + 282) t_grain_steps_many), IA E 8 t_grain_steps_xs, IA E 8 t_grain_steps_ys, IA E 8 t_grain_steps_zs, .inr (1, fsX1 a_c t_crystal_sightMany), .inr (8, fsX8 (a_c + 1) t_crystal_steps_many), IA E 16 t_crystal_steps_xs, IA E 16 t_crystal_steps_ys, IA E 16 t_crystal_steps_zs, .inr (8, fsX8 (a_c + 5) t_crystal_planes_many), IA E 16 t_crystal_planes_xs, IA E 16 t_crystal_planes_ys, IA E 16 t_crystal_planes_zs] h) 0 [some (.ref a_t), some (vI v1), some (vI v2)] [] := by
    have hs := hm
    exact g_X10_system_0 ao ok_t_grain_many ok_t_grain_planes_many ok_t_grain_planes_xs ok_t_grain_planes_ys ok_t_grain_planes_zs ok_t_grain_steps_many ok_t_grain_steps_xs ok_t_grain_steps_ys ok_t_grain_steps_zs ok_t_crystal_steps_many ok_t_crystal_steps_xs ok_t_crystal_steps_ys ok_t_crystal_steps_zs ok_t_crystal_planes_many ok_t_crystal_planes_xs ok_t_crystal_planes_ys ok_t_crystal_planes_zs ok_v1 ok_v2 hs
  rw [FA_id hf] at hg
  exact Ct_of [some (.ref a_t), some (vI v1), some (vI v2)] ⟨by decide +kernel, rfl⟩ rfl (Nat.le_of_ble_eq_true rfl) hg

/-! ===== X10_harder ===== -/
theorem e_X10_harder_0 : DC cX10_harder 0 (.aload_n 0) 1 1 := ⟨by decide +kernel, rfl⟩
theorem e_X10_harder_1 : DC cX10_harder 1 (.getfield 57) 3 4 := ⟨by decide +kernel, rfl⟩
theorem e_X10_harder_4 : DC cX10_harder 4 (.iload_n 1) 1 5 := ⟨by decide +kernel, rfl⟩
theorem e_X10_harder_5 : DC cX10_harder 5 (.iload_n 2) 1 6 := ⟨by decide +kernel, rfl⟩
theorem e_X10_harder_6 : DC cX10_harder 6 (.invokevirtual 294) 3 9 := ⟨by decide +kernel, rfl⟩
theorem e_X10_harder_9 : DC cX10_harder 9 (.ireturn) 1 10 := ⟨by decide +kernel, rfl⟩
noncomputable def m_X10_harder_0 (t_grain_ownPart : Int) (t_grain_crossPart : Int) (v1 : Int) (v2 : Int) : Option (Int × Int × Int) :=
  (m_X2_tellHardening t_grain_ownPart t_grain_crossPart v1 v2).bind (fun y1 => some (y1.1, y1.2.1, y1.2.2))

set_option maxRecDepth 10000 in
set_option maxHeartbeats 8000000 in
theorem g_X10_harder_0 {l : Launch} {E : EE} {b0 n : Nat} {h : AH} {a_t a_c a_s : Nat} {t_grain_many t_grain_ownPart t_grain_crossPart t_grain_pointMany t_grain_wallFirst t_grain_wallSize v1 v2 : Int} {r : Int × Int × Int} (ao : AO b0 n [a_t, (a_t + 276)]) (ok_t_grain_ownPart : inI t_grain_ownPart) (ok_t_grain_crossPart : inI t_grain_crossPart) (ok_v1 : inI v1) (ok_v2 : inI v2) (hs : m_X10_harder_0 t_grain_ownPart t_grain_crossPart v1 v2 = some r) : G l E b0 M_X10_harder (fun _ => True) (ZM E b0 (some (vI r.1)) (ov [a_t, (a_t + 276)] [.inr (10, fsX10 a_t a_c a_s), .inr (2, fsX2 (a_t + 276) t_grain_many r.2.1 r.2.2 t_grain_pointMany t_grain_wallFirst t_grain_wallSize)] h) n (inZ r.1 ∧ inI r.2.1 ∧ inI r.2.2) 0 0) 0 0 n (ov [a_t, (a_t + 276)] [.inr (10, fsX10 a_t a_c a_s), .inr (2, fsX2 (a_t + 276) t_grain_many t_grain_ownPart t_grain_crossPart t_grain_pointMany t_grain_wallFirst t_grain_wallSize)] h) 0 [some (.ref a_t), some (vI v1), some (vI v2)] [] := by
  rw [m_X10_harder_0] at hs
  refine g_aload_n e_X10_harder_0 rfl ?_
  refine g_get 0 7 ao rfl rfl fsX10_g7 fl_X10_57 e_X10_harder_1 ?_
  refine g_iload_n e_X10_harder_4 rfl ?_
  refine g_iload_n e_X10_harder_5 rfl ?_
  obtain ⟨y1, hy1, hs⟩ := bind_elim hs
  refine g_callVr [vI v1, vI v2] cv_X10_294 ⟨rfl, rfl, Nat.le_of_ble_eq_true rfl, Nat.le_of_ble_eq_true rfl⟩ (Ct_heap (ct_X2_tellHardening (a_t := (a_t + 276)) (AO_call [1] ao (by decide) rfl) (FA_call [1] ao.1 rfl rfl) ok_t_grain_ownPart ok_t_grain_crossPart ok_v1 ok_v2 hy1) (ov_callN (esn := [.inr (10, fsX10 a_t a_c a_s), .inr (2, fsX2 (a_t + 276) t_grain_many y1.2.1 y1.2.2 t_grain_pointMany t_grain_wallFirst t_grain_wallSize)]) [1] [true, false] ao.1 rfl rfl rfl rfl rfl rfl (by decide))) e_X10_harder_6 (ao.2 1 _ rfl) (ov_get 1 ao.1 rfl rfl) rfl rfl rfl (Nat.le_of_ble_eq_true rfl) ⟨Nat.le_refl _, Nat.le_refl _⟩ (fun Py1 => ?_)
  obtain rfl := Option.some.inj hs
  exact g_zret rfl Py1.1 ⟨Py1.1, Py1.2.1, Py1.2.2⟩ e_X10_harder_9

noncomputable def m_X10_harder (t_grain_ownPart : Int) (t_grain_crossPart : Int) (v1 : Int) (v2 : Int) : Option (Int × Int × Int) := m_X10_harder_0 t_grain_ownPart t_grain_crossPart v1 v2

set_option maxRecDepth 10000 in
set_option maxHeartbeats 8000000 in
theorem ct_X10_harder {l : Launch} {E : EE} {b0 n : Nat} {h : AH} {a_t a_c a_s : Nat} {t_grain_many t_grain_ownPart t_grain_crossPart t_grain_pointMany t_grain_wallFirst t_grain_wallSize : Int} {v1 v2 : Int} (ao : AO b0 n [a_t, (a_t + 276)]) (hf : FA h [a_t, (a_t + 276)] [.inr (10, fsX10 a_t a_c a_s), .inr (2, fsX2 (a_t + 276) t_grain_many t_grain_ownPart t_grain_crossPart t_grain_pointMany t_grain_wallFirst t_grain_wallSize)]) (ok_t_grain_ownPart : inI t_grain_ownPart) (ok_t_grain_crossPart : inI t_grain_crossPart) (ok_v1 : inI v1) (ok_v2 : inI v2) {r : Int × Int × Int} (hm : m_X10_harder t_grain_ownPart t_grain_crossPart v1 v2 = some r) : Ct l E b0 M_X10_harder 0 0 [.ref a_t, vI v1, vI v2] h n (some (vI r.1)) (ov [a_t, (a_t + 276)] [.inr (10, fsX10 a_t a_c a_s), .inr (2, fsX2 (a_t + 276) t_grain_many r.2.1 r.2.2 t_grain_pointMany t_grain_wallFirst t_grain_wallSize)] h) n (inZ r.1 ∧ inI r.2.1 ∧ inI r.2.2) := by
  rw [m_X10_harder] at hm
  have hg : G l E b0 M_X10_harder (fun _ => True) (ZM E b0 (some (vI r.1)) (ov [a_t, (a_t + 276)] [.inr (10, fsX10 a_t a_c a_s), .inr (2, fsX2 (a_t + 276) t_grain_many r.2.1 r.2.2 t_grain_pointMany t_grain_wallFirst t_grain_wallSize)] h) n (inZ r.1 ∧ inI r.2.1 ∧ inI r.2.2) 0 0) 0 0 n (ov [a_t, (a_t + 276)] [.inr (10, fsX10 a_t a_c a_s), .inr (2, fsX2 (a_t + 276) t_grain_many t_grain_ownPart t_grain_crossPart t_grain_pointMany t_grain_wallFirst t_grain_wallSize)] h) 0 [some (.ref a_t), some (vI v1), some (vI v2)] [] := by
    have hs := hm
    exact g_X10_harder_0 ao ok_t_grain_ownPart ok_t_grain_crossPart ok_v1 ok_v2 hs
  rw [FA_id hf] at hg
  exact Ct_of [some (.ref a_t), some (vI v1), some (vI v2)] ⟨by decide +kernel, rfl⟩ rfl (Nat.le_of_ble_eq_true rfl) hg

/-! ===== X10_systems ===== -/
theorem e_X10_systems_0 : DC cX10_systems 0 (.aload_n 0) 1 1 := ⟨by decide +kernel, rfl⟩
theorem e_X10_systems_1 : DC cX10_systems 1 (.getfield 57) 3 4 := ⟨by decide +kernel, rfl⟩
theorem e_X10_systems_4 : DC cX10_systems 4 (.iload_n 1) 1 5 := ⟨by decide +kernel, rfl⟩
theorem e_X10_systems_5 : DC cX10_systems 5 (.iload_n 2) 1 6 := ⟨by decide +kernel, rfl⟩
theorem e_X10_systems_6 : DC cX10_systems 6 (.invokevirtual 299) 3 9 := ⟨by decide +kernel, rfl⟩
theorem e_X10_systems_9 : DC cX10_systems 9 (.lreturn) 1 10 := ⟨by decide +kernel, rfl⟩
noncomputable def m_X10_systems_0 (t_grain_many : Int) (t_grain_ownPart : Int) (t_grain_crossPart : Int) (t_grain_rows : Nat → Nat) (t_grain_rows_R : Nat → RowT) (v1 : Int) (v2 : Int) : Option (Int) :=
  (m_X2_tellSystem t_grain_many t_grain_ownPart t_grain_crossPart t_grain_rows t_grain_rows_R v1 v2).bind (fun y1 => some (y1))

set_option maxRecDepth 10000 in
set_option maxHeartbeats 8000000 in
theorem g_X10_systems_0 {l : Launch} {E : EE} {b0 n : Nat} {h : AH} {a_t a_c a_s : Nat} {t_grain_many t_grain_ownPart t_grain_crossPart t_grain_pointMany t_grain_wallFirst t_grain_wallSize v1 v2 : Int} {t_grain_rows : Nat → Nat} {t_grain_rows_R : Nat → RowT} {r : Int} (ao : AO b0 n [a_t, (a_t + 276), (a_t + 277)]) (fo : FO b0 n [a_t, (a_t + 276), (a_t + 277)] (a_t + 289) 8) (ok_t_grain_many : inI t_grain_many) (ok_t_grain_ownPart : inI t_grain_ownPart) (ok_t_grain_crossPart : inI t_grain_crossPart) (ok_t_grain_rows : True) (ok_t_grain_rows_R : okR t_grain_rows_R) (ok_v1 : inI v1) (ok_v2 : inI v2) (hs : m_X10_systems_0 t_grain_many t_grain_ownPart t_grain_crossPart t_grain_rows t_grain_rows_R v1 v2 = some r) : G l E b0 M_X10_systems (fun _ => True) (ZM E b0 (some (vJ r)) (ov [a_t, (a_t + 276), (a_t + 277)] [.inr (10, fsX10 a_t a_c a_s), .inr (2, fsX2 (a_t + 276) t_grain_many t_grain_ownPart t_grain_crossPart t_grain_pointMany t_grain_wallFirst t_grain_wallSize), RK E 8 (a_t + 289) t_grain_rows] (fam E (a_t + 289) 8 t_grain_rows_R h)) n (inJ r) 0 0) 0 0 n (ov [a_t, (a_t + 276), (a_t + 277)] [.inr (10, fsX10 a_t a_c a_s), .inr (2, fsX2 (a_t + 276) t_grain_many t_grain_ownPart t_grain_crossPart t_grain_pointMany t_grain_wallFirst t_grain_wallSize), RK E 8 (a_t + 289) t_grain_rows] (fam E (a_t + 289) 8 t_grain_rows_R h)) 0 [some (.ref a_t), some (vI v1), some (vI v2)] [] := by
  rw [m_X10_systems_0] at hs
  refine g_aload_n e_X10_systems_0 rfl ?_
  refine g_get 0 7 ao rfl rfl fsX10_g7 fl_X10_57 e_X10_systems_1 ?_
  refine g_iload_n e_X10_systems_4 rfl ?_
  refine g_iload_n e_X10_systems_5 rfl ?_
  obtain ⟨y1, hy1, hs⟩ := bind_elim hs
  refine g_callVr [vI v1, vI v2] cv_X10_299 ⟨rfl, rfl, Nat.le_of_ble_eq_true rfl, Nat.le_of_ble_eq_true rfl⟩ (ct_X2_tellSystem (a_t := (a_t + 276)) (AO_call [1, 2] ao (by decide) rfl) (FO_call [1, 2] fo rfl) (FA_call [1, 2] ao.1 rfl rfl) (FF_ov fo) ok_t_grain_many ok_t_grain_ownPart ok_t_grain_crossPart ok_t_grain_rows ok_t_grain_rows_R ok_v1 ok_v2 hy1) e_X10_systems_6 (ao.2 1 _ rfl) (ov_get 1 ao.1 rfl rfl) rfl rfl rfl (Nat.le_of_ble_eq_true rfl) ⟨Nat.le_refl _, Nat.le_refl _⟩ (fun Py1 => ?_)
  obtain rfl := Option.some.inj hs
  exact g_lret rfl Py1 e_X10_systems_9

noncomputable def m_X10_systems (t_grain_many : Int) (t_grain_ownPart : Int) (t_grain_crossPart : Int) (t_grain_rows : Nat → Nat) (t_grain_rows_R : Nat → RowT) (v1 : Int) (v2 : Int) : Option (Int) := m_X10_systems_0 t_grain_many t_grain_ownPart t_grain_crossPart t_grain_rows t_grain_rows_R v1 v2

set_option maxRecDepth 10000 in
set_option maxHeartbeats 8000000 in
theorem ct_X10_systems {l : Launch} {E : EE} {b0 n : Nat} {h : AH} {a_t a_c a_s : Nat} {t_grain_many t_grain_ownPart t_grain_crossPart t_grain_pointMany t_grain_wallFirst t_grain_wallSize : Int} {t_grain_rows : Nat → Nat} {t_grain_rows_R : Nat → RowT} {v1 v2 : Int} (ao : AO b0 n [a_t, (a_t + 276), (a_t + 277)]) (fo : FO b0 n [a_t, (a_t + 276), (a_t + 277)] (a_t + 289) 8) (hf : FA h [a_t, (a_t + 276), (a_t + 277)] [.inr (10, fsX10 a_t a_c a_s), .inr (2, fsX2 (a_t + 276) t_grain_many t_grain_ownPart t_grain_crossPart t_grain_pointMany t_grain_wallFirst t_grain_wallSize), RK E 8 (a_t + 289) t_grain_rows]) (hF : FF E h (a_t + 289) 8 t_grain_rows_R) (ok_t_grain_many : inI t_grain_many) (ok_t_grain_ownPart : inI t_grain_ownPart) (ok_t_grain_crossPart : inI t_grain_crossPart) (ok_t_grain_rows : True) (ok_t_grain_rows_R : okR t_grain_rows_R) (ok_v1 : inI v1) (ok_v2 : inI v2) {r : Int} (hm : m_X10_systems t_grain_many t_grain_ownPart t_grain_crossPart t_grain_rows t_grain_rows_R v1 v2 = some r) : Ct l E b0 M_X10_systems 0 0 [.ref a_t, vI v1, vI v2] h n (some (vJ r)) h n (inJ r) := by
  rw [m_X10_systems] at hm
  have hg : G l E b0 M_X10_systems (fun _ => True) (ZM E b0 (some (vJ r)) (ov [a_t, (a_t + 276), (a_t + 277)] [.inr (10, fsX10 a_t a_c a_s), .inr (2, fsX2 (a_t + 276) t_grain_many t_grain_ownPart t_grain_crossPart t_grain_pointMany t_grain_wallFirst t_grain_wallSize), RK E 8 (a_t + 289) t_grain_rows] (fam E (a_t + 289) 8 t_grain_rows_R h)) n (inJ r) 0 0) 0 0 n (ov [a_t, (a_t + 276), (a_t + 277)] [.inr (10, fsX10 a_t a_c a_s), .inr (2, fsX2 (a_t + 276) t_grain_many t_grain_ownPart t_grain_crossPart t_grain_pointMany t_grain_wallFirst t_grain_wallSize), RK E 8 (a_t + 289) t_grain_rows] (fam E (a_t + 289) 8 t_grain_rows_R h)) 0 [some (.ref a_t), some (vI v1), some (vI v2)] [] := by
    have hs := hm
    exact g_X10_systems_0 ao fo ok_t_grain_many ok_t_grain_ownPart ok_t_grain_crossPart ok_t_grain_rows ok_t_grain_rows_R ok_v1 ok_v2 hs
  rw [FF_id hF] at hg
  rw [FA_id hf] at hg
  exact Ct_of [some (.ref a_t), some (vI v1), some (vI v2)] ⟨by decide +kernel, rfl⟩ rfl (Nat.le_of_ble_eq_true rfl) hg


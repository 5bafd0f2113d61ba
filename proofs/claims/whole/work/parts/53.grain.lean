def M_X2_hardnessOf : MB := (yX2_hardnessOf, cX2_hardnessOf, 5, (some .long), ({ frames := 1, cells := 0, slots := 0, locals := 40 } : Room), RX2)
def M_X2_tellSystem : MB := (yX2_tellSystem, cX2_tellSystem, 3, (some .long), ({ frames := 3, cells := 0, slots := 0, locals := 83 } : Room), RX2)
def M_X2_shapeOf : MB := (yX2_shapeOf, cX2_shapeOf, 6, (some .long), ({ frames := 3, cells := 0, slots := 0, locals := 83 } : Room), RX2)
def M_X2_goesOn : MB := (yX2_goesOn, cX2_goesOn, 3, (some .boolean), ({ frames := 3, cells := 0, slots := 0, locals := 83 } : Room), RX2)
def M_X2_wallTilt : MB := (yX2_wallTilt, cX2_wallTilt, 3, (some .int), ({ frames := 3, cells := 0, slots := 0, locals := 83 } : Room), RX2)
def M_X2_bring : MB := (yX2_bring, cX2_bring, 4, (some .boolean), ({ frames := 3, cells := 0, slots := 0, locals := 83 } : Room), RX2)
def M_X2_strainAlong : MB := (yX2_strainAlong, cX2_strainAlong, 5, (some .long), ({ frames := 3, cells := 0, slots := 0, locals := 88 } : Room), RX2)
def M_X2_findWall : MB := (yX2_findWall, cX2_findWall, 4, none, ({ frames := 4, cells := 0, slots := 0, locals := 105 } : Room), RX2)
def M_X2_tickAll : MB := (yX2_tickAll, cX2_tickAll, 5, (some .boolean), ({ frames := 4, cells := 0, slots := 0, locals := 123 } : Room), RX2)
def M_X2_loadBy : MB := (yX2_loadBy, cX2_loadBy, 7, (some .int), ({ frames := 5, cells := 0, slots := 0, locals := 147 } : Room), RX2)
def M_X2_curveBy : MB := (yX2_curveBy, cX2_curveBy, 8, (some .long), ({ frames := 6, cells := 0, slots := 0, locals := 173 } : Room), RX2)
theorem cb_X2_curvePoint : CB M_X2_curvePoint 1 := ⟨GW_of 1353 (by decide +kernel) (by decide +kernel), GW_of 94 (by decide +kernel) (by decide +kernel), by decide +kernel, by decide +kernel, by decide +kernel⟩
theorem cb_X2_forceOn : CB M_X2_forceOn 3 := ⟨GW_of 1307 (by decide +kernel) (by decide +kernel), GW_of 94 (by decide +kernel) (by decide +kernel), by decide +kernel, by decide +kernel, by decide +kernel⟩
theorem cb_X2_goesOn : CB M_X2_goesOn 2 := ⟨GW_of 1379 (by decide +kernel) (by decide +kernel), GW_of 94 (by decide +kernel) (by decide +kernel), by decide +kernel, by decide +kernel, by decide +kernel⟩
theorem cb_X2_hardnessOf : CB M_X2_hardnessOf 1 := ⟨GW_of 1295 (by decide +kernel) (by decide +kernel), GW_of 94 (by decide +kernel) (by decide +kernel), by decide +kernel, by decide +kernel, by decide +kernel⟩
theorem cb_X2_has : CB M_X2_has 1 := ⟨GW_of 1281 (by decide +kernel) (by decide +kernel), GW_of 94 (by decide +kernel) (by decide +kernel), by decide +kernel, by decide +kernel, by decide +kernel⟩
theorem cb_X2_loadBy : CB M_X2_loadBy 5 := ⟨GW_of 1321 (by decide +kernel) (by decide +kernel), GW_of 94 (by decide +kernel) (by decide +kernel), by decide +kernel, by decide +kernel, by decide +kernel⟩
theorem cb_X2_strainAlong : CB M_X2_strainAlong 1 := ⟨GW_of 1336 (by decide +kernel) (by decide +kernel), GW_of 94 (by decide +kernel) (by decide +kernel), by decide +kernel, by decide +kernel, by decide +kernel⟩
theorem cb_X2_tickAll : CB M_X2_tickAll 2 := ⟨GW_of 1326 (by decide +kernel) (by decide +kernel), GW_of 94 (by decide +kernel) (by decide +kernel), by decide +kernel, by decide +kernel, by decide +kernel⟩
theorem cb_X6_bring : CB M_X6_bring 2 := ⟨GW_of 999 (by decide +kernel) (by decide +kernel), GW_of 90 (by decide +kernel) (by decide +kernel), by decide +kernel, by decide +kernel, by decide +kernel⟩
theorem cb_X8_areAlike : CB M_X8_areAlike 2 := ⟨GW_of 1383 (by decide +kernel) (by decide +kernel), GW_of 87 (by decide +kernel) (by decide +kernel), by decide +kernel, by decide +kernel, by decide +kernel⟩
theorem k_X2_103 : Cond.constantLong RX2 103 (Int64.ofInt (100)) ∈ GW := GW_of 1296 (by decide +kernel) (by decide +kernel)
theorem k_X2_75 : Cond.constantLong RX2 75 (Int64.ofInt (-1000000)) ∈ GW := GW_of 1291 (by decide +kernel) (by decide +kernel)
theorem jm_X2_122 : Cond.methodLink RX2 122 Lib.Math.max.name ∈ GW ∧ Cond.static Lib.Math.max.name ∈ GW ∧ Cond.initialized "java/lang/Math" ∈ GW ∧ Cond.code Lib.Math.max.name Lib.Math.max.code 2 (some .int) ∈ GW := ⟨GW_of 1328 (by decide +kernel) (by decide +kernel), GW_of 147 (by decide +kernel) (by decide +kernel), GW_of 88 (by decide +kernel) (by decide +kernel), GW_of 148 (by decide +kernel) (by decide +kernel)⟩
theorem jm_X2_135 : Cond.methodLink RX2 135 Lib.Math.min.name ∈ GW ∧ Cond.static Lib.Math.min.name ∈ GW ∧ Cond.initialized "java/lang/Math" ∈ GW ∧ Cond.code Lib.Math.min.name Lib.Math.min.code 2 (some .int) ∈ GW := ⟨GW_of 1347 (by decide +kernel) (by decide +kernel), GW_of 1124 (by decide +kernel) (by decide +kernel), GW_of 88 (by decide +kernel) (by decide +kernel), GW_of 1125 (by decide +kernel) (by decide +kernel)⟩
theorem fl_X2_61 : FL RX2 61 2 7 := ⟨RX2, TX2, 12, rfl, by decide, rfl, Or.inl (GW_of 430 (by decide +kernel) (by decide +kernel))⟩
theorem fl_X2_11 : FL RX2 11 2 0 := ⟨RX2, TX2, 12, rfl, by decide, rfl, Or.inl (GW_of 422 (by decide +kernel) (by decide +kernel))⟩
theorem fl_X2_83 : FL RX2 83 6 5 := ⟨RX6, TX6, 10, rfl, by decide, rfl, Or.inr (List.mem_of_getElem? (i := 14) (by decide +kernel))⟩
theorem fl_X2_64 : FL RX2 64 2 8 := ⟨RX2, TX2, 12, rfl, by decide, rfl, Or.inl (GW_of 431 (by decide +kernel) (by decide +kernel))⟩
theorem fl_X2_77 : FL RX2 77 6 3 := ⟨RX6, TX6, 10, rfl, by decide, rfl, Or.inr (List.mem_of_getElem? (i := 9) (by decide +kernel))⟩
theorem fl_X2_80 : FL RX2 80 6 4 := ⟨RX6, TX6, 10, rfl, by decide, rfl, Or.inr (List.mem_of_getElem? (i := 12) (by decide +kernel))⟩
theorem fl_X2_90 : FL RX2 90 6 7 := ⟨RX6, TX6, 10, rfl, by decide, rfl, Or.inr (List.mem_of_getElem? (i := 16) (by decide +kernel))⟩
theorem fl_X2_93 : FL RX2 93 6 8 := ⟨RX6, TX6, 10, rfl, by decide, rfl, Or.inr (List.mem_of_getElem? (i := 18) (by decide +kernel))⟩
theorem fl_X2_96 : FL RX2 96 6 9 := ⟨RX6, TX6, 10, rfl, by decide, rfl, Or.inr (List.mem_of_getElem? (i := 20) (by decide +kernel))⟩
theorem fl_X2_157 : FL RX2 157 2 11 := ⟨RX2, TX2, 12, rfl, by decide, rfl, Or.inl (GW_of 434 (by decide +kernel) (by decide +kernel))⟩
theorem fl_X2_154 : FL RX2 154 2 10 := ⟨RX2, TX2, 12, rfl, by decide, rfl, Or.inl (GW_of 433 (by decide +kernel) (by decide +kernel))⟩
theorem fw_X2_154 : FW RX2 154 2 10 false .int := ⟨RX2, TX2, 12, rfl, by decide, rfl, rfl, by decide +kernel, Or.inl (GW_of 433 (by decide +kernel) (by decide +kernel)), fun h => by cases h⟩
theorem fw_X2_157 : FW RX2 157 2 11 false .int := ⟨RX2, TX2, 12, rfl, by decide, rfl, rfl, by decide +kernel, Or.inl (GW_of 434 (by decide +kernel) (by decide +kernel)), fun h => by cases h⟩
theorem fl_X2_29 : FL RX2 29 2 3 := ⟨RX2, TX2, 12, rfl, by decide, rfl, Or.inl (GW_of 425 (by decide +kernel) (by decide +kernel))⟩
theorem fl_X2_33 : FL RX2 33 2 4 := ⟨RX2, TX2, 12, rfl, by decide, rfl, Or.inl (GW_of 426 (by decide +kernel) (by decide +kernel))⟩
theorem fw_X2_138 : FW RX2 138 2 9 false .int := ⟨RX2, TX2, 12, rfl, by decide, rfl, rfl, by decide +kernel, Or.inl (GW_of 432 (by decide +kernel) (by decide +kernel)), fun h => by cases h⟩
theorem cv_X2_67 : CV RX2 67 M_X2_has 1 := ⟨cb_X2_has, Or.inl (GW_of 1278 (by decide +kernel) (by decide +kernel)), GW_of 1279 (by decide +kernel) (by decide +kernel), GW_of 1280 (by decide +kernel) (by decide +kernel)⟩
theorem cv_X2_86 : CV RX2 86 M_X2_hardnessOf 1 := ⟨cb_X2_hardnessOf, Or.inl (GW_of 1292 (by decide +kernel) (by decide +kernel)), GW_of 1294 (by decide +kernel) (by decide +kernel), GW_of 32 (by decide +kernel) (by decide +kernel)⟩
theorem cv_X2_99 : CV RX2 99 M_X6_signAt 1 := ⟨cb_X6_signAt, Or.inl (GW_of 1297 (by decide +kernel) (by decide +kernel)), GW_of 1031 (by decide +kernel) (by decide +kernel), GW_of 1032 (by decide +kernel) (by decide +kernel)⟩
theorem cv_X2_163 : CV RX2 163 M_X8_areAlike 2 := ⟨cb_X8_areAlike, Or.inl (GW_of 1380 (by decide +kernel) (by decide +kernel)), GW_of 1381 (by decide +kernel) (by decide +kernel), GW_of 1382 (by decide +kernel) (by decide +kernel)⟩
theorem cv_X2_71 : CV RX2 71 M_X6_bring 2 := ⟨cb_X6_bring, Or.inl (GW_of 1282 (by decide +kernel) (by decide +kernel)), GW_of 997 (by decide +kernel) (by decide +kernel), GW_of 998 (by decide +kernel) (by decide +kernel)⟩
theorem cv_X2_131 : CV RX2 131 M_X4_productOn 4 := ⟨cb_X4_productOn, Or.inl (GW_of 1337 (by decide +kernel) (by decide +kernel)), GW_of 960 (by decide +kernel) (by decide +kernel), GW_of 961 (by decide +kernel) (by decide +kernel)⟩
theorem cv_X2_160 : CV RX2 160 M_X2_goesOn 2 := ⟨cb_X2_goesOn, Or.inl (GW_of 1376 (by decide +kernel) (by decide +kernel)), GW_of 1378 (by decide +kernel) (by decide +kernel), GW_of 34 (by decide +kernel) (by decide +kernel)⟩
theorem cv_X2_127 : CV RX2 127 M_X6_tick 4 := ⟨cb_X6_tick, Or.inl (GW_of 1327 (by decide +kernel) (by decide +kernel)), GW_of 1076 (by decide +kernel) (by decide +kernel), GW_of 1077 (by decide +kernel) (by decide +kernel)⟩
theorem cv_X2_114 : CV RX2 114 M_X2_forceOn 3 := ⟨cb_X2_forceOn, Or.inl (GW_of 1322 (by decide +kernel) (by decide +kernel)), GW_of 1305 (by decide +kernel) (by decide +kernel), GW_of 1306 (by decide +kernel) (by decide +kernel)⟩
theorem cv_X2_118 : CV RX2 118 M_X2_tickAll 2 := ⟨cb_X2_tickAll, Or.inl (GW_of 1323 (by decide +kernel) (by decide +kernel)), GW_of 1325 (by decide +kernel) (by decide +kernel), GW_of 33 (by decide +kernel) (by decide +kernel)⟩
theorem cv_X2_141 : CV RX2 141 M_X2_loadBy 5 := ⟨cb_X2_loadBy, Or.inl (GW_of 1348 (by decide +kernel) (by decide +kernel)), GW_of 1319 (by decide +kernel) (by decide +kernel), GW_of 1320 (by decide +kernel) (by decide +kernel)⟩
theorem cv_X2_145 : CV RX2 145 M_X2_strainAlong 1 := ⟨cb_X2_strainAlong, Or.inl (GW_of 1349 (by decide +kernel) (by decide +kernel)), GW_of 1334 (by decide +kernel) (by decide +kernel), GW_of 1335 (by decide +kernel) (by decide +kernel)⟩
theorem cv_X2_149 : CV RX2 149 M_X2_curvePoint 1 := ⟨cb_X2_curvePoint, Or.inl (GW_of 1350 (by decide +kernel) (by decide +kernel)), GW_of 1351 (by decide +kernel) (by decide +kernel), GW_of 1352 (by decide +kernel) (by decide +kernel)⟩
/-! ===== X2_hardnessOf ===== -/
theorem e_X2_hardnessOf_0 : DC cX2_hardnessOf 0 (.lconst 0) 1 1 := ⟨by decide +kernel, rfl⟩
theorem e_X2_hardnessOf_1 : DC cX2_hardnessOf 1 (.lstore_n 2) 1 2 := ⟨by decide +kernel, rfl⟩
theorem e_X2_hardnessOf_2 : DC cX2_hardnessOf 2 (.iconst 0) 1 3 := ⟨by decide +kernel, rfl⟩
theorem e_X2_hardnessOf_3 : DC cX2_hardnessOf 3 (.istore 4) 2 5 := ⟨by decide +kernel, rfl⟩
theorem e_X2_hardnessOf_5 : DC cX2_hardnessOf 5 (.iload 4) 2 7 := ⟨by decide +kernel, rfl⟩
theorem e_X2_hardnessOf_7 : DC cX2_hardnessOf 7 (.aload_n 0) 1 8 := ⟨by decide +kernel, rfl⟩
theorem e_X2_hardnessOf_8 : DC cX2_hardnessOf 8 (.getfield 41) 3 11 := ⟨by decide +kernel, rfl⟩
theorem e_X2_hardnessOf_11 : DB cX2_hardnessOf 11 (.if_icmp .ge 42) (42) 3 14 53 := ⟨by decide +kernel, rfl, rfl⟩
theorem e_X2_hardnessOf_14 : DC cX2_hardnessOf 14 (.lload_n 2) 1 15 := ⟨by decide +kernel, rfl⟩
theorem e_X2_hardnessOf_15 : DC cX2_hardnessOf 15 (.iload 4) 2 17 := ⟨by decide +kernel, rfl⟩
theorem e_X2_hardnessOf_17 : DC cX2_hardnessOf 17 (.iload_n 1) 1 18 := ⟨by decide +kernel, rfl⟩
theorem e_X2_hardnessOf_18 : DB cX2_hardnessOf 18 (.if_icmp .ne 10) (10) 3 21 28 := ⟨by decide +kernel, rfl, rfl⟩
theorem e_X2_hardnessOf_21 : DC cX2_hardnessOf 21 (.aload_n 0) 1 22 := ⟨by decide +kernel, rfl⟩
theorem e_X2_hardnessOf_22 : DC cX2_hardnessOf 22 (.getfield 61) 3 25 := ⟨by decide +kernel, rfl⟩
theorem e_X2_hardnessOf_25 : DB cX2_hardnessOf 25 (.goto 7) (7) 3 28 32 := ⟨by decide +kernel, rfl, rfl⟩
theorem e_X2_hardnessOf_28 : DC cX2_hardnessOf 28 (.aload_n 0) 1 29 := ⟨by decide +kernel, rfl⟩
theorem e_X2_hardnessOf_29 : DC cX2_hardnessOf 29 (.getfield 64) 3 32 := ⟨by decide +kernel, rfl⟩
theorem e_X2_hardnessOf_32 : DC cX2_hardnessOf 32 (.i2l) 1 33 := ⟨by decide +kernel, rfl⟩
theorem e_X2_hardnessOf_33 : DC cX2_hardnessOf 33 (.aload_n 0) 1 34 := ⟨by decide +kernel, rfl⟩
theorem e_X2_hardnessOf_34 : DC cX2_hardnessOf 34 (.getfield 11) 3 37 := ⟨by decide +kernel, rfl⟩
theorem e_X2_hardnessOf_37 : DC cX2_hardnessOf 37 (.iload 4) 2 39 := ⟨by decide +kernel, rfl⟩
theorem e_X2_hardnessOf_39 : DC cX2_hardnessOf 39 (.aaload) 1 40 := ⟨by decide +kernel, rfl⟩
theorem e_X2_hardnessOf_40 : DC cX2_hardnessOf 40 (.getfield 83) 3 43 := ⟨by decide +kernel, rfl⟩
theorem e_X2_hardnessOf_43 : DC cX2_hardnessOf 43 (.i2l) 1 44 := ⟨by decide +kernel, rfl⟩
theorem e_X2_hardnessOf_44 : DC cX2_hardnessOf 44 (.lmul) 1 45 := ⟨by decide +kernel, rfl⟩
theorem e_X2_hardnessOf_45 : DC cX2_hardnessOf 45 (.ladd) 1 46 := ⟨by decide +kernel, rfl⟩
theorem e_X2_hardnessOf_46 : DC cX2_hardnessOf 46 (.lstore_n 2) 1 47 := ⟨by decide +kernel, rfl⟩
theorem e_X2_hardnessOf_47 : DC cX2_hardnessOf 47 (.iinc 4 1) 3 50 := ⟨by decide +kernel, rfl⟩
theorem e_X2_hardnessOf_50 : DB cX2_hardnessOf 50 (.goto (-45)) (-45) 3 53 5 := ⟨by decide +kernel, rfl, rfl⟩
theorem e_X2_hardnessOf_53 : DC cX2_hardnessOf 53 (.lload_n 2) 1 54 := ⟨by decide +kernel, rfl⟩
theorem e_X2_hardnessOf_54 : DC cX2_hardnessOf 54 (.ldc2_w 103) 3 57 := ⟨by decide +kernel, rfl⟩
theorem e_X2_hardnessOf_57 : DC cX2_hardnessOf 57 (.ldiv) 1 58 := ⟨by decide +kernel, rfl⟩
theorem e_X2_hardnessOf_58 : DC cX2_hardnessOf 58 (.lreturn) 1 59 := ⟨by decide +kernel, rfl⟩
noncomputable def m_X2_hardnessOf_32 (t_many : Int) (t_ownPart : Int) (t_crossPart : Int) (t_rows : Nat → Nat) (t_rows_R : Nat → RowT) (v1 : Int) (v4 : Int) (s0 : Int) (s1 : Int) (ag : Int → Int → Option (Int)) (k_53 : Int → Int → Option (Int)) : Option (Int) :=
  chk (inB v4 8) (chk (t_rows (Int.toNat v4) < 8) (chk (inJ (s0 + (s1 * ((t_rows_R (t_rows (Int.toNat v4))).2.2.2.2.2.1)))) (chk (inI (v4 + 1)) (ag (s0 + (s1 * ((t_rows_R (t_rows (Int.toNat v4))).2.2.2.2.2.1))) (v4 + 1)))))

set_option maxRecDepth 10000 in
set_option maxHeartbeats 8000000 in
theorem g_X2_hardnessOf_32 {l : Launch} {E : EE} {b0 n : Nat} {h : AH} {a_t : Nat} {t_many t_ownPart t_crossPart t_pointMany t_wallFirst t_wallSize v1 v4 s0 s1 : Int} {t_rows : Nat → Nat} {t_rows_R : Nat → RowT} {r : Int} {ag : Int → Int → Option (Int)} {k_53 : Int → Int → Option (Int)} (ao : AO b0 n [a_t, (a_t + 1)]) (fo : FO b0 n [a_t, (a_t + 1)] (a_t + 13) 8) (ok_t_many : inI t_many) (ok_t_ownPart : inI t_ownPart) (ok_t_crossPart : inI t_crossPart) (ok_t_rows : True) (ok_t_rows_R : okR t_rows_R) (ok_v1 : inI v1) (ok_v4 : inI v4) (ok_s0 : inJ s0) (ok_s1 : inI s1) (hag : ∀ (v2_ : Int) (v4_ : Int), inJ v2_ → inI v4_ → ag v2_ v4_ = some r → G l E b0 M_X2_hardnessOf (fun _ => True) (ZM E b0 (some (vJ r)) (ov [a_t, (a_t + 1)] [.inr (2, fsX2 a_t t_many t_ownPart t_crossPart t_pointMany t_wallFirst t_wallSize), RK E 8 (a_t + 13) t_rows] (fam E (a_t + 13) 8 t_rows_R h)) n (inJ r) 0 0) 0 0 n (ov [a_t, (a_t + 1)] [.inr (2, fsX2 a_t t_many t_ownPart t_crossPart t_pointMany t_wallFirst t_wallSize), RK E 8 (a_t + 13) t_rows] (fam E (a_t + 13) 8 t_rows_R h)) 5 [some (.ref a_t), some (vI v1), some (vJ v2_), none, some (vI v4_)] []) (hk_53 : ∀ (v2_ : Int) (v4_ : Int), inJ v2_ → inI v4_ → k_53 v2_ v4_ = some r → G l E b0 M_X2_hardnessOf (fun _ => True) (ZM E b0 (some (vJ r)) (ov [a_t, (a_t + 1)] [.inr (2, fsX2 a_t t_many t_ownPart t_crossPart t_pointMany t_wallFirst t_wallSize), RK E 8 (a_t + 13) t_rows] (fam E (a_t + 13) 8 t_rows_R h)) n (inJ r) 0 0) 0 0 n (ov [a_t, (a_t + 1)] [.inr (2, fsX2 a_t t_many t_ownPart t_crossPart t_pointMany t_wallFirst t_wallSize), RK E 8 (a_t + 13) t_rows] (fam E (a_t + 13) 8 t_rows_R h)) 53 [none, none, some (vJ v2_), none, none] []) (hs : m_X2_hardnessOf_32 t_many t_ownPart t_crossPart t_rows t_rows_R v1 v4 s0 s1 ag k_53 = some r) : G l E b0 M_X2_hardnessOf (fun _ => True) (ZM E b0 (some (vJ r)) (ov [a_t, (a_t + 1)] [.inr (2, fsX2 a_t t_many t_ownPart t_crossPart t_pointMany t_wallFirst t_wallSize), RK E 8 (a_t + 13) t_rows] (fam E (a_t + 13) 8 t_rows_R h)) n (inJ r) 0 0) 0 0 n (ov [a_t, (a_t + 1)] [.inr (2, fsX2 a_t t_many t_ownPart t_crossPart t_pointMany t_wallFirst t_wallSize), RK E 8 (a_t + 13) t_rows] (fam E (a_t + 13) 8 t_rows_R h)) 32 [some (.ref a_t), some (vI v1), none, none, some (vI v4)] [vI s1, vJ s0] := by
  rw [m_X2_hardnessOf_32] at hs
  refine g_i2l e_X2_hardnessOf_32 ok_s1 ?_
  refine g_aload_n e_X2_hardnessOf_33 rfl ?_
  refine g_get 0 0 ao rfl rfl fsX2_g0 fl_X2_11 e_X2_hardnessOf_34 ?_
  refine g_iload e_X2_hardnessOf_37 rfl ?_
  refine g_aldF 1 ao rfl rfl (Nat.le_of_ble_eq_true rfl) e_X2_hardnessOf_39 hs (fun hi2 hs => ?_)
  obtain ⟨hc3, hs⟩ := chk_elim hs
  refine g_famO (t_rows (Int.toNat v4)) hc3 rfl ?_
  refine g_get 2 5 (AO_fam ao fo hc3) rfl rfl fsX6_g5 fl_X2_83 e_X2_hardnessOf_40 ?_
  refine g_famC0 hc3 rfl ?_
  refine g_i2l e_X2_hardnessOf_43 (ok_t_rows_R (t_rows (Int.toNat v4))).2.2.2.2.2.1 ?_
  refine g_lmul e_X2_hardnessOf_44 ?_
  refine g_ladd e_X2_hardnessOf_45 ?_
  refine g_lstore_n e_X2_hardnessOf_46 st2_2 rfl ?_
  refine g_iinc e_X2_hardnessOf_47 rfl st1_4 rfl ?_
  refine g_goto e_X2_hardnessOf_50 ?_
  obtain ⟨hc4, hs⟩ := chk_elim hs
  obtain ⟨hc5, hs⟩ := chk_elim hs
  exact hag _ _ hc4 hc5 hs

noncomputable def m_X2_hardnessOf_5 (t_many : Int) (t_ownPart : Int) (t_crossPart : Int) (t_rows : Nat → Nat) (t_rows_R : Nat → RowT) (v1 : Int) (k_53 : Int → Int → Option (Int)) : Nat → Int → Int → Option (Int)
  | 0, _, _ => none
  | F + 1, v2, v4 => if t_many ≤ v4 then (chk (100 ≠ 0) (chk (inJ (Int.tdiv v2 100)) (some (Int.tdiv v2 100)))) else (if v4 = v1 then (m_X2_hardnessOf_32 t_many t_ownPart t_crossPart t_rows t_rows_R v1 v4 v2 t_ownPart (m_X2_hardnessOf_5 t_many t_ownPart t_crossPart t_rows t_rows_R v1 k_53 F) k_53) else (m_X2_hardnessOf_32 t_many t_ownPart t_crossPart t_rows t_rows_R v1 v4 v2 t_crossPart (m_X2_hardnessOf_5 t_many t_ownPart t_crossPart t_rows t_rows_R v1 k_53 F) k_53))

set_option maxRecDepth 10000 in
set_option maxHeartbeats 8000000 in
theorem g_X2_hardnessOf_5 {l : Launch} {E : EE} {b0 n : Nat} {h : AH} {a_t : Nat} {t_many t_ownPart t_crossPart t_pointMany t_wallFirst t_wallSize v1 : Int} {t_rows : Nat → Nat} {t_rows_R : Nat → RowT} {r : Int} {k_53 : Int → Int → Option (Int)} (ao : AO b0 n [a_t, (a_t + 1)]) (fo : FO b0 n [a_t, (a_t + 1)] (a_t + 13) 8) (ok_t_many : inI t_many) (ok_t_ownPart : inI t_ownPart) (ok_t_crossPart : inI t_crossPart) (ok_t_rows : True) (ok_t_rows_R : okR t_rows_R) (ok_v1 : inI v1) (hk_53 : ∀ (v2_ : Int) (v4_ : Int), inJ v2_ → inI v4_ → k_53 v2_ v4_ = some r → G l E b0 M_X2_hardnessOf (fun _ => True) (ZM E b0 (some (vJ r)) (ov [a_t, (a_t + 1)] [.inr (2, fsX2 a_t t_many t_ownPart t_crossPart t_pointMany t_wallFirst t_wallSize), RK E 8 (a_t + 13) t_rows] (fam E (a_t + 13) 8 t_rows_R h)) n (inJ r) 0 0) 0 0 n (ov [a_t, (a_t + 1)] [.inr (2, fsX2 a_t t_many t_ownPart t_crossPart t_pointMany t_wallFirst t_wallSize), RK E 8 (a_t + 13) t_rows] (fam E (a_t + 13) 8 t_rows_R h)) 53 [none, none, some (vJ v2_), none, none] []) :
    ∀ (F : Nat) (v2 : Int) (v4 : Int), inJ v2 → inI v4 → m_X2_hardnessOf_5 t_many t_ownPart t_crossPart t_rows t_rows_R v1 k_53 F v2 v4 = some r → G l E b0 M_X2_hardnessOf (fun _ => True) (ZM E b0 (some (vJ r)) (ov [a_t, (a_t + 1)] [.inr (2, fsX2 a_t t_many t_ownPart t_crossPart t_pointMany t_wallFirst t_wallSize), RK E 8 (a_t + 13) t_rows] (fam E (a_t + 13) 8 t_rows_R h)) n (inJ r) 0 0) 0 0 n (ov [a_t, (a_t + 1)] [.inr (2, fsX2 a_t t_many t_ownPart t_crossPart t_pointMany t_wallFirst t_wallSize), RK E 8 (a_t + 13) t_rows] (fam E (a_t + 13) 8 t_rows_R h)) 5 [some (.ref a_t), some (vI v1), some (vJ v2), none, some (vI v4)] [] := by
  intro F
  induction F with
  | zero =>
    intro v2 v4 ok_v2 ok_v4 hs
    rw [m_X2_hardnessOf_5] at hs
    cases hs
  | succ F ih =>
    intro v2 v4 ok_v2 ok_v4 hs
    rw [m_X2_hardnessOf_5] at hs
    refine g_iload e_X2_hardnessOf_5 rfl ?_
    refine g_aload_n e_X2_hardnessOf_7 rfl ?_
    refine g_get 0 6 ao rfl rfl fsX2_g6 fl_X2_41 e_X2_hardnessOf_8 ?_
    refine g_icmp_ge e_X2_hardnessOf_11 ok_v4 ok_t_many hs (fun c11 hs => ?_) (fun c11 hs => ?_)
    · refine g_lload_n e_X2_hardnessOf_53 rfl ?_
      refine g_ldc2 (a := 100) e_X2_hardnessOf_54 k_X2_103 ?_
      refine g_ldiv e_X2_hardnessOf_57 ok_v2 (by decide : inJ 100) hs (fun hs => ?_)
      obtain ⟨hc1, hs⟩ := chk_elim hs
      obtain rfl := Option.some.inj hs
      exact g_lret rfl hc1 e_X2_hardnessOf_58
    · refine g_lload_n e_X2_hardnessOf_14 rfl ?_
      refine g_iload e_X2_hardnessOf_15 rfl ?_
      refine g_iload_n e_X2_hardnessOf_17 rfl ?_
      refine g_icmp_ne e_X2_hardnessOf_18 ok_v4 ok_v1 hs (fun c18 hs => ?_) (fun c18 hs => ?_)
      · refine g_aload_n e_X2_hardnessOf_21 rfl ?_
        refine g_get 0 7 ao rfl rfl fsX2_g7 fl_X2_61 e_X2_hardnessOf_22 ?_
        refine g_goto e_X2_hardnessOf_25 ?_
        exact g_mask [true, true, false, true, true] (g_X2_hardnessOf_32 ao fo ok_t_many ok_t_ownPart ok_t_crossPart ok_t_rows ok_t_rows_R ok_v1 ok_v4 ok_v2 ok_t_ownPart ih hk_53 hs)
      · refine g_aload_n e_X2_hardnessOf_28 rfl ?_
        refine g_get 0 8 ao rfl rfl fsX2_g8 fl_X2_64 e_X2_hardnessOf_29 ?_
        exact g_mask [true, true, false, true, true] (g_X2_hardnessOf_32 ao fo ok_t_many ok_t_ownPart ok_t_crossPart ok_t_rows ok_t_rows_R ok_v1 ok_v4 ok_v2 ok_t_crossPart ih hk_53 hs)

noncomputable def m_X2_hardnessOf_53 (v2 : Int) : Option (Int) :=
  chk (100 ≠ 0) (chk (inJ (Int.tdiv v2 100)) (some (Int.tdiv v2 100)))

set_option maxRecDepth 10000 in
set_option maxHeartbeats 8000000 in
theorem g_X2_hardnessOf_53 {l : Launch} {E : EE} {b0 n : Nat} {h : AH} {a_t : Nat} {t_many t_ownPart t_crossPart t_pointMany t_wallFirst t_wallSize v2 : Int} {t_rows : Nat → Nat} {t_rows_R : Nat → RowT} {r : Int} (ao : AO b0 n [a_t, (a_t + 1)]) (fo : FO b0 n [a_t, (a_t + 1)] (a_t + 13) 8) (ok_t_many : inI t_many) (ok_t_ownPart : inI t_ownPart) (ok_t_crossPart : inI t_crossPart) (ok_t_rows : True) (ok_t_rows_R : okR t_rows_R) (ok_v2 : inJ v2) (hs : m_X2_hardnessOf_53 v2 = some r) : G l E b0 M_X2_hardnessOf (fun _ => True) (ZM E b0 (some (vJ r)) (ov [a_t, (a_t + 1)] [.inr (2, fsX2 a_t t_many t_ownPart t_crossPart t_pointMany t_wallFirst t_wallSize), RK E 8 (a_t + 13) t_rows] (fam E (a_t + 13) 8 t_rows_R h)) n (inJ r) 0 0) 0 0 n (ov [a_t, (a_t + 1)] [.inr (2, fsX2 a_t t_many t_ownPart t_crossPart t_pointMany t_wallFirst t_wallSize), RK E 8 (a_t + 13) t_rows] (fam E (a_t + 13) 8 t_rows_R h)) 53 [none, none, some (vJ v2), none, none] [] := by
  rw [m_X2_hardnessOf_53] at hs
  refine g_lload_n e_X2_hardnessOf_53 rfl ?_
  refine g_ldc2 (a := 100) e_X2_hardnessOf_54 k_X2_103 ?_
  refine g_ldiv e_X2_hardnessOf_57 ok_v2 (by decide : inJ 100) hs (fun hs => ?_)
  obtain ⟨hc6, hs⟩ := chk_elim hs
  obtain rfl := Option.some.inj hs
  exact g_lret rfl hc6 e_X2_hardnessOf_58

noncomputable def m_X2_hardnessOf_0 (t_many : Int) (t_ownPart : Int) (t_crossPart : Int) (t_rows : Nat → Nat) (t_rows_R : Nat → RowT) (v1 : Int) : Option (Int) :=
  m_X2_hardnessOf_5 t_many t_ownPart t_crossPart t_rows t_rows_R v1 (fun v2' v4' => m_X2_hardnessOf_53 v2') FU 0 0

set_option maxRecDepth 10000 in
set_option maxHeartbeats 8000000 in
theorem g_X2_hardnessOf_0 {l : Launch} {E : EE} {b0 n : Nat} {h : AH} {a_t : Nat} {t_many t_ownPart t_crossPart t_pointMany t_wallFirst t_wallSize v1 : Int} {t_rows : Nat → Nat} {t_rows_R : Nat → RowT} {r : Int} (ao : AO b0 n [a_t, (a_t + 1)]) (fo : FO b0 n [a_t, (a_t + 1)] (a_t + 13) 8) (ok_t_many : inI t_many) (ok_t_ownPart : inI t_ownPart) (ok_t_crossPart : inI t_crossPart) (ok_t_rows : True) (ok_t_rows_R : okR t_rows_R) (ok_v1 : inI v1) (hs : m_X2_hardnessOf_0 t_many t_ownPart t_crossPart t_rows t_rows_R v1 = some r) : G l E b0 M_X2_hardnessOf (fun _ => True) (ZM E b0 (some (vJ r)) (ov [a_t, (a_t + 1)] [.inr (2, fsX2 a_t t_many t_ownPart t_crossPart t_pointMany t_wallFirst t_wallSize), RK E 8 (a_t + 13) t_rows] (fam E (a_t + 13) 8 t_rows_R h)) n (inJ r) 0 0) 0 0 n (ov [a_t, (a_t + 1)] [.inr (2, fsX2 a_t t_many t_ownPart t_crossPart t_pointMany t_wallFirst t_wallSize), RK E 8 (a_t + 13) t_rows] (fam E (a_t + 13) 8 t_rows_R h)) 0 [some (.ref a_t), some (vI v1), none, none, none] [] := by
  rw [m_X2_hardnessOf_0] at hs
  refine g_lconst (a := 0) e_X2_hardnessOf_0 rfl ?_
  refine g_lstore_n e_X2_hardnessOf_1 st2_2 rfl ?_
  refine g_iconst e_X2_hardnessOf_2 ?_
  refine g_istore e_X2_hardnessOf_3 st1_4 rfl ?_
  exact g_X2_hardnessOf_5 ao fo ok_t_many ok_t_ownPart ok_t_crossPart ok_t_rows ok_t_rows_R ok_v1 (hk_53 := by
      intro v2' v4' ok_v2' ok_v4' hs
      exact g_X2_hardnessOf_53 ao fo ok_t_many ok_t_ownPart ok_t_crossPart ok_t_rows ok_t_rows_R ok_v2' hs) FU _ _ (by decide : inJ 0) (by decide : inI 0) hs

noncomputable def m_X2_hardnessOf (t_many : Int) (t_ownPart : Int) (t_crossPart : Int) (t_rows : Nat → Nat) (t_rows_R : Nat → RowT) (v1 : Int) : Option (Int) := m_X2_hardnessOf_0 t_many t_ownPart t_crossPart t_rows t_rows_R v1

set_option maxRecDepth 10000 in
set_option maxHeartbeats 8000000 in
theorem ct_X2_hardnessOf {l : Launch} {E : EE} {b0 n : Nat} {h : AH} {a_t : Nat} {t_many t_ownPart t_crossPart t_pointMany t_wallFirst t_wallSize : Int} {t_rows : Nat → Nat} {t_rows_R : Nat → RowT} {v1 : Int} (ao : AO b0 n [a_t, (a_t + 1)]) (fo : FO b0 n [a_t, (a_t + 1)] (a_t + 13) 8) (hf : FA h [a_t, (a_t + 1)] [.inr (2, fsX2 a_t t_many t_ownPart t_crossPart t_pointMany t_wallFirst t_wallSize), RK E 8 (a_t + 13) t_rows]) (hF : FF E h (a_t + 13) 8 t_rows_R) (ok_t_many : inI t_many) (ok_t_ownPart : inI t_ownPart) (ok_t_crossPart : inI t_crossPart) (ok_t_rows : True) (ok_t_rows_R : okR t_rows_R) (ok_v1 : inI v1) {r : Int} (hm : m_X2_hardnessOf t_many t_ownPart t_crossPart t_rows t_rows_R v1 = some r) : Ct l E b0 M_X2_hardnessOf 0 0 [.ref a_t, vI v1] h n (some (vJ r)) h n (inJ r) := by
  rw [m_X2_hardnessOf] at hm
  have hg : G l E b0 M_X2_hardnessOf (fun _ => True) (ZM E b0 (some (vJ r)) (ov [a_t, (a_t + 1)] [.inr (2, fsX2 a_t t_many t_ownPart t_crossPart t_pointMany t_wallFirst t_wallSize), RK E 8 (a_t + 13) t_rows] (fam E (a_t + 13) 8 t_rows_R h)) n (inJ r) 0 0) 0 0 n (ov [a_t, (a_t + 1)] [.inr (2, fsX2 a_t t_many t_ownPart t_crossPart t_pointMany t_wallFirst t_wallSize), RK E 8 (a_t + 13) t_rows] (fam E (a_t + 13) 8 t_rows_R h)) 0 [some (.ref a_t), some (vI v1), none, none, none] [] := by
    have hs := hm
    exact g_X2_hardnessOf_0 ao fo ok_t_many ok_t_ownPart ok_t_crossPart ok_t_rows ok_t_rows_R ok_v1 hs
  rw [FF_id hF] at hg
  rw [FA_id hf] at hg
  exact Ct_of [some (.ref a_t), some (vI v1), none, none, none] ⟨by decide +kernel, rfl⟩ rfl (Nat.le_of_ble_eq_true rfl) hg

/-! ===== X2_tellSystem ===== -/
theorem e_X2_tellSystem_0 : DC cX2_tellSystem 0 (.aload_n 0) 1 1 := ⟨by decide +kernel, rfl⟩
theorem e_X2_tellSystem_1 : DC cX2_tellSystem 1 (.iload_n 1) 1 2 := ⟨by decide +kernel, rfl⟩
theorem e_X2_tellSystem_2 : DC cX2_tellSystem 2 (.invokevirtual 67) 3 5 := ⟨by decide +kernel, rfl⟩
theorem e_X2_tellSystem_5 : DB cX2_tellSystem 5 (.ifCond .ne 7) (7) 3 8 12 := ⟨by decide +kernel, rfl, rfl⟩
theorem e_X2_tellSystem_8 : DC cX2_tellSystem 8 (.ldc2_w 75) 3 11 := ⟨by decide +kernel, rfl⟩
theorem e_X2_tellSystem_11 : DC cX2_tellSystem 11 (.lreturn) 1 12 := ⟨by decide +kernel, rfl⟩
theorem e_X2_tellSystem_12 : DC cX2_tellSystem 12 (.iload_n 2) 1 13 := ⟨by decide +kernel, rfl⟩
theorem e_X2_tellSystem_13 : DC cX2_tellSystem 13 (.tableswitch 115 0 6 #[43, 54, 65, 76, 82, 93, 104]) 43 56 := ⟨by decide +kernel, rfl⟩
theorem e_X2_tellSystem_56 : DC cX2_tellSystem 56 (.aload_n 0) 1 57 := ⟨by decide +kernel, rfl⟩
theorem e_X2_tellSystem_57 : DC cX2_tellSystem 57 (.getfield 11) 3 60 := ⟨by decide +kernel, rfl⟩
theorem e_X2_tellSystem_60 : DC cX2_tellSystem 60 (.iload_n 1) 1 61 := ⟨by decide +kernel, rfl⟩
theorem e_X2_tellSystem_61 : DC cX2_tellSystem 61 (.aaload) 1 62 := ⟨by decide +kernel, rfl⟩
theorem e_X2_tellSystem_62 : DC cX2_tellSystem 62 (.getfield 77) 3 65 := ⟨by decide +kernel, rfl⟩
theorem e_X2_tellSystem_65 : DC cX2_tellSystem 65 (.i2l) 1 66 := ⟨by decide +kernel, rfl⟩
theorem e_X2_tellSystem_66 : DC cX2_tellSystem 66 (.lreturn) 1 67 := ⟨by decide +kernel, rfl⟩
theorem e_X2_tellSystem_67 : DC cX2_tellSystem 67 (.aload_n 0) 1 68 := ⟨by decide +kernel, rfl⟩
theorem e_X2_tellSystem_68 : DC cX2_tellSystem 68 (.getfield 11) 3 71 := ⟨by decide +kernel, rfl⟩
theorem e_X2_tellSystem_71 : DC cX2_tellSystem 71 (.iload_n 1) 1 72 := ⟨by decide +kernel, rfl⟩
theorem e_X2_tellSystem_72 : DC cX2_tellSystem 72 (.aaload) 1 73 := ⟨by decide +kernel, rfl⟩
theorem e_X2_tellSystem_73 : DC cX2_tellSystem 73 (.getfield 80) 3 76 := ⟨by decide +kernel, rfl⟩
theorem e_X2_tellSystem_76 : DC cX2_tellSystem 76 (.i2l) 1 77 := ⟨by decide +kernel, rfl⟩
theorem e_X2_tellSystem_77 : DC cX2_tellSystem 77 (.lreturn) 1 78 := ⟨by decide +kernel, rfl⟩
theorem e_X2_tellSystem_78 : DC cX2_tellSystem 78 (.aload_n 0) 1 79 := ⟨by decide +kernel, rfl⟩
theorem e_X2_tellSystem_79 : DC cX2_tellSystem 79 (.getfield 11) 3 82 := ⟨by decide +kernel, rfl⟩
theorem e_X2_tellSystem_82 : DC cX2_tellSystem 82 (.iload_n 1) 1 83 := ⟨by decide +kernel, rfl⟩
theorem e_X2_tellSystem_83 : DC cX2_tellSystem 83 (.aaload) 1 84 := ⟨by decide +kernel, rfl⟩
theorem e_X2_tellSystem_84 : DC cX2_tellSystem 84 (.getfield 83) 3 87 := ⟨by decide +kernel, rfl⟩
theorem e_X2_tellSystem_87 : DC cX2_tellSystem 87 (.i2l) 1 88 := ⟨by decide +kernel, rfl⟩
theorem e_X2_tellSystem_88 : DC cX2_tellSystem 88 (.lreturn) 1 89 := ⟨by decide +kernel, rfl⟩
theorem e_X2_tellSystem_89 : DC cX2_tellSystem 89 (.aload_n 0) 1 90 := ⟨by decide +kernel, rfl⟩
theorem e_X2_tellSystem_90 : DC cX2_tellSystem 90 (.iload_n 1) 1 91 := ⟨by decide +kernel, rfl⟩
theorem e_X2_tellSystem_91 : DC cX2_tellSystem 91 (.invokevirtual 86) 3 94 := ⟨by decide +kernel, rfl⟩
theorem e_X2_tellSystem_94 : DC cX2_tellSystem 94 (.lreturn) 1 95 := ⟨by decide +kernel, rfl⟩
theorem e_X2_tellSystem_95 : DC cX2_tellSystem 95 (.aload_n 0) 1 96 := ⟨by decide +kernel, rfl⟩
theorem e_X2_tellSystem_96 : DC cX2_tellSystem 96 (.getfield 11) 3 99 := ⟨by decide +kernel, rfl⟩
theorem e_X2_tellSystem_99 : DC cX2_tellSystem 99 (.iload_n 1) 1 100 := ⟨by decide +kernel, rfl⟩
theorem e_X2_tellSystem_100 : DC cX2_tellSystem 100 (.aaload) 1 101 := ⟨by decide +kernel, rfl⟩
theorem e_X2_tellSystem_101 : DC cX2_tellSystem 101 (.getfield 90) 3 104 := ⟨by decide +kernel, rfl⟩
theorem e_X2_tellSystem_104 : DC cX2_tellSystem 104 (.i2l) 1 105 := ⟨by decide +kernel, rfl⟩
theorem e_X2_tellSystem_105 : DC cX2_tellSystem 105 (.lreturn) 1 106 := ⟨by decide +kernel, rfl⟩
theorem e_X2_tellSystem_106 : DC cX2_tellSystem 106 (.aload_n 0) 1 107 := ⟨by decide +kernel, rfl⟩
theorem e_X2_tellSystem_107 : DC cX2_tellSystem 107 (.getfield 11) 3 110 := ⟨by decide +kernel, rfl⟩
theorem e_X2_tellSystem_110 : DC cX2_tellSystem 110 (.iload_n 1) 1 111 := ⟨by decide +kernel, rfl⟩
theorem e_X2_tellSystem_111 : DC cX2_tellSystem 111 (.aaload) 1 112 := ⟨by decide +kernel, rfl⟩
theorem e_X2_tellSystem_112 : DC cX2_tellSystem 112 (.getfield 93) 3 115 := ⟨by decide +kernel, rfl⟩
theorem e_X2_tellSystem_115 : DC cX2_tellSystem 115 (.i2l) 1 116 := ⟨by decide +kernel, rfl⟩
theorem e_X2_tellSystem_116 : DC cX2_tellSystem 116 (.lreturn) 1 117 := ⟨by decide +kernel, rfl⟩
theorem e_X2_tellSystem_117 : DC cX2_tellSystem 117 (.aload_n 0) 1 118 := ⟨by decide +kernel, rfl⟩
theorem e_X2_tellSystem_118 : DC cX2_tellSystem 118 (.getfield 11) 3 121 := ⟨by decide +kernel, rfl⟩
theorem e_X2_tellSystem_121 : DC cX2_tellSystem 121 (.iload_n 1) 1 122 := ⟨by decide +kernel, rfl⟩
theorem e_X2_tellSystem_122 : DC cX2_tellSystem 122 (.aaload) 1 123 := ⟨by decide +kernel, rfl⟩
theorem e_X2_tellSystem_123 : DC cX2_tellSystem 123 (.getfield 96) 3 126 := ⟨by decide +kernel, rfl⟩
theorem e_X2_tellSystem_126 : DC cX2_tellSystem 126 (.i2l) 1 127 := ⟨by decide +kernel, rfl⟩
theorem e_X2_tellSystem_127 : DC cX2_tellSystem 127 (.lreturn) 1 128 := ⟨by decide +kernel, rfl⟩
theorem e_X2_tellSystem_128 : DC cX2_tellSystem 128 (.iload_n 2) 1 129 := ⟨by decide +kernel, rfl⟩
theorem e_X2_tellSystem_129 : DC cX2_tellSystem 129 (.bipush 100) 2 131 := ⟨by decide +kernel, rfl⟩
theorem e_X2_tellSystem_131 : DC cX2_tellSystem 131 (.sipush 199) 3 134 := ⟨by decide +kernel, rfl⟩
theorem e_X2_tellSystem_134 : DC cX2_tellSystem 134 (.invokestatic 45) 3 137 := ⟨by decide +kernel, rfl⟩
theorem e_X2_tellSystem_137 : DB cX2_tellSystem 137 (.ifCond .eq 20) (20) 3 140 157 := ⟨by decide +kernel, rfl, rfl⟩
theorem e_X2_tellSystem_140 : DC cX2_tellSystem 140 (.aload_n 0) 1 141 := ⟨by decide +kernel, rfl⟩
theorem e_X2_tellSystem_141 : DC cX2_tellSystem 141 (.getfield 11) 3 144 := ⟨by decide +kernel, rfl⟩
theorem e_X2_tellSystem_144 : DC cX2_tellSystem 144 (.iload_n 1) 1 145 := ⟨by decide +kernel, rfl⟩
theorem e_X2_tellSystem_145 : DC cX2_tellSystem 145 (.aaload) 1 146 := ⟨by decide +kernel, rfl⟩
theorem e_X2_tellSystem_146 : DC cX2_tellSystem 146 (.iload_n 2) 1 147 := ⟨by decide +kernel, rfl⟩
theorem e_X2_tellSystem_147 : DC cX2_tellSystem 147 (.bipush 100) 2 149 := ⟨by decide +kernel, rfl⟩
theorem e_X2_tellSystem_149 : DC cX2_tellSystem 149 (.isub) 1 150 := ⟨by decide +kernel, rfl⟩
theorem e_X2_tellSystem_150 : DC cX2_tellSystem 150 (.invokevirtual 99) 3 153 := ⟨by decide +kernel, rfl⟩
theorem e_X2_tellSystem_153 : DC cX2_tellSystem 153 (.i2l) 1 154 := ⟨by decide +kernel, rfl⟩
theorem e_X2_tellSystem_154 : DB cX2_tellSystem 154 (.goto 6) (6) 3 157 160 := ⟨by decide +kernel, rfl, rfl⟩
theorem e_X2_tellSystem_157 : DC cX2_tellSystem 157 (.ldc2_w 75) 3 160 := ⟨by decide +kernel, rfl⟩
theorem e_X2_tellSystem_160 : DC cX2_tellSystem 160 (.lreturn) 1 161 := ⟨by decide +kernel, rfl⟩
noncomputable def m_X2_tellSystem_0 (t_many : Int) (t_ownPart : Int) (t_crossPart : Int) (t_rows : Nat → Nat) (t_rows_R : Nat → RowT) (v1 : Int) (v2 : Int) : Option (Int) :=
  (m_X2_has t_many v1).bind (fun y1 => if y1 = 0 then (some ((-1000000))) else (if v2 = 0 then (chk (inB v1 8) (chk (t_rows (Int.toNat v1) < 8) (some ((t_rows_R (t_rows (Int.toNat v1))).2.2.2.1)))) else (if v2 = 1 then (chk (inB v1 8) (chk (t_rows (Int.toNat v1) < 8) (some ((t_rows_R (t_rows (Int.toNat v1))).2.2.2.2.1)))) else (if v2 = 2 then (chk (inB v1 8) (chk (t_rows (Int.toNat v1) < 8) (some ((t_rows_R (t_rows (Int.toNat v1))).2.2.2.2.2.1)))) else (if v2 = 3 then ((m_X2_hardnessOf t_many t_ownPart t_crossPart t_rows t_rows_R v1).bind (fun y8 => some (y8))) else (if v2 = 4 then (chk (inB v1 8) (chk (t_rows (Int.toNat v1) < 8) (some ((t_rows_R (t_rows (Int.toNat v1))).2.2.2.2.2.2.2.1)))) else (if v2 = 5 then (chk (inB v1 8) (chk (t_rows (Int.toNat v1) < 8) (some ((t_rows_R (t_rows (Int.toNat v1))).2.2.2.2.2.2.2.2.1)))) else (if v2 = 6 then (chk (inB v1 8) (chk (t_rows (Int.toNat v1) < 8) (some ((t_rows_R (t_rows (Int.toNat v1))).2.2.2.2.2.2.2.2.2)))) else ((m_X10_within v2 100 199).bind (fun y15 => if y15 = 0 then (some ((-1000000))) else (chk (inB v1 8) (chk (t_rows (Int.toNat v1) < 8) (chk (inI (v2 - 100)) ((m_X6_signAt ((t_rows_R (t_rows (Int.toNat v1))).1) (v2 - 100)).bind (fun y19 => some (y19))))))))))))))))

set_option maxRecDepth 10000 in
set_option maxHeartbeats 8000000 in
theorem g_X2_tellSystem_0 {l : Launch} {E : EE} {b0 n : Nat} {h : AH} {a_t : Nat} {t_many t_ownPart t_crossPart t_pointMany t_wallFirst t_wallSize v1 v2 : Int} {t_rows : Nat → Nat} {t_rows_R : Nat → RowT} {r : Int} (ao : AO b0 n [a_t, (a_t + 1)]) (fo : FO b0 n [a_t, (a_t + 1)] (a_t + 13) 8) (ok_t_many : inI t_many) (ok_t_ownPart : inI t_ownPart) (ok_t_crossPart : inI t_crossPart) (ok_t_rows : True) (ok_t_rows_R : okR t_rows_R) (ok_v1 : inI v1) (ok_v2 : inI v2) (hs : m_X2_tellSystem_0 t_many t_ownPart t_crossPart t_rows t_rows_R v1 v2 = some r) : G l E b0 M_X2_tellSystem (fun _ => True) (ZM E b0 (some (vJ r)) (ov [a_t, (a_t + 1)] [.inr (2, fsX2 a_t t_many t_ownPart t_crossPart t_pointMany t_wallFirst t_wallSize), RK E 8 (a_t + 13) t_rows] (fam E (a_t + 13) 8 t_rows_R h)) n (inJ r) 0 0) 0 0 n (ov [a_t, (a_t + 1)] [.inr (2, fsX2 a_t t_many t_ownPart t_crossPart t_pointMany t_wallFirst t_wallSize), RK E 8 (a_t + 13) t_rows] (fam E (a_t + 13) 8 t_rows_R h)) 0 [some (.ref a_t), some (vI v1), some (vI v2)] [] := by
  rw [m_X2_tellSystem_0] at hs
  refine g_aload_n e_X2_tellSystem_0 rfl ?_
  refine g_iload_n e_X2_tellSystem_1 rfl ?_
  obtain ⟨y1, hy1, hs⟩ := bind_elim hs
  refine g_callVr [vI v1] cv_X2_67 ⟨rfl, rfl, Nat.le_of_ble_eq_true rfl, Nat.le_of_ble_eq_true rfl⟩ (ct_X2_has (a_t := a_t) (AO_call [0] ao (by decide) rfl) (FA_call [0] ao.1 rfl rfl) ok_t_many ok_v1 hy1) e_X2_tellSystem_2 (ao.2 0 _ rfl) (ov_get 0 ao.1 rfl rfl) rfl rfl rfl (Nat.le_of_ble_eq_true rfl) ⟨Nat.le_refl _, Nat.le_refl _⟩ (fun Py1 => ?_)
  refine g_if_ne e_X2_tellSystem_5 (inZ_I Py1) hs (fun c5 hs => ?_) (fun c5 hs => ?_)
  · refine g_ldc2 (a := -1000000) e_X2_tellSystem_8 k_X2_75 ?_
    obtain rfl := Option.some.inj hs
    exact g_lret rfl (by decide : inJ (-1000000)) e_X2_tellSystem_11
  · refine g_iload_n e_X2_tellSystem_12 rfl ?_
    by_cases c13_0 : v2 = 0
    · rw [if_pos c13_0] at hs
      refine g_tableIn (off := 43) (tgt := 56) e_X2_tellSystem_13 ok_v2 (by rw [c13_0]; decide) (by rw [c13_0]; decide) (by rw [c13_0]; rfl) rfl ?_
      refine g_aload_n e_X2_tellSystem_56 rfl ?_
      refine g_get 0 0 ao rfl rfl fsX2_g0 fl_X2_11 e_X2_tellSystem_57 ?_
      refine g_iload_n e_X2_tellSystem_60 rfl ?_
      refine g_aldF 1 ao rfl rfl (Nat.le_of_ble_eq_true rfl) e_X2_tellSystem_61 hs (fun hi2 hs => ?_)
      obtain ⟨hc3, hs⟩ := chk_elim hs
      refine g_famO (t_rows (Int.toNat v1)) hc3 rfl ?_
      refine g_get 2 3 (AO_fam ao fo hc3) rfl rfl fsX6_g3 fl_X2_77 e_X2_tellSystem_62 ?_
      refine g_famC0 hc3 rfl ?_
      refine g_i2l e_X2_tellSystem_65 (ok_t_rows_R (t_rows (Int.toNat v1))).2.2.2.1 ?_
      obtain rfl := Option.some.inj hs
      exact g_lret rfl (inI_J (ok_t_rows_R (t_rows (Int.toNat v1))).2.2.2.1) e_X2_tellSystem_66
    · rw [if_neg c13_0] at hs
      by_cases c13_1 : v2 = 1
      · rw [if_pos c13_1] at hs
        refine g_tableIn (off := 54) (tgt := 67) e_X2_tellSystem_13 ok_v2 (by rw [c13_1]; decide) (by rw [c13_1]; decide) (by rw [c13_1]; rfl) rfl ?_
        refine g_aload_n e_X2_tellSystem_67 rfl ?_
        refine g_get 0 0 ao rfl rfl fsX2_g0 fl_X2_11 e_X2_tellSystem_68 ?_
        refine g_iload_n e_X2_tellSystem_71 rfl ?_
        refine g_aldF 1 ao rfl rfl (Nat.le_of_ble_eq_true rfl) e_X2_tellSystem_72 hs (fun hi4 hs => ?_)
        obtain ⟨hc5, hs⟩ := chk_elim hs
        refine g_famO (t_rows (Int.toNat v1)) hc5 rfl ?_
        refine g_get 2 4 (AO_fam ao fo hc5) rfl rfl fsX6_g4 fl_X2_80 e_X2_tellSystem_73 ?_
        refine g_famC0 hc5 rfl ?_
        refine g_i2l e_X2_tellSystem_76 (ok_t_rows_R (t_rows (Int.toNat v1))).2.2.2.2.1 ?_
        obtain rfl := Option.some.inj hs
        exact g_lret rfl (inI_J (ok_t_rows_R (t_rows (Int.toNat v1))).2.2.2.2.1) e_X2_tellSystem_77
      · rw [if_neg c13_1] at hs
        by_cases c13_2 : v2 = 2
        · rw [if_pos c13_2] at hs
          refine g_tableIn (off := 65) (tgt := 78) e_X2_tellSystem_13 ok_v2 (by rw [c13_2]; decide) (by rw [c13_2]; decide) (by rw [c13_2]; rfl) rfl ?_
          refine g_aload_n e_X2_tellSystem_78 rfl ?_
          refine g_get 0 0 ao rfl rfl fsX2_g0 fl_X2_11 e_X2_tellSystem_79 ?_
          refine g_iload_n e_X2_tellSystem_82 rfl ?_
          refine g_aldF 1 ao rfl rfl (Nat.le_of_ble_eq_true rfl) e_X2_tellSystem_83 hs (fun hi6 hs => ?_)
          obtain ⟨hc7, hs⟩ := chk_elim hs
          refine g_famO (t_rows (Int.toNat v1)) hc7 rfl ?_
          refine g_get 2 5 (AO_fam ao fo hc7) rfl rfl fsX6_g5 fl_X2_83 e_X2_tellSystem_84 ?_
          refine g_famC0 hc7 rfl ?_
          refine g_i2l e_X2_tellSystem_87 (ok_t_rows_R (t_rows (Int.toNat v1))).2.2.2.2.2.1 ?_
          obtain rfl := Option.some.inj hs
          exact g_lret rfl (inI_J (ok_t_rows_R (t_rows (Int.toNat v1))).2.2.2.2.2.1) e_X2_tellSystem_88
        · rw [if_neg c13_2] at hs
          by_cases c13_3 : v2 = 3
          · rw [if_pos c13_3] at hs
            refine g_tableIn (off := 76) (tgt := 89) e_X2_tellSystem_13 ok_v2 (by rw [c13_3]; decide) (by rw [c13_3]; decide) (by rw [c13_3]; rfl) rfl ?_
            refine g_aload_n e_X2_tellSystem_89 rfl ?_
            refine g_iload_n e_X2_tellSystem_90 rfl ?_
            obtain ⟨y8, hy8, hs⟩ := bind_elim hs
            refine g_callVr [vI v1] cv_X2_86 ⟨rfl, rfl, Nat.le_of_ble_eq_true rfl, Nat.le_of_ble_eq_true rfl⟩ (ct_X2_hardnessOf (a_t := a_t) (AO_call [0, 1] ao (by decide) rfl) (FO_call [0, 1] fo rfl) (FA_call [0, 1] ao.1 rfl rfl) (FF_ov fo) ok_t_many ok_t_ownPart ok_t_crossPart ok_t_rows ok_t_rows_R ok_v1 hy8) e_X2_tellSystem_91 (ao.2 0 _ rfl) (ov_get 0 ao.1 rfl rfl) rfl rfl rfl (Nat.le_of_ble_eq_true rfl) ⟨Nat.le_refl _, Nat.le_refl _⟩ (fun Py8 => ?_)
            obtain rfl := Option.some.inj hs
            exact g_lret rfl Py8 e_X2_tellSystem_94
          · rw [if_neg c13_3] at hs
            by_cases c13_4 : v2 = 4
            · rw [if_pos c13_4] at hs
              refine g_tableIn (off := 82) (tgt := 95) e_X2_tellSystem_13 ok_v2 (by rw [c13_4]; decide) (by rw [c13_4]; decide) (by rw [c13_4]; rfl) rfl ?_
              refine g_aload_n e_X2_tellSystem_95 rfl ?_
              refine g_get 0 0 ao rfl rfl fsX2_g0 fl_X2_11 e_X2_tellSystem_96 ?_
              refine g_iload_n e_X2_tellSystem_99 rfl ?_
              refine g_aldF 1 ao rfl rfl (Nat.le_of_ble_eq_true rfl) e_X2_tellSystem_100 hs (fun hi9 hs => ?_)
              obtain ⟨hc10, hs⟩ := chk_elim hs
              refine g_famO (t_rows (Int.toNat v1)) hc10 rfl ?_
              refine g_get 2 7 (AO_fam ao fo hc10) rfl rfl fsX6_g7 fl_X2_90 e_X2_tellSystem_101 ?_
              refine g_famC0 hc10 rfl ?_
              refine g_i2l e_X2_tellSystem_104 (ok_t_rows_R (t_rows (Int.toNat v1))).2.2.2.2.2.2.2.1 ?_
              obtain rfl := Option.some.inj hs
              exact g_lret rfl (inI_J (ok_t_rows_R (t_rows (Int.toNat v1))).2.2.2.2.2.2.2.1) e_X2_tellSystem_105
            · rw [if_neg c13_4] at hs
              by_cases c13_5 : v2 = 5
              · rw [if_pos c13_5] at hs
                refine g_tableIn (off := 93) (tgt := 106) e_X2_tellSystem_13 ok_v2 (by rw [c13_5]; decide) (by rw [c13_5]; decide) (by rw [c13_5]; rfl) rfl ?_
                refine g_aload_n e_X2_tellSystem_106 rfl ?_
                refine g_get 0 0 ao rfl rfl fsX2_g0 fl_X2_11 e_X2_tellSystem_107 ?_
                refine g_iload_n e_X2_tellSystem_110 rfl ?_
                refine g_aldF 1 ao rfl rfl (Nat.le_of_ble_eq_true rfl) e_X2_tellSystem_111 hs (fun hi11 hs => ?_)
                obtain ⟨hc12, hs⟩ := chk_elim hs
                refine g_famO (t_rows (Int.toNat v1)) hc12 rfl ?_
                refine g_get 2 8 (AO_fam ao fo hc12) rfl rfl fsX6_g8 fl_X2_93 e_X2_tellSystem_112 ?_
                refine g_famC0 hc12 rfl ?_
                refine g_i2l e_X2_tellSystem_115 (ok_t_rows_R (t_rows (Int.toNat v1))).2.2.2.2.2.2.2.2.1 ?_
                obtain rfl := Option.some.inj hs
                exact g_lret rfl (inI_J (ok_t_rows_R (t_rows (Int.toNat v1))).2.2.2.2.2.2.2.2.1) e_X2_tellSystem_116
              · rw [if_neg c13_5] at hs
                by_cases c13_6 : v2 = 6
                · rw [if_pos c13_6] at hs
                  refine g_tableIn (off := 104) (tgt := 117) e_X2_tellSystem_13 ok_v2 (by rw [c13_6]; decide) (by rw [c13_6]; decide) (by rw [c13_6]; rfl) rfl ?_
                  refine g_aload_n e_X2_tellSystem_117 rfl ?_
                  refine g_get 0 0 ao rfl rfl fsX2_g0 fl_X2_11 e_X2_tellSystem_118 ?_
                  refine g_iload_n e_X2_tellSystem_121 rfl ?_
                  refine g_aldF 1 ao rfl rfl (Nat.le_of_ble_eq_true rfl) e_X2_tellSystem_122 hs (fun hi13 hs => ?_)
                  obtain ⟨hc14, hs⟩ := chk_elim hs
                  refine g_famO (t_rows (Int.toNat v1)) hc14 rfl ?_
                  refine g_get 2 9 (AO_fam ao fo hc14) rfl rfl fsX6_g9 fl_X2_96 e_X2_tellSystem_123 ?_
                  refine g_famC0 hc14 rfl ?_
                  refine g_i2l e_X2_tellSystem_126 (ok_t_rows_R (t_rows (Int.toNat v1))).2.2.2.2.2.2.2.2.2 ?_
                  obtain rfl := Option.some.inj hs
                  exact g_lret rfl (inI_J (ok_t_rows_R (t_rows (Int.toNat v1))).2.2.2.2.2.2.2.2.2) e_X2_tellSystem_127
                · rw [if_neg c13_6] at hs
                  refine g_tableOut (tgt := 128) e_X2_tellSystem_13 ok_v2 (by omega) rfl ?_
                  refine g_iload_n e_X2_tellSystem_128 rfl ?_
                  refine g_bipush e_X2_tellSystem_129 bp_100 ?_
                  refine g_sipush e_X2_tellSystem_131 sp_199 ?_
                  obtain ⟨y15, hy15, hs⟩ := bind_elim hs
                  refine g_callSr [vI v2, vI 100, vI 199] cs_X2_45 ⟨rfl, rfl, Nat.le_of_ble_eq_true rfl, Nat.le_of_ble_eq_true rfl⟩ (ct_X10_within ⟨List.nodup_nil, fun i a h => by simp at h⟩ (fun i a e h => by simp at h) ok_v2 (by decide : inI 100) (by decide : inI 199) hy15) e_X2_tellSystem_134 rfl rfl (Nat.le_of_ble_eq_true rfl) ⟨Nat.le_refl _, Nat.le_refl _⟩ (fun Py15 => ?_)
                  refine g_if_eq e_X2_tellSystem_137 (inZ_I Py15) hs (fun c137 hs => ?_) (fun c137 hs => ?_)
                  · refine g_ldc2 (a := -1000000) e_X2_tellSystem_157 k_X2_75 ?_
                    obtain rfl := Option.some.inj hs
                    exact g_lret rfl (by decide : inJ (-1000000)) e_X2_tellSystem_160
                  · refine g_aload_n e_X2_tellSystem_140 rfl ?_
                    refine g_get 0 0 ao rfl rfl fsX2_g0 fl_X2_11 e_X2_tellSystem_141 ?_
                    refine g_iload_n e_X2_tellSystem_144 rfl ?_
                    refine g_aldF 1 ao rfl rfl (Nat.le_of_ble_eq_true rfl) e_X2_tellSystem_145 hs (fun hi16 hs => ?_)
                    obtain ⟨hc17, hs⟩ := chk_elim hs
                    refine g_iload_n e_X2_tellSystem_146 rfl ?_
                    refine g_bipush e_X2_tellSystem_147 bp_100 ?_
                    refine g_isub e_X2_tellSystem_149 ?_
                    obtain ⟨hc18, hs⟩ := chk_elim hs
                    obtain ⟨y19, hy19, hs⟩ := bind_elim hs
                    refine g_famO (t_rows (Int.toNat v1)) hc17 rfl ?_
                    refine g_callVr [vI (v2 - 100)] cv_X2_99 ⟨rfl, rfl, Nat.le_of_ble_eq_true rfl, Nat.le_of_ble_eq_true rfl⟩ (ct_X6_signAt (a_t := ((a_t + 13) + 4 * (t_rows (Int.toNat v1)))) (AO_call [2, 3] (AO_fam ao fo hc17) (by decide) rfl) (FA_call [2, 3] (AO_fam ao fo hc17).1 rfl rfl) ((ok_t_rows_R (t_rows (Int.toNat v1))).1) hc18 hy19) e_X2_tellSystem_150 ((AO_fam ao fo hc17).2 2 _ rfl) (ov_get 2 (AO_fam ao fo hc17).1 rfl rfl) rfl rfl rfl (Nat.le_of_ble_eq_true rfl) ⟨Nat.le_refl _, Nat.le_refl _⟩ (fun Py19 => ?_)
                    refine g_famC0 hc17 rfl ?_
                    refine g_i2l e_X2_tellSystem_153 Py19 ?_
                    refine g_goto e_X2_tellSystem_154 ?_
                    obtain rfl := Option.some.inj hs
                    exact g_lret rfl (inI_J Py19) e_X2_tellSystem_160

noncomputable def m_X2_tellSystem (t_many : Int) (t_ownPart : Int) (t_crossPart : Int) (t_rows : Nat → Nat) (t_rows_R : Nat → RowT) (v1 : Int) (v2 : Int) : Option (Int) := m_X2_tellSystem_0 t_many t_ownPart t_crossPart t_rows t_rows_R v1 v2

set_option maxRecDepth 10000 in
set_option maxHeartbeats 8000000 in
theorem ct_X2_tellSystem {l : Launch} {E : EE} {b0 n : Nat} {h : AH} {a_t : Nat} {t_many t_ownPart t_crossPart t_pointMany t_wallFirst t_wallSize : Int} {t_rows : Nat → Nat} {t_rows_R : Nat → RowT} {v1 v2 : Int} (ao : AO b0 n [a_t, (a_t + 1)]) (fo : FO b0 n [a_t, (a_t + 1)] (a_t + 13) 8) (hf : FA h [a_t, (a_t + 1)] [.inr (2, fsX2 a_t t_many t_ownPart t_crossPart t_pointMany t_wallFirst t_wallSize), RK E 8 (a_t + 13) t_rows]) (hF : FF E h (a_t + 13) 8 t_rows_R) (ok_t_many : inI t_many) (ok_t_ownPart : inI t_ownPart) (ok_t_crossPart : inI t_crossPart) (ok_t_rows : True) (ok_t_rows_R : okR t_rows_R) (ok_v1 : inI v1) (ok_v2 : inI v2) {r : Int} (hm : m_X2_tellSystem t_many t_ownPart t_crossPart t_rows t_rows_R v1 v2 = some r) : Ct l E b0 M_X2_tellSystem 0 0 [.ref a_t, vI v1, vI v2] h n (some (vJ r)) h n (inJ r) := by
  rw [m_X2_tellSystem] at hm
  have hg : G l E b0 M_X2_tellSystem (fun _ => True) (ZM E b0 (some (vJ r)) (ov [a_t, (a_t + 1)] [.inr (2, fsX2 a_t t_many t_ownPart t_crossPart t_pointMany t_wallFirst t_wallSize), RK E 8 (a_t + 13) t_rows] (fam E (a_t + 13) 8 t_rows_R h)) n (inJ r) 0 0) 0 0 n (ov [a_t, (a_t + 1)] [.inr (2, fsX2 a_t t_many t_ownPart t_crossPart t_pointMany t_wallFirst t_wallSize), RK E 8 (a_t + 13) t_rows] (fam E (a_t + 13) 8 t_rows_R h)) 0 [some (.ref a_t), some (vI v1), some (vI v2)] [] := by
    have hs := hm
    exact g_X2_tellSystem_0 ao fo ok_t_many ok_t_ownPart ok_t_crossPart ok_t_rows ok_t_rows_R ok_v1 ok_v2 hs
  rw [FF_id hF] at hg
  rw [FA_id hf] at hg
  exact Ct_of [some (.ref a_t), some (vI v1), some (vI v2)] ⟨by decide +kernel, rfl⟩ rfl (Nat.le_of_ble_eq_true rfl) hg

/-! ===== X2_shapeOf ===== -/
theorem e_X2_shapeOf_0 : DC cX2_shapeOf 0 (.lconst 0) 1 1 := ⟨by decide +kernel, rfl⟩
theorem e_X2_shapeOf_1 : DC cX2_shapeOf 1 (.lstore_n 3) 1 2 := ⟨by decide +kernel, rfl⟩
theorem e_X2_shapeOf_2 : DC cX2_shapeOf 2 (.iconst 0) 1 3 := ⟨by decide +kernel, rfl⟩
theorem e_X2_shapeOf_3 : DC cX2_shapeOf 3 (.istore 5) 2 5 := ⟨by decide +kernel, rfl⟩
theorem e_X2_shapeOf_5 : DC cX2_shapeOf 5 (.iload 5) 2 7 := ⟨by decide +kernel, rfl⟩
theorem e_X2_shapeOf_7 : DC cX2_shapeOf 7 (.aload_n 0) 1 8 := ⟨by decide +kernel, rfl⟩
theorem e_X2_shapeOf_8 : DC cX2_shapeOf 8 (.getfield 41) 3 11 := ⟨by decide +kernel, rfl⟩
theorem e_X2_shapeOf_11 : DB cX2_shapeOf 11 (.if_icmp .ge 47) (47) 3 14 58 := ⟨by decide +kernel, rfl, rfl⟩
theorem e_X2_shapeOf_14 : DC cX2_shapeOf 14 (.lload_n 3) 1 15 := ⟨by decide +kernel, rfl⟩
theorem e_X2_shapeOf_15 : DC cX2_shapeOf 15 (.aload_n 0) 1 16 := ⟨by decide +kernel, rfl⟩
theorem e_X2_shapeOf_16 : DC cX2_shapeOf 16 (.getfield 11) 3 19 := ⟨by decide +kernel, rfl⟩
theorem e_X2_shapeOf_19 : DC cX2_shapeOf 19 (.iload 5) 2 21 := ⟨by decide +kernel, rfl⟩
theorem e_X2_shapeOf_21 : DC cX2_shapeOf 21 (.aaload) 1 22 := ⟨by decide +kernel, rfl⟩
theorem e_X2_shapeOf_22 : DC cX2_shapeOf 22 (.getfield 80) 3 25 := ⟨by decide +kernel, rfl⟩
theorem e_X2_shapeOf_25 : DC cX2_shapeOf 25 (.i2l) 1 26 := ⟨by decide +kernel, rfl⟩
theorem e_X2_shapeOf_26 : DC cX2_shapeOf 26 (.aload_n 0) 1 27 := ⟨by decide +kernel, rfl⟩
theorem e_X2_shapeOf_27 : DC cX2_shapeOf 27 (.getfield 26) 3 30 := ⟨by decide +kernel, rfl⟩
theorem e_X2_shapeOf_30 : DC cX2_shapeOf 30 (.iload 5) 2 32 := ⟨by decide +kernel, rfl⟩
theorem e_X2_shapeOf_32 : DC cX2_shapeOf 32 (.iload_n 1) 1 33 := ⟨by decide +kernel, rfl⟩
theorem e_X2_shapeOf_33 : DC cX2_shapeOf 33 (.invokevirtual 52) 3 36 := ⟨by decide +kernel, rfl⟩
theorem e_X2_shapeOf_36 : DC cX2_shapeOf 36 (.i2l) 1 37 := ⟨by decide +kernel, rfl⟩
theorem e_X2_shapeOf_37 : DC cX2_shapeOf 37 (.lmul) 1 38 := ⟨by decide +kernel, rfl⟩
theorem e_X2_shapeOf_38 : DC cX2_shapeOf 38 (.aload_n 0) 1 39 := ⟨by decide +kernel, rfl⟩
theorem e_X2_shapeOf_39 : DC cX2_shapeOf 39 (.getfield 22) 3 42 := ⟨by decide +kernel, rfl⟩
theorem e_X2_shapeOf_42 : DC cX2_shapeOf 42 (.iload 5) 2 44 := ⟨by decide +kernel, rfl⟩
theorem e_X2_shapeOf_44 : DC cX2_shapeOf 44 (.iload_n 2) 1 45 := ⟨by decide +kernel, rfl⟩
theorem e_X2_shapeOf_45 : DC cX2_shapeOf 45 (.invokevirtual 52) 3 48 := ⟨by decide +kernel, rfl⟩
theorem e_X2_shapeOf_48 : DC cX2_shapeOf 48 (.i2l) 1 49 := ⟨by decide +kernel, rfl⟩
theorem e_X2_shapeOf_49 : DC cX2_shapeOf 49 (.lmul) 1 50 := ⟨by decide +kernel, rfl⟩
theorem e_X2_shapeOf_50 : DC cX2_shapeOf 50 (.ladd) 1 51 := ⟨by decide +kernel, rfl⟩
theorem e_X2_shapeOf_51 : DC cX2_shapeOf 51 (.lstore_n 3) 1 52 := ⟨by decide +kernel, rfl⟩
theorem e_X2_shapeOf_52 : DC cX2_shapeOf 52 (.iinc 5 1) 3 55 := ⟨by decide +kernel, rfl⟩
theorem e_X2_shapeOf_55 : DB cX2_shapeOf 55 (.goto (-50)) (-50) 3 58 5 := ⟨by decide +kernel, rfl, rfl⟩
theorem e_X2_shapeOf_58 : DC cX2_shapeOf 58 (.lload_n 3) 1 59 := ⟨by decide +kernel, rfl⟩
theorem e_X2_shapeOf_59 : DC cX2_shapeOf 59 (.lreturn) 1 60 := ⟨by decide +kernel, rfl⟩
noncomputable def m_X2_shapeOf_5 (t_many : Int) (t_rows : Nat → Nat) (t_planes_many : Int) (t_planes_xs : Nat → Int) (t_planes_ys : Nat → Int) (t_planes_zs : Nat → Int) (t_steps_many : Int) (t_steps_xs : Nat → Int) (t_steps_ys : Nat → Int) (t_steps_zs : Nat → Int) (t_rows_R : Nat → RowT) (v1 : Int) (v2 : Int) (k_58 : Int → Int → Option (Int)) : Nat → Int → Int → Option (Int)
  | 0, _, _ => none
  | F + 1, v3, v5 => if t_many ≤ v5 then (some (v3)) else (chk (inB v5 8) (chk (t_rows (Int.toNat v5) < 8) ((m_X8_partOf 8 t_steps_many t_steps_xs t_steps_ys t_steps_zs v5 v1).bind (fun y3 => (m_X8_partOf 8 t_planes_many t_planes_xs t_planes_ys t_planes_zs v5 v2).bind (fun y4 => chk (inJ (v3 + ((((t_rows_R (t_rows (Int.toNat v5))).2.2.2.2.1) * y3) * y4))) (chk (inI (v5 + 1)) (m_X2_shapeOf_5 t_many t_rows t_planes_many t_planes_xs t_planes_ys t_planes_zs t_steps_many t_steps_xs t_steps_ys t_steps_zs t_rows_R v1 v2 k_58 F (v3 + ((((t_rows_R (t_rows (Int.toNat v5))).2.2.2.2.1) * y3) * y4)) (v5 + 1))))))))

set_option maxRecDepth 10000 in
set_option maxHeartbeats 8000000 in
theorem g_X2_shapeOf_5 {l : Launch} {E : EE} {b0 n : Nat} {h : AH} {a_t : Nat} {t_many t_ownPart t_crossPart t_pointMany t_wallFirst t_wallSize t_planes_many t_steps_many v1 v2 : Int} {t_planes_xs t_planes_ys t_planes_zs t_steps_xs t_steps_ys t_steps_zs : Nat → Int} {t_rows : Nat → Nat} {t_rows_R : Nat → RowT} {r : Int} {k_58 : Int → Int → Option (Int)} (ao : AO b0 n [a_t, (a_t + 1), (a_t + 2), (a_t + 3), (a_t + 4), (a_t + 5), (a_t + 6), (a_t + 7), (a_t + 8), (a_t + 9)]) (fo : FO b0 n [a_t, (a_t + 1), (a_t + 2), (a_t + 3), (a_t + 4), (a_t + 5), (a_t + 6), (a_t + 7), (a_t + 8), (a_t + 9)] (a_t + 13) 8) (ok_t_many : inI t_many) (ok_t_rows : True) (ok_t_planes_many : inI t_planes_many) (ok_t_planes_xs : okA t_planes_xs) (ok_t_planes_ys : okA t_planes_ys) (ok_t_planes_zs : okA t_planes_zs) (ok_t_steps_many : inI t_steps_many) (ok_t_steps_xs : okA t_steps_xs) (ok_t_steps_ys : okA t_steps_ys) (ok_t_steps_zs : okA t_steps_zs) (ok_t_rows_R : okR t_rows_R) (ok_v1 : inI v1) (ok_v2 : inI v2) (hk_58 : ∀ (v3_ : Int) (v5_ : Int), inJ v3_ → inI v5_ → k_58 v3_ v5_ = some r → G l E b0 M_X2_shapeOf (fun _ => True) (ZM E b0 (some (vJ r)) (ov [a_t, (a_t + 1), (a_t + 2), (a_t + 3), (a_t + 4), (a_t + 5), (a_t + 6), (a_t + 7), (a_t + 8), (a_t + 9)] [.inr (2, fsX2 a_t t_many t_ownPart t_crossPart t_pointMany t_wallFirst t_wallSize), RK E 8 (a_t + 13) t_rows, .inr (8, fsX8 (a_t + 2) t_planes_many), IA E 8 t_planes_xs, IA E 8 t_planes_ys, IA E 8 t_planes_zs, .inr (8, fsX8 (a_t + 6) t_steps_many), IA E 8 t_steps_xs, IA E 8 t_steps_ys, IA E 8 t_steps_zs] (fam E (a_t + 13) 8 t_rows_R h)) n (inJ r) 0 0) 0 0 n (ov [a_t, (a_t + 1), (a_t + 2), (a_t + 3), (a_t + 4), (a_t + 5), (a_t + 6), (a_t + 7), (a_t + 8), (a_t + 9)] [.inr (2, fsX2 a_t t_many t_ownPart t_crossPart t_pointMany t_wallFirst t_wallSize), RK E 8 (a_t + 13) t_rows, .inr (8, fsX8 (a_t + 2) t_planes_many), IA E 8 t_planes_xs, IA E 8 t_planes_ys, IA E 8 t_planes_zs, .inr (8, fsX8 (a_t + 6) t_steps_many), IA E 8 t_steps_xs, IA E 8 t_steps_ys, IA E 8 t_steps_zs] (fam E (a_t + 13) 8 t_rows_R h)) 58 [none, none, none, some (vJ v3_), none, none] []) :
    ∀ (F : Nat) (v3 : Int) (v5 : Int), inJ v3 → inI v5 → m_X2_shapeOf_5 t_many t_rows t_planes_many t_planes_xs t_planes_ys t_planes_zs t_steps_many t_steps_xs t_steps_ys t_steps_zs t_rows_R v1 v2 k_58 F v3 v5 = some r → G l E b0 M_X2_shapeOf (fun _ => True) (ZM E b0 (some (vJ r)) (ov [a_t, (a_t + 1), (a_t + 2), (a_t + 3), (a_t + 4), (a_t + 5), (a_t + 6), (a_t + 7), (a_t + 8), (a_t + 9)] [.inr (2, fsX2 a_t t_many t_ownPart t_crossPart t_pointMany t_wallFirst t_wallSize), RK E 8 (a_t + 13) t_rows, .inr (8, fsX8 (a_t + 2) t_planes_many), IA E 8 t_planes_xs, IA E 8 t_planes_ys, IA E 8 t_planes_zs, .inr (8, fsX8 (a_t + 6) t_steps_many), IA E 8 t_steps_xs, IA E 8 t_steps_ys, IA E 8 t_steps_zs] (fam E (a_t + 13) 8 t_rows_R h)) n (inJ r) 0 0) 0 0 n (ov [a_t, (a_t + 1), (a_t + 2), (a_t + 3), (a_t + 4), (a_t + 5), (a_t + 6), (a_t + 7), (a_t + 8), (a_t + 9)] [.inr (2, fsX2 a_t t_many t_ownPart t_crossPart t_pointMany t_wallFirst t_wallSize), RK E 8 (a_t + 13) t_rows, .inr (8, fsX8 (a_t + 2) t_planes_many), IA E 8 t_planes_xs, IA E 8 t_planes_ys, IA E 8 t_planes_zs, .inr (8, fsX8 (a_t + 6) t_steps_many), IA E 8 t_steps_xs, IA E 8 t_steps_ys, IA E 8 t_steps_zs] (fam E (a_t + 13) 8 t_rows_R h)) 5 [some (.ref a_t), some (vI v1), some (vI v2), some (vJ v3), none, some (vI v5)] [] := by
  intro F
  induction F with
  | zero =>
    intro v3 v5 ok_v3 ok_v5 hs
    rw [m_X2_shapeOf_5] at hs
    cases hs
  | succ F ih =>
    intro v3 v5 ok_v3 ok_v5 hs
    rw [m_X2_shapeOf_5] at hs
    refine g_iload e_X2_shapeOf_5 rfl ?_
    refine g_aload_n e_X2_shapeOf_7 rfl ?_
    refine g_get 0 6 ao rfl rfl fsX2_g6 fl_X2_41 e_X2_shapeOf_8 ?_
    refine g_icmp_ge e_X2_shapeOf_11 ok_v5 ok_t_many hs (fun c11 hs => ?_) (fun c11 hs => ?_)
    · refine g_lload_n e_X2_shapeOf_58 rfl ?_
      obtain rfl := Option.some.inj hs
      exact g_lret rfl ok_v3 e_X2_shapeOf_59
    · refine g_lload_n e_X2_shapeOf_14 rfl ?_
      refine g_aload_n e_X2_shapeOf_15 rfl ?_
      refine g_get 0 0 ao rfl rfl fsX2_g0 fl_X2_11 e_X2_shapeOf_16 ?_
      refine g_iload e_X2_shapeOf_19 rfl ?_
      refine g_aldF 1 ao rfl rfl (Nat.le_of_ble_eq_true rfl) e_X2_shapeOf_21 hs (fun hi1 hs => ?_)
      obtain ⟨hc2, hs⟩ := chk_elim hs
      refine g_famO (t_rows (Int.toNat v5)) hc2 rfl ?_
      refine g_get 10 4 (AO_fam ao fo hc2) rfl rfl fsX6_g4 fl_X2_80 e_X2_shapeOf_22 ?_
      refine g_famC0 hc2 rfl ?_
      refine g_i2l e_X2_shapeOf_25 (ok_t_rows_R (t_rows (Int.toNat v5))).2.2.2.2.1 ?_
      refine g_aload_n e_X2_shapeOf_26 rfl ?_
      refine g_get 0 2 ao rfl rfl fsX2_g2 fl_X2_26 e_X2_shapeOf_27 ?_
      refine g_iload e_X2_shapeOf_30 rfl ?_
      refine g_iload_n e_X2_shapeOf_32 rfl ?_
      obtain ⟨y3, hy3, hs⟩ := bind_elim hs
      refine g_callVr [vI v5, vI v1] cv_X2_52 ⟨rfl, rfl, Nat.le_of_ble_eq_true rfl, Nat.le_of_ble_eq_true rfl⟩ (ct_X8_partOf (a_t := (a_t + 6)) (AO_call [6, 7, 8, 9] ao (by decide) rfl) (by omega) (FA_call [6, 7, 8, 9] ao.1 rfl rfl) ok_t_steps_many ok_t_steps_xs ok_t_steps_ys ok_t_steps_zs ok_v5 ok_v1 hy3) e_X2_shapeOf_33 (ao.2 6 _ rfl) (ov_get 6 ao.1 rfl rfl) rfl rfl rfl (Nat.le_of_ble_eq_true rfl) ⟨Nat.le_refl _, Nat.le_refl _⟩ (fun Py3 => ?_)
      refine g_i2l e_X2_shapeOf_36 Py3 ?_
      refine g_lmul e_X2_shapeOf_37 ?_
      refine g_aload_n e_X2_shapeOf_38 rfl ?_
      refine g_get 0 1 ao rfl rfl fsX2_g1 fl_X2_22 e_X2_shapeOf_39 ?_
      refine g_iload e_X2_shapeOf_42 rfl ?_
      refine g_iload_n e_X2_shapeOf_44 rfl ?_
      obtain ⟨y4, hy4, hs⟩ := bind_elim hs
      refine g_callVr [vI v5, vI v2] cv_X2_52 ⟨rfl, rfl, Nat.le_of_ble_eq_true rfl, Nat.le_of_ble_eq_true rfl⟩ (ct_X8_partOf (a_t := (a_t + 2)) (AO_call [2, 3, 4, 5] ao (by decide) rfl) (by omega) (FA_call [2, 3, 4, 5] ao.1 rfl rfl) ok_t_planes_many ok_t_planes_xs ok_t_planes_ys ok_t_planes_zs ok_v5 ok_v2 hy4) e_X2_shapeOf_45 (ao.2 2 _ rfl) (ov_get 2 ao.1 rfl rfl) rfl rfl rfl (Nat.le_of_ble_eq_true rfl) ⟨Nat.le_refl _, Nat.le_refl _⟩ (fun Py4 => ?_)
      refine g_i2l e_X2_shapeOf_48 Py4 ?_
      refine g_lmul e_X2_shapeOf_49 ?_
      refine g_ladd e_X2_shapeOf_50 ?_
      refine g_lstore_n e_X2_shapeOf_51 st2_3 rfl ?_
      refine g_iinc e_X2_shapeOf_52 rfl st1_5 rfl ?_
      refine g_goto e_X2_shapeOf_55 ?_
      obtain ⟨hc5, hs⟩ := chk_elim hs
      obtain ⟨hc6, hs⟩ := chk_elim hs
      exact ih _ _ hc5 hc6 hs

noncomputable def m_X2_shapeOf_58 (v3 : Int) : Option (Int) :=
  some (v3)

set_option maxRecDepth 10000 in
set_option maxHeartbeats 8000000 in
theorem g_X2_shapeOf_58 {l : Launch} {E : EE} {b0 n : Nat} {h : AH} {a_t : Nat} {t_many t_ownPart t_crossPart t_pointMany t_wallFirst t_wallSize t_planes_many t_steps_many v3 : Int} {t_planes_xs t_planes_ys t_planes_zs t_steps_xs t_steps_ys t_steps_zs : Nat → Int} {t_rows : Nat → Nat} {t_rows_R : Nat → RowT} {r : Int} (ao : AO b0 n [a_t, (a_t + 1), (a_t + 2), (a_t + 3), (a_t + 4), (a_t + 5), (a_t + 6), (a_t + 7), (a_t + 8), (a_t + 9)]) (fo : FO b0 n [a_t, (a_t + 1), (a_t + 2), (a_t + 3), (a_t + 4), (a_t + 5), (a_t + 6), (a_t + 7), (a_t + 8), (a_t + 9)] (a_t + 13) 8) (ok_t_many : inI t_many) (ok_t_rows : True) (ok_t_planes_many : inI t_planes_many) (ok_t_planes_xs : okA t_planes_xs) (ok_t_planes_ys : okA t_planes_ys) (ok_t_planes_zs : okA t_planes_zs) (ok_t_steps_many : inI t_steps_many) (ok_t_steps_xs : okA t_steps_xs) (ok_t_steps_ys : okA t_steps_ys) (ok_t_steps_zs : okA t_steps_zs) (ok_t_rows_R : okR t_rows_R) (ok_v3 : inJ v3) (hs : m_X2_shapeOf_58 v3 = some r) : G l E b0 M_X2_shapeOf (fun _ => True) (ZM E b0 (some (vJ r)) (ov [a_t, (a_t + 1), (a_t + 2), (a_t + 3), (a_t + 4), (a_t + 5), (a_t + 6), (a_t + 7), (a_t + 8), (a_t + 9)] [.inr (2, fsX2 a_t t_many t_ownPart t_crossPart t_pointMany t_wallFirst t_wallSize), RK E 8 (a_t + 13) t_rows, .inr (8, fsX8 (a_t + 2) t_planes_many), IA E 8 t_planes_xs, IA E 8 t_planes_ys, IA E 8 t_planes_zs, .inr (8, fsX8 (a_t + 6) t_steps_many), IA E 8 t_steps_xs, IA E 8 t_steps_ys, IA E 8 t_steps_zs] (fam E (a_t + 13) 8 t_rows_R h)) n (inJ r) 0 0) 0 0 n (ov [a_t, (a_t + 1), (a_t + 2), (a_t + 3), (a_t + 4), (a_t + 5), (a_t + 6), (a_t + 7), (a_t + 8), (a_t + 9)] [.inr (2, fsX2 a_t t_many t_ownPart t_crossPart t_pointMany t_wallFirst t_wallSize), RK E 8 (a_t + 13) t_rows, .inr (8, fsX8 (a_t + 2) t_planes_many), IA E 8 t_planes_xs, IA E 8 t_planes_ys, IA E 8 t_planes_zs, .inr (8, fsX8 (a_t + 6) t_steps_many), IA E 8 t_steps_xs, IA E 8 t_steps_ys, IA E 8 t_steps_zs] (fam E (a_t + 13) 8 t_rows_R h)) 58 [none, none, none, some (vJ v3), none, none] [] := by
  rw [m_X2_shapeOf_58] at hs
  refine g_lload_n e_X2_shapeOf_58 rfl ?_
  obtain rfl := Option.some.inj hs
  exact g_lret rfl ok_v3 e_X2_shapeOf_59

noncomputable def m_X2_shapeOf_0 (t_many : Int) (t_rows : Nat → Nat) (t_planes_many : Int) (t_planes_xs : Nat → Int) (t_planes_ys : Nat → Int) (t_planes_zs : Nat → Int) (t_steps_many : Int) (t_steps_xs : Nat → Int) (t_steps_ys : Nat → Int) (t_steps_zs : Nat → Int) (t_rows_R : Nat → RowT) (v1 : Int) (v2 : Int) : Option (Int) :=
  m_X2_shapeOf_5 t_many t_rows t_planes_many t_planes_xs t_planes_ys t_planes_zs t_steps_many t_steps_xs t_steps_ys t_steps_zs t_rows_R v1 v2 (fun v3' v5' => m_X2_shapeOf_58 v3') FU 0 0

set_option maxRecDepth 10000 in
set_option maxHeartbeats 8000000 in
theorem g_X2_shapeOf_0 {l : Launch} {E : EE} {b0 n : Nat} {h : AH} {a_t : Nat} {t_many t_ownPart t_crossPart t_pointMany t_wallFirst t_wallSize t_planes_many t_steps_many v1 v2 : Int} {t_planes_xs t_planes_ys t_planes_zs t_steps_xs t_steps_ys t_steps_zs : Nat → Int} {t_rows : Nat → Nat} {t_rows_R : Nat → RowT} {r : Int} (ao : AO b0 n [a_t, (a_t + 1), (a_t + 2), (a_t + 3), (a_t + 4), (a_t + 5), (a_t + 6), (a_t + 7), (a_t + 8), (a_t + 9)]) (fo : FO b0 n [a_t, (a_t + 1), (a_t + 2), (a_t + 3), (a_t + 4), (a_t + 5), (a_t + 6), (a_t + 7), (a_t + 8), (a_t + 9)] (a_t + 13) 8) (ok_t_many : inI t_many) (ok_t_rows : True) (ok_t_planes_many : inI t_planes_many) (ok_t_planes_xs : okA t_planes_xs) (ok_t_planes_ys : okA t_planes_ys) (ok_t_planes_zs : okA t_planes_zs) (ok_t_steps_many : inI t_steps_many) (ok_t_steps_xs : okA t_steps_xs) (ok_t_steps_ys : okA t_steps_ys) (ok_t_steps_zs : okA t_steps_zs) (ok_t_rows_R : okR t_rows_R) (ok_v1 : inI v1) (ok_v2 : inI v2) (hs : m_X2_shapeOf_0 t_many t_rows t_planes_many t_planes_xs t_planes_ys t_planes_zs t_steps_many t_steps_xs t_steps_ys t_steps_zs t_rows_R v1 v2 = some r) : G l E b0 M_X2_shapeOf (fun _ => True) (ZM E b0 (some (vJ r)) (ov [a_t, (a_t + 1), (a_t + 2), (a_t + 3), (a_t + 4), (a_t + 5), (a_t + 6), (a_t + 7), (a_t + 8), (a_t + 9)] [.inr (2, fsX2 a_t t_many t_ownPart t_crossPart t_pointMany t_wallFirst t_wallSize), RK E 8 (a_t + 13) t_rows, .inr (8, fsX8 (a_t + 2) t_planes_many), IA E 8 t_planes_xs, IA E 8 t_planes_ys, IA E 8 t_planes_zs, .inr (8, fsX8 (a_t + 6) t_steps_many), IA E 8 t_steps_xs, IA E 8 t_steps_ys, IA E 8 t_steps_zs] (fam E (a_t + 13) 8 t_rows_R h)) n (inJ r) 0 0) 0 0 n (ov [a_t, (a_t + 1), (a_t + 2), (a_t + 3), (a_t + 4), (a_t + 5), (a_t + 6), (a_t + 7), (a_t + 8), (a_t + 9)] [.inr (2, fsX2 a_t t_many t_ownPart t_crossPart t_pointMany t_wallFirst t_wallSize), RK E 8 (a_t + 13) t_rows, .inr (8, fsX8 (a_t + 2) t_planes_many), IA E 8 t_planes_xs, IA E 8 t_planes_ys, IA E 8 t_planes_zs, .inr (8, fsX8 (a_t + 6) t_steps_many), IA E 8 t_steps_xs, IA E 8 t_steps_ys, IA E 8 t_steps_zs] (fam E (a_t + 13) 8 t_rows_R h)) 0 [some (.ref a_t), some (vI v1), some (vI v2), none, none, none] [] := by
  rw [m_X2_shapeOf_0] at hs
  refine g_lconst (a := 0) e_X2_shapeOf_0 rfl ?_
  refine g_lstore_n e_X2_shapeOf_1 st2_3 rfl ?_
  refine g_iconst e_X2_shapeOf_2 ?_
  refine g_istore e_X2_shapeOf_3 st1_5 rfl ?_
  exact g_X2_shapeOf_5 ao fo ok_t_many ok_t_rows ok_t_planes_many ok_t_planes_xs ok_t_planes_ys ok_t_planes_zs ok_t_steps_many ok_t_steps_xs ok_t_steps_ys ok_t_steps_zs ok_t_rows_R ok_v1 ok_v2 (hk_58 := by
      intro v3' v5' ok_v3' ok_v5' hs
      exact g_X2_shapeOf_58 ao fo ok_t_many ok_t_rows ok_t_planes_many ok_t_planes_xs ok_t_planes_ys ok_t_planes_zs ok_t_steps_many ok_t_steps_xs ok_t_steps_ys ok_t_steps_zs ok_t_rows_R ok_v3' hs) FU _ _ (by decide : inJ 0) (by decide : inI 0) hs

noncomputable def m_X2_shapeOf (t_many : Int) (t_rows : Nat → Nat) (t_planes_many : Int) (t_planes_xs : Nat → Int) (t_planes_ys : Nat → Int) (t_planes_zs : Nat → Int) (t_steps_many : Int) (t_steps_xs : Nat → Int) (t_steps_ys : Nat → Int) (t_steps_zs : Nat → Int) (t_rows_R : Nat → RowT) (v1 : Int) (v2 : Int) : Option (Int) := m_X2_shapeOf_0 t_many t_rows t_planes_many t_planes_xs t_planes_ys t_planes_zs t_steps_many t_steps_xs t_steps_ys t_steps_zs t_rows_R v1 v2

set_option maxRecDepth 10000 in
set_option maxHeartbeats 8000000 in
theorem ct_X2_shapeOf {l : Launch} {E : EE} {b0 n : Nat} {h : AH} {a_t : Nat} {t_many t_ownPart t_crossPart t_pointMany t_wallFirst t_wallSize t_planes_many t_steps_many : Int} {t_planes_xs t_planes_ys t_planes_zs t_steps_xs t_steps_ys t_steps_zs : Nat → Int} {t_rows : Nat → Nat} {t_rows_R : Nat → RowT} {v1 v2 : Int} (ao : AO b0 n [a_t, (a_t + 1), (a_t + 2), (a_t + 3), (a_t + 4), (a_t + 5), (a_t + 6), (a_t + 7), (a_t + 8), (a_t + 9)]) (fo : FO b0 n [a_t, (a_t + 1), (a_t + 2), (a_t + 3), (a_t + 4), (a_t + 5), (a_t + 6), (a_t + 7), (a_t + 8), (a_t + 9)] (a_t + 13) 8) (hf : FA h [a_t, (a_t + 1), (a_t + 2), (a_t + 3), (a_t + 4), (a_t + 5), (a_t + 6), (a_t + 7), (a_t + 8), (a_t + 9)] [.inr (2, fsX2 a_t t_many t_ownPart t_crossPart t_pointMany t_wallFirst t_wallSize), RK E 8 (a_t + 13) t_rows, .inr (8, fsX8 (a_t + 2) t_planes_many), IA E 8 t_planes_xs, IA E 8 t_planes_ys, IA E 8 t_planes_zs, .inr (8, fsX8 (a_t + 6) t_steps_many), IA E 8 t_steps_xs, IA E 8 t_steps_ys, IA E 8 t_steps_zs]) (hF : FF E h (a_t + 13) 8 t_rows_R) (ok_t_many : inI t_many) (ok_t_rows : True) (ok_t_planes_many : inI t_planes_many) (ok_t_planes_xs : okA t_planes_xs) (ok_t_planes_ys : okA t_planes_ys) (ok_t_planes_zs : okA t_planes_zs) (ok_t_steps_many : inI t_steps_many) (ok_t_steps_xs : okA t_steps_xs) (ok_t_steps_ys : okA t_steps_ys) (ok_t_steps_zs : okA t_steps_zs) (ok_t_rows_R : okR t_rows_R) (ok_v1 : inI v1) (ok_v2 : inI v2) {r : Int} (hm : m_X2_shapeOf t_many t_rows t_planes_many t_planes_xs t_planes_ys t_planes_zs t_steps_many t_steps_xs t_steps_ys t_steps_zs t_rows_R v1 v2 = some r) : Ct l E b0 M_X2_shapeOf 0 0 [.ref a_t, vI v1, vI v2] h n (some (vJ r)) h n (inJ r) := by
  rw [m_X2_shapeOf] at hm
  have hg : G l E b0 M_X2_shapeOf (fun _ => True) (ZM E b0 (some (vJ r)) (ov [a_t, (a_t + 1), (a_t + 2), (a_t + 3), (a_t + 4), (a_t + 5), (a_t + 6), (a_t + 7), (a_t + 8), (a_t + 9)] [.inr (2, fsX2 a_t t_many t_ownPart t_crossPart t_pointMany t_wallFirst t_wallSize), RK E 8 (a_t + 13) t_rows, .inr (8, fsX8 (a_t + 2) t_planes_many), IA E 8 t_planes_xs, IA E 8 t_planes_ys, IA E 8 t_planes_zs, .inr (8, fsX8 (a_t + 6) t_steps_many), IA E 8 t_steps_xs, IA E 8 t_steps_ys, IA E 8 t_steps_zs] (fam E (a_t + 13) 8 t_rows_R h)) n (inJ r) 0 0) 0 0 n (ov [a_t, (a_t + 1), (a_t + 2), (a_t + 3), (a_t + 4), (a_t + 5), (a_t + 6), (a_t + 7), (a_t + 8), (a_t + 9)] [.inr (2, fsX2 a_t t_many t_ownPart t_crossPart t_pointMany t_wallFirst t_wallSize), RK E 8 (a_t + 13) t_rows, .inr (8, fsX8 (a_t + 2) t_planes_many), IA E 8 t_planes_xs, IA E 8 t_planes_ys, IA E 8 t_planes_zs, .inr (8, fsX8 (a_t + 6) t_steps_many), IA E 8 t_steps_xs, IA E 8 t_steps_ys, IA E 8 t_steps_zs] (fam E (a_t + 13) 8 t_rows_R h)) 0 [some (.ref a_t), some (vI v1), some (vI v2), none, none, none] [] := by
    have hs := hm
    exact g_X2_shapeOf_0 ao fo ok_t_many ok_t_rows ok_t_planes_many ok_t_planes_xs ok_t_planes_ys ok_t_planes_zs ok_t_steps_many ok_t_steps_xs ok_t_steps_ys ok_t_steps_zs ok_t_rows_R ok_v1 ok_v2 hs
  rw [FF_id hF] at hg
  rw [FA_id hf] at hg
  exact Ct_of [some (.ref a_t), some (vI v1), some (vI v2), none, none, none] ⟨by decide +kernel, rfl⟩ rfl (Nat.le_of_ble_eq_true rfl) hg

/-! ===== X2_goesOn ===== -/
theorem e_X2_goesOn_0 : DC cX2_goesOn 0 (.aload_n 0) 1 1 := ⟨by decide +kernel, rfl⟩
theorem e_X2_goesOn_1 : DC cX2_goesOn 1 (.iload_n 1) 1 2 := ⟨by decide +kernel, rfl⟩
theorem e_X2_goesOn_2 : DC cX2_goesOn 2 (.iconst 1) 1 3 := ⟨by decide +kernel, rfl⟩
theorem e_X2_goesOn_3 : DC cX2_goesOn 3 (.isub) 1 4 := ⟨by decide +kernel, rfl⟩
theorem e_X2_goesOn_4 : DC cX2_goesOn 4 (.invokevirtual 67) 3 7 := ⟨by decide +kernel, rfl⟩
theorem e_X2_goesOn_7 : DB cX2_goesOn 7 (.ifCond .eq 60) (60) 3 10 67 := ⟨by decide +kernel, rfl, rfl⟩
theorem e_X2_goesOn_10 : DC cX2_goesOn 10 (.aload_n 0) 1 11 := ⟨by decide +kernel, rfl⟩
theorem e_X2_goesOn_11 : DC cX2_goesOn 11 (.getfield 22) 3 14 := ⟨by decide +kernel, rfl⟩
theorem e_X2_goesOn_14 : DC cX2_goesOn 14 (.iload_n 1) 1 15 := ⟨by decide +kernel, rfl⟩
theorem e_X2_goesOn_15 : DC cX2_goesOn 15 (.iload_n 1) 1 16 := ⟨by decide +kernel, rfl⟩
theorem e_X2_goesOn_16 : DC cX2_goesOn 16 (.iconst 1) 1 17 := ⟨by decide +kernel, rfl⟩
theorem e_X2_goesOn_17 : DC cX2_goesOn 17 (.isub) 1 18 := ⟨by decide +kernel, rfl⟩
theorem e_X2_goesOn_18 : DC cX2_goesOn 18 (.invokevirtual 163) 3 21 := ⟨by decide +kernel, rfl⟩
theorem e_X2_goesOn_21 : DB cX2_goesOn 21 (.ifCond .eq 46) (46) 3 24 67 := ⟨by decide +kernel, rfl, rfl⟩
theorem e_X2_goesOn_24 : DC cX2_goesOn 24 (.aload_n 0) 1 25 := ⟨by decide +kernel, rfl⟩
theorem e_X2_goesOn_25 : DC cX2_goesOn 25 (.getfield 26) 3 28 := ⟨by decide +kernel, rfl⟩
theorem e_X2_goesOn_28 : DC cX2_goesOn 28 (.iload_n 1) 1 29 := ⟨by decide +kernel, rfl⟩
theorem e_X2_goesOn_29 : DC cX2_goesOn 29 (.iload_n 1) 1 30 := ⟨by decide +kernel, rfl⟩
theorem e_X2_goesOn_30 : DC cX2_goesOn 30 (.iconst 1) 1 31 := ⟨by decide +kernel, rfl⟩
theorem e_X2_goesOn_31 : DC cX2_goesOn 31 (.isub) 1 32 := ⟨by decide +kernel, rfl⟩
theorem e_X2_goesOn_32 : DC cX2_goesOn 32 (.invokevirtual 163) 3 35 := ⟨by decide +kernel, rfl⟩
theorem e_X2_goesOn_35 : DB cX2_goesOn 35 (.ifCond .eq 32) (32) 3 38 67 := ⟨by decide +kernel, rfl, rfl⟩
theorem e_X2_goesOn_38 : DC cX2_goesOn 38 (.aload_n 0) 1 39 := ⟨by decide +kernel, rfl⟩
theorem e_X2_goesOn_39 : DC cX2_goesOn 39 (.getfield 11) 3 42 := ⟨by decide +kernel, rfl⟩
theorem e_X2_goesOn_42 : DC cX2_goesOn 42 (.iload_n 1) 1 43 := ⟨by decide +kernel, rfl⟩
theorem e_X2_goesOn_43 : DC cX2_goesOn 43 (.aaload) 1 44 := ⟨by decide +kernel, rfl⟩
theorem e_X2_goesOn_44 : DC cX2_goesOn 44 (.iload_n 2) 1 45 := ⟨by decide +kernel, rfl⟩
theorem e_X2_goesOn_45 : DC cX2_goesOn 45 (.invokevirtual 99) 3 48 := ⟨by decide +kernel, rfl⟩
theorem e_X2_goesOn_48 : DC cX2_goesOn 48 (.aload_n 0) 1 49 := ⟨by decide +kernel, rfl⟩
theorem e_X2_goesOn_49 : DC cX2_goesOn 49 (.getfield 11) 3 52 := ⟨by decide +kernel, rfl⟩
theorem e_X2_goesOn_52 : DC cX2_goesOn 52 (.iload_n 1) 1 53 := ⟨by decide +kernel, rfl⟩
theorem e_X2_goesOn_53 : DC cX2_goesOn 53 (.iconst 1) 1 54 := ⟨by decide +kernel, rfl⟩
theorem e_X2_goesOn_54 : DC cX2_goesOn 54 (.isub) 1 55 := ⟨by decide +kernel, rfl⟩
theorem e_X2_goesOn_55 : DC cX2_goesOn 55 (.aaload) 1 56 := ⟨by decide +kernel, rfl⟩
theorem e_X2_goesOn_56 : DC cX2_goesOn 56 (.iload_n 2) 1 57 := ⟨by decide +kernel, rfl⟩
theorem e_X2_goesOn_57 : DC cX2_goesOn 57 (.invokevirtual 99) 3 60 := ⟨by decide +kernel, rfl⟩
theorem e_X2_goesOn_60 : DB cX2_goesOn 60 (.if_icmp .ne 7) (7) 3 63 67 := ⟨by decide +kernel, rfl, rfl⟩
theorem e_X2_goesOn_63 : DC cX2_goesOn 63 (.iconst 1) 1 64 := ⟨by decide +kernel, rfl⟩
theorem e_X2_goesOn_64 : DB cX2_goesOn 64 (.goto 4) (4) 3 67 68 := ⟨by decide +kernel, rfl, rfl⟩
theorem e_X2_goesOn_67 : DC cX2_goesOn 67 (.iconst 0) 1 68 := ⟨by decide +kernel, rfl⟩
theorem e_X2_goesOn_68 : DC cX2_goesOn 68 (.ireturn) 1 69 := ⟨by decide +kernel, rfl⟩
noncomputable def m_X2_goesOn_0 (t_many : Int) (t_rows : Nat → Nat) (t_planes_many : Int) (t_planes_xs : Nat → Int) (t_planes_ys : Nat → Int) (t_planes_zs : Nat → Int) (t_steps_many : Int) (t_steps_xs : Nat → Int) (t_steps_ys : Nat → Int) (t_steps_zs : Nat → Int) (t_rows_R : Nat → RowT) (v1 : Int) (v2 : Int) : Option (Int) :=
  chk (inI (v1 - 1)) ((m_X2_has t_many (v1 - 1)).bind (fun y2 => if y2 = 0 then (some (0)) else ((m_X8_areAlike 8 t_planes_many t_planes_xs t_planes_ys t_planes_zs v1 (v1 - 1)).bind (fun y3 => if y3 = 0 then (some (0)) else ((m_X8_areAlike 8 t_steps_many t_steps_xs t_steps_ys t_steps_zs v1 (v1 - 1)).bind (fun y4 => if y4 = 0 then (some (0)) else (chk (inB v1 8) (chk (t_rows (Int.toNat v1) < 8) ((m_X6_signAt ((t_rows_R (t_rows (Int.toNat v1))).1) v2).bind (fun y7 => chk (inB (v1 - 1) 8) (chk (t_rows (Int.toNat (v1 - 1)) < 8) ((m_X6_signAt ((t_rows_R (t_rows (Int.toNat (v1 - 1)))).1) v2).bind (fun y10 => if y7 = y10 then (some (1)) else (some (0)))))))))))))))

set_option maxRecDepth 10000 in
set_option maxHeartbeats 8000000 in
theorem g_X2_goesOn_0 {l : Launch} {E : EE} {b0 n : Nat} {h : AH} {a_t : Nat} {t_many t_ownPart t_crossPart t_pointMany t_wallFirst t_wallSize t_planes_many t_steps_many v1 v2 : Int} {t_planes_xs t_planes_ys t_planes_zs t_steps_xs t_steps_ys t_steps_zs : Nat → Int} {t_rows : Nat → Nat} {t_rows_R : Nat → RowT} {r : Int} (ao : AO b0 n [a_t, (a_t + 1), (a_t + 2), (a_t + 3), (a_t + 4), (a_t + 5), (a_t + 6), (a_t + 7), (a_t + 8), (a_t + 9)]) (fo : FO b0 n [a_t, (a_t + 1), (a_t + 2), (a_t + 3), (a_t + 4), (a_t + 5), (a_t + 6), (a_t + 7), (a_t + 8), (a_t + 9)] (a_t + 13) 8) (ok_t_many : inI t_many) (ok_t_rows : True) (ok_t_planes_many : inI t_planes_many) (ok_t_planes_xs : okA t_planes_xs) (ok_t_planes_ys : okA t_planes_ys) (ok_t_planes_zs : okA t_planes_zs) (ok_t_steps_many : inI t_steps_many) (ok_t_steps_xs : okA t_steps_xs) (ok_t_steps_ys : okA t_steps_ys) (ok_t_steps_zs : okA t_steps_zs) (ok_t_rows_R : okR t_rows_R) (ok_v1 : inI v1) (ok_v2 : inI v2) (hs : m_X2_goesOn_0 t_many t_rows t_planes_many t_planes_xs t_planes_ys t_planes_zs t_steps_many t_steps_xs t_steps_ys t_steps_zs t_rows_R v1 v2 = some r) : G l E b0 M_X2_goesOn (fun _ => True) (ZM E b0 (some (vI r)) (ov [a_t, (a_t + 1), (a_t + 2), (a_t + 3), (a_t + 4), (a_t + 5), (a_t + 6), (a_t + 7), (a_t + 8), (a_t + 9)] [.inr (2, fsX2 a_t t_many t_ownPart t_crossPart t_pointMany t_wallFirst t_wallSize), RK E 8 (a_t + 13) t_rows, .inr (8, fsX8 (a_t + 2) t_planes_many), IA E 8 t_planes_xs, IA E 8 t_planes_ys, IA E 8 t_planes_zs, .inr (8, fsX8 (a_t + 6) t_steps_many), IA E 8 t_steps_xs, IA E 8 t_steps_ys, IA E 8 t_steps_zs] (fam E (a_t + 13) 8 t_rows_R h)) n (inZ r) 0 0) 0 0 n (ov [a_t, (a_t + 1), (a_t + 2), (a_t + 3), (a_t + 4), (a_t + 5), (a_t + 6), (a_t + 7), (a_t + 8), (a_t + 9)] [.inr (2, fsX2 a_t t_many t_ownPart t_crossPart t_pointMany t_wallFirst t_wallSize), RK E 8 (a_t + 13) t_rows, .inr (8, fsX8 (a_t + 2) t_planes_many), IA E 8 t_planes_xs, IA E 8 t_planes_ys, IA E 8 t_planes_zs, .inr (8, fsX8 (a_t + 6) t_steps_many), IA E 8 t_steps_xs, IA E 8 t_steps_ys, IA E 8 t_steps_zs] (fam E (a_t + 13) 8 t_rows_R h)) 0 [some (.ref a_t), some (vI v1), some (vI v2)] [] := by
  rw [m_X2_goesOn_0] at hs
  refine g_aload_n e_X2_goesOn_0 rfl ?_
  refine g_iload_n e_X2_goesOn_1 rfl ?_
  refine g_iconst e_X2_goesOn_2 ?_
  refine g_isub e_X2_goesOn_3 ?_
  obtain ⟨hc1, hs⟩ := chk_elim hs
  obtain ⟨y2, hy2, hs⟩ := bind_elim hs
  refine g_callVr [vI (v1 - 1)] cv_X2_67 ⟨rfl, rfl, Nat.le_of_ble_eq_true rfl, Nat.le_of_ble_eq_true rfl⟩ (ct_X2_has (a_t := a_t) (AO_call [0] ao (by decide) rfl) (FA_call [0] ao.1 rfl rfl) ok_t_many hc1 hy2) e_X2_goesOn_4 (ao.2 0 _ rfl) (ov_get 0 ao.1 rfl rfl) rfl rfl rfl (Nat.le_of_ble_eq_true rfl) ⟨Nat.le_refl _, Nat.le_refl _⟩ (fun Py2 => ?_)
  refine g_if_eq e_X2_goesOn_7 (inZ_I Py2) hs (fun c7 hs => ?_) (fun c7 hs => ?_)
  · refine g_iconst e_X2_goesOn_67 ?_
    obtain rfl := Option.some.inj hs
    exact g_zret rfl (by decide : inZ 0) (by decide : inZ 0) e_X2_goesOn_68
  · refine g_aload_n e_X2_goesOn_10 rfl ?_
    refine g_get 0 1 ao rfl rfl fsX2_g1 fl_X2_22 e_X2_goesOn_11 ?_
    refine g_iload_n e_X2_goesOn_14 rfl ?_
    refine g_iload_n e_X2_goesOn_15 rfl ?_
    refine g_iconst e_X2_goesOn_16 ?_
    refine g_isub e_X2_goesOn_17 ?_
    obtain ⟨y3, hy3, hs⟩ := bind_elim hs
    refine g_callVr [vI v1, vI (v1 - 1)] cv_X2_163 ⟨rfl, rfl, Nat.le_of_ble_eq_true rfl, Nat.le_of_ble_eq_true rfl⟩ (ct_X8_areAlike (a_t := (a_t + 2)) (AO_call [2, 3, 4, 5] ao (by decide) rfl) (by omega) (FA_call [2, 3, 4, 5] ao.1 rfl rfl) ok_t_planes_many ok_t_planes_xs ok_t_planes_ys ok_t_planes_zs ok_v1 hc1 hy3) e_X2_goesOn_18 (ao.2 2 _ rfl) (ov_get 2 ao.1 rfl rfl) rfl rfl rfl (Nat.le_of_ble_eq_true rfl) ⟨Nat.le_refl _, Nat.le_refl _⟩ (fun Py3 => ?_)
    refine g_if_eq e_X2_goesOn_21 (inZ_I Py3) hs (fun c21 hs => ?_) (fun c21 hs => ?_)
    · refine g_iconst e_X2_goesOn_67 ?_
      obtain rfl := Option.some.inj hs
      exact g_zret rfl (by decide : inZ 0) (by decide : inZ 0) e_X2_goesOn_68
    · refine g_aload_n e_X2_goesOn_24 rfl ?_
      refine g_get 0 2 ao rfl rfl fsX2_g2 fl_X2_26 e_X2_goesOn_25 ?_
      refine g_iload_n e_X2_goesOn_28 rfl ?_
      refine g_iload_n e_X2_goesOn_29 rfl ?_
      refine g_iconst e_X2_goesOn_30 ?_
      refine g_isub e_X2_goesOn_31 ?_
      obtain ⟨y4, hy4, hs⟩ := bind_elim hs
      refine g_callVr [vI v1, vI (v1 - 1)] cv_X2_163 ⟨rfl, rfl, Nat.le_of_ble_eq_true rfl, Nat.le_of_ble_eq_true rfl⟩ (ct_X8_areAlike (a_t := (a_t + 6)) (AO_call [6, 7, 8, 9] ao (by decide) rfl) (by omega) (FA_call [6, 7, 8, 9] ao.1 rfl rfl) ok_t_steps_many ok_t_steps_xs ok_t_steps_ys ok_t_steps_zs ok_v1 hc1 hy4) e_X2_goesOn_32 (ao.2 6 _ rfl) (ov_get 6 ao.1 rfl rfl) rfl rfl rfl (Nat.le_of_ble_eq_true rfl) ⟨Nat.le_refl _, Nat.le_refl _⟩ (fun Py4 => ?_)
      refine g_if_eq e_X2_goesOn_35 (inZ_I Py4) hs (fun c35 hs => ?_) (fun c35 hs => ?_)
      · refine g_iconst e_X2_goesOn_67 ?_
        obtain rfl := Option.some.inj hs
        exact g_zret rfl (by decide : inZ 0) (by decide : inZ 0) e_X2_goesOn_68
      · refine g_aload_n e_X2_goesOn_38 rfl ?_
        refine g_get 0 0 ao rfl rfl fsX2_g0 fl_X2_11 e_X2_goesOn_39 ?_
        refine g_iload_n e_X2_goesOn_42 rfl ?_
        refine g_aldF 1 ao rfl rfl (Nat.le_of_ble_eq_true rfl) e_X2_goesOn_43 hs (fun hi5 hs => ?_)
        obtain ⟨hc6, hs⟩ := chk_elim hs
        refine g_iload_n e_X2_goesOn_44 rfl ?_
        obtain ⟨y7, hy7, hs⟩ := bind_elim hs
        refine g_famO (t_rows (Int.toNat v1)) hc6 rfl ?_
        refine g_callVr [vI v2] cv_X2_99 ⟨rfl, rfl, Nat.le_of_ble_eq_true rfl, Nat.le_of_ble_eq_true rfl⟩ (ct_X6_signAt (a_t := ((a_t + 13) + 4 * (t_rows (Int.toNat v1)))) (AO_call [10, 11] (AO_fam ao fo hc6) (by decide) rfl) (FA_call [10, 11] (AO_fam ao fo hc6).1 rfl rfl) ((ok_t_rows_R (t_rows (Int.toNat v1))).1) ok_v2 hy7) e_X2_goesOn_45 ((AO_fam ao fo hc6).2 10 _ rfl) (ov_get 10 (AO_fam ao fo hc6).1 rfl rfl) rfl rfl rfl (Nat.le_of_ble_eq_true rfl) ⟨Nat.le_refl _, Nat.le_refl _⟩ (fun Py7 => ?_)
        refine g_famC0 hc6 rfl ?_
        refine g_aload_n e_X2_goesOn_48 rfl ?_
        refine g_get 0 0 ao rfl rfl fsX2_g0 fl_X2_11 e_X2_goesOn_49 ?_
        refine g_iload_n e_X2_goesOn_52 rfl ?_
        refine g_iconst e_X2_goesOn_53 ?_
        refine g_isub e_X2_goesOn_54 ?_
        refine g_aldF 1 ao rfl rfl (Nat.le_of_ble_eq_true rfl) e_X2_goesOn_55 hs (fun hi8 hs => ?_)
        obtain ⟨hc9, hs⟩ := chk_elim hs
        refine g_iload_n e_X2_goesOn_56 rfl ?_
        obtain ⟨y10, hy10, hs⟩ := bind_elim hs
        refine g_famO (t_rows (Int.toNat (v1 - 1))) hc9 rfl ?_
        refine g_callVr [vI v2] cv_X2_99 ⟨rfl, rfl, Nat.le_of_ble_eq_true rfl, Nat.le_of_ble_eq_true rfl⟩ (ct_X6_signAt (a_t := ((a_t + 13) + 4 * (t_rows (Int.toNat (v1 - 1))))) (AO_call [10, 11] (AO_fam ao fo hc9) (by decide) rfl) (FA_call [10, 11] (AO_fam ao fo hc9).1 rfl rfl) ((ok_t_rows_R (t_rows (Int.toNat (v1 - 1)))).1) ok_v2 hy10) e_X2_goesOn_57 ((AO_fam ao fo hc9).2 10 _ rfl) (ov_get 10 (AO_fam ao fo hc9).1 rfl rfl) rfl rfl rfl (Nat.le_of_ble_eq_true rfl) ⟨Nat.le_refl _, Nat.le_refl _⟩ (fun Py10 => ?_)
        refine g_famC0 hc9 rfl ?_
        refine g_icmp_ne e_X2_goesOn_60 Py7 Py10 hs (fun c60 hs => ?_) (fun c60 hs => ?_)
        · refine g_iconst e_X2_goesOn_63 ?_
          refine g_goto e_X2_goesOn_64 ?_
          obtain rfl := Option.some.inj hs
          exact g_zret rfl (by decide : inZ 1) (by decide : inZ 1) e_X2_goesOn_68
        · refine g_iconst e_X2_goesOn_67 ?_
          obtain rfl := Option.some.inj hs
          exact g_zret rfl (by decide : inZ 0) (by decide : inZ 0) e_X2_goesOn_68

noncomputable def m_X2_goesOn (t_many : Int) (t_rows : Nat → Nat) (t_planes_many : Int) (t_planes_xs : Nat → Int) (t_planes_ys : Nat → Int) (t_planes_zs : Nat → Int) (t_steps_many : Int) (t_steps_xs : Nat → Int) (t_steps_ys : Nat → Int) (t_steps_zs : Nat → Int) (t_rows_R : Nat → RowT) (v1 : Int) (v2 : Int) : Option (Int) := m_X2_goesOn_0 t_many t_rows t_planes_many t_planes_xs t_planes_ys t_planes_zs t_steps_many t_steps_xs t_steps_ys t_steps_zs t_rows_R v1 v2

set_option maxRecDepth 10000 in
set_option maxHeartbeats 8000000 in
theorem ct_X2_goesOn {l : Launch} {E : EE} {b0 n : Nat} {h : AH} {a_t : Nat} {t_many t_ownPart t_crossPart t_pointMany t_wallFirst t_wallSize t_planes_many t_steps_many : Int} {t_planes_xs t_planes_ys t_planes_zs t_steps_xs t_steps_ys t_steps_zs : Nat → Int} {t_rows : Nat → Nat} {t_rows_R : Nat → RowT} {v1 v2 : Int} (ao : AO b0 n [a_t, (a_t + 1), (a_t + 2), (a_t + 3), (a_t + 4), (a_t + 5), (a_t + 6), (a_t + 7), (a_t + 8), (a_t + 9)]) (fo : FO b0 n [a_t, (a_t + 1), (a_t + 2), (a_t + 3), (a_t + 4), (a_t + 5), (a_t + 6), (a_t + 7), (a_t + 8), (a_t + 9)] (a_t + 13) 8) (hf : FA h [a_t, (a_t + 1), (a_t + 2), (a_t + 3), (a_t + 4), (a_t + 5), (a_t + 6), (a_t + 7), (a_t + 8), (a_t + 9)] [.inr (2, fsX2 a_t t_many t_ownPart t_crossPart t_pointMany t_wallFirst t_wallSize), RK E 8 (a_t + 13) t_rows, .inr (8, fsX8 (a_t + 2) t_planes_many), IA E 8 t_planes_xs, IA E 8 t_planes_ys, IA E 8 t_planes_zs, .inr (8, fsX8 (a_t + 6) t_steps_many), IA E 8 t_steps_xs, IA E 8 t_steps_ys, IA E 8 t_steps_zs]) (hF : FF E h (a_t + 13) 8 t_rows_R) (ok_t_many : inI t_many) (ok_t_rows : True) (ok_t_planes_many : inI t_planes_many) (ok_t_planes_xs : okA t_planes_xs) (ok_t_planes_ys : okA t_planes_ys) (ok_t_planes_zs : okA t_planes_zs) (ok_t_steps_many : inI t_steps_many) (ok_t_steps_xs : okA t_steps_xs) (ok_t_steps_ys : okA t_steps_ys) (ok_t_steps_zs : okA t_steps_zs) (ok_t_rows_R : okR t_rows_R) (ok_v1 : inI v1) (ok_v2 : inI v2) {r : Int} (hm : m_X2_goesOn t_many t_rows t_planes_many t_planes_xs t_planes_ys t_planes_zs t_steps_many t_steps_xs t_steps_ys t_steps_zs t_rows_R v1 v2 = some r) : Ct l E b0 M_X2_goesOn 0 0 [.ref a_t, vI v1, vI v2] h n (some (vI r)) h n (inZ r) := by
  rw [m_X2_goesOn] at hm
  have hg : G l E b0 M_X2_goesOn (fun _ => True) (ZM E b0 (some (vI r)) (ov [a_t, (a_t + 1), (a_t + 2), (a_t + 3), (a_t + 4), (a_t + 5), (a_t + 6), (a_t + 7), (a_t + 8), (a_t + 9)] [.inr (2, fsX2 a_t t_many t_ownPart t_crossPart t_pointMany t_wallFirst t_wallSize), RK E 8 (a_t + 13) t_rows, .inr (8, fsX8 (a_t + 2) t_planes_many), IA E 8 t_planes_xs, IA E 8 t_planes_ys, IA E 8 t_planes_zs, .inr (8, fsX8 (a_t + 6) t_steps_many), IA E 8 t_steps_xs, IA E 8 t_steps_ys, IA E 8 t_steps_zs] (fam E (a_t + 13) 8 t_rows_R h)) n (inZ r) 0 0) 0 0 n (ov [a_t, (a_t + 1), (a_t + 2), (a_t + 3), (a_t + 4), (a_t + 5), (a_t + 6), (a_t + 7), (a_t + 8), (a_t + 9)] [.inr (2, fsX2 a_t t_many t_ownPart t_crossPart t_pointMany t_wallFirst t_wallSize), RK E 8 (a_t + 13) t_rows, .inr (8, fsX8 (a_t + 2) t_planes_many), IA E 8 t_planes_xs, IA E 8 t_planes_ys, IA E 8 t_planes_zs, .inr (8, fsX8 (a_t + 6) t_steps_many), IA E 8 t_steps_xs, IA E 8 t_steps_ys, IA E 8 t_steps_zs] (fam E (a_t + 13) 8 t_rows_R h)) 0 [some (.ref a_t), some (vI v1), some (vI v2)] [] := by
    have hs := hm
    exact g_X2_goesOn_0 ao fo ok_t_many ok_t_rows ok_t_planes_many ok_t_planes_xs ok_t_planes_ys ok_t_planes_zs ok_t_steps_many ok_t_steps_xs ok_t_steps_ys ok_t_steps_zs ok_t_rows_R ok_v1 ok_v2 hs
  rw [FF_id hF] at hg
  rw [FA_id hf] at hg
  exact Ct_of [some (.ref a_t), some (vI v1), some (vI v2)] ⟨by decide +kernel, rfl⟩ rfl (Nat.le_of_ble_eq_true rfl) hg

/-! ===== X2_wallTilt ===== -/
theorem e_X2_wallTilt_0 : DC cX2_wallTilt 0 (.aload_n 0) 1 1 := ⟨by decide +kernel, rfl⟩
theorem e_X2_wallTilt_1 : DC cX2_wallTilt 1 (.getfield 157) 3 4 := ⟨by decide +kernel, rfl⟩
theorem e_X2_wallTilt_4 : DB cX2_wallTilt 4 (.ifCond .eq 14) (14) 3 7 18 := ⟨by decide +kernel, rfl, rfl⟩
theorem e_X2_wallTilt_7 : DC cX2_wallTilt 7 (.aload_n 0) 1 8 := ⟨by decide +kernel, rfl⟩
theorem e_X2_wallTilt_8 : DC cX2_wallTilt 8 (.aload_n 0) 1 9 := ⟨by decide +kernel, rfl⟩
theorem e_X2_wallTilt_9 : DC cX2_wallTilt 9 (.getfield 154) 3 12 := ⟨by decide +kernel, rfl⟩
theorem e_X2_wallTilt_12 : DC cX2_wallTilt 12 (.invokevirtual 67) 3 15 := ⟨by decide +kernel, rfl⟩
theorem e_X2_wallTilt_15 : DB cX2_wallTilt 15 (.ifCond .ne 5) (5) 3 18 20 := ⟨by decide +kernel, rfl, rfl⟩
theorem e_X2_wallTilt_18 : DC cX2_wallTilt 18 (.iconst 0) 1 19 := ⟨by decide +kernel, rfl⟩
theorem e_X2_wallTilt_19 : DC cX2_wallTilt 19 (.ireturn) 1 20 := ⟨by decide +kernel, rfl⟩
theorem e_X2_wallTilt_20 : DC cX2_wallTilt 20 (.aload_n 0) 1 21 := ⟨by decide +kernel, rfl⟩
theorem e_X2_wallTilt_21 : DC cX2_wallTilt 21 (.getfield 157) 3 24 := ⟨by decide +kernel, rfl⟩
theorem e_X2_wallTilt_24 : DC cX2_wallTilt 24 (.aload_n 0) 1 25 := ⟨by decide +kernel, rfl⟩
theorem e_X2_wallTilt_25 : DC cX2_wallTilt 25 (.getfield 11) 3 28 := ⟨by decide +kernel, rfl⟩
theorem e_X2_wallTilt_28 : DC cX2_wallTilt 28 (.aload_n 0) 1 29 := ⟨by decide +kernel, rfl⟩
theorem e_X2_wallTilt_29 : DC cX2_wallTilt 29 (.getfield 154) 3 32 := ⟨by decide +kernel, rfl⟩
theorem e_X2_wallTilt_32 : DC cX2_wallTilt 32 (.aaload) 1 33 := ⟨by decide +kernel, rfl⟩
theorem e_X2_wallTilt_33 : DC cX2_wallTilt 33 (.iload_n 1) 1 34 := ⟨by decide +kernel, rfl⟩
theorem e_X2_wallTilt_34 : DC cX2_wallTilt 34 (.invokevirtual 99) 3 37 := ⟨by decide +kernel, rfl⟩
theorem e_X2_wallTilt_37 : DC cX2_wallTilt 37 (.imul) 1 38 := ⟨by decide +kernel, rfl⟩
theorem e_X2_wallTilt_38 : DC cX2_wallTilt 38 (.aload_n 0) 1 39 := ⟨by decide +kernel, rfl⟩
theorem e_X2_wallTilt_39 : DC cX2_wallTilt 39 (.getfield 26) 3 42 := ⟨by decide +kernel, rfl⟩
theorem e_X2_wallTilt_42 : DC cX2_wallTilt 42 (.aload_n 0) 1 43 := ⟨by decide +kernel, rfl⟩
theorem e_X2_wallTilt_43 : DC cX2_wallTilt 43 (.getfield 154) 3 46 := ⟨by decide +kernel, rfl⟩
theorem e_X2_wallTilt_46 : DC cX2_wallTilt 46 (.iload_n 2) 1 47 := ⟨by decide +kernel, rfl⟩
theorem e_X2_wallTilt_47 : DC cX2_wallTilt 47 (.invokevirtual 52) 3 50 := ⟨by decide +kernel, rfl⟩
theorem e_X2_wallTilt_50 : DC cX2_wallTilt 50 (.imul) 1 51 := ⟨by decide +kernel, rfl⟩
theorem e_X2_wallTilt_51 : DC cX2_wallTilt 51 (.ireturn) 1 52 := ⟨by decide +kernel, rfl⟩
noncomputable def m_X2_wallTilt_0 (t_many : Int) (t_wallFirst : Int) (t_wallSize : Int) (t_rows : Nat → Nat) (t_steps_many : Int) (t_steps_xs : Nat → Int) (t_steps_ys : Nat → Int) (t_steps_zs : Nat → Int) (t_rows_R : Nat → RowT) (v1 : Int) (v2 : Int) : Option (Int) :=
  if t_wallSize = 0 then (some (0)) else ((m_X2_has t_many t_wallFirst).bind (fun y1 => if y1 = 0 then (some (0)) else (chk (inB t_wallFirst 8) (chk (t_rows (Int.toNat t_wallFirst) < 8) ((m_X6_signAt ((t_rows_R (t_rows (Int.toNat t_wallFirst))).1) v1).bind (fun y4 => (m_X8_partOf 8 t_steps_many t_steps_xs t_steps_ys t_steps_zs t_wallFirst v2).bind (fun y5 => chk (inI ((t_wallSize * y4) * y5)) (some ((t_wallSize * y4) * y5)))))))))

set_option maxRecDepth 10000 in
set_option maxHeartbeats 8000000 in
theorem g_X2_wallTilt_0 {l : Launch} {E : EE} {b0 n : Nat} {h : AH} {a_t : Nat} {t_many t_ownPart t_crossPart t_pointMany t_wallFirst t_wallSize t_steps_many v1 v2 : Int} {t_steps_xs t_steps_ys t_steps_zs : Nat → Int} {t_rows : Nat → Nat} {t_rows_R : Nat → RowT} {r : Int} (ao : AO b0 n [a_t, (a_t + 1), (a_t + 6), (a_t + 7), (a_t + 8), (a_t + 9)]) (fo : FO b0 n [a_t, (a_t + 1), (a_t + 6), (a_t + 7), (a_t + 8), (a_t + 9)] (a_t + 13) 8) (ok_t_many : inI t_many) (ok_t_wallFirst : inI t_wallFirst) (ok_t_wallSize : inI t_wallSize) (ok_t_rows : True) (ok_t_steps_many : inI t_steps_many) (ok_t_steps_xs : okA t_steps_xs) (ok_t_steps_ys : okA t_steps_ys) (ok_t_steps_zs : okA t_steps_zs) (ok_t_rows_R : okR t_rows_R) (ok_v1 : inI v1) (ok_v2 : inI v2) (hs : m_X2_wallTilt_0 t_many t_wallFirst t_wallSize t_rows t_steps_many t_steps_xs t_steps_ys t_steps_zs t_rows_R v1 v2 = some r) : G l E b0 M_X2_wallTilt (fun _ => True) (ZM E b0 (some (vI r)) (ov [a_t, (a_t + 1), (a_t + 6), (a_t + 7), (a_t + 8), (a_t + 9)] [.inr (2, fsX2 a_t t_many t_ownPart t_crossPart t_pointMany t_wallFirst t_wallSize), RK E 8 (a_t + 13) t_rows, .inr (8, fsX8 (a_t + 6) t_steps_many), IA E 8 t_steps_xs, IA E 8 t_steps_ys, IA E 8 t_steps_zs] (fam E (a_t + 13) 8 t_rows_R h)) n (inI r) 0 0) 0 0 n (ov [a_t, (a_t + 1), (a_t + 6), (a_t + 7), (a_t + 8), (a_t + 9)] [.inr (2, fsX2 a_t t_many t_ownPart t_crossPart t_pointMany t_wallFirst t_wallSize), RK E 8 (a_t + 13) t_rows, .inr (8, fsX8 (a_t + 6) t_steps_many), IA E 8 t_steps_xs, IA E 8 t_steps_ys, IA E 8 t_steps_zs] (fam E (a_t + 13) 8 t_rows_R h)) 0 [some (.ref a_t), some (vI v1), some (vI v2)] [] := by
  rw [m_X2_wallTilt_0] at hs
  refine g_aload_n e_X2_wallTilt_0 rfl ?_
  refine g_get 0 11 ao rfl rfl fsX2_g11 fl_X2_157 e_X2_wallTilt_1 ?_
  refine g_if_eq e_X2_wallTilt_4 ok_t_wallSize hs (fun c4 hs => ?_) (fun c4 hs => ?_)
  · refine g_iconst e_X2_wallTilt_18 ?_
    obtain rfl := Option.some.inj hs
    exact g_iret rfl (by decide : inI 0) e_X2_wallTilt_19
  · refine g_aload_n e_X2_wallTilt_7 rfl ?_
    refine g_aload_n e_X2_wallTilt_8 rfl ?_
    refine g_get 0 10 ao rfl rfl fsX2_g10 fl_X2_154 e_X2_wallTilt_9 ?_
    obtain ⟨y1, hy1, hs⟩ := bind_elim hs
    refine g_callVr [vI t_wallFirst] cv_X2_67 ⟨rfl, rfl, Nat.le_of_ble_eq_true rfl, Nat.le_of_ble_eq_true rfl⟩ (ct_X2_has (a_t := a_t) (AO_call [0] ao (by decide) rfl) (FA_call [0] ao.1 rfl rfl) ok_t_many ok_t_wallFirst hy1) e_X2_wallTilt_12 (ao.2 0 _ rfl) (ov_get 0 ao.1 rfl rfl) rfl rfl rfl (Nat.le_of_ble_eq_true rfl) ⟨Nat.le_refl _, Nat.le_refl _⟩ (fun Py1 => ?_)
    refine g_if_ne e_X2_wallTilt_15 (inZ_I Py1) hs (fun c15 hs => ?_) (fun c15 hs => ?_)
    · refine g_iconst e_X2_wallTilt_18 ?_
      obtain rfl := Option.some.inj hs
      exact g_iret rfl (by decide : inI 0) e_X2_wallTilt_19
    · refine g_aload_n e_X2_wallTilt_20 rfl ?_
      refine g_get 0 11 ao rfl rfl fsX2_g11 fl_X2_157 e_X2_wallTilt_21 ?_
      refine g_aload_n e_X2_wallTilt_24 rfl ?_
      refine g_get 0 0 ao rfl rfl fsX2_g0 fl_X2_11 e_X2_wallTilt_25 ?_
      refine g_aload_n e_X2_wallTilt_28 rfl ?_
      refine g_get 0 10 ao rfl rfl fsX2_g10 fl_X2_154 e_X2_wallTilt_29 ?_
      refine g_aldF 1 ao rfl rfl (Nat.le_of_ble_eq_true rfl) e_X2_wallTilt_32 hs (fun hi2 hs => ?_)
      obtain ⟨hc3, hs⟩ := chk_elim hs
      refine g_iload_n e_X2_wallTilt_33 rfl ?_
      obtain ⟨y4, hy4, hs⟩ := bind_elim hs
      refine g_famO (t_rows (Int.toNat t_wallFirst)) hc3 rfl ?_
      refine g_callVr [vI v1] cv_X2_99 ⟨rfl, rfl, Nat.le_of_ble_eq_true rfl, Nat.le_of_ble_eq_true rfl⟩ (ct_X6_signAt (a_t := ((a_t + 13) + 4 * (t_rows (Int.toNat t_wallFirst)))) (AO_call [6, 7] (AO_fam ao fo hc3) (by decide) rfl) (FA_call [6, 7] (AO_fam ao fo hc3).1 rfl rfl) ((ok_t_rows_R (t_rows (Int.toNat t_wallFirst))).1) ok_v1 hy4) e_X2_wallTilt_34 ((AO_fam ao fo hc3).2 6 _ rfl) (ov_get 6 (AO_fam ao fo hc3).1 rfl rfl) rfl rfl rfl (Nat.le_of_ble_eq_true rfl) ⟨Nat.le_refl _, Nat.le_refl _⟩ (fun Py4 => ?_)
      refine g_famC0 hc3 rfl ?_
      refine g_imul e_X2_wallTilt_37 ?_
      refine g_aload_n e_X2_wallTilt_38 rfl ?_
      refine g_get 0 2 ao rfl rfl fsX2_g2 fl_X2_26 e_X2_wallTilt_39 ?_
      refine g_aload_n e_X2_wallTilt_42 rfl ?_
      refine g_get 0 10 ao rfl rfl fsX2_g10 fl_X2_154 e_X2_wallTilt_43 ?_
      refine g_iload_n e_X2_wallTilt_46 rfl ?_
      obtain ⟨y5, hy5, hs⟩ := bind_elim hs
      refine g_callVr [vI t_wallFirst, vI v2] cv_X2_52 ⟨rfl, rfl, Nat.le_of_ble_eq_true rfl, Nat.le_of_ble_eq_true rfl⟩ (ct_X8_partOf (a_t := (a_t + 6)) (AO_call [2, 3, 4, 5] ao (by decide) rfl) (by omega) (FA_call [2, 3, 4, 5] ao.1 rfl rfl) ok_t_steps_many ok_t_steps_xs ok_t_steps_ys ok_t_steps_zs ok_t_wallFirst ok_v2 hy5) e_X2_wallTilt_47 (ao.2 2 _ rfl) (ov_get 2 ao.1 rfl rfl) rfl rfl rfl (Nat.le_of_ble_eq_true rfl) ⟨Nat.le_refl _, Nat.le_refl _⟩ (fun Py5 => ?_)
      refine g_imul e_X2_wallTilt_50 ?_
      obtain ⟨hc6, hs⟩ := chk_elim hs
      obtain rfl := Option.some.inj hs
      exact g_iret rfl hc6 e_X2_wallTilt_51

noncomputable def m_X2_wallTilt (t_many : Int) (t_wallFirst : Int) (t_wallSize : Int) (t_rows : Nat → Nat) (t_steps_many : Int) (t_steps_xs : Nat → Int) (t_steps_ys : Nat → Int) (t_steps_zs : Nat → Int) (t_rows_R : Nat → RowT) (v1 : Int) (v2 : Int) : Option (Int) := m_X2_wallTilt_0 t_many t_wallFirst t_wallSize t_rows t_steps_many t_steps_xs t_steps_ys t_steps_zs t_rows_R v1 v2

set_option maxRecDepth 10000 in
set_option maxHeartbeats 8000000 in
theorem ct_X2_wallTilt {l : Launch} {E : EE} {b0 n : Nat} {h : AH} {a_t : Nat} {t_many t_ownPart t_crossPart t_pointMany t_wallFirst t_wallSize t_steps_many : Int} {t_steps_xs t_steps_ys t_steps_zs : Nat → Int} {t_rows : Nat → Nat} {t_rows_R : Nat → RowT} {v1 v2 : Int} (ao : AO b0 n [a_t, (a_t + 1), (a_t + 6), (a_t + 7), (a_t + 8), (a_t + 9)]) (fo : FO b0 n [a_t, (a_t + 1), (a_t + 6), (a_t + 7), (a_t + 8), (a_t + 9)] (a_t + 13) 8) (hf : FA h [a_t, (a_t + 1), (a_t + 6), (a_t + 7), (a_t + 8), (a_t + 9)] [.inr (2, fsX2 a_t t_many t_ownPart t_crossPart t_pointMany t_wallFirst t_wallSize), RK E 8 (a_t + 13) t_rows, .inr (8, fsX8 (a_t + 6) t_steps_many), IA E 8 t_steps_xs, IA E 8 t_steps_ys, IA E 8 t_steps_zs]) (hF : FF E h (a_t + 13) 8 t_rows_R) (ok_t_many : inI t_many) (ok_t_wallFirst : inI t_wallFirst) (ok_t_wallSize : inI t_wallSize) (ok_t_rows : True) (ok_t_steps_many : inI t_steps_many) (ok_t_steps_xs : okA t_steps_xs) (ok_t_steps_ys : okA t_steps_ys) (ok_t_steps_zs : okA t_steps_zs) (ok_t_rows_R : okR t_rows_R) (ok_v1 : inI v1) (ok_v2 : inI v2) {r : Int} (hm : m_X2_wallTilt t_many t_wallFirst t_wallSize t_rows t_steps_many t_steps_xs t_steps_ys t_steps_zs t_rows_R v1 v2 = some r) : Ct l E b0 M_X2_wallTilt 0 0 [.ref a_t, vI v1, vI v2] h n (some (vI r)) h n (inI r) := by
  rw [m_X2_wallTilt] at hm
  have hg : G l E b0 M_X2_wallTilt (fun _ => True) (ZM E b0 (some (vI r)) (ov [a_t, (a_t + 1), (a_t + 6), (a_t + 7), (a_t + 8), (a_t + 9)] [.inr (2, fsX2 a_t t_many t_ownPart t_crossPart t_pointMany t_wallFirst t_wallSize), RK E 8 (a_t + 13) t_rows, .inr (8, fsX8 (a_t + 6) t_steps_many), IA E 8 t_steps_xs, IA E 8 t_steps_ys, IA E 8 t_steps_zs] (fam E (a_t + 13) 8 t_rows_R h)) n (inI r) 0 0) 0 0 n (ov [a_t, (a_t + 1), (a_t + 6), (a_t + 7), (a_t + 8), (a_t + 9)] [.inr (2, fsX2 a_t t_many t_ownPart t_crossPart t_pointMany t_wallFirst t_wallSize), RK E 8 (a_t + 13) t_rows, .inr (8, fsX8 (a_t + 6) t_steps_many), IA E 8 t_steps_xs, IA E 8 t_steps_ys, IA E 8 t_steps_zs] (fam E (a_t + 13) 8 t_rows_R h)) 0 [some (.ref a_t), some (vI v1), some (vI v2)] [] := by
    have hs := hm
    exact g_X2_wallTilt_0 ao fo ok_t_many ok_t_wallFirst ok_t_wallSize ok_t_rows ok_t_steps_many ok_t_steps_xs ok_t_steps_ys ok_t_steps_zs ok_t_rows_R ok_v1 ok_v2 hs
  rw [FF_id hF] at hg
  rw [FA_id hf] at hg
  exact Ct_of [some (.ref a_t), some (vI v1), some (vI v2)] ⟨by decide +kernel, rfl⟩ rfl (Nat.le_of_ble_eq_true rfl) hg

/-! ===== X2_bring ===== -/
theorem e_X2_bring_0 : DC cX2_bring 0 (.aload_n 0) 1 1 := ⟨by decide +kernel, rfl⟩
theorem e_X2_bring_1 : DC cX2_bring 1 (.iload_n 1) 1 2 := ⟨by decide +kernel, rfl⟩
theorem e_X2_bring_2 : DC cX2_bring 2 (.invokevirtual 67) 3 5 := ⟨by decide +kernel, rfl⟩
theorem e_X2_bring_5 : DB cX2_bring 5 (.ifCond .eq 21) (21) 3 8 26 := ⟨by decide +kernel, rfl, rfl⟩
theorem e_X2_bring_8 : DC cX2_bring 8 (.aload_n 0) 1 9 := ⟨by decide +kernel, rfl⟩
theorem e_X2_bring_9 : DC cX2_bring 9 (.getfield 11) 3 12 := ⟨by decide +kernel, rfl⟩
theorem e_X2_bring_12 : DC cX2_bring 12 (.iload_n 1) 1 13 := ⟨by decide +kernel, rfl⟩
theorem e_X2_bring_13 : DC cX2_bring 13 (.aaload) 1 14 := ⟨by decide +kernel, rfl⟩
theorem e_X2_bring_14 : DC cX2_bring 14 (.iload_n 2) 1 15 := ⟨by decide +kernel, rfl⟩
theorem e_X2_bring_15 : DC cX2_bring 15 (.iload_n 3) 1 16 := ⟨by decide +kernel, rfl⟩
theorem e_X2_bring_16 : DC cX2_bring 16 (.invokevirtual 71) 3 19 := ⟨by decide +kernel, rfl⟩
theorem e_X2_bring_19 : DB cX2_bring 19 (.ifCond .eq 7) (7) 3 22 26 := ⟨by decide +kernel, rfl, rfl⟩
theorem e_X2_bring_22 : DC cX2_bring 22 (.iconst 1) 1 23 := ⟨by decide +kernel, rfl⟩
theorem e_X2_bring_23 : DB cX2_bring 23 (.goto 4) (4) 3 26 27 := ⟨by decide +kernel, rfl, rfl⟩
theorem e_X2_bring_26 : DC cX2_bring 26 (.iconst 0) 1 27 := ⟨by decide +kernel, rfl⟩
theorem e_X2_bring_27 : DC cX2_bring 27 (.ireturn) 1 28 := ⟨by decide +kernel, rfl⟩
noncomputable def m_X2_bring_0 (t_many : Int) (t_rows : Nat → Nat) (t_rows_R : Nat → RowT) (v1 : Int) (v2 : Int) (v3 : Int) : Option (Int × (Nat → RowT)) :=
  (m_X2_has t_many v1).bind (fun y1 => if y1 = 0 then (some (0, t_rows_R)) else (chk (inB v1 8) (chk (t_rows (Int.toNat v1) < 8) ((m_X6_bring ((t_rows_R (t_rows (Int.toNat v1))).2.2.2.1) ((t_rows_R (t_rows (Int.toNat v1))).1) v2 v3).bind (fun y4 => if y4.1 = 0 then (some (0, up t_rows_R (t_rows (Int.toNat v1)) (y4.2.2, (t_rows_R (t_rows (Int.toNat v1))).2.1, (t_rows_R (t_rows (Int.toNat v1))).2.2.1, y4.2.1, (t_rows_R (t_rows (Int.toNat v1))).2.2.2.2.1, (t_rows_R (t_rows (Int.toNat v1))).2.2.2.2.2.1, (t_rows_R (t_rows (Int.toNat v1))).2.2.2.2.2.2.1, (t_rows_R (t_rows (Int.toNat v1))).2.2.2.2.2.2.2.1, (t_rows_R (t_rows (Int.toNat v1))).2.2.2.2.2.2.2.2.1, (t_rows_R (t_rows (Int.toNat v1))).2.2.2.2.2.2.2.2.2))) else (some (1, up t_rows_R (t_rows (Int.toNat v1)) (y4.2.2, (t_rows_R (t_rows (Int.toNat v1))).2.1, (t_rows_R (t_rows (Int.toNat v1))).2.2.1, y4.2.1, (t_rows_R (t_rows (Int.toNat v1))).2.2.2.2.1, (t_rows_R (t_rows (Int.toNat v1))).2.2.2.2.2.1, (t_rows_R (t_rows (Int.toNat v1))).2.2.2.2.2.2.1, (t_rows_R (t_rows (Int.toNat v1))).2.2.2.2.2.2.2.1, (t_rows_R (t_rows (Int.toNat v1))).2.2.2.2.2.2.2.2.1, (t_rows_R (t_rows (Int.toNat v1))).2.2.2.2.2.2.2.2.2))))))))

set_option maxRecDepth 10000 in
set_option maxHeartbeats 8000000 in
theorem g_X2_bring_0 {l : Launch} {E : EE} {b0 n : Nat} {h : AH} {a_t : Nat} {t_many t_ownPart t_crossPart t_pointMany t_wallFirst t_wallSize v1 v2 v3 : Int} {t_rows : Nat → Nat} {t_rows_R : Nat → RowT} {r : Int × (Nat → RowT)} (ao : AO b0 n [a_t, (a_t + 1)]) (fo : FO b0 n [a_t, (a_t + 1)] (a_t + 13) 8) (ok_t_many : inI t_many) (ok_t_rows : True) (ok_t_rows_R : okR t_rows_R) (ok_v1 : inI v1) (ok_v2 : inI v2) (ok_v3 : inI v3) (hs : m_X2_bring_0 t_many t_rows t_rows_R v1 v2 v3 = some r) : G l E b0 M_X2_bring (fun _ => True) (ZM E b0 (some (vI r.1)) (ov [a_t, (a_t + 1)] [.inr (2, fsX2 a_t t_many t_ownPart t_crossPart t_pointMany t_wallFirst t_wallSize), RK E 8 (a_t + 13) t_rows] (fam E (a_t + 13) 8 r.2 h)) n (inZ r.1 ∧ okR r.2) 0 0) 0 0 n (ov [a_t, (a_t + 1)] [.inr (2, fsX2 a_t t_many t_ownPart t_crossPart t_pointMany t_wallFirst t_wallSize), RK E 8 (a_t + 13) t_rows] (fam E (a_t + 13) 8 t_rows_R h)) 0 [some (.ref a_t), some (vI v1), some (vI v2), some (vI v3)] [] := by
  rw [m_X2_bring_0] at hs
  refine g_aload_n e_X2_bring_0 rfl ?_
  refine g_iload_n e_X2_bring_1 rfl ?_
  obtain ⟨y1, hy1, hs⟩ := bind_elim hs
  refine g_callVr [vI v1] cv_X2_67 ⟨rfl, rfl, Nat.le_of_ble_eq_true rfl, Nat.le_of_ble_eq_true rfl⟩ (ct_X2_has (a_t := a_t) (AO_call [0] ao (by decide) rfl) (FA_call [0] ao.1 rfl rfl) ok_t_many ok_v1 hy1) e_X2_bring_2 (ao.2 0 _ rfl) (ov_get 0 ao.1 rfl rfl) rfl rfl rfl (Nat.le_of_ble_eq_true rfl) ⟨Nat.le_refl _, Nat.le_refl _⟩ (fun Py1 => ?_)
  refine g_if_eq e_X2_bring_5 (inZ_I Py1) hs (fun c5 hs => ?_) (fun c5 hs => ?_)
  · refine g_iconst e_X2_bring_26 ?_
    obtain rfl := Option.some.inj hs
    exact g_zret rfl (by decide : inZ 0) ⟨(by decide : inZ 0), ok_t_rows_R⟩ e_X2_bring_27
  · refine g_aload_n e_X2_bring_8 rfl ?_
    refine g_get 0 0 ao rfl rfl fsX2_g0 fl_X2_11 e_X2_bring_9 ?_
    refine g_iload_n e_X2_bring_12 rfl ?_
    refine g_aldF 1 ao rfl rfl (Nat.le_of_ble_eq_true rfl) e_X2_bring_13 hs (fun hi2 hs => ?_)
    obtain ⟨hc3, hs⟩ := chk_elim hs
    refine g_iload_n e_X2_bring_14 rfl ?_
    refine g_iload_n e_X2_bring_15 rfl ?_
    obtain ⟨y4, hy4, hs⟩ := bind_elim hs
    refine g_famO (t_rows (Int.toNat v1)) hc3 rfl ?_
    refine g_callVr [vI v2, vI v3] cv_X2_71 ⟨rfl, rfl, Nat.le_of_ble_eq_true rfl, Nat.le_of_ble_eq_true rfl⟩ (Ct_heap (ct_X6_bring (a_t := ((a_t + 13) + 4 * (t_rows (Int.toNat v1)))) (AO_call [2, 3] (AO_fam ao fo hc3) (by decide) rfl) (FA_call [2, 3] (AO_fam ao fo hc3).1 rfl rfl) ((ok_t_rows_R (t_rows (Int.toNat v1))).2.2.2.1) ((ok_t_rows_R (t_rows (Int.toNat v1))).1) ok_v2 ok_v3 hy4) (ov_callN (esn := ([.inr (2, fsX2 a_t t_many t_ownPart t_crossPart t_pointMany t_wallFirst t_wallSize), RK E 8 (a_t + 13) t_rows] ++ rc E ((a_t + 13) + 4 * (t_rows (Int.toNat v1))) (y4.2.2, (t_rows_R (t_rows (Int.toNat v1))).2.1, (t_rows_R (t_rows (Int.toNat v1))).2.2.1, y4.2.1, (t_rows_R (t_rows (Int.toNat v1))).2.2.2.2.1, (t_rows_R (t_rows (Int.toNat v1))).2.2.2.2.2.1, (t_rows_R (t_rows (Int.toNat v1))).2.2.2.2.2.2.1, (t_rows_R (t_rows (Int.toNat v1))).2.2.2.2.2.2.2.1, (t_rows_R (t_rows (Int.toNat v1))).2.2.2.2.2.2.2.2.1, (t_rows_R (t_rows (Int.toNat v1))).2.2.2.2.2.2.2.2.2))) [2, 3] [true, true, false, false, true, true] (AO_fam ao fo hc3).1 rfl rfl rfl rfl rfl rfl (by decide))) e_X2_bring_16 ((AO_fam ao fo hc3).2 2 _ rfl) (ov_get 2 (AO_fam ao fo hc3).1 rfl rfl) rfl rfl rfl (Nat.le_of_ble_eq_true rfl) ⟨Nat.le_refl _, Nat.le_refl _⟩ (fun Py4 => ?_)
    refine g_famC hc3 rfl ?_
    refine g_if_eq e_X2_bring_19 (inZ_I Py4.1) hs (fun c19 hs => ?_) (fun c19 hs => ?_)
    · refine g_iconst e_X2_bring_26 ?_
      obtain rfl := Option.some.inj hs
      exact g_zret rfl (by decide : inZ 0) ⟨(by decide : inZ 0), (okR_up (R := t_rows_R) (s := (t_rows (Int.toNat v1))) (x := (y4.2.2, (t_rows_R (t_rows (Int.toNat v1))).2.1, (t_rows_R (t_rows (Int.toNat v1))).2.2.1, y4.2.1, (t_rows_R (t_rows (Int.toNat v1))).2.2.2.2.1, (t_rows_R (t_rows (Int.toNat v1))).2.2.2.2.2.1, (t_rows_R (t_rows (Int.toNat v1))).2.2.2.2.2.2.1, (t_rows_R (t_rows (Int.toNat v1))).2.2.2.2.2.2.2.1, (t_rows_R (t_rows (Int.toNat v1))).2.2.2.2.2.2.2.2.1, (t_rows_R (t_rows (Int.toNat v1))).2.2.2.2.2.2.2.2.2)) ok_t_rows_R ⟨Py4.2.2, (ok_t_rows_R (t_rows (Int.toNat v1))).2.1, (ok_t_rows_R (t_rows (Int.toNat v1))).2.2.1, Py4.2.1, (ok_t_rows_R (t_rows (Int.toNat v1))).2.2.2.2.1, (ok_t_rows_R (t_rows (Int.toNat v1))).2.2.2.2.2.1, (ok_t_rows_R (t_rows (Int.toNat v1))).2.2.2.2.2.2.1, (ok_t_rows_R (t_rows (Int.toNat v1))).2.2.2.2.2.2.2.1, (ok_t_rows_R (t_rows (Int.toNat v1))).2.2.2.2.2.2.2.2.1, (ok_t_rows_R (t_rows (Int.toNat v1))).2.2.2.2.2.2.2.2.2⟩)⟩ e_X2_bring_27
    · refine g_iconst e_X2_bring_22 ?_
      refine g_goto e_X2_bring_23 ?_
      obtain rfl := Option.some.inj hs
      exact g_zret rfl (by decide : inZ 1) ⟨(by decide : inZ 1), (okR_up (R := t_rows_R) (s := (t_rows (Int.toNat v1))) (x := (y4.2.2, (t_rows_R (t_rows (Int.toNat v1))).2.1, (t_rows_R (t_rows (Int.toNat v1))).2.2.1, y4.2.1, (t_rows_R (t_rows (Int.toNat v1))).2.2.2.2.1, (t_rows_R (t_rows (Int.toNat v1))).2.2.2.2.2.1, (t_rows_R (t_rows (Int.toNat v1))).2.2.2.2.2.2.1, (t_rows_R (t_rows (Int.toNat v1))).2.2.2.2.2.2.2.1, (t_rows_R (t_rows (Int.toNat v1))).2.2.2.2.2.2.2.2.1, (t_rows_R (t_rows (Int.toNat v1))).2.2.2.2.2.2.2.2.2)) ok_t_rows_R ⟨Py4.2.2, (ok_t_rows_R (t_rows (Int.toNat v1))).2.1, (ok_t_rows_R (t_rows (Int.toNat v1))).2.2.1, Py4.2.1, (ok_t_rows_R (t_rows (Int.toNat v1))).2.2.2.2.1, (ok_t_rows_R (t_rows (Int.toNat v1))).2.2.2.2.2.1, (ok_t_rows_R (t_rows (Int.toNat v1))).2.2.2.2.2.2.1, (ok_t_rows_R (t_rows (Int.toNat v1))).2.2.2.2.2.2.2.1, (ok_t_rows_R (t_rows (Int.toNat v1))).2.2.2.2.2.2.2.2.1, (ok_t_rows_R (t_rows (Int.toNat v1))).2.2.2.2.2.2.2.2.2⟩)⟩ e_X2_bring_27

noncomputable def m_X2_bring (t_many : Int) (t_rows : Nat → Nat) (t_rows_R : Nat → RowT) (v1 : Int) (v2 : Int) (v3 : Int) : Option (Int × (Nat → RowT)) := m_X2_bring_0 t_many t_rows t_rows_R v1 v2 v3

set_option maxRecDepth 10000 in
set_option maxHeartbeats 8000000 in
theorem ct_X2_bring {l : Launch} {E : EE} {b0 n : Nat} {h : AH} {a_t : Nat} {t_many t_ownPart t_crossPart t_pointMany t_wallFirst t_wallSize : Int} {t_rows : Nat → Nat} {t_rows_R : Nat → RowT} {v1 v2 v3 : Int} (ao : AO b0 n [a_t, (a_t + 1)]) (fo : FO b0 n [a_t, (a_t + 1)] (a_t + 13) 8) (hf : FA h [a_t, (a_t + 1)] [.inr (2, fsX2 a_t t_many t_ownPart t_crossPart t_pointMany t_wallFirst t_wallSize), RK E 8 (a_t + 13) t_rows]) (hF : FF E h (a_t + 13) 8 t_rows_R) (ok_t_many : inI t_many) (ok_t_rows : True) (ok_t_rows_R : okR t_rows_R) (ok_v1 : inI v1) (ok_v2 : inI v2) (ok_v3 : inI v3) {r : Int × (Nat → RowT)} (hm : m_X2_bring t_many t_rows t_rows_R v1 v2 v3 = some r) : Ct l E b0 M_X2_bring 0 0 [.ref a_t, vI v1, vI v2, vI v3] h n (some (vI r.1)) (ov [a_t, (a_t + 1)] [.inr (2, fsX2 a_t t_many t_ownPart t_crossPart t_pointMany t_wallFirst t_wallSize), RK E 8 (a_t + 13) t_rows] (fam E (a_t + 13) 8 r.2 h)) n (inZ r.1 ∧ okR r.2) := by
  rw [m_X2_bring] at hm
  have hg : G l E b0 M_X2_bring (fun _ => True) (ZM E b0 (some (vI r.1)) (ov [a_t, (a_t + 1)] [.inr (2, fsX2 a_t t_many t_ownPart t_crossPart t_pointMany t_wallFirst t_wallSize), RK E 8 (a_t + 13) t_rows] (fam E (a_t + 13) 8 r.2 h)) n (inZ r.1 ∧ okR r.2) 0 0) 0 0 n (ov [a_t, (a_t + 1)] [.inr (2, fsX2 a_t t_many t_ownPart t_crossPart t_pointMany t_wallFirst t_wallSize), RK E 8 (a_t + 13) t_rows] (fam E (a_t + 13) 8 t_rows_R h)) 0 [some (.ref a_t), some (vI v1), some (vI v2), some (vI v3)] [] := by
    have hs := hm
    exact g_X2_bring_0 ao fo ok_t_many ok_t_rows ok_t_rows_R ok_v1 ok_v2 ok_v3 hs
  rw [FF_id hF] at hg
  rw [FA_id hf] at hg
  exact Ct_of [some (.ref a_t), some (vI v1), some (vI v2), some (vI v3)] ⟨by decide +kernel, rfl⟩ rfl (Nat.le_of_ble_eq_true rfl) hg

/-! ===== X2_strainAlong ===== -/
theorem e_X2_strainAlong_0 : DC cX2_strainAlong 0 (.lconst 0) 1 1 := ⟨by decide +kernel, rfl⟩
theorem e_X2_strainAlong_1 : DC cX2_strainAlong 1 (.lstore_n 2) 1 2 := ⟨by decide +kernel, rfl⟩
theorem e_X2_strainAlong_2 : DC cX2_strainAlong 2 (.iconst 0) 1 3 := ⟨by decide +kernel, rfl⟩
theorem e_X2_strainAlong_3 : DC cX2_strainAlong 3 (.istore 4) 2 5 := ⟨by decide +kernel, rfl⟩
theorem e_X2_strainAlong_5 : DC cX2_strainAlong 5 (.iload 4) 2 7 := ⟨by decide +kernel, rfl⟩
theorem e_X2_strainAlong_7 : DC cX2_strainAlong 7 (.aload_n 0) 1 8 := ⟨by decide +kernel, rfl⟩
theorem e_X2_strainAlong_8 : DC cX2_strainAlong 8 (.getfield 41) 3 11 := ⟨by decide +kernel, rfl⟩
theorem e_X2_strainAlong_11 : DB cX2_strainAlong 11 (.if_icmp .ge 40) (40) 3 14 51 := ⟨by decide +kernel, rfl, rfl⟩
theorem e_X2_strainAlong_14 : DC cX2_strainAlong 14 (.lload_n 2) 1 15 := ⟨by decide +kernel, rfl⟩
theorem e_X2_strainAlong_15 : DC cX2_strainAlong 15 (.aload_n 0) 1 16 := ⟨by decide +kernel, rfl⟩
theorem e_X2_strainAlong_16 : DC cX2_strainAlong 16 (.getfield 11) 3 19 := ⟨by decide +kernel, rfl⟩
theorem e_X2_strainAlong_19 : DC cX2_strainAlong 19 (.iload 4) 2 21 := ⟨by decide +kernel, rfl⟩
theorem e_X2_strainAlong_21 : DC cX2_strainAlong 21 (.aaload) 1 22 := ⟨by decide +kernel, rfl⟩
theorem e_X2_strainAlong_22 : DC cX2_strainAlong 22 (.getfield 80) 3 25 := ⟨by decide +kernel, rfl⟩
theorem e_X2_strainAlong_25 : DC cX2_strainAlong 25 (.i2l) 1 26 := ⟨by decide +kernel, rfl⟩
theorem e_X2_strainAlong_26 : DC cX2_strainAlong 26 (.aload_n 1) 1 27 := ⟨by decide +kernel, rfl⟩
theorem e_X2_strainAlong_27 : DC cX2_strainAlong 27 (.aload_n 0) 1 28 := ⟨by decide +kernel, rfl⟩
theorem e_X2_strainAlong_28 : DC cX2_strainAlong 28 (.getfield 22) 3 31 := ⟨by decide +kernel, rfl⟩
theorem e_X2_strainAlong_31 : DC cX2_strainAlong 31 (.iload 4) 2 33 := ⟨by decide +kernel, rfl⟩
theorem e_X2_strainAlong_33 : DC cX2_strainAlong 33 (.aload_n 0) 1 34 := ⟨by decide +kernel, rfl⟩
theorem e_X2_strainAlong_34 : DC cX2_strainAlong 34 (.getfield 26) 3 37 := ⟨by decide +kernel, rfl⟩
theorem e_X2_strainAlong_37 : DC cX2_strainAlong 37 (.iload 4) 2 39 := ⟨by decide +kernel, rfl⟩
theorem e_X2_strainAlong_39 : DC cX2_strainAlong 39 (.invokevirtual 131) 3 42 := ⟨by decide +kernel, rfl⟩
theorem e_X2_strainAlong_42 : DC cX2_strainAlong 42 (.lmul) 1 43 := ⟨by decide +kernel, rfl⟩
theorem e_X2_strainAlong_43 : DC cX2_strainAlong 43 (.ladd) 1 44 := ⟨by decide +kernel, rfl⟩
theorem e_X2_strainAlong_44 : DC cX2_strainAlong 44 (.lstore_n 2) 1 45 := ⟨by decide +kernel, rfl⟩
theorem e_X2_strainAlong_45 : DC cX2_strainAlong 45 (.iinc 4 1) 3 48 := ⟨by decide +kernel, rfl⟩
theorem e_X2_strainAlong_48 : DB cX2_strainAlong 48 (.goto (-43)) (-43) 3 51 5 := ⟨by decide +kernel, rfl, rfl⟩
theorem e_X2_strainAlong_51 : DC cX2_strainAlong 51 (.lload_n 2) 1 52 := ⟨by decide +kernel, rfl⟩
theorem e_X2_strainAlong_52 : DC cX2_strainAlong 52 (.lreturn) 1 53 := ⟨by decide +kernel, rfl⟩
noncomputable def m_X2_strainAlong_5 (t_many : Int) (t_rows : Nat → Nat) (t_planes_many : Int) (t_planes_xs : Nat → Int) (t_planes_ys : Nat → Int) (t_planes_zs : Nat → Int) (t_steps_many : Int) (t_steps_xs : Nat → Int) (t_steps_ys : Nat → Int) (t_steps_zs : Nat → Int) (p1_x : Int) (p1_y : Int) (p1_z : Int) (t_rows_R : Nat → RowT) (k_51 : Int → Int → Option (Int)) : Nat → Int → Int → Option (Int)
  | 0, _, _ => none
  | F + 1, v2, v4 => if t_many ≤ v4 then (some (v2)) else (chk (inB v4 8) (chk (t_rows (Int.toNat v4) < 8) ((m_X4_productOn 8 8 p1_x p1_y p1_z t_planes_many t_planes_xs t_planes_ys t_planes_zs t_steps_many t_steps_xs t_steps_ys t_steps_zs v4 v4).bind (fun y3 => chk (inJ (v2 + (((t_rows_R (t_rows (Int.toNat v4))).2.2.2.2.1) * y3))) (chk (inI (v4 + 1)) (m_X2_strainAlong_5 t_many t_rows t_planes_many t_planes_xs t_planes_ys t_planes_zs t_steps_many t_steps_xs t_steps_ys t_steps_zs p1_x p1_y p1_z t_rows_R k_51 F (v2 + (((t_rows_R (t_rows (Int.toNat v4))).2.2.2.2.1) * y3)) (v4 + 1)))))))

set_option maxRecDepth 10000 in
set_option maxHeartbeats 8000000 in
theorem g_X2_strainAlong_5 {l : Launch} {E : EE} {b0 n : Nat} {h : AH} {a_t a_p1 : Nat} {t_many t_ownPart t_crossPart t_pointMany t_wallFirst t_wallSize t_planes_many t_steps_many p1_x p1_y p1_z p1_product p1_above p1_below : Int} {t_planes_xs t_planes_ys t_planes_zs t_steps_xs t_steps_ys t_steps_zs : Nat → Int} {t_rows : Nat → Nat} {t_rows_R : Nat → RowT} {r : Int} {k_51 : Int → Int → Option (Int)} (ao : AO b0 n [a_t, (a_t + 1), (a_t + 2), (a_t + 3), (a_t + 4), (a_t + 5), (a_t + 6), (a_t + 7), (a_t + 8), (a_t + 9), a_p1]) (fo : FO b0 n [a_t, (a_t + 1), (a_t + 2), (a_t + 3), (a_t + 4), (a_t + 5), (a_t + 6), (a_t + 7), (a_t + 8), (a_t + 9), a_p1] (a_t + 13) 8) (ok_t_many : inI t_many) (ok_t_rows : True) (ok_t_planes_many : inI t_planes_many) (ok_t_planes_xs : okA t_planes_xs) (ok_t_planes_ys : okA t_planes_ys) (ok_t_planes_zs : okA t_planes_zs) (ok_t_steps_many : inI t_steps_many) (ok_t_steps_xs : okA t_steps_xs) (ok_t_steps_ys : okA t_steps_ys) (ok_t_steps_zs : okA t_steps_zs) (ok_p1_x : inI p1_x) (ok_p1_y : inI p1_y) (ok_p1_z : inI p1_z) (ok_t_rows_R : okR t_rows_R) (hk_51 : ∀ (v2_ : Int) (v4_ : Int), inJ v2_ → inI v4_ → k_51 v2_ v4_ = some r → G l E b0 M_X2_strainAlong (fun _ => True) (ZM E b0 (some (vJ r)) (ov [a_t, (a_t + 1), (a_t + 2), (a_t + 3), (a_t + 4), (a_t + 5), (a_t + 6), (a_t + 7), (a_t + 8), (a_t + 9), a_p1] [.inr (2, fsX2 a_t t_many t_ownPart t_crossPart t_pointMany t_wallFirst t_wallSize), RK E 8 (a_t + 13) t_rows, .inr (8, fsX8 (a_t + 2) t_planes_many), IA E 8 t_planes_xs, IA E 8 t_planes_ys, IA E 8 t_planes_zs, .inr (8, fsX8 (a_t + 6) t_steps_many), IA E 8 t_steps_xs, IA E 8 t_steps_ys, IA E 8 t_steps_zs, .inr (4, fsX4 a_p1 p1_x p1_y p1_z p1_product p1_above p1_below)] (fam E (a_t + 13) 8 t_rows_R h)) n (inJ r) 0 0) 0 0 n (ov [a_t, (a_t + 1), (a_t + 2), (a_t + 3), (a_t + 4), (a_t + 5), (a_t + 6), (a_t + 7), (a_t + 8), (a_t + 9), a_p1] [.inr (2, fsX2 a_t t_many t_ownPart t_crossPart t_pointMany t_wallFirst t_wallSize), RK E 8 (a_t + 13) t_rows, .inr (8, fsX8 (a_t + 2) t_planes_many), IA E 8 t_planes_xs, IA E 8 t_planes_ys, IA E 8 t_planes_zs, .inr (8, fsX8 (a_t + 6) t_steps_many), IA E 8 t_steps_xs, IA E 8 t_steps_ys, IA E 8 t_steps_zs, .inr (4, fsX4 a_p1 p1_x p1_y p1_z p1_product p1_above p1_below)] (fam E (a_t + 13) 8 t_rows_R h)) 51 [none, none, some (vJ v2_), none, none] []) :
    ∀ (F : Nat) (v2 : Int) (v4 : Int), inJ v2 → inI v4 → m_X2_strainAlong_5 t_many t_rows t_planes_many t_planes_xs t_planes_ys t_planes_zs t_steps_many t_steps_xs t_steps_ys t_steps_zs p1_x p1_y p1_z t_rows_R k_51 F v2 v4 = some r → G l E b0 M_X2_strainAlong (fun _ => True) (ZM E b0 (some (vJ r)) (ov [a_t, (a_t + 1), (a_t + 2), (a_t + 3), (a_t + 4), (a_t + 5), (a_t + 6), (a_t + 7), (a_t + 8), (a_t + 9), a_p1] [.inr (2, fsX2 a_t t_many t_ownPart t_crossPart t_pointMany t_wallFirst t_wallSize), RK E 8 (a_t + 13) t_rows, .inr (8, fsX8 (a_t + 2) t_planes_many), IA E 8 t_planes_xs, IA E 8 t_planes_ys, IA E 8 t_planes_zs, .inr (8, fsX8 (a_t + 6) t_steps_many), IA E 8 t_steps_xs, IA E 8 t_steps_ys, IA E 8 t_steps_zs, .inr (4, fsX4 a_p1 p1_x p1_y p1_z p1_product p1_above p1_below)] (fam E (a_t + 13) 8 t_rows_R h)) n (inJ r) 0 0) 0 0 n (ov [a_t, (a_t + 1), (a_t + 2), (a_t + 3), (a_t + 4), (a_t + 5), (a_t + 6), (a_t + 7), (a_t + 8), (a_t + 9), a_p1] [.inr (2, fsX2 a_t t_many t_ownPart t_crossPart t_pointMany t_wallFirst t_wallSize), RK E 8 (a_t + 13) t_rows, .inr (8, fsX8 (a_t + 2) t_planes_many), IA E 8 t_planes_xs, IA E 8 t_planes_ys, IA E 8 t_planes_zs, .inr (8, fsX8 (a_t + 6) t_steps_many), IA E 8 t_steps_xs, IA E 8 t_steps_ys, IA E 8 t_steps_zs, .inr (4, fsX4 a_p1 p1_x p1_y p1_z p1_product p1_above p1_below)] (fam E (a_t + 13) 8 t_rows_R h)) 5 [some (.ref a_t), some (.ref a_p1), some (vJ v2), none, some (vI v4)] [] := by
  intro F
  induction F with
  | zero =>
    intro v2 v4 ok_v2 ok_v4 hs
    rw [m_X2_strainAlong_5] at hs
    cases hs
  | succ F ih =>
    intro v2 v4 ok_v2 ok_v4 hs
    rw [m_X2_strainAlong_5] at hs
    refine g_iload e_X2_strainAlong_5 rfl ?_
    refine g_aload_n e_X2_strainAlong_7 rfl ?_
    refine g_get 0 6 ao rfl rfl fsX2_g6 fl_X2_41 e_X2_strainAlong_8 ?_
    refine g_icmp_ge e_X2_strainAlong_11 ok_v4 ok_t_many hs (fun c11 hs => ?_) (fun c11 hs => ?_)
    · refine g_lload_n e_X2_strainAlong_51 rfl ?_
      obtain rfl := Option.some.inj hs
      exact g_lret rfl ok_v2 e_X2_strainAlong_52
    · refine g_lload_n e_X2_strainAlong_14 rfl ?_
      refine g_aload_n e_X2_strainAlong_15 rfl ?_
      refine g_get 0 0 ao rfl rfl fsX2_g0 fl_X2_11 e_X2_strainAlong_16 ?_
      refine g_iload e_X2_strainAlong_19 rfl ?_
      refine g_aldF 1 ao rfl rfl (Nat.le_of_ble_eq_true rfl) e_X2_strainAlong_21 hs (fun hi1 hs => ?_)
      obtain ⟨hc2, hs⟩ := chk_elim hs
      refine g_famO (t_rows (Int.toNat v4)) hc2 rfl ?_
      refine g_get 11 4 (AO_fam ao fo hc2) rfl rfl fsX6_g4 fl_X2_80 e_X2_strainAlong_22 ?_
      refine g_famC0 hc2 rfl ?_
      refine g_i2l e_X2_strainAlong_25 (ok_t_rows_R (t_rows (Int.toNat v4))).2.2.2.2.1 ?_
      refine g_aload_n e_X2_strainAlong_26 rfl ?_
      refine g_aload_n e_X2_strainAlong_27 rfl ?_
      refine g_get 0 1 ao rfl rfl fsX2_g1 fl_X2_22 e_X2_strainAlong_28 ?_
      refine g_iload e_X2_strainAlong_31 rfl ?_
      refine g_aload_n e_X2_strainAlong_33 rfl ?_
      refine g_get 0 2 ao rfl rfl fsX2_g2 fl_X2_26 e_X2_strainAlong_34 ?_
      refine g_iload e_X2_strainAlong_37 rfl ?_
      obtain ⟨y3, hy3, hs⟩ := bind_elim hs
      refine g_callVr [.ref (a_t + 2), vI v4, .ref (a_t + 6), vI v4] cv_X2_131 ⟨rfl, rfl, Nat.le_of_ble_eq_true rfl, Nat.le_of_ble_eq_true rfl⟩ (ct_X4_productOn (a_t := a_p1) (a_p1 := (a_t + 2)) (a_p3 := (a_t + 6)) (AO_call [10, 2, 3, 4, 5, 6, 7, 8, 9] ao (by decide) rfl) (by omega) (by omega) (FA_call [10, 2, 3, 4, 5, 6, 7, 8, 9] ao.1 rfl rfl) ok_p1_x ok_p1_y ok_p1_z ok_t_planes_many ok_t_planes_xs ok_t_planes_ys ok_t_planes_zs ok_t_steps_many ok_t_steps_xs ok_t_steps_ys ok_t_steps_zs ok_v4 ok_v4 hy3) e_X2_strainAlong_39 (ao.2 10 _ rfl) (ov_get 10 ao.1 rfl rfl) rfl rfl rfl (Nat.le_of_ble_eq_true rfl) ⟨Nat.le_refl _, Nat.le_refl _⟩ (fun Py3 => ?_)
      refine g_lmul e_X2_strainAlong_42 ?_
      refine g_ladd e_X2_strainAlong_43 ?_
      refine g_lstore_n e_X2_strainAlong_44 st2_2 rfl ?_
      refine g_iinc e_X2_strainAlong_45 rfl st1_4 rfl ?_
      refine g_goto e_X2_strainAlong_48 ?_
      obtain ⟨hc4, hs⟩ := chk_elim hs
      obtain ⟨hc5, hs⟩ := chk_elim hs
      exact ih _ _ hc4 hc5 hs

noncomputable def m_X2_strainAlong_51 (v2 : Int) : Option (Int) :=
  some (v2)

set_option maxRecDepth 10000 in
set_option maxHeartbeats 8000000 in
theorem g_X2_strainAlong_51 {l : Launch} {E : EE} {b0 n : Nat} {h : AH} {a_t a_p1 : Nat} {t_many t_ownPart t_crossPart t_pointMany t_wallFirst t_wallSize t_planes_many t_steps_many p1_x p1_y p1_z p1_product p1_above p1_below v2 : Int} {t_planes_xs t_planes_ys t_planes_zs t_steps_xs t_steps_ys t_steps_zs : Nat → Int} {t_rows : Nat → Nat} {t_rows_R : Nat → RowT} {r : Int} (ao : AO b0 n [a_t, (a_t + 1), (a_t + 2), (a_t + 3), (a_t + 4), (a_t + 5), (a_t + 6), (a_t + 7), (a_t + 8), (a_t + 9), a_p1]) (fo : FO b0 n [a_t, (a_t + 1), (a_t + 2), (a_t + 3), (a_t + 4), (a_t + 5), (a_t + 6), (a_t + 7), (a_t + 8), (a_t + 9), a_p1] (a_t + 13) 8) (ok_t_many : inI t_many) (ok_t_rows : True) (ok_t_planes_many : inI t_planes_many) (ok_t_planes_xs : okA t_planes_xs) (ok_t_planes_ys : okA t_planes_ys) (ok_t_planes_zs : okA t_planes_zs) (ok_t_steps_many : inI t_steps_many) (ok_t_steps_xs : okA t_steps_xs) (ok_t_steps_ys : okA t_steps_ys) (ok_t_steps_zs : okA t_steps_zs) (ok_p1_x : inI p1_x) (ok_p1_y : inI p1_y) (ok_p1_z : inI p1_z) (ok_t_rows_R : okR t_rows_R) (ok_v2 : inJ v2) (hs : m_X2_strainAlong_51 v2 = some r) : G l E b0 M_X2_strainAlong (fun _ => True) (ZM E b0 (some (vJ r)) (ov [a_t, (a_t + 1), (a_t + 2), (a_t + 3), (a_t + 4), (a_t + 5), (a_t + 6), (a_t + 7), (a_t + 8), (a_t + 9), a_p1] [.inr (2, fsX2 a_t t_many t_ownPart t_crossPart t_pointMany t_wallFirst t_wallSize), RK E 8 (a_t + 13) t_rows, .inr (8, fsX8 (a_t + 2) t_planes_many), IA E 8 t_planes_xs, IA E 8 t_planes_ys, IA E 8 t_planes_zs, .inr (8, fsX8 (a_t + 6) t_steps_many), IA E 8 t_steps_xs, IA E 8 t_steps_ys, IA E 8 t_steps_zs, .inr (4, fsX4 a_p1 p1_x p1_y p1_z p1_product p1_above p1_below)] (fam E (a_t + 13) 8 t_rows_R h)) n (inJ r) 0 0) 0 0 n (ov [a_t, (a_t + 1), (a_t + 2), (a_t + 3), (a_t + 4), (a_t + 5), (a_t + 6), (a_t + 7), (a_t + 8), (a_t + 9), a_p1] [.inr (2, fsX2 a_t t_many t_ownPart t_crossPart t_pointMany t_wallFirst t_wallSize), RK E 8 (a_t + 13) t_rows, .inr (8, fsX8 (a_t + 2) t_planes_many), IA E 8 t_planes_xs, IA E 8 t_planes_ys, IA E 8 t_planes_zs, .inr (8, fsX8 (a_t + 6) t_steps_many), IA E 8 t_steps_xs, IA E 8 t_steps_ys, IA E 8 t_steps_zs, .inr (4, fsX4 a_p1 p1_x p1_y p1_z p1_product p1_above p1_below)] (fam E (a_t + 13) 8 t_rows_R h)) 51 [none, none, some (vJ v2), none, none] [] := by
  rw [m_X2_strainAlong_51] at hs
  refine g_lload_n e_X2_strainAlong_51 rfl ?_
  obtain rfl := Option.some.inj hs
  exact g_lret rfl ok_v2 e_X2_strainAlong_52

noncomputable def m_X2_strainAlong_0 (t_many : Int) (t_rows : Nat → Nat) (t_planes_many : Int) (t_planes_xs : Nat → Int) (t_planes_ys : Nat → Int) (t_planes_zs : Nat → Int) (t_steps_many : Int) (t_steps_xs : Nat → Int) (t_steps_ys : Nat → Int) (t_steps_zs : Nat → Int) (p1_x : Int) (p1_y : Int) (p1_z : Int) (t_rows_R : Nat → RowT) : Option (Int) :=
  m_X2_strainAlong_5 t_many t_rows t_planes_many t_planes_xs t_planes_ys t_planes_zs t_steps_many t_steps_xs t_steps_ys t_steps_zs p1_x p1_y p1_z t_rows_R (fun v2' v4' => m_X2_strainAlong_51 v2') FU 0 0

set_option maxRecDepth 10000 in
set_option maxHeartbeats 8000000 in
theorem g_X2_strainAlong_0 {l : Launch} {E : EE} {b0 n : Nat} {h : AH} {a_t a_p1 : Nat} {t_many t_ownPart t_crossPart t_pointMany t_wallFirst t_wallSize t_planes_many t_steps_many p1_x p1_y p1_z p1_product p1_above p1_below : Int} {t_planes_xs t_planes_ys t_planes_zs t_steps_xs t_steps_ys t_steps_zs : Nat → Int} {t_rows : Nat → Nat} {t_rows_R : Nat → RowT} {r : Int} (ao : AO b0 n [a_t, (a_t + 1), (a_t + 2), (a_t + 3), (a_t + 4), (a_t + 5), (a_t + 6), (a_t + 7), (a_t + 8), (a_t + 9), a_p1]) (fo : FO b0 n [a_t, (a_t + 1), (a_t + 2), (a_t + 3), (a_t + 4), (a_t + 5), (a_t + 6), (a_t + 7), (a_t + 8), (a_t + 9), a_p1] (a_t + 13) 8) (ok_t_many : inI t_many) (ok_t_rows : True) (ok_t_planes_many : inI t_planes_many) (ok_t_planes_xs : okA t_planes_xs) (ok_t_planes_ys : okA t_planes_ys) (ok_t_planes_zs : okA t_planes_zs) (ok_t_steps_many : inI t_steps_many) (ok_t_steps_xs : okA t_steps_xs) (ok_t_steps_ys : okA t_steps_ys) (ok_t_steps_zs : okA t_steps_zs) (ok_p1_x : inI p1_x) (ok_p1_y : inI p1_y) (ok_p1_z : inI p1_z) (ok_t_rows_R : okR t_rows_R) (hs : m_X2_strainAlong_0 t_many t_rows t_planes_many t_planes_xs t_planes_ys t_planes_zs t_steps_many t_steps_xs t_steps_ys t_steps_zs p1_x p1_y p1_z t_rows_R = some r) : G l E b0 M_X2_strainAlong (fun _ => True) (ZM E b0 (some (vJ r)) (ov [a_t, (a_t + 1), (a_t + 2), (a_t + 3), (a_t + 4), (a_t + 5), (a_t + 6), (a_t + 7), (a_t + 8), (a_t + 9), a_p1] [.inr (2, fsX2 a_t t_many t_ownPart t_crossPart t_pointMany t_wallFirst t_wallSize), RK E 8 (a_t + 13) t_rows, .inr (8, fsX8 (a_t + 2) t_planes_many), IA E 8 t_planes_xs, IA E 8 t_planes_ys, IA E 8 t_planes_zs, .inr (8, fsX8 (a_t + 6) t_steps_many), IA E 8 t_steps_xs, IA E 8 t_steps_ys, IA E 8 t_steps_zs, .inr (4, fsX4 a_p1 p1_x p1_y p1_z p1_product p1_above p1_below)] (fam E (a_t + 13) 8 t_rows_R h)) n (inJ r) 0 0) 0 0 n (ov [a_t, (a_t + 1), (a_t + 2), (a_t + 3), (a_t + 4), (a_t + 5), (a_t + 6), (a_t + 7), (a_t + 8), (a_t + 9), a_p1] [.inr (2, fsX2 a_t t_many t_ownPart t_crossPart t_pointMany t_wallFirst t_wallSize), RK E 8 (a_t + 13) t_rows, .inr (8, fsX8 (a_t + 2) t_planes_many), IA E 8 t_planes_xs, IA E 8 t_planes_ys, IA E 8 t_planes_zs, .inr (8, fsX8 (a_t + 6) t_steps_many), IA E 8 t_steps_xs, IA E 8 t_steps_ys, IA E 8 t_steps_zs, .inr (4, fsX4 a_p1 p1_x p1_y p1_z p1_product p1_above p1_below)] (fam E (a_t + 13) 8 t_rows_R h)) 0 [some (.ref a_t), some (.ref a_p1), none, none, none] [] := by
  rw [m_X2_strainAlong_0] at hs
  refine g_lconst (a := 0) e_X2_strainAlong_0 rfl ?_
  refine g_lstore_n e_X2_strainAlong_1 st2_2 rfl ?_
  refine g_iconst e_X2_strainAlong_2 ?_
  refine g_istore e_X2_strainAlong_3 st1_4 rfl ?_
  exact g_X2_strainAlong_5 ao fo ok_t_many ok_t_rows ok_t_planes_many ok_t_planes_xs ok_t_planes_ys ok_t_planes_zs ok_t_steps_many ok_t_steps_xs ok_t_steps_ys ok_t_steps_zs ok_p1_x ok_p1_y ok_p1_z ok_t_rows_R (hk_51 := by
      intro v2' v4' ok_v2' ok_v4' hs
      exact g_X2_strainAlong_51 ao fo ok_t_many ok_t_rows ok_t_planes_many ok_t_planes_xs ok_t_planes_ys ok_t_planes_zs ok_t_steps_many ok_t_steps_xs ok_t_steps_ys ok_t_steps_zs ok_p1_x ok_p1_y ok_p1_z ok_t_rows_R ok_v2' hs) FU _ _ (by decide : inJ 0) (by decide : inI 0) hs

noncomputable def m_X2_strainAlong (t_many : Int) (t_rows : Nat → Nat) (t_planes_many : Int) (t_planes_xs : Nat → Int) (t_planes_ys : Nat → Int) (t_planes_zs : Nat → Int) (t_steps_many : Int) (t_steps_xs : Nat → Int) (t_steps_ys : Nat → Int) (t_steps_zs : Nat → Int) (p1_x : Int) (p1_y : Int) (p1_z : Int) (t_rows_R : Nat → RowT) : Option (Int) := m_X2_strainAlong_0 t_many t_rows t_planes_many t_planes_xs t_planes_ys t_planes_zs t_steps_many t_steps_xs t_steps_ys t_steps_zs p1_x p1_y p1_z t_rows_R

set_option maxRecDepth 10000 in
set_option maxHeartbeats 8000000 in
theorem ct_X2_strainAlong {l : Launch} {E : EE} {b0 n : Nat} {h : AH} {a_t a_p1 : Nat} {t_many t_ownPart t_crossPart t_pointMany t_wallFirst t_wallSize t_planes_many t_steps_many p1_x p1_y p1_z p1_product p1_above p1_below : Int} {t_planes_xs t_planes_ys t_planes_zs t_steps_xs t_steps_ys t_steps_zs : Nat → Int} {t_rows : Nat → Nat} {t_rows_R : Nat → RowT} (ao : AO b0 n [a_t, (a_t + 1), (a_t + 2), (a_t + 3), (a_t + 4), (a_t + 5), (a_t + 6), (a_t + 7), (a_t + 8), (a_t + 9), a_p1]) (fo : FO b0 n [a_t, (a_t + 1), (a_t + 2), (a_t + 3), (a_t + 4), (a_t + 5), (a_t + 6), (a_t + 7), (a_t + 8), (a_t + 9), a_p1] (a_t + 13) 8) (hf : FA h [a_t, (a_t + 1), (a_t + 2), (a_t + 3), (a_t + 4), (a_t + 5), (a_t + 6), (a_t + 7), (a_t + 8), (a_t + 9), a_p1] [.inr (2, fsX2 a_t t_many t_ownPart t_crossPart t_pointMany t_wallFirst t_wallSize), RK E 8 (a_t + 13) t_rows, .inr (8, fsX8 (a_t + 2) t_planes_many), IA E 8 t_planes_xs, IA E 8 t_planes_ys, IA E 8 t_planes_zs, .inr (8, fsX8 (a_t + 6) t_steps_many), IA E 8 t_steps_xs, IA E 8 t_steps_ys, IA E 8 t_steps_zs, .inr (4, fsX4 a_p1 p1_x p1_y p1_z p1_product p1_above p1_below)]) (hF : FF E h (a_t + 13) 8 t_rows_R) (ok_t_many : inI t_many) (ok_t_rows : True) (ok_t_planes_many : inI t_planes_many) (ok_t_planes_xs : okA t_planes_xs) (ok_t_planes_ys : okA t_planes_ys) (ok_t_planes_zs : okA t_planes_zs) (ok_t_steps_many : inI t_steps_many) (ok_t_steps_xs : okA t_steps_xs) (ok_t_steps_ys : okA t_steps_ys) (ok_t_steps_zs : okA t_steps_zs) (ok_p1_x : inI p1_x) (ok_p1_y : inI p1_y) (ok_p1_z : inI p1_z) (ok_t_rows_R : okR t_rows_R) {r : Int} (hm : m_X2_strainAlong t_many t_rows t_planes_many t_planes_xs t_planes_ys t_planes_zs t_steps_many t_steps_xs t_steps_ys t_steps_zs p1_x p1_y p1_z t_rows_R = some r) : Ct l E b0 M_X2_strainAlong 0 0 [.ref a_t, .ref a_p1] h n (some (vJ r)) h n (inJ r) := by
  rw [m_X2_strainAlong] at hm
  have hg : G l E b0 M_X2_strainAlong (fun _ => True) (ZM E b0 (some (vJ r)) (ov [a_t, (a_t + 1), (a_t + 2), (a_t + 3), (a_t + 4), (a_t + 5), (a_t + 6), (a_t + 7), (a_t + 8), (a_t + 9), a_p1] [.inr (2, fsX2 a_t t_many t_ownPart t_crossPart t_pointMany t_wallFirst t_wallSize), RK E 8 (a_t + 13) t_rows, .inr (8, fsX8 (a_t + 2) t_planes_many), IA E 8 t_planes_xs, IA E 8 t_planes_ys, IA E 8 t_planes_zs, .inr (8, fsX8 (a_t + 6) t_steps_many), IA E 8 t_steps_xs, IA E 8 t_steps_ys, IA E 8 t_steps_zs, .inr (4, fsX4 a_p1 p1_x p1_y p1_z p1_product p1_above p1_below)] (fam E (a_t + 13) 8 t_rows_R h)) n (inJ r) 0 0) 0 0 n (ov [a_t, (a_t + 1), (a_t + 2), (a_t + 3), (a_t + 4), (a_t + 5), (a_t + 6), (a_t + 7), (a_t + 8), (a_t + 9), a_p1] [.inr (2, fsX2 a_t t_many t_ownPart t_crossPart t_pointMany t_wallFirst t_wallSize), RK E 8 (a_t + 13) t_rows, .inr (8, fsX8 (a_t + 2) t_planes_many), IA E 8 t_planes_xs, IA E 8 t_planes_ys, IA E 8 t_planes_zs, .inr (8, fsX8 (a_t + 6) t_steps_many), IA E 8 t_steps_xs, IA E 8 t_steps_ys, IA E 8 t_steps_zs, .inr (4, fsX4 a_p1 p1_x p1_y p1_z p1_product p1_above p1_below)] (fam E (a_t + 13) 8 t_rows_R h)) 0 [some (.ref a_t), some (.ref a_p1), none, none, none] [] := by
    have hs := hm
    exact g_X2_strainAlong_0 ao fo ok_t_many ok_t_rows ok_t_planes_many ok_t_planes_xs ok_t_planes_ys ok_t_planes_zs ok_t_steps_many ok_t_steps_xs ok_t_steps_ys ok_t_steps_zs ok_p1_x ok_p1_y ok_p1_z ok_t_rows_R hs
  rw [FF_id hF] at hg
  rw [FA_id hf] at hg
  exact Ct_of [some (.ref a_t), some (.ref a_p1), none, none, none] ⟨by decide +kernel, rfl⟩ rfl (Nat.le_of_ble_eq_true rfl) hg

/-! ===== X2_findWall ===== -/
theorem e_X2_findWall_0 : DC cX2_findWall 0 (.aload_n 0) 1 1 := ⟨by decide +kernel, rfl⟩
theorem e_X2_findWall_1 : DC cX2_findWall 1 (.iconst 0) 1 2 := ⟨by decide +kernel, rfl⟩
theorem e_X2_findWall_2 : DC cX2_findWall 2 (.putfield 154) 3 5 := ⟨by decide +kernel, rfl⟩
theorem e_X2_findWall_5 : DC cX2_findWall 5 (.aload_n 0) 1 6 := ⟨by decide +kernel, rfl⟩
theorem e_X2_findWall_6 : DC cX2_findWall 6 (.iconst 0) 1 7 := ⟨by decide +kernel, rfl⟩
theorem e_X2_findWall_7 : DC cX2_findWall 7 (.putfield 157) 3 10 := ⟨by decide +kernel, rfl⟩
theorem e_X2_findWall_10 : DC cX2_findWall 10 (.iconst 0) 1 11 := ⟨by decide +kernel, rfl⟩
theorem e_X2_findWall_11 : DC cX2_findWall 11 (.istore_n 2) 1 12 := ⟨by decide +kernel, rfl⟩
theorem e_X2_findWall_12 : DC cX2_findWall 12 (.iconst 0) 1 13 := ⟨by decide +kernel, rfl⟩
theorem e_X2_findWall_13 : DC cX2_findWall 13 (.istore_n 3) 1 14 := ⟨by decide +kernel, rfl⟩
theorem e_X2_findWall_14 : DC cX2_findWall 14 (.iload_n 3) 1 15 := ⟨by decide +kernel, rfl⟩
theorem e_X2_findWall_15 : DC cX2_findWall 15 (.aload_n 0) 1 16 := ⟨by decide +kernel, rfl⟩
theorem e_X2_findWall_16 : DC cX2_findWall 16 (.getfield 41) 3 19 := ⟨by decide +kernel, rfl⟩
theorem e_X2_findWall_19 : DB cX2_findWall 19 (.if_icmp .ge 70) (70) 3 22 89 := ⟨by decide +kernel, rfl, rfl⟩
theorem e_X2_findWall_22 : DC cX2_findWall 22 (.aload_n 0) 1 23 := ⟨by decide +kernel, rfl⟩
theorem e_X2_findWall_23 : DC cX2_findWall 23 (.getfield 11) 3 26 := ⟨by decide +kernel, rfl⟩
theorem e_X2_findWall_26 : DC cX2_findWall 26 (.iload_n 3) 1 27 := ⟨by decide +kernel, rfl⟩
theorem e_X2_findWall_27 : DC cX2_findWall 27 (.aaload) 1 28 := ⟨by decide +kernel, rfl⟩
theorem e_X2_findWall_28 : DC cX2_findWall 28 (.iload_n 1) 1 29 := ⟨by decide +kernel, rfl⟩
theorem e_X2_findWall_29 : DC cX2_findWall 29 (.invokevirtual 99) 3 32 := ⟨by decide +kernel, rfl⟩
theorem e_X2_findWall_32 : DB cX2_findWall 32 (.ifCond .ne 8) (8) 3 35 40 := ⟨by decide +kernel, rfl, rfl⟩
theorem e_X2_findWall_35 : DC cX2_findWall 35 (.iconst 0) 1 36 := ⟨by decide +kernel, rfl⟩
theorem e_X2_findWall_36 : DC cX2_findWall 36 (.istore_n 2) 1 37 := ⟨by decide +kernel, rfl⟩
theorem e_X2_findWall_37 : DB cX2_findWall 37 (.goto 24) (24) 3 40 61 := ⟨by decide +kernel, rfl, rfl⟩
theorem e_X2_findWall_40 : DC cX2_findWall 40 (.iload_n 2) 1 41 := ⟨by decide +kernel, rfl⟩
theorem e_X2_findWall_41 : DB cX2_findWall 41 (.ifCond .le 18) (18) 3 44 59 := ⟨by decide +kernel, rfl, rfl⟩
theorem e_X2_findWall_44 : DC cX2_findWall 44 (.aload_n 0) 1 45 := ⟨by decide +kernel, rfl⟩
theorem e_X2_findWall_45 : DC cX2_findWall 45 (.iload_n 3) 1 46 := ⟨by decide +kernel, rfl⟩
theorem e_X2_findWall_46 : DC cX2_findWall 46 (.iload_n 1) 1 47 := ⟨by decide +kernel, rfl⟩
theorem e_X2_findWall_47 : DC cX2_findWall 47 (.invokevirtual 160) 3 50 := ⟨by decide +kernel, rfl⟩
theorem e_X2_findWall_50 : DB cX2_findWall 50 (.ifCond .eq 9) (9) 3 53 59 := ⟨by decide +kernel, rfl, rfl⟩
theorem e_X2_findWall_53 : DC cX2_findWall 53 (.iload_n 2) 1 54 := ⟨by decide +kernel, rfl⟩
theorem e_X2_findWall_54 : DC cX2_findWall 54 (.iconst 1) 1 55 := ⟨by decide +kernel, rfl⟩
theorem e_X2_findWall_55 : DC cX2_findWall 55 (.iadd) 1 56 := ⟨by decide +kernel, rfl⟩
theorem e_X2_findWall_56 : DB cX2_findWall 56 (.goto 4) (4) 3 59 60 := ⟨by decide +kernel, rfl, rfl⟩
theorem e_X2_findWall_59 : DC cX2_findWall 59 (.iconst 1) 1 60 := ⟨by decide +kernel, rfl⟩
theorem e_X2_findWall_60 : DC cX2_findWall 60 (.istore_n 2) 1 61 := ⟨by decide +kernel, rfl⟩
theorem e_X2_findWall_61 : DC cX2_findWall 61 (.iload_n 2) 1 62 := ⟨by decide +kernel, rfl⟩
theorem e_X2_findWall_62 : DC cX2_findWall 62 (.aload_n 0) 1 63 := ⟨by decide +kernel, rfl⟩
theorem e_X2_findWall_63 : DC cX2_findWall 63 (.getfield 157) 3 66 := ⟨by decide +kernel, rfl⟩
theorem e_X2_findWall_66 : DB cX2_findWall 66 (.if_icmp .le 17) (17) 3 69 83 := ⟨by decide +kernel, rfl, rfl⟩
theorem e_X2_findWall_69 : DC cX2_findWall 69 (.aload_n 0) 1 70 := ⟨by decide +kernel, rfl⟩
theorem e_X2_findWall_70 : DC cX2_findWall 70 (.iload_n 2) 1 71 := ⟨by decide +kernel, rfl⟩
theorem e_X2_findWall_71 : DC cX2_findWall 71 (.putfield 157) 3 74 := ⟨by decide +kernel, rfl⟩
theorem e_X2_findWall_74 : DC cX2_findWall 74 (.aload_n 0) 1 75 := ⟨by decide +kernel, rfl⟩
theorem e_X2_findWall_75 : DC cX2_findWall 75 (.iload_n 3) 1 76 := ⟨by decide +kernel, rfl⟩
theorem e_X2_findWall_76 : DC cX2_findWall 76 (.iconst 1) 1 77 := ⟨by decide +kernel, rfl⟩
theorem e_X2_findWall_77 : DC cX2_findWall 77 (.iadd) 1 78 := ⟨by decide +kernel, rfl⟩
theorem e_X2_findWall_78 : DC cX2_findWall 78 (.iload_n 2) 1 79 := ⟨by decide +kernel, rfl⟩
theorem e_X2_findWall_79 : DC cX2_findWall 79 (.isub) 1 80 := ⟨by decide +kernel, rfl⟩
theorem e_X2_findWall_80 : DC cX2_findWall 80 (.putfield 154) 3 83 := ⟨by decide +kernel, rfl⟩
theorem e_X2_findWall_83 : DC cX2_findWall 83 (.iinc 3 1) 3 86 := ⟨by decide +kernel, rfl⟩
theorem e_X2_findWall_86 : DB cX2_findWall 86 (.goto (-72)) (-72) 3 89 14 := ⟨by decide +kernel, rfl, rfl⟩
theorem e_X2_findWall_89 : DC cX2_findWall 89 (.return_) 1 90 := ⟨by decide +kernel, rfl⟩
noncomputable def m_X2_findWall_83 (t_many : Int) (t_wallFirst : Int) (t_wallSize : Int) (t_rows : Nat → Nat) (t_planes_many : Int) (t_planes_xs : Nat → Int) (t_planes_ys : Nat → Int) (t_planes_zs : Nat → Int) (t_steps_many : Int) (t_steps_xs : Nat → Int) (t_steps_ys : Nat → Int) (t_steps_zs : Nat → Int) (t_rows_R : Nat → RowT) (v1 : Int) (v2 : Int) (v3 : Int) (ag : Int → Int → Int → Int → Option (Int × Int)) (k_89 : Int → Int → Int → Int → Option (Int × Int)) : Option (Int × Int) :=
  chk (inI (v3 + 1)) (ag t_wallFirst t_wallSize v2 (v3 + 1))

set_option maxRecDepth 10000 in
set_option maxHeartbeats 8000000 in
theorem g_X2_findWall_83 {l : Launch} {E : EE} {b0 n : Nat} {h : AH} {a_t : Nat} {t_many t_ownPart t_crossPart t_pointMany t_wallFirst t_wallSize t_planes_many t_steps_many v1 v2 v3 : Int} {t_planes_xs t_planes_ys t_planes_zs t_steps_xs t_steps_ys t_steps_zs : Nat → Int} {t_rows : Nat → Nat} {t_rows_R : Nat → RowT} {r : Int × Int} {ag : Int → Int → Int → Int → Option (Int × Int)} {k_89 : Int → Int → Int → Int → Option (Int × Int)} (ao : AO b0 n [a_t, (a_t + 1), (a_t + 2), (a_t + 3), (a_t + 4), (a_t + 5), (a_t + 6), (a_t + 7), (a_t + 8), (a_t + 9)]) (fo : FO b0 n [a_t, (a_t + 1), (a_t + 2), (a_t + 3), (a_t + 4), (a_t + 5), (a_t + 6), (a_t + 7), (a_t + 8), (a_t + 9)] (a_t + 13) 8) (ok_t_many : inI t_many) (ok_t_wallFirst : inI t_wallFirst) (ok_t_wallSize : inI t_wallSize) (ok_t_rows : True) (ok_t_planes_many : inI t_planes_many) (ok_t_planes_xs : okA t_planes_xs) (ok_t_planes_ys : okA t_planes_ys) (ok_t_planes_zs : okA t_planes_zs) (ok_t_steps_many : inI t_steps_many) (ok_t_steps_xs : okA t_steps_xs) (ok_t_steps_ys : okA t_steps_ys) (ok_t_steps_zs : okA t_steps_zs) (ok_t_rows_R : okR t_rows_R) (ok_v1 : inI v1) (ok_v2 : inI v2) (ok_v3 : inI v3) (hag : ∀ (t_wallFirst_ : Int) (t_wallSize_ : Int) (v2_ : Int) (v3_ : Int), inI t_wallFirst_ → inI t_wallSize_ → inI v2_ → inI v3_ → ag t_wallFirst_ t_wallSize_ v2_ v3_ = some r → G l E b0 M_X2_findWall (fun _ => True) (ZM E b0 (none) (ov [a_t, (a_t + 1), (a_t + 2), (a_t + 3), (a_t + 4), (a_t + 5), (a_t + 6), (a_t + 7), (a_t + 8), (a_t + 9)] [.inr (2, fsX2 a_t t_many t_ownPart t_crossPart t_pointMany r.1 r.2), RK E 8 (a_t + 13) t_rows, .inr (8, fsX8 (a_t + 2) t_planes_many), IA E 8 t_planes_xs, IA E 8 t_planes_ys, IA E 8 t_planes_zs, .inr (8, fsX8 (a_t + 6) t_steps_many), IA E 8 t_steps_xs, IA E 8 t_steps_ys, IA E 8 t_steps_zs] (fam E (a_t + 13) 8 t_rows_R h)) n (inI r.1 ∧ inI r.2) 0 0) 0 0 n (ov [a_t, (a_t + 1), (a_t + 2), (a_t + 3), (a_t + 4), (a_t + 5), (a_t + 6), (a_t + 7), (a_t + 8), (a_t + 9)] [.inr (2, fsX2 a_t t_many t_ownPart t_crossPart t_pointMany t_wallFirst_ t_wallSize_), RK E 8 (a_t + 13) t_rows, .inr (8, fsX8 (a_t + 2) t_planes_many), IA E 8 t_planes_xs, IA E 8 t_planes_ys, IA E 8 t_planes_zs, .inr (8, fsX8 (a_t + 6) t_steps_many), IA E 8 t_steps_xs, IA E 8 t_steps_ys, IA E 8 t_steps_zs] (fam E (a_t + 13) 8 t_rows_R h)) 14 [some (.ref a_t), some (vI v1), some (vI v2_), some (vI v3_)] []) (hk_89 : ∀ (t_wallFirst_ : Int) (t_wallSize_ : Int) (v2_ : Int) (v3_ : Int), inI t_wallFirst_ → inI t_wallSize_ → inI v2_ → inI v3_ → k_89 t_wallFirst_ t_wallSize_ v2_ v3_ = some r → G l E b0 M_X2_findWall (fun _ => True) (ZM E b0 (none) (ov [a_t, (a_t + 1), (a_t + 2), (a_t + 3), (a_t + 4), (a_t + 5), (a_t + 6), (a_t + 7), (a_t + 8), (a_t + 9)] [.inr (2, fsX2 a_t t_many t_ownPart t_crossPart t_pointMany r.1 r.2), RK E 8 (a_t + 13) t_rows, .inr (8, fsX8 (a_t + 2) t_planes_many), IA E 8 t_planes_xs, IA E 8 t_planes_ys, IA E 8 t_planes_zs, .inr (8, fsX8 (a_t + 6) t_steps_many), IA E 8 t_steps_xs, IA E 8 t_steps_ys, IA E 8 t_steps_zs] (fam E (a_t + 13) 8 t_rows_R h)) n (inI r.1 ∧ inI r.2) 0 0) 0 0 n (ov [a_t, (a_t + 1), (a_t + 2), (a_t + 3), (a_t + 4), (a_t + 5), (a_t + 6), (a_t + 7), (a_t + 8), (a_t + 9)] [.inr (2, fsX2 a_t t_many t_ownPart t_crossPart t_pointMany t_wallFirst_ t_wallSize_), RK E 8 (a_t + 13) t_rows, .inr (8, fsX8 (a_t + 2) t_planes_many), IA E 8 t_planes_xs, IA E 8 t_planes_ys, IA E 8 t_planes_zs, .inr (8, fsX8 (a_t + 6) t_steps_many), IA E 8 t_steps_xs, IA E 8 t_steps_ys, IA E 8 t_steps_zs] (fam E (a_t + 13) 8 t_rows_R h)) 89 [none, none, none, none] []) (hs : m_X2_findWall_83 t_many t_wallFirst t_wallSize t_rows t_planes_many t_planes_xs t_planes_ys t_planes_zs t_steps_many t_steps_xs t_steps_ys t_steps_zs t_rows_R v1 v2 v3 ag k_89 = some r) : G l E b0 M_X2_findWall (fun _ => True) (ZM E b0 (none) (ov [a_t, (a_t + 1), (a_t + 2), (a_t + 3), (a_t + 4), (a_t + 5), (a_t + 6), (a_t + 7), (a_t + 8), (a_t + 9)] [.inr (2, fsX2 a_t t_many t_ownPart t_crossPart t_pointMany r.1 r.2), RK E 8 (a_t + 13) t_rows, .inr (8, fsX8 (a_t + 2) t_planes_many), IA E 8 t_planes_xs, IA E 8 t_planes_ys, IA E 8 t_planes_zs, .inr (8, fsX8 (a_t + 6) t_steps_many), IA E 8 t_steps_xs, IA E 8 t_steps_ys, IA E 8 t_steps_zs] (fam E (a_t + 13) 8 t_rows_R h)) n (inI r.1 ∧ inI r.2) 0 0) 0 0 n (ov [a_t, (a_t + 1), (a_t + 2), (a_t + 3), (a_t + 4), (a_t + 5), (a_t + 6), (a_t + 7), (a_t + 8), (a_t + 9)] [.inr (2, fsX2 a_t t_many t_ownPart t_crossPart t_pointMany t_wallFirst t_wallSize), RK E 8 (a_t + 13) t_rows, .inr (8, fsX8 (a_t + 2) t_planes_many), IA E 8 t_planes_xs, IA E 8 t_planes_ys, IA E 8 t_planes_zs, .inr (8, fsX8 (a_t + 6) t_steps_many), IA E 8 t_steps_xs, IA E 8 t_steps_ys, IA E 8 t_steps_zs] (fam E (a_t + 13) 8 t_rows_R h)) 83 [some (.ref a_t), some (vI v1), some (vI v2), some (vI v3)] [] := by
  rw [m_X2_findWall_83] at hs
  refine g_iinc e_X2_findWall_83 rfl st1_3 rfl ?_
  refine g_goto e_X2_findWall_86 ?_
  obtain ⟨hc4, hs⟩ := chk_elim hs
  exact hag _ _ _ _ ok_t_wallFirst ok_t_wallSize ok_v2 hc4 hs

noncomputable def m_X2_findWall_61 (t_many : Int) (t_wallFirst : Int) (t_wallSize : Int) (t_rows : Nat → Nat) (t_planes_many : Int) (t_planes_xs : Nat → Int) (t_planes_ys : Nat → Int) (t_planes_zs : Nat → Int) (t_steps_many : Int) (t_steps_xs : Nat → Int) (t_steps_ys : Nat → Int) (t_steps_zs : Nat → Int) (t_rows_R : Nat → RowT) (v1 : Int) (v2 : Int) (v3 : Int) (ag : Int → Int → Int → Int → Option (Int × Int)) (k_89 : Int → Int → Int → Int → Option (Int × Int)) : Option (Int × Int) :=
  if v2 ≤ t_wallSize then (m_X2_findWall_83 t_many t_wallFirst t_wallSize t_rows t_planes_many t_planes_xs t_planes_ys t_planes_zs t_steps_many t_steps_xs t_steps_ys t_steps_zs t_rows_R v1 v2 v3 ag k_89) else (chk (inI ((v3 + 1) - v2)) (m_X2_findWall_83 t_many ((v3 + 1) - v2) v2 t_rows t_planes_many t_planes_xs t_planes_ys t_planes_zs t_steps_many t_steps_xs t_steps_ys t_steps_zs t_rows_R v1 v2 v3 ag k_89))

set_option maxRecDepth 10000 in
set_option maxHeartbeats 8000000 in
theorem g_X2_findWall_61 {l : Launch} {E : EE} {b0 n : Nat} {h : AH} {a_t : Nat} {t_many t_ownPart t_crossPart t_pointMany t_wallFirst t_wallSize t_planes_many t_steps_many v1 v2 v3 : Int} {t_planes_xs t_planes_ys t_planes_zs t_steps_xs t_steps_ys t_steps_zs : Nat → Int} {t_rows : Nat → Nat} {t_rows_R : Nat → RowT} {r : Int × Int} {ag : Int → Int → Int → Int → Option (Int × Int)} {k_89 : Int → Int → Int → Int → Option (Int × Int)} (ao : AO b0 n [a_t, (a_t + 1), (a_t + 2), (a_t + 3), (a_t + 4), (a_t + 5), (a_t + 6), (a_t + 7), (a_t + 8), (a_t + 9)]) (fo : FO b0 n [a_t, (a_t + 1), (a_t + 2), (a_t + 3), (a_t + 4), (a_t + 5), (a_t + 6), (a_t + 7), (a_t + 8), (a_t + 9)] (a_t + 13) 8) (ok_t_many : inI t_many) (ok_t_wallFirst : inI t_wallFirst) (ok_t_wallSize : inI t_wallSize) (ok_t_rows : True) (ok_t_planes_many : inI t_planes_many) (ok_t_planes_xs : okA t_planes_xs) (ok_t_planes_ys : okA t_planes_ys) (ok_t_planes_zs : okA t_planes_zs) (ok_t_steps_many : inI t_steps_many) (ok_t_steps_xs : okA t_steps_xs) (ok_t_steps_ys : okA t_steps_ys) (ok_t_steps_zs : okA t_steps_zs) (ok_t_rows_R : okR t_rows_R) (ok_v1 : inI v1) (ok_v2 : inI v2) (ok_v3 : inI v3) (hag : ∀ (t_wallFirst_ : Int) (t_wallSize_ : Int) (v2_ : Int) (v3_ : Int), inI t_wallFirst_ → inI t_wallSize_ → inI v2_ → inI v3_ → ag t_wallFirst_ t_wallSize_ v2_ v3_ = some r → G l E b0 M_X2_findWall (fun _ => True) (ZM E b0 (none) (ov [a_t, (a_t + 1), (a_t + 2), (a_t + 3), (a_t + 4), (a_t + 5), (a_t + 6), (a_t + 7), (a_t + 8), (a_t + 9)] [.inr (2, fsX2 a_t t_many t_ownPart t_crossPart t_pointMany r.1 r.2), RK E 8 (a_t + 13) t_rows, .inr (8, fsX8 (a_t + 2) t_planes_many), IA E 8 t_planes_xs, IA E 8 t_planes_ys, IA E 8 t_planes_zs, .inr (8, fsX8 (a_t + 6) t_steps_many), IA E 8 t_steps_xs, IA E 8 t_steps_ys, IA E 8 t_steps_zs] (fam E (a_t + 13) 8 t_rows_R h)) n (inI r.1 ∧ inI r.2) 0 0) 0 0 n (ov [a_t, (a_t + 1), (a_t + 2), (a_t + 3), (a_t + 4), (a_t + 5), (a_t + 6), (a_t + 7), (a_t + 8), (a_t + 9)] [.inr (2, fsX2 a_t t_many t_ownPart t_crossPart t_pointMany t_wallFirst_ t_wallSize_), RK E 8 (a_t + 13) t_rows, .inr (8, fsX8 (a_t + 2) t_planes_many), IA E 8 t_planes_xs, IA E 8 t_planes_ys, IA E 8 t_planes_zs, .inr (8, fsX8 (a_t + 6) t_steps_many), IA E 8 t_steps_xs, IA E 8 t_steps_ys, IA E 8 t_steps_zs] (fam E (a_t + 13) 8 t_rows_R h)) 14 [some (.ref a_t), some (vI v1), some (vI v2_), some (vI v3_)] []) (hk_89 : ∀ (t_wallFirst_ : Int) (t_wallSize_ : Int) (v2_ : Int) (v3_ : Int), inI t_wallFirst_ → inI t_wallSize_ → inI v2_ → inI v3_ → k_89 t_wallFirst_ t_wallSize_ v2_ v3_ = some r → G l E b0 M_X2_findWall (fun _ => True) (ZM E b0 (none) (ov [a_t, (a_t + 1), (a_t + 2), (a_t + 3), (a_t + 4), (a_t + 5), (a_t + 6), (a_t + 7), (a_t + 8), (a_t + 9)] [.inr (2, fsX2 a_t t_many t_ownPart t_crossPart t_pointMany r.1 r.2), RK E 8 (a_t + 13) t_rows, .inr (8, fsX8 (a_t + 2) t_planes_many), IA E 8 t_planes_xs, IA E 8 t_planes_ys, IA E 8 t_planes_zs, .inr (8, fsX8 (a_t + 6) t_steps_many), IA E 8 t_steps_xs, IA E 8 t_steps_ys, IA E 8 t_steps_zs] (fam E (a_t + 13) 8 t_rows_R h)) n (inI r.1 ∧ inI r.2) 0 0) 0 0 n (ov [a_t, (a_t + 1), (a_t + 2), (a_t + 3), (a_t + 4), (a_t + 5), (a_t + 6), (a_t + 7), (a_t + 8), (a_t + 9)] [.inr (2, fsX2 a_t t_many t_ownPart t_crossPart t_pointMany t_wallFirst_ t_wallSize_), RK E 8 (a_t + 13) t_rows, .inr (8, fsX8 (a_t + 2) t_planes_many), IA E 8 t_planes_xs, IA E 8 t_planes_ys, IA E 8 t_planes_zs, .inr (8, fsX8 (a_t + 6) t_steps_many), IA E 8 t_steps_xs, IA E 8 t_steps_ys, IA E 8 t_steps_zs] (fam E (a_t + 13) 8 t_rows_R h)) 89 [none, none, none, none] []) (hs : m_X2_findWall_61 t_many t_wallFirst t_wallSize t_rows t_planes_many t_planes_xs t_planes_ys t_planes_zs t_steps_many t_steps_xs t_steps_ys t_steps_zs t_rows_R v1 v2 v3 ag k_89 = some r) : G l E b0 M_X2_findWall (fun _ => True) (ZM E b0 (none) (ov [a_t, (a_t + 1), (a_t + 2), (a_t + 3), (a_t + 4), (a_t + 5), (a_t + 6), (a_t + 7), (a_t + 8), (a_t + 9)] [.inr (2, fsX2 a_t t_many t_ownPart t_crossPart t_pointMany r.1 r.2), RK E 8 (a_t + 13) t_rows, .inr (8, fsX8 (a_t + 2) t_planes_many), IA E 8 t_planes_xs, IA E 8 t_planes_ys, IA E 8 t_planes_zs, .inr (8, fsX8 (a_t + 6) t_steps_many), IA E 8 t_steps_xs, IA E 8 t_steps_ys, IA E 8 t_steps_zs] (fam E (a_t + 13) 8 t_rows_R h)) n (inI r.1 ∧ inI r.2) 0 0) 0 0 n (ov [a_t, (a_t + 1), (a_t + 2), (a_t + 3), (a_t + 4), (a_t + 5), (a_t + 6), (a_t + 7), (a_t + 8), (a_t + 9)] [.inr (2, fsX2 a_t t_many t_ownPart t_crossPart t_pointMany t_wallFirst t_wallSize), RK E 8 (a_t + 13) t_rows, .inr (8, fsX8 (a_t + 2) t_planes_many), IA E 8 t_planes_xs, IA E 8 t_planes_ys, IA E 8 t_planes_zs, .inr (8, fsX8 (a_t + 6) t_steps_many), IA E 8 t_steps_xs, IA E 8 t_steps_ys, IA E 8 t_steps_zs] (fam E (a_t + 13) 8 t_rows_R h)) 61 [some (.ref a_t), some (vI v1), some (vI v2), some (vI v3)] [] := by
  rw [m_X2_findWall_61] at hs
  refine g_iload_n e_X2_findWall_61 rfl ?_
  refine g_aload_n e_X2_findWall_62 rfl ?_
  refine g_get 0 11 ao rfl rfl fsX2_g11 fl_X2_157 e_X2_findWall_63 ?_
  refine g_icmp_le e_X2_findWall_66 ok_v2 ok_t_wallSize hs (fun c66 hs => ?_) (fun c66 hs => ?_)
  · exact g_X2_findWall_83 ao fo ok_t_many ok_t_wallFirst ok_t_wallSize ok_t_rows ok_t_planes_many ok_t_planes_xs ok_t_planes_ys ok_t_planes_zs ok_t_steps_many ok_t_steps_xs ok_t_steps_ys ok_t_steps_zs ok_t_rows_R ok_v1 ok_v2 ok_v3 hag hk_89 hs
  · refine g_aload_n e_X2_findWall_69 rfl ?_
    refine g_iload_n e_X2_findWall_70 rfl ?_
    refine g_put 0 11 ao rfl rfl fsX2_k11 fsX2_s11 ls_0 fw_X2_157 (fun h => by cases h) ⟨rfl, rfl⟩ e_X2_findWall_71 ?_
    refine g_aload_n e_X2_findWall_74 rfl ?_
    refine g_iload_n e_X2_findWall_75 rfl ?_
    refine g_iconst e_X2_findWall_76 ?_
    refine g_iadd e_X2_findWall_77 ?_
    refine g_iload_n e_X2_findWall_78 rfl ?_
    refine g_isub e_X2_findWall_79 ?_
    obtain ⟨hc5, hs⟩ := chk_elim hs
    refine g_put 0 10 ao rfl rfl fsX2_k10 fsX2_s10 ls_0 fw_X2_154 (fun h => by cases h) ⟨rfl, rfl⟩ e_X2_findWall_80 ?_
    exact g_X2_findWall_83 ao fo ok_t_many hc5 ok_v2 ok_t_rows ok_t_planes_many ok_t_planes_xs ok_t_planes_ys ok_t_planes_zs ok_t_steps_many ok_t_steps_xs ok_t_steps_ys ok_t_steps_zs ok_t_rows_R ok_v1 ok_v2 ok_v3 hag hk_89 hs

noncomputable def m_X2_findWall_60 (t_many : Int) (t_wallFirst : Int) (t_wallSize : Int) (t_rows : Nat → Nat) (t_planes_many : Int) (t_planes_xs : Nat → Int) (t_planes_ys : Nat → Int) (t_planes_zs : Nat → Int) (t_steps_many : Int) (t_steps_xs : Nat → Int) (t_steps_ys : Nat → Int) (t_steps_zs : Nat → Int) (t_rows_R : Nat → RowT) (v1 : Int) (v3 : Int) (s0 : Int) (ag : Int → Int → Int → Int → Option (Int × Int)) (k_89 : Int → Int → Int → Int → Option (Int × Int)) : Option (Int × Int) :=
  m_X2_findWall_61 t_many t_wallFirst t_wallSize t_rows t_planes_many t_planes_xs t_planes_ys t_planes_zs t_steps_many t_steps_xs t_steps_ys t_steps_zs t_rows_R v1 s0 v3 ag k_89

set_option maxRecDepth 10000 in
set_option maxHeartbeats 8000000 in
theorem g_X2_findWall_60 {l : Launch} {E : EE} {b0 n : Nat} {h : AH} {a_t : Nat} {t_many t_ownPart t_crossPart t_pointMany t_wallFirst t_wallSize t_planes_many t_steps_many v1 v3 s0 : Int} {t_planes_xs t_planes_ys t_planes_zs t_steps_xs t_steps_ys t_steps_zs : Nat → Int} {t_rows : Nat → Nat} {t_rows_R : Nat → RowT} {r : Int × Int} {ag : Int → Int → Int → Int → Option (Int × Int)} {k_89 : Int → Int → Int → Int → Option (Int × Int)} (ao : AO b0 n [a_t, (a_t + 1), (a_t + 2), (a_t + 3), (a_t + 4), (a_t + 5), (a_t + 6), (a_t + 7), (a_t + 8), (a_t + 9)]) (fo : FO b0 n [a_t, (a_t + 1), (a_t + 2), (a_t + 3), (a_t + 4), (a_t + 5), (a_t + 6), (a_t + 7), (a_t + 8), (a_t + 9)] (a_t + 13) 8) (ok_t_many : inI t_many) (ok_t_wallFirst : inI t_wallFirst) (ok_t_wallSize : inI t_wallSize) (ok_t_rows : True) (ok_t_planes_many : inI t_planes_many) (ok_t_planes_xs : okA t_planes_xs) (ok_t_planes_ys : okA t_planes_ys) (ok_t_planes_zs : okA t_planes_zs) (ok_t_steps_many : inI t_steps_many) (ok_t_steps_xs : okA t_steps_xs) (ok_t_steps_ys : okA t_steps_ys) (ok_t_steps_zs : okA t_steps_zs) (ok_t_rows_R : okR t_rows_R) (ok_v1 : inI v1) (ok_v3 : inI v3) (ok_s0 : inI s0) (hag : ∀ (t_wallFirst_ : Int) (t_wallSize_ : Int) (v2_ : Int) (v3_ : Int), inI t_wallFirst_ → inI t_wallSize_ → inI v2_ → inI v3_ → ag t_wallFirst_ t_wallSize_ v2_ v3_ = some r → G l E b0 M_X2_findWall (fun _ => True) (ZM E b0 (none) (ov [a_t, (a_t + 1), (a_t + 2), (a_t + 3), (a_t + 4), (a_t + 5), (a_t + 6), (a_t + 7), (a_t + 8), (a_t + 9)] [.inr (2, fsX2 a_t t_many t_ownPart t_crossPart t_pointMany r.1 r.2), RK E 8 (a_t + 13) t_rows, .inr (8, fsX8 (a_t + 2) t_planes_many), IA E 8 t_planes_xs, IA E 8 t_planes_ys, IA E 8 t_planes_zs, .inr (8, fsX8 (a_t + 6) t_steps_many), IA E 8 t_steps_xs, IA E 8 t_steps_ys, IA E 8 t_steps_zs] (fam E (a_t + 13) 8 t_rows_R h)) n (inI r.1 ∧ inI r.2) 0 0) 0 0 n (ov [a_t, (a_t + 1), (a_t + 2), (a_t + 3), (a_t + 4), (a_t + 5), (a_t + 6), (a_t + 7), (a_t + 8), (a_t + 9)] [.inr (2, fsX2 a_t t_many t_ownPart t_crossPart t_pointMany t_wallFirst_ t_wallSize_), RK E 8 (a_t + 13) t_rows, .inr (8, fsX8 (a_t + 2) t_planes_many), IA E 8 t_planes_xs, IA E 8 t_planes_ys, IA E 8 t_planes_zs, .inr (8, fsX8 (a_t + 6) t_steps_many), IA E 8 t_steps_xs, IA E 8 t_steps_ys, IA E 8 t_steps_zs] (fam E (a_t + 13) 8 t_rows_R h)) 14 [some (.ref a_t), some (vI v1), some (vI v2_), some (vI v3_)] []) (hk_89 : ∀ (t_wallFirst_ : Int) (t_wallSize_ : Int) (v2_ : Int) (v3_ : Int), inI t_wallFirst_ → inI t_wallSize_ → inI v2_ → inI v3_ → k_89 t_wallFirst_ t_wallSize_ v2_ v3_ = some r → G l E b0 M_X2_findWall (fun _ => True) (ZM E b0 (none) (ov [a_t, (a_t + 1), (a_t + 2), (a_t + 3), (a_t + 4), (a_t + 5), (a_t + 6), (a_t + 7), (a_t + 8), (a_t + 9)] [.inr (2, fsX2 a_t t_many t_ownPart t_crossPart t_pointMany r.1 r.2), RK E 8 (a_t + 13) t_rows, .inr (8, fsX8 (a_t + 2) t_planes_many), IA E 8 t_planes_xs, IA E 8 t_planes_ys, IA E 8 t_planes_zs, .inr (8, fsX8 (a_t + 6) t_steps_many), IA E 8 t_steps_xs, IA E 8 t_steps_ys, IA E 8 t_steps_zs] (fam E (a_t + 13) 8 t_rows_R h)) n (inI r.1 ∧ inI r.2) 0 0) 0 0 n (ov [a_t, (a_t + 1), (a_t + 2), (a_t + 3), (a_t + 4), (a_t + 5), (a_t + 6), (a_t + 7), (a_t + 8), (a_t + 9)] [.inr (2, fsX2 a_t t_many t_ownPart t_crossPart t_pointMany t_wallFirst_ t_wallSize_), RK E 8 (a_t + 13) t_rows, .inr (8, fsX8 (a_t + 2) t_planes_many), IA E 8 t_planes_xs, IA E 8 t_planes_ys, IA E 8 t_planes_zs, .inr (8, fsX8 (a_t + 6) t_steps_many), IA E 8 t_steps_xs, IA E 8 t_steps_ys, IA E 8 t_steps_zs] (fam E (a_t + 13) 8 t_rows_R h)) 89 [none, none, none, none] []) (hs : m_X2_findWall_60 t_many t_wallFirst t_wallSize t_rows t_planes_many t_planes_xs t_planes_ys t_planes_zs t_steps_many t_steps_xs t_steps_ys t_steps_zs t_rows_R v1 v3 s0 ag k_89 = some r) : G l E b0 M_X2_findWall (fun _ => True) (ZM E b0 (none) (ov [a_t, (a_t + 1), (a_t + 2), (a_t + 3), (a_t + 4), (a_t + 5), (a_t + 6), (a_t + 7), (a_t + 8), (a_t + 9)] [.inr (2, fsX2 a_t t_many t_ownPart t_crossPart t_pointMany r.1 r.2), RK E 8 (a_t + 13) t_rows, .inr (8, fsX8 (a_t + 2) t_planes_many), IA E 8 t_planes_xs, IA E 8 t_planes_ys, IA E 8 t_planes_zs, .inr (8, fsX8 (a_t + 6) t_steps_many), IA E 8 t_steps_xs, IA E 8 t_steps_ys, IA E 8 t_steps_zs] (fam E (a_t + 13) 8 t_rows_R h)) n (inI r.1 ∧ inI r.2) 0 0) 0 0 n (ov [a_t, (a_t + 1), (a_t + 2), (a_t + 3), (a_t + 4), (a_t + 5), (a_t + 6), (a_t + 7), (a_t + 8), (a_t + 9)] [.inr (2, fsX2 a_t t_many t_ownPart t_crossPart t_pointMany t_wallFirst t_wallSize), RK E 8 (a_t + 13) t_rows, .inr (8, fsX8 (a_t + 2) t_planes_many), IA E 8 t_planes_xs, IA E 8 t_planes_ys, IA E 8 t_planes_zs, .inr (8, fsX8 (a_t + 6) t_steps_many), IA E 8 t_steps_xs, IA E 8 t_steps_ys, IA E 8 t_steps_zs] (fam E (a_t + 13) 8 t_rows_R h)) 60 [some (.ref a_t), some (vI v1), none, some (vI v3)] [vI s0] := by
  rw [m_X2_findWall_60] at hs
  refine g_istore_n e_X2_findWall_60 st1_2 rfl ?_
  exact g_X2_findWall_61 ao fo ok_t_many ok_t_wallFirst ok_t_wallSize ok_t_rows ok_t_planes_many ok_t_planes_xs ok_t_planes_ys ok_t_planes_zs ok_t_steps_many ok_t_steps_xs ok_t_steps_ys ok_t_steps_zs ok_t_rows_R ok_v1 ok_s0 ok_v3 hag hk_89 hs

noncomputable def m_X2_findWall_59 (t_many : Int) (t_wallFirst : Int) (t_wallSize : Int) (t_rows : Nat → Nat) (t_planes_many : Int) (t_planes_xs : Nat → Int) (t_planes_ys : Nat → Int) (t_planes_zs : Nat → Int) (t_steps_many : Int) (t_steps_xs : Nat → Int) (t_steps_ys : Nat → Int) (t_steps_zs : Nat → Int) (t_rows_R : Nat → RowT) (v1 : Int) (v3 : Int) (ag : Int → Int → Int → Int → Option (Int × Int)) (k_89 : Int → Int → Int → Int → Option (Int × Int)) : Option (Int × Int) :=
  m_X2_findWall_60 t_many t_wallFirst t_wallSize t_rows t_planes_many t_planes_xs t_planes_ys t_planes_zs t_steps_many t_steps_xs t_steps_ys t_steps_zs t_rows_R v1 v3 1 ag k_89

set_option maxRecDepth 10000 in
set_option maxHeartbeats 8000000 in
theorem g_X2_findWall_59 {l : Launch} {E : EE} {b0 n : Nat} {h : AH} {a_t : Nat} {t_many t_ownPart t_crossPart t_pointMany t_wallFirst t_wallSize t_planes_many t_steps_many v1 v3 : Int} {t_planes_xs t_planes_ys t_planes_zs t_steps_xs t_steps_ys t_steps_zs : Nat → Int} {t_rows : Nat → Nat} {t_rows_R : Nat → RowT} {r : Int × Int} {ag : Int → Int → Int → Int → Option (Int × Int)} {k_89 : Int → Int → Int → Int → Option (Int × Int)} (ao : AO b0 n [a_t, (a_t + 1), (a_t + 2), (a_t + 3), (a_t + 4), (a_t + 5), (a_t + 6), (a_t + 7), (a_t + 8), (a_t + 9)]) (fo : FO b0 n [a_t, (a_t + 1), (a_t + 2), (a_t + 3), (a_t + 4), (a_t + 5), (a_t + 6), (a_t + 7), (a_t + 8), (a_t + 9)] (a_t + 13) 8) (ok_t_many : inI t_many) (ok_t_wallFirst : inI t_wallFirst) (ok_t_wallSize : inI t_wallSize) (ok_t_rows : True) (ok_t_planes_many : inI t_planes_many) (ok_t_planes_xs : okA t_planes_xs) (ok_t_planes_ys : okA t_planes_ys) (ok_t_planes_zs : okA t_planes_zs) (ok_t_steps_many : inI t_steps_many) (ok_t_steps_xs : okA t_steps_xs) (ok_t_steps_ys : okA t_steps_ys) (ok_t_steps_zs : okA t_steps_zs) (ok_t_rows_R : okR t_rows_R) (ok_v1 : inI v1) (ok_v3 : inI v3) (hag : ∀ (t_wallFirst_ : Int) (t_wallSize_ : Int) (v2_ : Int) (v3_ : Int), inI t_wallFirst_ → inI t_wallSize_ → inI v2_ → inI v3_ → ag t_wallFirst_ t_wallSize_ v2_ v3_ = some r → G l E b0 M_X2_findWall (fun _ => True) (ZM E b0 (none) (ov [a_t, (a_t + 1), (a_t + 2), (a_t + 3), (a_t + 4), (a_t + 5), (a_t + 6), (a_t + 7), (a_t + 8), (a_t + 9)] [.inr (2, fsX2 a_t t_many t_ownPart t_crossPart t_pointMany r.1 r.2), RK E 8 (a_t + 13) t_rows, .inr (8, fsX8 (a_t + 2) t_planes_many), IA E 8 t_planes_xs, IA E 8 t_planes_ys, IA E 8 t_planes_zs, .inr (8, fsX8 (a_t + 6) t_steps_many), IA E 8 t_steps_xs, IA E 8 t_steps_ys, IA E 8 t_steps_zs] (fam E (a_t + 13) 8 t_rows_R h)) n (inI r.1 ∧ inI r.2) 0 0) 0 0 n (ov [a_t, (a_t + 1), (a_t + 2), (a_t + 3), (a_t + 4), (a_t + 5), (a_t + 6), (a_t + 7), (a_t + 8), (a_t + 9)] [.inr (2, fsX2 a_t t_many t_ownPart t_crossPart t_pointMany t_wallFirst_ t_wallSize_), RK E 8 (a_t + 13) t_rows, .inr (8, fsX8 (a_t + 2) t_planes_many), IA E 8 t_planes_xs, IA E 8 t_planes_ys, IA E 8 t_planes_zs, .inr (8, fsX8 (a_t + 6) t_steps_many), IA E 8 t_steps_xs, IA E 8 t_steps_ys, IA E 8 t_steps_zs] (fam E (a_t + 13) 8 t_rows_R h)) 14 [some (.ref a_t), some (vI v1), some (vI v2_), some (vI v3_)] []) (hk_89 : ∀ (t_wallFirst_ : Int) (t_wallSize_ : Int) (v2_ : Int) (v3_ : Int), inI t_wallFirst_ → inI t_wallSize_ → inI v2_ → inI v3_ → k_89 t_wallFirst_ t_wallSize_ v2_ v3_ = some r → G l E b0 M_X2_findWall (fun _ => True) (ZM E b0 (none) (ov [a_t, (a_t + 1), (a_t + 2), (a_t + 3), (a_t + 4), (a_t + 5), (a_t + 6), (a_t + 7), (a_t + 8), (a_t + 9)] [.inr (2, fsX2 a_t t_many t_ownPart t_crossPart t_pointMany r.1 r.2), RK E 8 (a_t + 13) t_rows, .inr (8, fsX8 (a_t + 2) t_planes_many), IA E 8 t_planes_xs, IA E 8 t_planes_ys, IA E 8 t_planes_zs, .inr (8, fsX8 (a_t + 6) t_steps_many), IA E 8 t_steps_xs, IA E 8 t_steps_ys, IA E 8 t_steps_zs] (fam E (a_t + 13) 8 t_rows_R h)) n (inI r.1 ∧ inI r.2) 0 0) 0 0 n (ov [a_t, (a_t + 1), (a_t + 2), (a_t + 3), (a_t + 4), (a_t + 5), (a_t + 6), (a_t + 7), (a_t + 8), (a_t + 9)] [.inr (2, fsX2 a_t t_many t_ownPart t_crossPart t_pointMany t_wallFirst_ t_wallSize_), RK E 8 (a_t + 13) t_rows, .inr (8, fsX8 (a_t + 2) t_planes_many), IA E 8 t_planes_xs, IA E 8 t_planes_ys, IA E 8 t_planes_zs, .inr (8, fsX8 (a_t + 6) t_steps_many), IA E 8 t_steps_xs, IA E 8 t_steps_ys, IA E 8 t_steps_zs] (fam E (a_t + 13) 8 t_rows_R h)) 89 [none, none, none, none] []) (hs : m_X2_findWall_59 t_many t_wallFirst t_wallSize t_rows t_planes_many t_planes_xs t_planes_ys t_planes_zs t_steps_many t_steps_xs t_steps_ys t_steps_zs t_rows_R v1 v3 ag k_89 = some r) : G l E b0 M_X2_findWall (fun _ => True) (ZM E b0 (none) (ov [a_t, (a_t + 1), (a_t + 2), (a_t + 3), (a_t + 4), (a_t + 5), (a_t + 6), (a_t + 7), (a_t + 8), (a_t + 9)] [.inr (2, fsX2 a_t t_many t_ownPart t_crossPart t_pointMany r.1 r.2), RK E 8 (a_t + 13) t_rows, .inr (8, fsX8 (a_t + 2) t_planes_many), IA E 8 t_planes_xs, IA E 8 t_planes_ys, IA E 8 t_planes_zs, .inr (8, fsX8 (a_t + 6) t_steps_many), IA E 8 t_steps_xs, IA E 8 t_steps_ys, IA E 8 t_steps_zs] (fam E (a_t + 13) 8 t_rows_R h)) n (inI r.1 ∧ inI r.2) 0 0) 0 0 n (ov [a_t, (a_t + 1), (a_t + 2), (a_t + 3), (a_t + 4), (a_t + 5), (a_t + 6), (a_t + 7), (a_t + 8), (a_t + 9)] [.inr (2, fsX2 a_t t_many t_ownPart t_crossPart t_pointMany t_wallFirst t_wallSize), RK E 8 (a_t + 13) t_rows, .inr (8, fsX8 (a_t + 2) t_planes_many), IA E 8 t_planes_xs, IA E 8 t_planes_ys, IA E 8 t_planes_zs, .inr (8, fsX8 (a_t + 6) t_steps_many), IA E 8 t_steps_xs, IA E 8 t_steps_ys, IA E 8 t_steps_zs] (fam E (a_t + 13) 8 t_rows_R h)) 59 [some (.ref a_t), some (vI v1), none, some (vI v3)] [] := by
  rw [m_X2_findWall_59] at hs
  refine g_iconst e_X2_findWall_59 ?_
  exact g_X2_findWall_60 ao fo ok_t_many ok_t_wallFirst ok_t_wallSize ok_t_rows ok_t_planes_many ok_t_planes_xs ok_t_planes_ys ok_t_planes_zs ok_t_steps_many ok_t_steps_xs ok_t_steps_ys ok_t_steps_zs ok_t_rows_R ok_v1 ok_v3 (by decide : inI 1) hag hk_89 hs

noncomputable def m_X2_findWall_14 (t_many : Int) (t_rows : Nat → Nat) (t_planes_many : Int) (t_planes_xs : Nat → Int) (t_planes_ys : Nat → Int) (t_planes_zs : Nat → Int) (t_steps_many : Int) (t_steps_xs : Nat → Int) (t_steps_ys : Nat → Int) (t_steps_zs : Nat → Int) (t_rows_R : Nat → RowT) (v1 : Int) (k_89 : Int → Int → Int → Int → Option (Int × Int)) : Nat → Int → Int → Int → Int → Option (Int × Int)
  | 0, _, _, _, _ => none
  | F + 1, t_wallFirst, t_wallSize, v2, v3 => if t_many ≤ v3 then (some (t_wallFirst, t_wallSize)) else (chk (inB v3 8) (chk (t_rows (Int.toNat v3) < 8) ((m_X6_signAt ((t_rows_R (t_rows (Int.toNat v3))).1) v1).bind (fun y3 => if y3 = 0 then (m_X2_findWall_61 t_many t_wallFirst t_wallSize t_rows t_planes_many t_planes_xs t_planes_ys t_planes_zs t_steps_many t_steps_xs t_steps_ys t_steps_zs t_rows_R v1 0 v3 (m_X2_findWall_14 t_many t_rows t_planes_many t_planes_xs t_planes_ys t_planes_zs t_steps_many t_steps_xs t_steps_ys t_steps_zs t_rows_R v1 k_89 F) k_89) else (if v2 ≤ 0 then (m_X2_findWall_59 t_many t_wallFirst t_wallSize t_rows t_planes_many t_planes_xs t_planes_ys t_planes_zs t_steps_many t_steps_xs t_steps_ys t_steps_zs t_rows_R v1 v3 (m_X2_findWall_14 t_many t_rows t_planes_many t_planes_xs t_planes_ys t_planes_zs t_steps_many t_steps_xs t_steps_ys t_steps_zs t_rows_R v1 k_89 F) k_89) else ((m_X2_goesOn t_many t_rows t_planes_many t_planes_xs t_planes_ys t_planes_zs t_steps_many t_steps_xs t_steps_ys t_steps_zs t_rows_R v3 v1).bind (fun y6 => if y6 = 0 then (m_X2_findWall_59 t_many t_wallFirst t_wallSize t_rows t_planes_many t_planes_xs t_planes_ys t_planes_zs t_steps_many t_steps_xs t_steps_ys t_steps_zs t_rows_R v1 v3 (m_X2_findWall_14 t_many t_rows t_planes_many t_planes_xs t_planes_ys t_planes_zs t_steps_many t_steps_xs t_steps_ys t_steps_zs t_rows_R v1 k_89 F) k_89) else (chk (inI (v2 + 1)) (m_X2_findWall_60 t_many t_wallFirst t_wallSize t_rows t_planes_many t_planes_xs t_planes_ys t_planes_zs t_steps_many t_steps_xs t_steps_ys t_steps_zs t_rows_R v1 v3 (v2 + 1) (m_X2_findWall_14 t_many t_rows t_planes_many t_planes_xs t_planes_ys t_planes_zs t_steps_many t_steps_xs t_steps_ys t_steps_zs t_rows_R v1 k_89 F) k_89)))))))))

set_option maxRecDepth 10000 in
set_option maxHeartbeats 8000000 in
theorem g_X2_findWall_14 {l : Launch} {E : EE} {b0 n : Nat} {h : AH} {a_t : Nat} {t_many t_ownPart t_crossPart t_pointMany t_planes_many t_steps_many v1 : Int} {t_planes_xs t_planes_ys t_planes_zs t_steps_xs t_steps_ys t_steps_zs : Nat → Int} {t_rows : Nat → Nat} {t_rows_R : Nat → RowT} {r : Int × Int} {k_89 : Int → Int → Int → Int → Option (Int × Int)} (ao : AO b0 n [a_t, (a_t + 1), (a_t + 2), (a_t + 3), (a_t + 4), (a_t + 5), (a_t + 6), (a_t + 7), (a_t + 8), (a_t + 9)]) (fo : FO b0 n [a_t, (a_t + 1), (a_t + 2), (a_t + 3), (a_t + 4), (a_t + 5), (a_t + 6), (a_t + 7), (a_t + 8), (a_t + 9)] (a_t + 13) 8) (ok_t_many : inI t_many) (ok_t_rows : True) (ok_t_planes_many : inI t_planes_many) (ok_t_planes_xs : okA t_planes_xs) (ok_t_planes_ys : okA t_planes_ys) (ok_t_planes_zs : okA t_planes_zs) (ok_t_steps_many : inI t_steps_many) (ok_t_steps_xs : okA t_steps_xs) (ok_t_steps_ys : okA t_steps_ys) (ok_t_steps_zs : okA t_steps_zs) (ok_t_rows_R : okR t_rows_R) (ok_v1 : inI v1) (hk_89 : ∀ (t_wallFirst_ : Int) (t_wallSize_ : Int) (v2_ : Int) (v3_ : Int), inI t_wallFirst_ → inI t_wallSize_ → inI v2_ → inI v3_ → k_89 t_wallFirst_ t_wallSize_ v2_ v3_ = some r → G l E b0 M_X2_findWall (fun _ => True) (ZM E b0 (none) (ov [a_t, (a_t + 1), (a_t + 2), (a_t + 3), (a_t + 4), (a_t + 5), (a_t + 6), (a_t + 7), (a_t + 8), (a_t + 9)] [.inr (2, fsX2 a_t t_many t_ownPart t_crossPart t_pointMany r.1 r.2), RK E 8 (a_t + 13) t_rows, .inr (8, fsX8 (a_t + 2) t_planes_many), IA E 8 t_planes_xs, IA E 8 t_planes_ys, IA E 8 t_planes_zs, .inr (8, fsX8 (a_t + 6) t_steps_many), IA E 8 t_steps_xs, IA E 8 t_steps_ys, IA E 8 t_steps_zs] (fam E (a_t + 13) 8 t_rows_R h)) n (inI r.1 ∧ inI r.2) 0 0) 0 0 n (ov [a_t, (a_t + 1), (a_t + 2), (a_t + 3), (a_t + 4), (a_t + 5), (a_t + 6), (a_t + 7), (a_t + 8), (a_t + 9)] [.inr (2, fsX2 a_t t_many t_ownPart t_crossPart t_pointMany t_wallFirst_ t_wallSize_), RK E 8 (a_t + 13) t_rows, .inr (8, fsX8 (a_t + 2) t_planes_many), IA E 8 t_planes_xs, IA E 8 t_planes_ys, IA E 8 t_planes_zs, .inr (8, fsX8 (a_t + 6) t_steps_many), IA E 8 t_steps_xs, IA E 8 t_steps_ys, IA E 8 t_steps_zs] (fam E (a_t + 13) 8 t_rows_R h)) 89 [none, none, none, none] []) :
    ∀ (F : Nat) (t_wallFirst : Int) (t_wallSize : Int) (v2 : Int) (v3 : Int), inI t_wallFirst → inI t_wallSize → inI v2 → inI v3 → m_X2_findWall_14 t_many t_rows t_planes_many t_planes_xs t_planes_ys t_planes_zs t_steps_many t_steps_xs t_steps_ys t_steps_zs t_rows_R v1 k_89 F t_wallFirst t_wallSize v2 v3 = some r → G l E b0 M_X2_findWall (fun _ => True) (ZM E b0 (none) (ov [a_t, (a_t + 1), (a_t + 2), (a_t + 3), (a_t + 4), (a_t + 5), (a_t + 6), (a_t + 7), (a_t + 8), (a_t + 9)] [.inr (2, fsX2 a_t t_many t_ownPart t_crossPart t_pointMany r.1 r.2), RK E 8 (a_t + 13) t_rows, .inr (8, fsX8 (a_t + 2) t_planes_many), IA E 8 t_planes_xs, IA E 8 t_planes_ys, IA E 8 t_planes_zs, .inr (8, fsX8 (a_t + 6) t_steps_many), IA E 8 t_steps_xs, IA E 8 t_steps_ys, IA E 8 t_steps_zs] (fam E (a_t + 13) 8 t_rows_R h)) n (inI r.1 ∧ inI r.2) 0 0) 0 0 n (ov [a_t, (a_t + 1), (a_t + 2), (a_t + 3), (a_t + 4), (a_t + 5), (a_t + 6), (a_t + 7), (a_t + 8), (a_t + 9)] [.inr (2, fsX2 a_t t_many t_ownPart t_crossPart t_pointMany t_wallFirst t_wallSize), RK E 8 (a_t + 13) t_rows, .inr (8, fsX8 (a_t + 2) t_planes_many), IA E 8 t_planes_xs, IA E 8 t_planes_ys, IA E 8 t_planes_zs, .inr (8, fsX8 (a_t + 6) t_steps_many), IA E 8 t_steps_xs, IA E 8 t_steps_ys, IA E 8 t_steps_zs] (fam E (a_t + 13) 8 t_rows_R h)) 14 [some (.ref a_t), some (vI v1), some (vI v2), some (vI v3)] [] := by
  intro F
  induction F with
  | zero =>
    intro t_wallFirst t_wallSize v2 v3 ok_t_wallFirst ok_t_wallSize ok_v2 ok_v3 hs
    rw [m_X2_findWall_14] at hs
    cases hs
  | succ F ih =>
    intro t_wallFirst t_wallSize v2 v3 ok_t_wallFirst ok_t_wallSize ok_v2 ok_v3 hs
    rw [m_X2_findWall_14] at hs
    refine g_iload_n e_X2_findWall_14 rfl ?_
    refine g_aload_n e_X2_findWall_15 rfl ?_
    refine g_get 0 6 ao rfl rfl fsX2_g6 fl_X2_41 e_X2_findWall_16 ?_
    refine g_icmp_ge e_X2_findWall_19 ok_v3 ok_t_many hs (fun c19 hs => ?_) (fun c19 hs => ?_)
    · obtain rfl := Option.some.inj hs
      exact g_vret rfl ⟨ok_t_wallFirst, ok_t_wallSize⟩ e_X2_findWall_89
    · refine g_aload_n e_X2_findWall_22 rfl ?_
      refine g_get 0 0 ao rfl rfl fsX2_g0 fl_X2_11 e_X2_findWall_23 ?_
      refine g_iload_n e_X2_findWall_26 rfl ?_
      refine g_aldF 1 ao rfl rfl (Nat.le_of_ble_eq_true rfl) e_X2_findWall_27 hs (fun hi1 hs => ?_)
      obtain ⟨hc2, hs⟩ := chk_elim hs
      refine g_iload_n e_X2_findWall_28 rfl ?_
      obtain ⟨y3, hy3, hs⟩ := bind_elim hs
      refine g_famO (t_rows (Int.toNat v3)) hc2 rfl ?_
      refine g_callVr [vI v1] cv_X2_99 ⟨rfl, rfl, Nat.le_of_ble_eq_true rfl, Nat.le_of_ble_eq_true rfl⟩ (ct_X6_signAt (a_t := ((a_t + 13) + 4 * (t_rows (Int.toNat v3)))) (AO_call [10, 11] (AO_fam ao fo hc2) (by decide) rfl) (FA_call [10, 11] (AO_fam ao fo hc2).1 rfl rfl) ((ok_t_rows_R (t_rows (Int.toNat v3))).1) ok_v1 hy3) e_X2_findWall_29 ((AO_fam ao fo hc2).2 10 _ rfl) (ov_get 10 (AO_fam ao fo hc2).1 rfl rfl) rfl rfl rfl (Nat.le_of_ble_eq_true rfl) ⟨Nat.le_refl _, Nat.le_refl _⟩ (fun Py3 => ?_)
      refine g_famC0 hc2 rfl ?_
      refine g_if_ne e_X2_findWall_32 Py3 hs (fun c32 hs => ?_) (fun c32 hs => ?_)
      · refine g_iconst e_X2_findWall_35 ?_
        refine g_istore_n e_X2_findWall_36 st1_2 rfl ?_
        refine g_goto e_X2_findWall_37 ?_
        exact g_X2_findWall_61 ao fo ok_t_many ok_t_wallFirst ok_t_wallSize ok_t_rows ok_t_planes_many ok_t_planes_xs ok_t_planes_ys ok_t_planes_zs ok_t_steps_many ok_t_steps_xs ok_t_steps_ys ok_t_steps_zs ok_t_rows_R ok_v1 (by decide : inI 0) ok_v3 ih hk_89 hs
      · refine g_iload_n e_X2_findWall_40 rfl ?_
        refine g_if_le e_X2_findWall_41 ok_v2 hs (fun c41 hs => ?_) (fun c41 hs => ?_)
        · exact g_mask [true, true, false, true] (g_X2_findWall_59 ao fo ok_t_many ok_t_wallFirst ok_t_wallSize ok_t_rows ok_t_planes_many ok_t_planes_xs ok_t_planes_ys ok_t_planes_zs ok_t_steps_many ok_t_steps_xs ok_t_steps_ys ok_t_steps_zs ok_t_rows_R ok_v1 ok_v3 ih hk_89 hs)
        · refine g_aload_n e_X2_findWall_44 rfl ?_
          refine g_iload_n e_X2_findWall_45 rfl ?_
          refine g_iload_n e_X2_findWall_46 rfl ?_
          obtain ⟨y6, hy6, hs⟩ := bind_elim hs
          refine g_callVr [vI v3, vI v1] cv_X2_160 ⟨rfl, rfl, Nat.le_of_ble_eq_true rfl, Nat.le_of_ble_eq_true rfl⟩ (ct_X2_goesOn (a_t := a_t) (AO_call [0, 1, 2, 3, 4, 5, 6, 7, 8, 9] ao (by decide) rfl) (FO_call [0, 1, 2, 3, 4, 5, 6, 7, 8, 9] fo rfl) (FA_call [0, 1, 2, 3, 4, 5, 6, 7, 8, 9] ao.1 rfl rfl) (FF_ov fo) ok_t_many ok_t_rows ok_t_planes_many ok_t_planes_xs ok_t_planes_ys ok_t_planes_zs ok_t_steps_many ok_t_steps_xs ok_t_steps_ys ok_t_steps_zs ok_t_rows_R ok_v3 ok_v1 hy6) e_X2_findWall_47 (ao.2 0 _ rfl) (ov_get 0 ao.1 rfl rfl) rfl rfl rfl (Nat.le_of_ble_eq_true rfl) ⟨Nat.le_refl _, Nat.le_refl _⟩ (fun Py6 => ?_)
          refine g_if_eq e_X2_findWall_50 (inZ_I Py6) hs (fun c50 hs => ?_) (fun c50 hs => ?_)
          · exact g_mask [true, true, false, true] (g_X2_findWall_59 ao fo ok_t_many ok_t_wallFirst ok_t_wallSize ok_t_rows ok_t_planes_many ok_t_planes_xs ok_t_planes_ys ok_t_planes_zs ok_t_steps_many ok_t_steps_xs ok_t_steps_ys ok_t_steps_zs ok_t_rows_R ok_v1 ok_v3 ih hk_89 hs)
          · refine g_iload_n e_X2_findWall_53 rfl ?_
            refine g_iconst e_X2_findWall_54 ?_
            refine g_iadd e_X2_findWall_55 ?_
            refine g_goto e_X2_findWall_56 ?_
            obtain ⟨hc7, hs⟩ := chk_elim hs
            exact g_mask [true, true, false, true] (g_X2_findWall_60 ao fo ok_t_many ok_t_wallFirst ok_t_wallSize ok_t_rows ok_t_planes_many ok_t_planes_xs ok_t_planes_ys ok_t_planes_zs ok_t_steps_many ok_t_steps_xs ok_t_steps_ys ok_t_steps_zs ok_t_rows_R ok_v1 ok_v3 hc7 ih hk_89 hs)

noncomputable def m_X2_findWall_89 (t_wallFirst : Int) (t_wallSize : Int) : Option (Int × Int) :=
  some (t_wallFirst, t_wallSize)

set_option maxRecDepth 10000 in
set_option maxHeartbeats 8000000 in
theorem g_X2_findWall_89 {l : Launch} {E : EE} {b0 n : Nat} {h : AH} {a_t : Nat} {t_many t_ownPart t_crossPart t_pointMany t_wallFirst t_wallSize t_planes_many t_steps_many : Int} {t_planes_xs t_planes_ys t_planes_zs t_steps_xs t_steps_ys t_steps_zs : Nat → Int} {t_rows : Nat → Nat} {t_rows_R : Nat → RowT} {r : Int × Int} (ao : AO b0 n [a_t, (a_t + 1), (a_t + 2), (a_t + 3), (a_t + 4), (a_t + 5), (a_t + 6), (a_t + 7), (a_t + 8), (a_t + 9)]) (fo : FO b0 n [a_t, (a_t + 1), (a_t + 2), (a_t + 3), (a_t + 4), (a_t + 5), (a_t + 6), (a_t + 7), (a_t + 8), (a_t + 9)] (a_t + 13) 8) (ok_t_many : inI t_many) (ok_t_wallFirst : inI t_wallFirst) (ok_t_wallSize : inI t_wallSize) (ok_t_rows : True) (ok_t_planes_many : inI t_planes_many) (ok_t_planes_xs : okA t_planes_xs) (ok_t_planes_ys : okA t_planes_ys) (ok_t_planes_zs : okA t_planes_zs) (ok_t_steps_many : inI t_steps_many) (ok_t_steps_xs : okA t_steps_xs) (ok_t_steps_ys : okA t_steps_ys) (ok_t_steps_zs : okA t_steps_zs) (ok_t_rows_R : okR t_rows_R) (hs : m_X2_findWall_89 t_wallFirst t_wallSize = some r) : G l E b0 M_X2_findWall (fun _ => True) (ZM E b0 (none) (ov [a_t, (a_t + 1), (a_t + 2), (a_t + 3), (a_t + 4), (a_t + 5), (a_t + 6), (a_t + 7), (a_t + 8), (a_t + 9)] [.inr (2, fsX2 a_t t_many t_ownPart t_crossPart t_pointMany r.1 r.2), RK E 8 (a_t + 13) t_rows, .inr (8, fsX8 (a_t + 2) t_planes_many), IA E 8 t_planes_xs, IA E 8 t_planes_ys, IA E 8 t_planes_zs, .inr (8, fsX8 (a_t + 6) t_steps_many), IA E 8 t_steps_xs, IA E 8 t_steps_ys, IA E 8 t_steps_zs] (fam E (a_t + 13) 8 t_rows_R h)) n (inI r.1 ∧ inI r.2) 0 0) 0 0 n (ov [a_t, (a_t + 1), (a_t + 2), (a_t + 3), (a_t + 4), (a_t + 5), (a_t + 6), (a_t + 7), (a_t + 8), (a_t + 9)] [.inr (2, fsX2 a_t t_many t_ownPart t_crossPart t_pointMany t_wallFirst t_wallSize), RK E 8 (a_t + 13) t_rows, .inr (8, fsX8 (a_t + 2) t_planes_many), IA E 8 t_planes_xs, IA E 8 t_planes_ys, IA E 8 t_planes_zs, .inr (8, fsX8 (a_t + 6) t_steps_many), IA E 8 t_steps_xs, IA E 8 t_steps_ys, IA E 8 t_steps_zs] (fam E (a_t + 13) 8 t_rows_R h)) 89 [none, none, none, none] [] := by
  rw [m_X2_findWall_89] at hs
  obtain rfl := Option.some.inj hs
  exact g_vret rfl ⟨ok_t_wallFirst, ok_t_wallSize⟩ e_X2_findWall_89

noncomputable def m_X2_findWall_0 (t_many : Int) (t_wallFirst : Int) (t_wallSize : Int) (t_rows : Nat → Nat) (t_planes_many : Int) (t_planes_xs : Nat → Int) (t_planes_ys : Nat → Int) (t_planes_zs : Nat → Int) (t_steps_many : Int) (t_steps_xs : Nat → Int) (t_steps_ys : Nat → Int) (t_steps_zs : Nat → Int) (t_rows_R : Nat → RowT) (v1 : Int) : Option (Int × Int) :=
  m_X2_findWall_14 t_many t_rows t_planes_many t_planes_xs t_planes_ys t_planes_zs t_steps_many t_steps_xs t_steps_ys t_steps_zs t_rows_R v1 (fun t_wallFirst' t_wallSize' v2' v3' => m_X2_findWall_89 t_wallFirst' t_wallSize') FU 0 0 0 0

set_option maxRecDepth 10000 in
set_option maxHeartbeats 8000000 in
theorem g_X2_findWall_0 {l : Launch} {E : EE} {b0 n : Nat} {h : AH} {a_t : Nat} {t_many t_ownPart t_crossPart t_pointMany t_wallFirst t_wallSize t_planes_many t_steps_many v1 : Int} {t_planes_xs t_planes_ys t_planes_zs t_steps_xs t_steps_ys t_steps_zs : Nat → Int} {t_rows : Nat → Nat} {t_rows_R : Nat → RowT} {r : Int × Int} (ao : AO b0 n [a_t, (a_t + 1), (a_t + 2), (a_t + 3), (a_t + 4), (a_t + 5), (a_t + 6), (a_t + 7), (a_t + 8), (a_t + 9)]) (fo : FO b0 n [a_t, (a_t + 1), (a_t + 2), (a_t + 3), (a_t + 4), (a_t + 5), (a_t + 6), (a_t + 7), (a_t + 8), (a_t + 9)] (a_t + 13) 8) (ok_t_many : inI t_many) (ok_t_wallFirst : inI t_wallFirst) (ok_t_wallSize : inI t_wallSize) (ok_t_rows : True) (ok_t_planes_many : inI t_planes_many) (ok_t_planes_xs : okA t_planes_xs) (ok_t_planes_ys : okA t_planes_ys) (ok_t_planes_zs : okA t_planes_zs) (ok_t_steps_many : inI t_steps_many) (ok_t_steps_xs : okA t_steps_xs) (ok_t_steps_ys : okA t_steps_ys) (ok_t_steps_zs : okA t_steps_zs) (ok_t_rows_R : okR t_rows_R) (ok_v1 : inI v1) (hs : m_X2_findWall_0 t_many t_wallFirst t_wallSize t_rows t_planes_many t_planes_xs t_planes_ys t_planes_zs t_steps_many t_steps_xs t_steps_ys t_steps_zs t_rows_R v1 = some r) : G l E b0 M_X2_findWall (fun _ => True) (ZM E b0 (none) (ov [a_t, (a_t + 1), (a_t + 2), (a_t + 3), (a_t + 4), (a_t + 5), (a_t + 6), (a_t + 7), (a_t + 8), (a_t + 9)] [.inr (2, fsX2 a_t t_many t_ownPart t_crossPart t_pointMany r.1 r.2), RK E 8 (a_t + 13) t_rows, .inr (8, fsX8 (a_t + 2) t_planes_many), IA E 8 t_planes_xs, IA E 8 t_planes_ys, IA E 8 t_planes_zs, .inr (8, fsX8 (a_t + 6) t_steps_many), IA E 8 t_steps_xs, IA E 8 t_steps_ys, IA E 8 t_steps_zs] (fam E (a_t + 13) 8 t_rows_R h)) n (inI r.1 ∧ inI r.2) 0 0) 0 0 n (ov [a_t, (a_t + 1), (a_t + 2), (a_t + 3), (a_t + 4), (a_t + 5), (a_t + 6), (a_t + 7), (a_t + 8), (a_t + 9)] [.inr (2, fsX2 a_t t_many t_ownPart t_crossPart t_pointMany t_wallFirst t_wallSize), RK E 8 (a_t + 13) t_rows, .inr (8, fsX8 (a_t + 2) t_planes_many), IA E 8 t_planes_xs, IA E 8 t_planes_ys, IA E 8 t_planes_zs, .inr (8, fsX8 (a_t + 6) t_steps_many), IA E 8 t_steps_xs, IA E 8 t_steps_ys, IA E 8 t_steps_zs] (fam E (a_t + 13) 8 t_rows_R h)) 0 [some (.ref a_t), some (vI v1), none, none] [] := by
  rw [m_X2_findWall_0] at hs
  refine g_aload_n e_X2_findWall_0 rfl ?_
  refine g_iconst e_X2_findWall_1 ?_
  refine g_put 0 10 ao rfl rfl fsX2_k10 fsX2_s10 ls_0 fw_X2_154 (fun h => by cases h) ⟨rfl, rfl⟩ e_X2_findWall_2 ?_
  refine g_aload_n e_X2_findWall_5 rfl ?_
  refine g_iconst e_X2_findWall_6 ?_
  refine g_put 0 11 ao rfl rfl fsX2_k11 fsX2_s11 ls_0 fw_X2_157 (fun h => by cases h) ⟨rfl, rfl⟩ e_X2_findWall_7 ?_
  refine g_iconst e_X2_findWall_10 ?_
  refine g_istore_n e_X2_findWall_11 st1_2 rfl ?_
  refine g_iconst e_X2_findWall_12 ?_
  refine g_istore_n e_X2_findWall_13 st1_3 rfl ?_
  exact g_X2_findWall_14 ao fo ok_t_many ok_t_rows ok_t_planes_many ok_t_planes_xs ok_t_planes_ys ok_t_planes_zs ok_t_steps_many ok_t_steps_xs ok_t_steps_ys ok_t_steps_zs ok_t_rows_R ok_v1 (hk_89 := by
      intro t_wallFirst' t_wallSize' v2' v3' ok_t_wallFirst' ok_t_wallSize' ok_v2' ok_v3' hs
      exact g_X2_findWall_89 ao fo ok_t_many ok_t_wallFirst' ok_t_wallSize' ok_t_rows ok_t_planes_many ok_t_planes_xs ok_t_planes_ys ok_t_planes_zs ok_t_steps_many ok_t_steps_xs ok_t_steps_ys ok_t_steps_zs ok_t_rows_R hs) FU _ _ _ _ (by decide : inI 0) (by decide : inI 0) (by decide : inI 0) (by decide : inI 0) hs

noncomputable def m_X2_findWall (t_many : Int) (t_wallFirst : Int) (t_wallSize : Int) (t_rows : Nat → Nat) (t_planes_many : Int) (t_planes_xs : Nat → Int) (t_planes_ys : Nat → Int) (t_planes_zs : Nat → Int) (t_steps_many : Int) (t_steps_xs : Nat → Int) (t_steps_ys : Nat → Int) (t_steps_zs : Nat → Int) (t_rows_R : Nat → RowT) (v1 : Int) : Option (Int × Int) := m_X2_findWall_0 t_many t_wallFirst t_wallSize t_rows t_planes_many t_planes_xs t_planes_ys t_planes_zs t_steps_many t_steps_xs t_steps_ys t_steps_zs t_rows_R v1

set_option maxRecDepth 10000 in
set_option maxHeartbeats 8000000 in
theorem ct_X2_findWall {l : Launch} {E : EE} {b0 n : Nat} {h : AH} {a_t : Nat} {t_many t_ownPart t_crossPart t_pointMany t_wallFirst t_wallSize t_planes_many t_steps_many : Int} {t_planes_xs t_planes_ys t_planes_zs t_steps_xs t_steps_ys t_steps_zs : Nat → Int} {t_rows : Nat → Nat} {t_rows_R : Nat → RowT} {v1 : Int} (ao : AO b0 n [a_t, (a_t + 1), (a_t + 2), (a_t + 3), (a_t + 4), (a_t + 5), (a_t + 6), (a_t + 7), (a_t + 8), (a_t + 9)]) (fo : FO b0 n [a_t, (a_t + 1), (a_t + 2), (a_t + 3), (a_t + 4), (a_t + 5), (a_t + 6), (a_t + 7), (a_t + 8), (a_t + 9)] (a_t + 13) 8) (hf : FA h [a_t, (a_t + 1), (a_t + 2), (a_t + 3), (a_t + 4), (a_t + 5), (a_t + 6), (a_t + 7), (a_t + 8), (a_t + 9)] [.inr (2, fsX2 a_t t_many t_ownPart t_crossPart t_pointMany t_wallFirst t_wallSize), RK E 8 (a_t + 13) t_rows, .inr (8, fsX8 (a_t + 2) t_planes_many), IA E 8 t_planes_xs, IA E 8 t_planes_ys, IA E 8 t_planes_zs, .inr (8, fsX8 (a_t + 6) t_steps_many), IA E 8 t_steps_xs, IA E 8 t_steps_ys, IA E 8 t_steps_zs]) (hF : FF E h (a_t + 13) 8 t_rows_R) (ok_t_many : inI t_many) (ok_t_wallFirst : inI t_wallFirst) (ok_t_wallSize : inI t_wallSize) (ok_t_rows : True) (ok_t_planes_many : inI t_planes_many) (ok_t_planes_xs : okA t_planes_xs) (ok_t_planes_ys : okA t_planes_ys) (ok_t_planes_zs : okA t_planes_zs) (ok_t_steps_many : inI t_steps_many) (ok_t_steps_xs : okA t_steps_xs) (ok_t_steps_ys : okA t_steps_ys) (ok_t_steps_zs : okA t_steps_zs) (ok_t_rows_R : okR t_rows_R) (ok_v1 : inI v1) {r : Int × Int} (hm : m_X2_findWall t_many t_wallFirst t_wallSize t_rows t_planes_many t_planes_xs t_planes_ys t_planes_zs t_steps_many t_steps_xs t_steps_ys t_steps_zs t_rows_R v1 = some r) : Ct l E b0 M_X2_findWall 0 0 [.ref a_t, vI v1] h n (none) (ov [a_t, (a_t + 1), (a_t + 2), (a_t + 3), (a_t + 4), (a_t + 5), (a_t + 6), (a_t + 7), (a_t + 8), (a_t + 9)] [.inr (2, fsX2 a_t t_many t_ownPart t_crossPart t_pointMany r.1 r.2), RK E 8 (a_t + 13) t_rows, .inr (8, fsX8 (a_t + 2) t_planes_many), IA E 8 t_planes_xs, IA E 8 t_planes_ys, IA E 8 t_planes_zs, .inr (8, fsX8 (a_t + 6) t_steps_many), IA E 8 t_steps_xs, IA E 8 t_steps_ys, IA E 8 t_steps_zs] h) n (inI r.1 ∧ inI r.2) := by
  rw [m_X2_findWall] at hm
  have hg : G l E b0 M_X2_findWall (fun _ => True) (ZM E b0 (none) (ov [a_t, (a_t + 1), (a_t + 2), (a_t + 3), (a_t + 4), (a_t + 5), (a_t + 6), (a_t + 7), (a_t + 8), (a_t + 9)] [.inr (2, fsX2 a_t t_many t_ownPart t_crossPart t_pointMany r.1 r.2), RK E 8 (a_t + 13) t_rows, .inr (8, fsX8 (a_t + 2) t_planes_many), IA E 8 t_planes_xs, IA E 8 t_planes_ys, IA E 8 t_planes_zs, .inr (8, fsX8 (a_t + 6) t_steps_many), IA E 8 t_steps_xs, IA E 8 t_steps_ys, IA E 8 t_steps_zs] (fam E (a_t + 13) 8 t_rows_R h)) n (inI r.1 ∧ inI r.2) 0 0) 0 0 n (ov [a_t, (a_t + 1), (a_t + 2), (a_t + 3), (a_t + 4), (a_t + 5), (a_t + 6), (a_t + 7), (a_t + 8), (a_t + 9)] [.inr (2, fsX2 a_t t_many t_ownPart t_crossPart t_pointMany t_wallFirst t_wallSize), RK E 8 (a_t + 13) t_rows, .inr (8, fsX8 (a_t + 2) t_planes_many), IA E 8 t_planes_xs, IA E 8 t_planes_ys, IA E 8 t_planes_zs, .inr (8, fsX8 (a_t + 6) t_steps_many), IA E 8 t_steps_xs, IA E 8 t_steps_ys, IA E 8 t_steps_zs] (fam E (a_t + 13) 8 t_rows_R h)) 0 [some (.ref a_t), some (vI v1), none, none] [] := by
    have hs := hm
    exact g_X2_findWall_0 ao fo ok_t_many ok_t_wallFirst ok_t_wallSize ok_t_rows ok_t_planes_many ok_t_planes_xs ok_t_planes_ys ok_t_planes_zs ok_t_steps_many ok_t_steps_xs ok_t_steps_ys ok_t_steps_zs ok_t_rows_R ok_v1 hs
  rw [FF_id hF] at hg
  rw [FA_id hf] at hg
  exact Ct_of [some (.ref a_t), some (vI v1), none, none] ⟨by decide +kernel, rfl⟩ rfl (Nat.le_of_ble_eq_true rfl) hg

/-! ===== X2_tickAll ===== -/
theorem e_X2_tickAll_0 : DC cX2_tickAll 0 (.iconst 0) 1 1 := ⟨by decide +kernel, rfl⟩
theorem e_X2_tickAll_1 : DC cX2_tickAll 1 (.istore_n 3) 1 2 := ⟨by decide +kernel, rfl⟩
theorem e_X2_tickAll_2 : DC cX2_tickAll 2 (.iload_n 3) 1 3 := ⟨by decide +kernel, rfl⟩
theorem e_X2_tickAll_3 : DC cX2_tickAll 3 (.aload_n 0) 1 4 := ⟨by decide +kernel, rfl⟩
theorem e_X2_tickAll_4 : DC cX2_tickAll 4 (.getfield 41) 3 7 := ⟨by decide +kernel, rfl⟩
theorem e_X2_tickAll_7 : DB cX2_tickAll 7 (.if_icmp .ge 20) (20) 3 10 27 := ⟨by decide +kernel, rfl, rfl⟩
theorem e_X2_tickAll_10 : DC cX2_tickAll 10 (.aload_n 0) 1 11 := ⟨by decide +kernel, rfl⟩
theorem e_X2_tickAll_11 : DC cX2_tickAll 11 (.getfield 29) 3 14 := ⟨by decide +kernel, rfl⟩
theorem e_X2_tickAll_14 : DC cX2_tickAll 14 (.iload_n 3) 1 15 := ⟨by decide +kernel, rfl⟩
theorem e_X2_tickAll_15 : DC cX2_tickAll 15 (.aload_n 0) 1 16 := ⟨by decide +kernel, rfl⟩
theorem e_X2_tickAll_16 : DC cX2_tickAll 16 (.iload_n 3) 1 17 := ⟨by decide +kernel, rfl⟩
theorem e_X2_tickAll_17 : DC cX2_tickAll 17 (.invokevirtual 86) 3 20 := ⟨by decide +kernel, rfl⟩
theorem e_X2_tickAll_20 : DC cX2_tickAll 20 (.lastore) 1 21 := ⟨by decide +kernel, rfl⟩
theorem e_X2_tickAll_21 : DC cX2_tickAll 21 (.iinc 3 1) 3 24 := ⟨by decide +kernel, rfl⟩
theorem e_X2_tickAll_24 : DB cX2_tickAll 24 (.goto (-22)) (-22) 3 27 2 := ⟨by decide +kernel, rfl, rfl⟩
theorem e_X2_tickAll_27 : DC cX2_tickAll 27 (.iconst 0) 1 28 := ⟨by decide +kernel, rfl⟩
theorem e_X2_tickAll_28 : DC cX2_tickAll 28 (.istore_n 3) 1 29 := ⟨by decide +kernel, rfl⟩
theorem e_X2_tickAll_29 : DC cX2_tickAll 29 (.iconst 0) 1 30 := ⟨by decide +kernel, rfl⟩
theorem e_X2_tickAll_30 : DC cX2_tickAll 30 (.istore 4) 2 32 := ⟨by decide +kernel, rfl⟩
theorem e_X2_tickAll_32 : DC cX2_tickAll 32 (.iload 4) 2 34 := ⟨by decide +kernel, rfl⟩
theorem e_X2_tickAll_34 : DC cX2_tickAll 34 (.aload_n 0) 1 35 := ⟨by decide +kernel, rfl⟩
theorem e_X2_tickAll_35 : DC cX2_tickAll 35 (.getfield 41) 3 38 := ⟨by decide +kernel, rfl⟩
theorem e_X2_tickAll_38 : DB cX2_tickAll 38 (.if_icmp .ge 40) (40) 3 41 78 := ⟨by decide +kernel, rfl, rfl⟩
theorem e_X2_tickAll_41 : DC cX2_tickAll 41 (.aload_n 0) 1 42 := ⟨by decide +kernel, rfl⟩
theorem e_X2_tickAll_42 : DC cX2_tickAll 42 (.getfield 11) 3 45 := ⟨by decide +kernel, rfl⟩
theorem e_X2_tickAll_45 : DC cX2_tickAll 45 (.iload 4) 2 47 := ⟨by decide +kernel, rfl⟩
theorem e_X2_tickAll_47 : DC cX2_tickAll 47 (.aaload) 1 48 := ⟨by decide +kernel, rfl⟩
theorem e_X2_tickAll_48 : DC cX2_tickAll 48 (.aload_n 1) 1 49 := ⟨by decide +kernel, rfl⟩
theorem e_X2_tickAll_49 : DC cX2_tickAll 49 (.aload_n 0) 1 50 := ⟨by decide +kernel, rfl⟩
theorem e_X2_tickAll_50 : DC cX2_tickAll 50 (.getfield 33) 3 53 := ⟨by decide +kernel, rfl⟩
theorem e_X2_tickAll_53 : DC cX2_tickAll 53 (.iload 4) 2 55 := ⟨by decide +kernel, rfl⟩
theorem e_X2_tickAll_55 : DC cX2_tickAll 55 (.iaload) 1 56 := ⟨by decide +kernel, rfl⟩
theorem e_X2_tickAll_56 : DC cX2_tickAll 56 (.iload_n 2) 1 57 := ⟨by decide +kernel, rfl⟩
theorem e_X2_tickAll_57 : DC cX2_tickAll 57 (.aload_n 0) 1 58 := ⟨by decide +kernel, rfl⟩
theorem e_X2_tickAll_58 : DC cX2_tickAll 58 (.getfield 29) 3 61 := ⟨by decide +kernel, rfl⟩
theorem e_X2_tickAll_61 : DC cX2_tickAll 61 (.iload 4) 2 63 := ⟨by decide +kernel, rfl⟩
theorem e_X2_tickAll_63 : DC cX2_tickAll 63 (.laload) 1 64 := ⟨by decide +kernel, rfl⟩
theorem e_X2_tickAll_64 : DC cX2_tickAll 64 (.invokevirtual 127) 3 67 := ⟨by decide +kernel, rfl⟩
theorem e_X2_tickAll_67 : DB cX2_tickAll 67 (.ifCond .eq 5) (5) 3 70 72 := ⟨by decide +kernel, rfl, rfl⟩
theorem e_X2_tickAll_70 : DC cX2_tickAll 70 (.iconst 1) 1 71 := ⟨by decide +kernel, rfl⟩
theorem e_X2_tickAll_71 : DC cX2_tickAll 71 (.istore_n 3) 1 72 := ⟨by decide +kernel, rfl⟩
theorem e_X2_tickAll_72 : DC cX2_tickAll 72 (.iinc 4 1) 3 75 := ⟨by decide +kernel, rfl⟩
theorem e_X2_tickAll_75 : DB cX2_tickAll 75 (.goto (-43)) (-43) 3 78 32 := ⟨by decide +kernel, rfl, rfl⟩
theorem e_X2_tickAll_78 : DC cX2_tickAll 78 (.iload_n 3) 1 79 := ⟨by decide +kernel, rfl⟩
theorem e_X2_tickAll_79 : DC cX2_tickAll 79 (.ireturn) 1 80 := ⟨by decide +kernel, rfl⟩
noncomputable def m_X2_tickAll_2 (t_many : Int) (t_ownPart : Int) (t_crossPart : Int) (t_rows : Nat → Nat) (t_rows_R : Nat → RowT) (k_27 : (Nat → Int) → Int → Option (Int × (Nat → Int) × (Nat → RowT))) : Nat → (Nat → Int) → Int → Option (Int × (Nat → Int) × (Nat → RowT))
  | 0, _, _ => none
  | F + 1, t_hardnesses, v3 => if t_many ≤ v3 then (k_27 t_hardnesses v3) else ((m_X2_hardnessOf t_many t_ownPart t_crossPart t_rows t_rows_R v3).bind (fun y1 => chk (inB v3 8) (chk (inI (v3 + 1)) (m_X2_tickAll_2 t_many t_ownPart t_crossPart t_rows t_rows_R k_27 F (up t_hardnesses (Int.toNat v3) y1) (v3 + 1)))))

set_option maxRecDepth 10000 in
set_option maxHeartbeats 8000000 in
theorem g_X2_tickAll_2 {l : Launch} {E : EE} {b0 n : Nat} {h : AH} {a_t a_p1 : Nat} {t_many t_ownPart t_crossPart t_pointMany t_wallFirst t_wallSize p1_speckMany p1_sourceMany p1_baseTold p1_baseLow p1_baseHigh p1_reach v2 : Int} {t_forces p1_pushes p1_lows p1_highs p1_sourceHolds p1_sources : Nat → Int} {t_rows : Nat → Nat} {t_rows_R : Nat → RowT} {r : Int × (Nat → Int) × (Nat → RowT)} {k_27 : (Nat → Int) → Int → Option (Int × (Nat → Int) × (Nat → RowT))} (ao : AO b0 n [a_t, (a_t + 1), (a_t + 10), (a_t + 11), a_p1, (a_p1 + 1), (a_p1 + 3), (a_p1 + 4), (a_p1 + 6), (a_p1 + 8)]) (fo : FO b0 n [a_t, (a_t + 1), (a_t + 10), (a_t + 11), a_p1, (a_p1 + 1), (a_p1 + 3), (a_p1 + 4), (a_p1 + 6), (a_p1 + 8)] (a_t + 13) 8) (ok_t_many : inI t_many) (ok_t_ownPart : inI t_ownPart) (ok_t_crossPart : inI t_crossPart) (ok_t_rows : True) (ok_t_forces : okA t_forces) (ok_p1_sourceMany : inI p1_sourceMany) (ok_p1_reach : inI p1_reach) (ok_p1_pushes : okA p1_pushes) (ok_p1_lows : okA p1_lows) (ok_p1_highs : okA p1_highs) (ok_p1_sourceHolds : okA p1_sourceHolds) (ok_p1_sources : okA p1_sources) (ok_t_rows_R : okR t_rows_R) (ok_v2 : inI v2) (hk_27 : ∀ (t_hardnesses_ : Nat → Int) (v3_ : Int), okJ t_hardnesses_ → inI v3_ → k_27 t_hardnesses_ v3_ = some r → G l E b0 M_X2_tickAll (fun _ => True) (ZM E b0 (some (vI r.1)) (ov [a_t, (a_t + 1), (a_t + 10), (a_t + 11), a_p1, (a_p1 + 1), (a_p1 + 3), (a_p1 + 4), (a_p1 + 6), (a_p1 + 8)] [.inr (2, fsX2 a_t t_many t_ownPart t_crossPart t_pointMany t_wallFirst t_wallSize), RK E 8 (a_t + 13) t_rows, JA E 8 r.2.1, IA E 8 t_forces, .inr (3, fsX3 a_p1 p1_speckMany p1_sourceMany p1_baseTold p1_baseLow p1_baseHigh p1_reach), IA E 21 p1_pushes, IA E 100 p1_lows, IA E 100 p1_highs, IA E 100 p1_sourceHolds, IA E 5 p1_sources] (fam E (a_t + 13) 8 r.2.2 h)) n (inZ r.1 ∧ okJ r.2.1 ∧ okR r.2.2) 0 0) 0 0 n (ov [a_t, (a_t + 1), (a_t + 10), (a_t + 11), a_p1, (a_p1 + 1), (a_p1 + 3), (a_p1 + 4), (a_p1 + 6), (a_p1 + 8)] [.inr (2, fsX2 a_t t_many t_ownPart t_crossPart t_pointMany t_wallFirst t_wallSize), RK E 8 (a_t + 13) t_rows, JA E 8 t_hardnesses_, IA E 8 t_forces, .inr (3, fsX3 a_p1 p1_speckMany p1_sourceMany p1_baseTold p1_baseLow p1_baseHigh p1_reach), IA E 21 p1_pushes, IA E 100 p1_lows, IA E 100 p1_highs, IA E 100 p1_sourceHolds, IA E 5 p1_sources] (fam E (a_t + 13) 8 t_rows_R h)) 27 [some (.ref a_t), some (.ref a_p1), some (vI v2), none, none] []) :
    ∀ (F : Nat) (t_hardnesses : Nat → Int) (v3 : Int), okJ t_hardnesses → inI v3 → m_X2_tickAll_2 t_many t_ownPart t_crossPart t_rows t_rows_R k_27 F t_hardnesses v3 = some r → G l E b0 M_X2_tickAll (fun _ => True) (ZM E b0 (some (vI r.1)) (ov [a_t, (a_t + 1), (a_t + 10), (a_t + 11), a_p1, (a_p1 + 1), (a_p1 + 3), (a_p1 + 4), (a_p1 + 6), (a_p1 + 8)] [.inr (2, fsX2 a_t t_many t_ownPart t_crossPart t_pointMany t_wallFirst t_wallSize), RK E 8 (a_t + 13) t_rows, JA E 8 r.2.1, IA E 8 t_forces, .inr (3, fsX3 a_p1 p1_speckMany p1_sourceMany p1_baseTold p1_baseLow p1_baseHigh p1_reach), IA E 21 p1_pushes, IA E 100 p1_lows, IA E 100 p1_highs, IA E 100 p1_sourceHolds, IA E 5 p1_sources] (fam E (a_t + 13) 8 r.2.2 h)) n (inZ r.1 ∧ okJ r.2.1 ∧ okR r.2.2) 0 0) 0 0 n (ov [a_t, (a_t + 1), (a_t + 10), (a_t + 11), a_p1, (a_p1 + 1), (a_p1 + 3), (a_p1 + 4), (a_p1 + 6), (a_p1 + 8)] [.inr (2, fsX2 a_t t_many t_ownPart t_crossPart t_pointMany t_wallFirst t_wallSize), RK E 8 (a_t + 13) t_rows, JA E 8 t_hardnesses, IA E 8 t_forces, .inr (3, fsX3 a_p1 p1_speckMany p1_sourceMany p1_baseTold p1_baseLow p1_baseHigh p1_reach), IA E 21 p1_pushes, IA E 100 p1_lows, IA E 100 p1_highs, IA E 100 p1_sourceHolds, IA E 5 p1_sources] (fam E (a_t + 13) 8 t_rows_R h)) 2 [some (.ref a_t), some (.ref a_p1), some (vI v2), some (vI v3), none] [] := by
  intro F
  induction F with
  | zero =>
    intro t_hardnesses v3 ok_t_hardnesses ok_v3 hs
    rw [m_X2_tickAll_2] at hs
    cases hs
  | succ F ih =>
    intro t_hardnesses v3 ok_t_hardnesses ok_v3 hs
    rw [m_X2_tickAll_2] at hs
    refine g_iload_n e_X2_tickAll_2 rfl ?_
    refine g_aload_n e_X2_tickAll_3 rfl ?_
    refine g_get 0 6 ao rfl rfl fsX2_g6 fl_X2_41 e_X2_tickAll_4 ?_
    refine g_icmp_ge e_X2_tickAll_7 ok_v3 ok_t_many hs (fun c7 hs => ?_) (fun c7 hs => ?_)
    · exact g_mask [true, true, true, false, true] (hk_27 _ _ ok_t_hardnesses ok_v3 hs)
    · refine g_aload_n e_X2_tickAll_10 rfl ?_
      refine g_get 0 3 ao rfl rfl fsX2_g3 fl_X2_29 e_X2_tickAll_11 ?_
      refine g_iload_n e_X2_tickAll_14 rfl ?_
      refine g_aload_n e_X2_tickAll_15 rfl ?_
      refine g_iload_n e_X2_tickAll_16 rfl ?_
      obtain ⟨y1, hy1, hs⟩ := bind_elim hs
      refine g_callVr [vI v3] cv_X2_86 ⟨rfl, rfl, Nat.le_of_ble_eq_true rfl, Nat.le_of_ble_eq_true rfl⟩ (ct_X2_hardnessOf (a_t := a_t) (AO_call [0, 1] ao (by decide) rfl) (FO_call [0, 1] fo rfl) (FA_call [0, 1] ao.1 rfl rfl) (FF_ov fo) ok_t_many ok_t_ownPart ok_t_crossPart ok_t_rows ok_t_rows_R ok_v3 hy1) e_X2_tickAll_17 (ao.2 0 _ rfl) (ov_get 0 ao.1 rfl rfl) rfl rfl rfl (Nat.le_of_ble_eq_true rfl) ⟨Nat.le_refl _, Nat.le_refl _⟩ (fun Py1 => ?_)
      refine g_last 2 ao rfl rfl ls_2 (Nat.le_of_ble_eq_true rfl) e_X2_tickAll_20 hs (fun hi2 hs => ?_)
      refine g_iinc e_X2_tickAll_21 rfl st1_3 rfl ?_
      refine g_goto e_X2_tickAll_24 ?_
      obtain ⟨hc3, hs⟩ := chk_elim hs
      exact ih _ _ (okJ_up ok_t_hardnesses Py1) hc3 hs

noncomputable def m_X2_tickAll_72 (t_many : Int) (t_rows : Nat → Nat) (t_hardnesses : Nat → Int) (t_forces : Nat → Int) (p1_sourceMany : Int) (p1_reach : Int) (p1_pushes : Nat → Int) (p1_lows : Nat → Int) (p1_highs : Nat → Int) (p1_sourceHolds : Nat → Int) (p1_sources : Nat → Int) (t_rows_R : Nat → RowT) (v2 : Int) (v3 : Int) (v4 : Int) (ag : (Nat → RowT) → Int → Int → Option (Int × (Nat → Int) × (Nat → RowT))) (k_78 : (Nat → RowT) → Int → Int → Option (Int × (Nat → Int) × (Nat → RowT))) : Option (Int × (Nat → Int) × (Nat → RowT)) :=
  chk (inI (v4 + 1)) (ag t_rows_R v3 (v4 + 1))

set_option maxRecDepth 10000 in
set_option maxHeartbeats 8000000 in
theorem g_X2_tickAll_72 {l : Launch} {E : EE} {b0 n : Nat} {h : AH} {a_t a_p1 : Nat} {t_many t_ownPart t_crossPart t_pointMany t_wallFirst t_wallSize p1_speckMany p1_sourceMany p1_baseTold p1_baseLow p1_baseHigh p1_reach v2 v3 v4 : Int} {t_hardnesses t_forces p1_pushes p1_lows p1_highs p1_sourceHolds p1_sources : Nat → Int} {t_rows : Nat → Nat} {t_rows_R : Nat → RowT} {r : Int × (Nat → Int) × (Nat → RowT)} {ag : (Nat → RowT) → Int → Int → Option (Int × (Nat → Int) × (Nat → RowT))} {k_78 : (Nat → RowT) → Int → Int → Option (Int × (Nat → Int) × (Nat → RowT))} (ao : AO b0 n [a_t, (a_t + 1), (a_t + 10), (a_t + 11), a_p1, (a_p1 + 1), (a_p1 + 3), (a_p1 + 4), (a_p1 + 6), (a_p1 + 8)]) (fo : FO b0 n [a_t, (a_t + 1), (a_t + 10), (a_t + 11), a_p1, (a_p1 + 1), (a_p1 + 3), (a_p1 + 4), (a_p1 + 6), (a_p1 + 8)] (a_t + 13) 8) (ok_t_many : inI t_many) (ok_t_ownPart : inI t_ownPart) (ok_t_crossPart : inI t_crossPart) (ok_t_rows : True) (ok_t_hardnesses : okJ t_hardnesses) (ok_t_forces : okA t_forces) (ok_p1_sourceMany : inI p1_sourceMany) (ok_p1_reach : inI p1_reach) (ok_p1_pushes : okA p1_pushes) (ok_p1_lows : okA p1_lows) (ok_p1_highs : okA p1_highs) (ok_p1_sourceHolds : okA p1_sourceHolds) (ok_p1_sources : okA p1_sources) (ok_t_rows_R : okR t_rows_R) (ok_v2 : inI v2) (ok_v3 : inZ v3) (ok_v4 : inI v4) (hag : ∀ (t_rows_R_ : Nat → RowT) (v3_ : Int) (v4_ : Int), okR t_rows_R_ → inZ v3_ → inI v4_ → ag t_rows_R_ v3_ v4_ = some r → G l E b0 M_X2_tickAll (fun _ => True) (ZM E b0 (some (vI r.1)) (ov [a_t, (a_t + 1), (a_t + 10), (a_t + 11), a_p1, (a_p1 + 1), (a_p1 + 3), (a_p1 + 4), (a_p1 + 6), (a_p1 + 8)] [.inr (2, fsX2 a_t t_many t_ownPart t_crossPart t_pointMany t_wallFirst t_wallSize), RK E 8 (a_t + 13) t_rows, JA E 8 r.2.1, IA E 8 t_forces, .inr (3, fsX3 a_p1 p1_speckMany p1_sourceMany p1_baseTold p1_baseLow p1_baseHigh p1_reach), IA E 21 p1_pushes, IA E 100 p1_lows, IA E 100 p1_highs, IA E 100 p1_sourceHolds, IA E 5 p1_sources] (fam E (a_t + 13) 8 r.2.2 h)) n (inZ r.1 ∧ okJ r.2.1 ∧ okR r.2.2) 0 0) 0 0 n (ov [a_t, (a_t + 1), (a_t + 10), (a_t + 11), a_p1, (a_p1 + 1), (a_p1 + 3), (a_p1 + 4), (a_p1 + 6), (a_p1 + 8)] [.inr (2, fsX2 a_t t_many t_ownPart t_crossPart t_pointMany t_wallFirst t_wallSize), RK E 8 (a_t + 13) t_rows, JA E 8 t_hardnesses, IA E 8 t_forces, .inr (3, fsX3 a_p1 p1_speckMany p1_sourceMany p1_baseTold p1_baseLow p1_baseHigh p1_reach), IA E 21 p1_pushes, IA E 100 p1_lows, IA E 100 p1_highs, IA E 100 p1_sourceHolds, IA E 5 p1_sources] (fam E (a_t + 13) 8 t_rows_R_ h)) 32 [some (.ref a_t), some (.ref a_p1), some (vI v2), some (vI v3_), some (vI v4_)] []) (hk_78 : ∀ (t_rows_R_ : Nat → RowT) (v3_ : Int) (v4_ : Int), okR t_rows_R_ → inZ v3_ → inI v4_ → k_78 t_rows_R_ v3_ v4_ = some r → G l E b0 M_X2_tickAll (fun _ => True) (ZM E b0 (some (vI r.1)) (ov [a_t, (a_t + 1), (a_t + 10), (a_t + 11), a_p1, (a_p1 + 1), (a_p1 + 3), (a_p1 + 4), (a_p1 + 6), (a_p1 + 8)] [.inr (2, fsX2 a_t t_many t_ownPart t_crossPart t_pointMany t_wallFirst t_wallSize), RK E 8 (a_t + 13) t_rows, JA E 8 r.2.1, IA E 8 t_forces, .inr (3, fsX3 a_p1 p1_speckMany p1_sourceMany p1_baseTold p1_baseLow p1_baseHigh p1_reach), IA E 21 p1_pushes, IA E 100 p1_lows, IA E 100 p1_highs, IA E 100 p1_sourceHolds, IA E 5 p1_sources] (fam E (a_t + 13) 8 r.2.2 h)) n (inZ r.1 ∧ okJ r.2.1 ∧ okR r.2.2) 0 0) 0 0 n (ov [a_t, (a_t + 1), (a_t + 10), (a_t + 11), a_p1, (a_p1 + 1), (a_p1 + 3), (a_p1 + 4), (a_p1 + 6), (a_p1 + 8)] [.inr (2, fsX2 a_t t_many t_ownPart t_crossPart t_pointMany t_wallFirst t_wallSize), RK E 8 (a_t + 13) t_rows, JA E 8 t_hardnesses, IA E 8 t_forces, .inr (3, fsX3 a_p1 p1_speckMany p1_sourceMany p1_baseTold p1_baseLow p1_baseHigh p1_reach), IA E 21 p1_pushes, IA E 100 p1_lows, IA E 100 p1_highs, IA E 100 p1_sourceHolds, IA E 5 p1_sources] (fam E (a_t + 13) 8 t_rows_R_ h)) 78 [none, none, none, some (vI v3_), none] []) (hs : m_X2_tickAll_72 t_many t_rows t_hardnesses t_forces p1_sourceMany p1_reach p1_pushes p1_lows p1_highs p1_sourceHolds p1_sources t_rows_R v2 v3 v4 ag k_78 = some r) : G l E b0 M_X2_tickAll (fun _ => True) (ZM E b0 (some (vI r.1)) (ov [a_t, (a_t + 1), (a_t + 10), (a_t + 11), a_p1, (a_p1 + 1), (a_p1 + 3), (a_p1 + 4), (a_p1 + 6), (a_p1 + 8)] [.inr (2, fsX2 a_t t_many t_ownPart t_crossPart t_pointMany t_wallFirst t_wallSize), RK E 8 (a_t + 13) t_rows, JA E 8 r.2.1, IA E 8 t_forces, .inr (3, fsX3 a_p1 p1_speckMany p1_sourceMany p1_baseTold p1_baseLow p1_baseHigh p1_reach), IA E 21 p1_pushes, IA E 100 p1_lows, IA E 100 p1_highs, IA E 100 p1_sourceHolds, IA E 5 p1_sources] (fam E (a_t + 13) 8 r.2.2 h)) n (inZ r.1 ∧ okJ r.2.1 ∧ okR r.2.2) 0 0) 0 0 n (ov [a_t, (a_t + 1), (a_t + 10), (a_t + 11), a_p1, (a_p1 + 1), (a_p1 + 3), (a_p1 + 4), (a_p1 + 6), (a_p1 + 8)] [.inr (2, fsX2 a_t t_many t_ownPart t_crossPart t_pointMany t_wallFirst t_wallSize), RK E 8 (a_t + 13) t_rows, JA E 8 t_hardnesses, IA E 8 t_forces, .inr (3, fsX3 a_p1 p1_speckMany p1_sourceMany p1_baseTold p1_baseLow p1_baseHigh p1_reach), IA E 21 p1_pushes, IA E 100 p1_lows, IA E 100 p1_highs, IA E 100 p1_sourceHolds, IA E 5 p1_sources] (fam E (a_t + 13) 8 t_rows_R h)) 72 [some (.ref a_t), some (.ref a_p1), some (vI v2), some (vI v3), some (vI v4)] [] := by
  rw [m_X2_tickAll_72] at hs
  refine g_iinc e_X2_tickAll_72 rfl st1_4 rfl ?_
  refine g_goto e_X2_tickAll_75 ?_
  obtain ⟨hc9, hs⟩ := chk_elim hs
  exact hag _ _ _ ok_t_rows_R ok_v3 hc9 hs

noncomputable def m_X2_tickAll_32 (t_many : Int) (t_rows : Nat → Nat) (t_hardnesses : Nat → Int) (t_forces : Nat → Int) (p1_sourceMany : Int) (p1_reach : Int) (p1_pushes : Nat → Int) (p1_lows : Nat → Int) (p1_highs : Nat → Int) (p1_sourceHolds : Nat → Int) (p1_sources : Nat → Int) (v2 : Int) (k_78 : (Nat → RowT) → Int → Int → Option (Int × (Nat → Int) × (Nat → RowT))) : Nat → (Nat → RowT) → Int → Int → Option (Int × (Nat → Int) × (Nat → RowT))
  | 0, _, _, _ => none
  | F + 1, t_rows_R, v3, v4 => if t_many ≤ v4 then (some (v3, t_hardnesses, t_rows_R)) else (chk (inB v4 8) (chk (t_rows (Int.toNat v4) < 8) (chk (inB v4 8) (chk (inB v4 8) ((m_X6_tick ((t_rows_R (t_rows (Int.toNat v4))).2.2.2.1) ((t_rows_R (t_rows (Int.toNat v4))).2.2.2.2.1) ((t_rows_R (t_rows (Int.toNat v4))).2.2.2.2.2.1) ((t_rows_R (t_rows (Int.toNat v4))).2.2.2.2.2.2.1) ((t_rows_R (t_rows (Int.toNat v4))).2.2.2.2.2.2.2.1) ((t_rows_R (t_rows (Int.toNat v4))).2.2.2.2.2.2.2.2.1) ((t_rows_R (t_rows (Int.toNat v4))).2.2.2.2.2.2.2.2.2) ((t_rows_R (t_rows (Int.toNat v4))).1) ((t_rows_R (t_rows (Int.toNat v4))).2.1) ((t_rows_R (t_rows (Int.toNat v4))).2.2.1) p1_sourceMany p1_reach p1_pushes p1_lows p1_highs p1_sourceHolds p1_sources (t_forces (Int.toNat v4)) v2 (t_hardnesses (Int.toNat v4))).bind (fun y8 => if y8.1 = 0 then (m_X2_tickAll_72 t_many t_rows t_hardnesses t_forces p1_sourceMany p1_reach p1_pushes p1_lows p1_highs p1_sourceHolds p1_sources (up t_rows_R (t_rows (Int.toNat v4)) (y8.2.2.2.2.2.2.2.2.1, y8.2.2.2.2.2.2.2.2.2.1, y8.2.2.2.2.2.2.2.2.2.2, y8.2.1, y8.2.2.1, y8.2.2.2.1, y8.2.2.2.2.1, y8.2.2.2.2.2.1, y8.2.2.2.2.2.2.1, y8.2.2.2.2.2.2.2.1)) v2 v3 v4 (m_X2_tickAll_32 t_many t_rows t_hardnesses t_forces p1_sourceMany p1_reach p1_pushes p1_lows p1_highs p1_sourceHolds p1_sources v2 k_78 F) k_78) else (m_X2_tickAll_72 t_many t_rows t_hardnesses t_forces p1_sourceMany p1_reach p1_pushes p1_lows p1_highs p1_sourceHolds p1_sources (up t_rows_R (t_rows (Int.toNat v4)) (y8.2.2.2.2.2.2.2.2.1, y8.2.2.2.2.2.2.2.2.2.1, y8.2.2.2.2.2.2.2.2.2.2, y8.2.1, y8.2.2.1, y8.2.2.2.1, y8.2.2.2.2.1, y8.2.2.2.2.2.1, y8.2.2.2.2.2.2.1, y8.2.2.2.2.2.2.2.1)) v2 1 v4 (m_X2_tickAll_32 t_many t_rows t_hardnesses t_forces p1_sourceMany p1_reach p1_pushes p1_lows p1_highs p1_sourceHolds p1_sources v2 k_78 F) k_78)))))))

set_option maxRecDepth 10000 in
set_option maxHeartbeats 8000000 in
theorem g_X2_tickAll_32 {l : Launch} {E : EE} {b0 n : Nat} {h : AH} {a_t a_p1 : Nat} {t_many t_ownPart t_crossPart t_pointMany t_wallFirst t_wallSize p1_speckMany p1_sourceMany p1_baseTold p1_baseLow p1_baseHigh p1_reach v2 : Int} {t_hardnesses t_forces p1_pushes p1_lows p1_highs p1_sourceHolds p1_sources : Nat → Int} {t_rows : Nat → Nat} {r : Int × (Nat → Int) × (Nat → RowT)} {k_78 : (Nat → RowT) → Int → Int → Option (Int × (Nat → Int) × (Nat → RowT))} (ao : AO b0 n [a_t, (a_t + 1), (a_t + 10), (a_t + 11), a_p1, (a_p1 + 1), (a_p1 + 3), (a_p1 + 4), (a_p1 + 6), (a_p1 + 8)]) (fo : FO b0 n [a_t, (a_t + 1), (a_t + 10), (a_t + 11), a_p1, (a_p1 + 1), (a_p1 + 3), (a_p1 + 4), (a_p1 + 6), (a_p1 + 8)] (a_t + 13) 8) (ok_t_many : inI t_many) (ok_t_ownPart : inI t_ownPart) (ok_t_crossPart : inI t_crossPart) (ok_t_rows : True) (ok_t_hardnesses : okJ t_hardnesses) (ok_t_forces : okA t_forces) (ok_p1_sourceMany : inI p1_sourceMany) (ok_p1_reach : inI p1_reach) (ok_p1_pushes : okA p1_pushes) (ok_p1_lows : okA p1_lows) (ok_p1_highs : okA p1_highs) (ok_p1_sourceHolds : okA p1_sourceHolds) (ok_p1_sources : okA p1_sources) (ok_v2 : inI v2) (hk_78 : ∀ (t_rows_R_ : Nat → RowT) (v3_ : Int) (v4_ : Int), okR t_rows_R_ → inZ v3_ → inI v4_ → k_78 t_rows_R_ v3_ v4_ = some r → G l E b0 M_X2_tickAll (fun _ => True) (ZM E b0 (some (vI r.1)) (ov [a_t, (a_t + 1), (a_t + 10), (a_t + 11), a_p1, (a_p1 + 1), (a_p1 + 3), (a_p1 + 4), (a_p1 + 6), (a_p1 + 8)] [.inr (2, fsX2 a_t t_many t_ownPart t_crossPart t_pointMany t_wallFirst t_wallSize), RK E 8 (a_t + 13) t_rows, JA E 8 r.2.1, IA E 8 t_forces, .inr (3, fsX3 a_p1 p1_speckMany p1_sourceMany p1_baseTold p1_baseLow p1_baseHigh p1_reach), IA E 21 p1_pushes, IA E 100 p1_lows, IA E 100 p1_highs, IA E 100 p1_sourceHolds, IA E 5 p1_sources] (fam E (a_t + 13) 8 r.2.2 h)) n (inZ r.1 ∧ okJ r.2.1 ∧ okR r.2.2) 0 0) 0 0 n (ov [a_t, (a_t + 1), (a_t + 10), (a_t + 11), a_p1, (a_p1 + 1), (a_p1 + 3), (a_p1 + 4), (a_p1 + 6), (a_p1 + 8)] [.inr (2, fsX2 a_t t_many t_ownPart t_crossPart t_pointMany t_wallFirst t_wallSize), RK E 8 (a_t + 13) t_rows, JA E 8 t_hardnesses, IA E 8 t_forces, .inr (3, fsX3 a_p1 p1_speckMany p1_sourceMany p1_baseTold p1_baseLow p1_baseHigh p1_reach), IA E 21 p1_pushes, IA E 100 p1_lows, IA E 100 p1_highs, IA E 100 p1_sourceHolds, IA E 5 p1_sources] (fam E (a_t + 13) 8 t_rows_R_ h)) 78 [none, none, none, some (vI v3_), none] []) :
    ∀ (F : Nat) (t_rows_R : Nat → RowT) (v3 : Int) (v4 : Int), okR t_rows_R → inZ v3 → inI v4 → m_X2_tickAll_32 t_many t_rows t_hardnesses t_forces p1_sourceMany p1_reach p1_pushes p1_lows p1_highs p1_sourceHolds p1_sources v2 k_78 F t_rows_R v3 v4 = some r → G l E b0 M_X2_tickAll (fun _ => True) (ZM E b0 (some (vI r.1)) (ov [a_t, (a_t + 1), (a_t + 10), (a_t + 11), a_p1, (a_p1 + 1), (a_p1 + 3), (a_p1 + 4), (a_p1 + 6), (a_p1 + 8)] [.inr (2, fsX2 a_t t_many t_ownPart t_crossPart t_pointMany t_wallFirst t_wallSize), RK E 8 (a_t + 13) t_rows, JA E 8 r.2.1, IA E 8 t_forces, .inr (3, fsX3 a_p1 p1_speckMany p1_sourceMany p1_baseTold p1_baseLow p1_baseHigh p1_reach), IA E 21 p1_pushes, IA E 100 p1_lows, IA E 100 p1_highs, IA E 100 p1_sourceHolds, IA E 5 p1_sources] (fam E (a_t + 13) 8 r.2.2 h)) n (inZ r.1 ∧ okJ r.2.1 ∧ okR r.2.2) 0 0) 0 0 n (ov [a_t, (a_t + 1), (a_t + 10), (a_t + 11), a_p1, (a_p1 + 1), (a_p1 + 3), (a_p1 + 4), (a_p1 + 6), (a_p1 + 8)] [.inr (2, fsX2 a_t t_many t_ownPart t_crossPart t_pointMany t_wallFirst t_wallSize), RK E 8 (a_t + 13) t_rows, JA E 8 t_hardnesses, IA E 8 t_forces, .inr (3, fsX3 a_p1 p1_speckMany p1_sourceMany p1_baseTold p1_baseLow p1_baseHigh p1_reach), IA E 21 p1_pushes, IA E 100 p1_lows, IA E 100 p1_highs, IA E 100 p1_sourceHolds, IA E 5 p1_sources] (fam E (a_t + 13) 8 t_rows_R h)) 32 [some (.ref a_t), some (.ref a_p1), some (vI v2), some (vI v3), some (vI v4)] [] := by
  intro F
  induction F with
  | zero =>
    intro t_rows_R v3 v4 ok_t_rows_R ok_v3 ok_v4 hs
    rw [m_X2_tickAll_32] at hs
    cases hs
  | succ F ih =>
    intro t_rows_R v3 v4 ok_t_rows_R ok_v3 ok_v4 hs
    rw [m_X2_tickAll_32] at hs
    refine g_iload e_X2_tickAll_32 rfl ?_
    refine g_aload_n e_X2_tickAll_34 rfl ?_
    refine g_get 0 6 ao rfl rfl fsX2_g6 fl_X2_41 e_X2_tickAll_35 ?_
    refine g_icmp_ge e_X2_tickAll_38 ok_v4 ok_t_many hs (fun c38 hs => ?_) (fun c38 hs => ?_)
    · refine g_iload_n e_X2_tickAll_78 rfl ?_
      obtain rfl := Option.some.inj hs
      exact g_zret rfl ok_v3 ⟨ok_v3, ok_t_hardnesses, ok_t_rows_R⟩ e_X2_tickAll_79
    · refine g_aload_n e_X2_tickAll_41 rfl ?_
      refine g_get 0 0 ao rfl rfl fsX2_g0 fl_X2_11 e_X2_tickAll_42 ?_
      refine g_iload e_X2_tickAll_45 rfl ?_
      refine g_aldF 1 ao rfl rfl (Nat.le_of_ble_eq_true rfl) e_X2_tickAll_47 hs (fun hi4 hs => ?_)
      obtain ⟨hc5, hs⟩ := chk_elim hs
      refine g_aload_n e_X2_tickAll_48 rfl ?_
      refine g_aload_n e_X2_tickAll_49 rfl ?_
      refine g_get 0 4 ao rfl rfl fsX2_g4 fl_X2_33 e_X2_tickAll_50 ?_
      refine g_iload e_X2_tickAll_53 rfl ?_
      refine g_iald 3 ao rfl rfl (Nat.le_of_ble_eq_true rfl) e_X2_tickAll_55 hs (fun hi6 hs => ?_)
      refine g_iload_n e_X2_tickAll_56 rfl ?_
      refine g_aload_n e_X2_tickAll_57 rfl ?_
      refine g_get 0 3 ao rfl rfl fsX2_g3 fl_X2_29 e_X2_tickAll_58 ?_
      refine g_iload e_X2_tickAll_61 rfl ?_
      refine g_lald 2 ao rfl rfl (Nat.le_of_ble_eq_true rfl) e_X2_tickAll_63 hs (fun hi7 hs => ?_)
      obtain ⟨y8, hy8, hs⟩ := bind_elim hs
      refine g_famO (t_rows (Int.toNat v4)) hc5 rfl ?_
      refine g_callVr [.ref a_p1, vI (t_forces (Int.toNat v4)), vI v2, vJ (t_hardnesses (Int.toNat v4))] cv_X2_127 ⟨rfl, rfl, Nat.le_of_ble_eq_true rfl, Nat.le_of_ble_eq_true rfl⟩ (Ct_heap (ct_X6_tick (a_t := ((a_t + 13) + 4 * (t_rows (Int.toNat v4)))) (a_p1 := a_p1) (AO_call [10, 11, 12, 13, 4, 5, 6, 7, 8, 9] (AO_fam ao fo hc5) (by decide) rfl) (FA_call [10, 11, 12, 13, 4, 5, 6, 7, 8, 9] (AO_fam ao fo hc5).1 rfl rfl) ((ok_t_rows_R (t_rows (Int.toNat v4))).2.2.2.1) ((ok_t_rows_R (t_rows (Int.toNat v4))).2.2.2.2.1) ((ok_t_rows_R (t_rows (Int.toNat v4))).2.2.2.2.2.1) ((ok_t_rows_R (t_rows (Int.toNat v4))).2.2.2.2.2.2.1) ((ok_t_rows_R (t_rows (Int.toNat v4))).2.2.2.2.2.2.2.1) ((ok_t_rows_R (t_rows (Int.toNat v4))).2.2.2.2.2.2.2.2.1) ((ok_t_rows_R (t_rows (Int.toNat v4))).2.2.2.2.2.2.2.2.2) ((ok_t_rows_R (t_rows (Int.toNat v4))).1) ((ok_t_rows_R (t_rows (Int.toNat v4))).2.1) ((ok_t_rows_R (t_rows (Int.toNat v4))).2.2.1) ok_p1_sourceMany ok_p1_reach ok_p1_pushes ok_p1_lows ok_p1_highs ok_p1_sourceHolds ok_p1_sources (ok_t_forces _) ok_v2 (ok_t_hardnesses _) hy8) (ov_callN (esn := ([.inr (2, fsX2 a_t t_many t_ownPart t_crossPart t_pointMany t_wallFirst t_wallSize), RK E 8 (a_t + 13) t_rows, JA E 8 t_hardnesses, IA E 8 t_forces, .inr (3, fsX3 a_p1 p1_speckMany p1_sourceMany p1_baseTold p1_baseLow p1_baseHigh p1_reach), IA E 21 p1_pushes, IA E 100 p1_lows, IA E 100 p1_highs, IA E 100 p1_sourceHolds, IA E 5 p1_sources] ++ rc E ((a_t + 13) + 4 * (t_rows (Int.toNat v4))) (y8.2.2.2.2.2.2.2.2.1, y8.2.2.2.2.2.2.2.2.2.1, y8.2.2.2.2.2.2.2.2.2.2, y8.2.1, y8.2.2.1, y8.2.2.2.1, y8.2.2.2.2.1, y8.2.2.2.2.2.1, y8.2.2.2.2.2.2.1, y8.2.2.2.2.2.2.2.1))) [10, 11, 12, 13, 4, 5, 6, 7, 8, 9] [true, true, true, true, false, false, false, false, false, false, false, false, false, false] (AO_fam ao fo hc5).1 rfl rfl rfl rfl rfl rfl (by decide))) e_X2_tickAll_64 ((AO_fam ao fo hc5).2 10 _ rfl) (ov_get 10 (AO_fam ao fo hc5).1 rfl rfl) rfl rfl rfl (Nat.le_of_ble_eq_true rfl) ⟨Nat.le_refl _, Nat.le_refl _⟩ (fun Py8 => ?_)
      refine g_famC hc5 rfl ?_
      refine g_if_eq e_X2_tickAll_67 (inZ_I Py8.1) hs (fun c67 hs => ?_) (fun c67 hs => ?_)
      · exact g_X2_tickAll_72 ao fo ok_t_many ok_t_ownPart ok_t_crossPart ok_t_rows ok_t_hardnesses ok_t_forces ok_p1_sourceMany ok_p1_reach ok_p1_pushes ok_p1_lows ok_p1_highs ok_p1_sourceHolds ok_p1_sources (okR_up (R := t_rows_R) (s := (t_rows (Int.toNat v4))) (x := (y8.2.2.2.2.2.2.2.2.1, y8.2.2.2.2.2.2.2.2.2.1, y8.2.2.2.2.2.2.2.2.2.2, y8.2.1, y8.2.2.1, y8.2.2.2.1, y8.2.2.2.2.1, y8.2.2.2.2.2.1, y8.2.2.2.2.2.2.1, y8.2.2.2.2.2.2.2.1)) ok_t_rows_R ⟨Py8.2.2.2.2.2.2.2.2.1, Py8.2.2.2.2.2.2.2.2.2.1, Py8.2.2.2.2.2.2.2.2.2.2, Py8.2.1, Py8.2.2.1, Py8.2.2.2.1, Py8.2.2.2.2.1, Py8.2.2.2.2.2.1, Py8.2.2.2.2.2.2.1, Py8.2.2.2.2.2.2.2.1⟩) ok_v2 ok_v3 ok_v4 ih hk_78 hs
      · refine g_iconst e_X2_tickAll_70 ?_
        refine g_istore_n e_X2_tickAll_71 st1_3 rfl ?_
        exact g_X2_tickAll_72 ao fo ok_t_many ok_t_ownPart ok_t_crossPart ok_t_rows ok_t_hardnesses ok_t_forces ok_p1_sourceMany ok_p1_reach ok_p1_pushes ok_p1_lows ok_p1_highs ok_p1_sourceHolds ok_p1_sources (okR_up (R := t_rows_R) (s := (t_rows (Int.toNat v4))) (x := (y8.2.2.2.2.2.2.2.2.1, y8.2.2.2.2.2.2.2.2.2.1, y8.2.2.2.2.2.2.2.2.2.2, y8.2.1, y8.2.2.1, y8.2.2.2.1, y8.2.2.2.2.1, y8.2.2.2.2.2.1, y8.2.2.2.2.2.2.1, y8.2.2.2.2.2.2.2.1)) ok_t_rows_R ⟨Py8.2.2.2.2.2.2.2.2.1, Py8.2.2.2.2.2.2.2.2.2.1, Py8.2.2.2.2.2.2.2.2.2.2, Py8.2.1, Py8.2.2.1, Py8.2.2.2.1, Py8.2.2.2.2.1, Py8.2.2.2.2.2.1, Py8.2.2.2.2.2.2.1, Py8.2.2.2.2.2.2.2.1⟩) ok_v2 (by decide : inZ 1) ok_v4 ih hk_78 hs

noncomputable def m_X2_tickAll_78 (t_hardnesses : Nat → Int) (t_rows_R : Nat → RowT) (v3 : Int) : Option (Int × (Nat → Int) × (Nat → RowT)) :=
  some (v3, t_hardnesses, t_rows_R)

set_option maxRecDepth 10000 in
set_option maxHeartbeats 8000000 in
theorem g_X2_tickAll_78 {l : Launch} {E : EE} {b0 n : Nat} {h : AH} {a_t a_p1 : Nat} {t_many t_ownPart t_crossPart t_pointMany t_wallFirst t_wallSize p1_speckMany p1_sourceMany p1_baseTold p1_baseLow p1_baseHigh p1_reach v3 : Int} {t_hardnesses t_forces p1_pushes p1_lows p1_highs p1_sourceHolds p1_sources : Nat → Int} {t_rows : Nat → Nat} {t_rows_R : Nat → RowT} {r : Int × (Nat → Int) × (Nat → RowT)} (ao : AO b0 n [a_t, (a_t + 1), (a_t + 10), (a_t + 11), a_p1, (a_p1 + 1), (a_p1 + 3), (a_p1 + 4), (a_p1 + 6), (a_p1 + 8)]) (fo : FO b0 n [a_t, (a_t + 1), (a_t + 10), (a_t + 11), a_p1, (a_p1 + 1), (a_p1 + 3), (a_p1 + 4), (a_p1 + 6), (a_p1 + 8)] (a_t + 13) 8) (ok_t_many : inI t_many) (ok_t_ownPart : inI t_ownPart) (ok_t_crossPart : inI t_crossPart) (ok_t_rows : True) (ok_t_hardnesses : okJ t_hardnesses) (ok_t_forces : okA t_forces) (ok_p1_sourceMany : inI p1_sourceMany) (ok_p1_reach : inI p1_reach) (ok_p1_pushes : okA p1_pushes) (ok_p1_lows : okA p1_lows) (ok_p1_highs : okA p1_highs) (ok_p1_sourceHolds : okA p1_sourceHolds) (ok_p1_sources : okA p1_sources) (ok_t_rows_R : okR t_rows_R) (ok_v3 : inZ v3) (hs : m_X2_tickAll_78 t_hardnesses t_rows_R v3 = some r) : G l E b0 M_X2_tickAll (fun _ => True) (ZM E b0 (some (vI r.1)) (ov [a_t, (a_t + 1), (a_t + 10), (a_t + 11), a_p1, (a_p1 + 1), (a_p1 + 3), (a_p1 + 4), (a_p1 + 6), (a_p1 + 8)] [.inr (2, fsX2 a_t t_many t_ownPart t_crossPart t_pointMany t_wallFirst t_wallSize), RK E 8 (a_t + 13) t_rows, JA E 8 r.2.1, IA E 8 t_forces, .inr (3, fsX3 a_p1 p1_speckMany p1_sourceMany p1_baseTold p1_baseLow p1_baseHigh p1_reach), IA E 21 p1_pushes, IA E 100 p1_lows, IA E 100 p1_highs, IA E 100 p1_sourceHolds, IA E 5 p1_sources] (fam E (a_t + 13) 8 r.2.2 h)) n (inZ r.1 ∧ okJ r.2.1 ∧ okR r.2.2) 0 0) 0 0 n (ov [a_t, (a_t + 1), (a_t + 10), (a_t + 11), a_p1, (a_p1 + 1), (a_p1 + 3), (a_p1 + 4), (a_p1 + 6), (a_p1 + 8)] [.inr (2, fsX2 a_t t_many t_ownPart t_crossPart t_pointMany t_wallFirst t_wallSize), RK E 8 (a_t + 13) t_rows, JA E 8 t_hardnesses, IA E 8 t_forces, .inr (3, fsX3 a_p1 p1_speckMany p1_sourceMany p1_baseTold p1_baseLow p1_baseHigh p1_reach), IA E 21 p1_pushes, IA E 100 p1_lows, IA E 100 p1_highs, IA E 100 p1_sourceHolds, IA E 5 p1_sources] (fam E (a_t + 13) 8 t_rows_R h)) 78 [none, none, none, some (vI v3), none] [] := by
  rw [m_X2_tickAll_78] at hs
  refine g_iload_n e_X2_tickAll_78 rfl ?_
  obtain rfl := Option.some.inj hs
  exact g_zret rfl ok_v3 ⟨ok_v3, ok_t_hardnesses, ok_t_rows_R⟩ e_X2_tickAll_79

noncomputable def m_X2_tickAll_27 (t_many : Int) (t_rows : Nat → Nat) (t_hardnesses : Nat → Int) (t_forces : Nat → Int) (p1_sourceMany : Int) (p1_reach : Int) (p1_pushes : Nat → Int) (p1_lows : Nat → Int) (p1_highs : Nat → Int) (p1_sourceHolds : Nat → Int) (p1_sources : Nat → Int) (t_rows_R : Nat → RowT) (v2 : Int) : Option (Int × (Nat → Int) × (Nat → RowT)) :=
  m_X2_tickAll_32 t_many t_rows t_hardnesses t_forces p1_sourceMany p1_reach p1_pushes p1_lows p1_highs p1_sourceHolds p1_sources v2 (fun t_rows_R' v3' v4' => m_X2_tickAll_78 t_hardnesses t_rows_R' v3') FU t_rows_R 0 0

set_option maxRecDepth 10000 in
set_option maxHeartbeats 8000000 in
theorem g_X2_tickAll_27 {l : Launch} {E : EE} {b0 n : Nat} {h : AH} {a_t a_p1 : Nat} {t_many t_ownPart t_crossPart t_pointMany t_wallFirst t_wallSize p1_speckMany p1_sourceMany p1_baseTold p1_baseLow p1_baseHigh p1_reach v2 : Int} {t_hardnesses t_forces p1_pushes p1_lows p1_highs p1_sourceHolds p1_sources : Nat → Int} {t_rows : Nat → Nat} {t_rows_R : Nat → RowT} {r : Int × (Nat → Int) × (Nat → RowT)} (ao : AO b0 n [a_t, (a_t + 1), (a_t + 10), (a_t + 11), a_p1, (a_p1 + 1), (a_p1 + 3), (a_p1 + 4), (a_p1 + 6), (a_p1 + 8)]) (fo : FO b0 n [a_t, (a_t + 1), (a_t + 10), (a_t + 11), a_p1, (a_p1 + 1), (a_p1 + 3), (a_p1 + 4), (a_p1 + 6), (a_p1 + 8)] (a_t + 13) 8) (ok_t_many : inI t_many) (ok_t_ownPart : inI t_ownPart) (ok_t_crossPart : inI t_crossPart) (ok_t_rows : True) (ok_t_hardnesses : okJ t_hardnesses) (ok_t_forces : okA t_forces) (ok_p1_sourceMany : inI p1_sourceMany) (ok_p1_reach : inI p1_reach) (ok_p1_pushes : okA p1_pushes) (ok_p1_lows : okA p1_lows) (ok_p1_highs : okA p1_highs) (ok_p1_sourceHolds : okA p1_sourceHolds) (ok_p1_sources : okA p1_sources) (ok_t_rows_R : okR t_rows_R) (ok_v2 : inI v2) (hs : m_X2_tickAll_27 t_many t_rows t_hardnesses t_forces p1_sourceMany p1_reach p1_pushes p1_lows p1_highs p1_sourceHolds p1_sources t_rows_R v2 = some r) : G l E b0 M_X2_tickAll (fun _ => True) (ZM E b0 (some (vI r.1)) (ov [a_t, (a_t + 1), (a_t + 10), (a_t + 11), a_p1, (a_p1 + 1), (a_p1 + 3), (a_p1 + 4), (a_p1 + 6), (a_p1 + 8)] [.inr (2, fsX2 a_t t_many t_ownPart t_crossPart t_pointMany t_wallFirst t_wallSize), RK E 8 (a_t + 13) t_rows, JA E 8 r.2.1, IA E 8 t_forces, .inr (3, fsX3 a_p1 p1_speckMany p1_sourceMany p1_baseTold p1_baseLow p1_baseHigh p1_reach), IA E 21 p1_pushes, IA E 100 p1_lows, IA E 100 p1_highs, IA E 100 p1_sourceHolds, IA E 5 p1_sources] (fam E (a_t + 13) 8 r.2.2 h)) n (inZ r.1 ∧ okJ r.2.1 ∧ okR r.2.2) 0 0) 0 0 n (ov [a_t, (a_t + 1), (a_t + 10), (a_t + 11), a_p1, (a_p1 + 1), (a_p1 + 3), (a_p1 + 4), (a_p1 + 6), (a_p1 + 8)] [.inr (2, fsX2 a_t t_many t_ownPart t_crossPart t_pointMany t_wallFirst t_wallSize), RK E 8 (a_t + 13) t_rows, JA E 8 t_hardnesses, IA E 8 t_forces, .inr (3, fsX3 a_p1 p1_speckMany p1_sourceMany p1_baseTold p1_baseLow p1_baseHigh p1_reach), IA E 21 p1_pushes, IA E 100 p1_lows, IA E 100 p1_highs, IA E 100 p1_sourceHolds, IA E 5 p1_sources] (fam E (a_t + 13) 8 t_rows_R h)) 27 [some (.ref a_t), some (.ref a_p1), some (vI v2), none, none] [] := by
  rw [m_X2_tickAll_27] at hs
  refine g_iconst e_X2_tickAll_27 ?_
  refine g_istore_n e_X2_tickAll_28 st1_3 rfl ?_
  refine g_iconst e_X2_tickAll_29 ?_
  refine g_istore e_X2_tickAll_30 st1_4 rfl ?_
  exact g_X2_tickAll_32 ao fo ok_t_many ok_t_ownPart ok_t_crossPart ok_t_rows ok_t_hardnesses ok_t_forces ok_p1_sourceMany ok_p1_reach ok_p1_pushes ok_p1_lows ok_p1_highs ok_p1_sourceHolds ok_p1_sources ok_v2 (hk_78 := by
      intro t_rows_R' v3' v4' ok_t_rows_R' ok_v3' ok_v4' hs
      exact g_X2_tickAll_78 ao fo ok_t_many ok_t_ownPart ok_t_crossPart ok_t_rows ok_t_hardnesses ok_t_forces ok_p1_sourceMany ok_p1_reach ok_p1_pushes ok_p1_lows ok_p1_highs ok_p1_sourceHolds ok_p1_sources ok_t_rows_R' ok_v3' hs) FU _ _ _ ok_t_rows_R (by decide : inZ 0) (by decide : inI 0) hs

noncomputable def m_X2_tickAll_0 (t_many : Int) (t_ownPart : Int) (t_crossPart : Int) (t_rows : Nat → Nat) (t_hardnesses : Nat → Int) (t_forces : Nat → Int) (p1_sourceMany : Int) (p1_reach : Int) (p1_pushes : Nat → Int) (p1_lows : Nat → Int) (p1_highs : Nat → Int) (p1_sourceHolds : Nat → Int) (p1_sources : Nat → Int) (t_rows_R : Nat → RowT) (v2 : Int) : Option (Int × (Nat → Int) × (Nat → RowT)) :=
  m_X2_tickAll_2 t_many t_ownPart t_crossPart t_rows t_rows_R (fun t_hardnesses' v3' => m_X2_tickAll_27 t_many t_rows t_hardnesses' t_forces p1_sourceMany p1_reach p1_pushes p1_lows p1_highs p1_sourceHolds p1_sources t_rows_R v2) FU t_hardnesses 0

set_option maxRecDepth 10000 in
set_option maxHeartbeats 8000000 in
theorem g_X2_tickAll_0 {l : Launch} {E : EE} {b0 n : Nat} {h : AH} {a_t a_p1 : Nat} {t_many t_ownPart t_crossPart t_pointMany t_wallFirst t_wallSize p1_speckMany p1_sourceMany p1_baseTold p1_baseLow p1_baseHigh p1_reach v2 : Int} {t_hardnesses t_forces p1_pushes p1_lows p1_highs p1_sourceHolds p1_sources : Nat → Int} {t_rows : Nat → Nat} {t_rows_R : Nat → RowT} {r : Int × (Nat → Int) × (Nat → RowT)} (ao : AO b0 n [a_t, (a_t + 1), (a_t + 10), (a_t + 11), a_p1, (a_p1 + 1), (a_p1 + 3), (a_p1 + 4), (a_p1 + 6), (a_p1 + 8)]) (fo : FO b0 n [a_t, (a_t + 1), (a_t + 10), (a_t + 11), a_p1, (a_p1 + 1), (a_p1 + 3), (a_p1 + 4), (a_p1 + 6), (a_p1 + 8)] (a_t + 13) 8) (ok_t_many : inI t_many) (ok_t_ownPart : inI t_ownPart) (ok_t_crossPart : inI t_crossPart) (ok_t_rows : True) (ok_t_hardnesses : okJ t_hardnesses) (ok_t_forces : okA t_forces) (ok_p1_sourceMany : inI p1_sourceMany) (ok_p1_reach : inI p1_reach) (ok_p1_pushes : okA p1_pushes) (ok_p1_lows : okA p1_lows) (ok_p1_highs : okA p1_highs) (ok_p1_sourceHolds : okA p1_sourceHolds) (ok_p1_sources : okA p1_sources) (ok_t_rows_R : okR t_rows_R) (ok_v2 : inI v2) (hs : m_X2_tickAll_0 t_many t_ownPart t_crossPart t_rows t_hardnesses t_forces p1_sourceMany p1_reach p1_pushes p1_lows p1_highs p1_sourceHolds p1_sources t_rows_R v2 = some r) : G l E b0 M_X2_tickAll (fun _ => True) (ZM E b0 (some (vI r.1)) (ov [a_t, (a_t + 1), (a_t + 10), (a_t + 11), a_p1, (a_p1 + 1), (a_p1 + 3), (a_p1 + 4), (a_p1 + 6), (a_p1 + 8)] [.inr (2, fsX2 a_t t_many t_ownPart t_crossPart t_pointMany t_wallFirst t_wallSize), RK E 8 (a_t + 13) t_rows, JA E 8 r.2.1, IA E 8 t_forces, .inr (3, fsX3 a_p1 p1_speckMany p1_sourceMany p1_baseTold p1_baseLow p1_baseHigh p1_reach), IA E 21 p1_pushes, IA E 100 p1_lows, IA E 100 p1_highs, IA E 100 p1_sourceHolds, IA E 5 p1_sources] (fam E (a_t + 13) 8 r.2.2 h)) n (inZ r.1 ∧ okJ r.2.1 ∧ okR r.2.2) 0 0) 0 0 n (ov [a_t, (a_t + 1), (a_t + 10), (a_t + 11), a_p1, (a_p1 + 1), (a_p1 + 3), (a_p1 + 4), (a_p1 + 6), (a_p1 + 8)] [.inr (2, fsX2 a_t t_many t_ownPart t_crossPart t_pointMany t_wallFirst t_wallSize), RK E 8 (a_t + 13) t_rows, JA E 8 t_hardnesses, IA E 8 t_forces, .inr (3, fsX3 a_p1 p1_speckMany p1_sourceMany p1_baseTold p1_baseLow p1_baseHigh p1_reach), IA E 21 p1_pushes, IA E 100 p1_lows, IA E 100 p1_highs, IA E 100 p1_sourceHolds, IA E 5 p1_sources] (fam E (a_t + 13) 8 t_rows_R h)) 0 [some (.ref a_t), some (.ref a_p1), some (vI v2), none, none] [] := by
  rw [m_X2_tickAll_0] at hs
  refine g_iconst e_X2_tickAll_0 ?_
  refine g_istore_n e_X2_tickAll_1 st1_3 rfl ?_
  exact g_X2_tickAll_2 ao fo ok_t_many ok_t_ownPart ok_t_crossPart ok_t_rows ok_t_forces ok_p1_sourceMany ok_p1_reach ok_p1_pushes ok_p1_lows ok_p1_highs ok_p1_sourceHolds ok_p1_sources ok_t_rows_R ok_v2 (hk_27 := by
      intro t_hardnesses' v3' ok_t_hardnesses' ok_v3' hs
      exact g_X2_tickAll_27 ao fo ok_t_many ok_t_ownPart ok_t_crossPart ok_t_rows ok_t_hardnesses' ok_t_forces ok_p1_sourceMany ok_p1_reach ok_p1_pushes ok_p1_lows ok_p1_highs ok_p1_sourceHolds ok_p1_sources ok_t_rows_R ok_v2 hs) FU _ _ ok_t_hardnesses (by decide : inI 0) hs

noncomputable def m_X2_tickAll (t_many : Int) (t_ownPart : Int) (t_crossPart : Int) (t_rows : Nat → Nat) (t_hardnesses : Nat → Int) (t_forces : Nat → Int) (p1_sourceMany : Int) (p1_reach : Int) (p1_pushes : Nat → Int) (p1_lows : Nat → Int) (p1_highs : Nat → Int) (p1_sourceHolds : Nat → Int) (p1_sources : Nat → Int) (t_rows_R : Nat → RowT) (v2 : Int) : Option (Int × (Nat → Int) × (Nat → RowT)) := m_X2_tickAll_0 t_many t_ownPart t_crossPart t_rows t_hardnesses t_forces p1_sourceMany p1_reach p1_pushes p1_lows p1_highs p1_sourceHolds p1_sources t_rows_R v2

set_option maxRecDepth 10000 in
set_option maxHeartbeats 8000000 in
theorem ct_X2_tickAll {l : Launch} {E : EE} {b0 n : Nat} {h : AH} {a_t a_p1 : Nat} {t_many t_ownPart t_crossPart t_pointMany t_wallFirst t_wallSize p1_speckMany p1_sourceMany p1_baseTold p1_baseLow p1_baseHigh p1_reach : Int} {t_hardnesses t_forces p1_pushes p1_lows p1_highs p1_sourceHolds p1_sources : Nat → Int} {t_rows : Nat → Nat} {t_rows_R : Nat → RowT} {v2 : Int} (ao : AO b0 n [a_t, (a_t + 1), (a_t + 10), (a_t + 11), a_p1, (a_p1 + 1), (a_p1 + 3), (a_p1 + 4), (a_p1 + 6), (a_p1 + 8)]) (fo : FO b0 n [a_t, (a_t + 1), (a_t + 10), (a_t + 11), a_p1, (a_p1 + 1), (a_p1 + 3), (a_p1 + 4), (a_p1 + 6), (a_p1 + 8)] (a_t + 13) 8) (hf : FA h [a_t, (a_t + 1), (a_t + 10), (a_t + 11), a_p1, (a_p1 + 1), (a_p1 + 3), (a_p1 + 4), (a_p1 + 6), (a_p1 + 8)] [.inr (2, fsX2 a_t t_many t_ownPart t_crossPart t_pointMany t_wallFirst t_wallSize), RK E 8 (a_t + 13) t_rows, JA E 8 t_hardnesses, IA E 8 t_forces, .inr (3, fsX3 a_p1 p1_speckMany p1_sourceMany p1_baseTold p1_baseLow p1_baseHigh p1_reach), IA E 21 p1_pushes, IA E 100 p1_lows, IA E 100 p1_highs, IA E 100 p1_sourceHolds, IA E 5 p1_sources]) (hF : FF E h (a_t + 13) 8 t_rows_R) (ok_t_many : inI t_many) (ok_t_ownPart : inI t_ownPart) (ok_t_crossPart : inI t_crossPart) (ok_t_rows : True) (ok_t_hardnesses : okJ t_hardnesses) (ok_t_forces : okA t_forces) (ok_p1_sourceMany : inI p1_sourceMany) (ok_p1_reach : inI p1_reach) (ok_p1_pushes : okA p1_pushes) (ok_p1_lows : okA p1_lows) (ok_p1_highs : okA p1_highs) (ok_p1_sourceHolds : okA p1_sourceHolds) (ok_p1_sources : okA p1_sources) (ok_t_rows_R : okR t_rows_R) (ok_v2 : inI v2) {r : Int × (Nat → Int) × (Nat → RowT)} (hm : m_X2_tickAll t_many t_ownPart t_crossPart t_rows t_hardnesses t_forces p1_sourceMany p1_reach p1_pushes p1_lows p1_highs p1_sourceHolds p1_sources t_rows_R v2 = some r) : Ct l E b0 M_X2_tickAll 0 0 [.ref a_t, .ref a_p1, vI v2] h n (some (vI r.1)) (ov [a_t, (a_t + 1), (a_t + 10), (a_t + 11), a_p1, (a_p1 + 1), (a_p1 + 3), (a_p1 + 4), (a_p1 + 6), (a_p1 + 8)] [.inr (2, fsX2 a_t t_many t_ownPart t_crossPart t_pointMany t_wallFirst t_wallSize), RK E 8 (a_t + 13) t_rows, JA E 8 r.2.1, IA E 8 t_forces, .inr (3, fsX3 a_p1 p1_speckMany p1_sourceMany p1_baseTold p1_baseLow p1_baseHigh p1_reach), IA E 21 p1_pushes, IA E 100 p1_lows, IA E 100 p1_highs, IA E 100 p1_sourceHolds, IA E 5 p1_sources] (fam E (a_t + 13) 8 r.2.2 h)) n (inZ r.1 ∧ okJ r.2.1 ∧ okR r.2.2) := by
  rw [m_X2_tickAll] at hm
  have hg : G l E b0 M_X2_tickAll (fun _ => True) (ZM E b0 (some (vI r.1)) (ov [a_t, (a_t + 1), (a_t + 10), (a_t + 11), a_p1, (a_p1 + 1), (a_p1 + 3), (a_p1 + 4), (a_p1 + 6), (a_p1 + 8)] [.inr (2, fsX2 a_t t_many t_ownPart t_crossPart t_pointMany t_wallFirst t_wallSize), RK E 8 (a_t + 13) t_rows, JA E 8 r.2.1, IA E 8 t_forces, .inr (3, fsX3 a_p1 p1_speckMany p1_sourceMany p1_baseTold p1_baseLow p1_baseHigh p1_reach), IA E 21 p1_pushes, IA E 100 p1_lows, IA E 100 p1_highs, IA E 100 p1_sourceHolds, IA E 5 p1_sources] (fam E (a_t + 13) 8 r.2.2 h)) n (inZ r.1 ∧ okJ r.2.1 ∧ okR r.2.2) 0 0) 0 0 n (ov [a_t, (a_t + 1), (a_t + 10), (a_t + 11), a_p1, (a_p1 + 1), (a_p1 + 3), (a_p1 + 4), (a_p1 + 6), (a_p1 + 8)] [.inr (2, fsX2 a_t t_many t_ownPart t_crossPart t_pointMany t_wallFirst t_wallSize), RK E 8 (a_t + 13) t_rows, JA E 8 t_hardnesses, IA E 8 t_forces, .inr (3, fsX3 a_p1 p1_speckMany p1_sourceMany p1_baseTold p1_baseLow p1_baseHigh p1_reach), IA E 21 p1_pushes, IA E 100 p1_lows, IA E 100 p1_highs, IA E 100 p1_sourceHolds, IA E 5 p1_sources] (fam E (a_t + 13) 8 t_rows_R h)) 0 [some (.ref a_t), some (.ref a_p1), some (vI v2), none, none] [] := by
    have hs := hm
    exact g_X2_tickAll_0 ao fo ok_t_many ok_t_ownPart ok_t_crossPart ok_t_rows ok_t_hardnesses ok_t_forces ok_p1_sourceMany ok_p1_reach ok_p1_pushes ok_p1_lows ok_p1_highs ok_p1_sourceHolds ok_p1_sources ok_t_rows_R ok_v2 hs
  rw [FF_id hF] at hg
  rw [FA_id hf] at hg
  exact Ct_of [some (.ref a_t), some (.ref a_p1), some (vI v2), none, none] ⟨by decide +kernel, rfl⟩ rfl (Nat.le_of_ble_eq_true rfl) hg

/-! ===== X2_loadBy ===== -/
theorem e_X2_loadBy_0 : DC cX2_loadBy 0 (.iconst 0) 1 1 := ⟨by decide +kernel, rfl⟩
theorem e_X2_loadBy_1 : DC cX2_loadBy 1 (.istore 6) 2 3 := ⟨by decide +kernel, rfl⟩
theorem e_X2_loadBy_3 : DC cX2_loadBy 3 (.iload 6) 2 5 := ⟨by decide +kernel, rfl⟩
theorem e_X2_loadBy_5 : DC cX2_loadBy 5 (.aload_n 0) 1 6 := ⟨by decide +kernel, rfl⟩
theorem e_X2_loadBy_6 : DC cX2_loadBy 6 (.getfield 41) 3 9 := ⟨by decide +kernel, rfl⟩
theorem e_X2_loadBy_9 : DB cX2_loadBy 9 (.if_icmp .ge 24) (24) 3 12 33 := ⟨by decide +kernel, rfl, rfl⟩
theorem e_X2_loadBy_12 : DC cX2_loadBy 12 (.aload_n 0) 1 13 := ⟨by decide +kernel, rfl⟩
theorem e_X2_loadBy_13 : DC cX2_loadBy 13 (.getfield 33) 3 16 := ⟨by decide +kernel, rfl⟩
theorem e_X2_loadBy_16 : DC cX2_loadBy 16 (.iload 6) 2 18 := ⟨by decide +kernel, rfl⟩
theorem e_X2_loadBy_18 : DC cX2_loadBy 18 (.aload_n 0) 1 19 := ⟨by decide +kernel, rfl⟩
theorem e_X2_loadBy_19 : DC cX2_loadBy 19 (.aload_n 2) 1 20 := ⟨by decide +kernel, rfl⟩
theorem e_X2_loadBy_20 : DC cX2_loadBy 20 (.iload_n 3) 1 21 := ⟨by decide +kernel, rfl⟩
theorem e_X2_loadBy_21 : DC cX2_loadBy 21 (.iload 6) 2 23 := ⟨by decide +kernel, rfl⟩
theorem e_X2_loadBy_23 : DC cX2_loadBy 23 (.invokevirtual 114) 3 26 := ⟨by decide +kernel, rfl⟩
theorem e_X2_loadBy_26 : DC cX2_loadBy 26 (.iastore) 1 27 := ⟨by decide +kernel, rfl⟩
theorem e_X2_loadBy_27 : DC cX2_loadBy 27 (.iinc 6 1) 3 30 := ⟨by decide +kernel, rfl⟩
theorem e_X2_loadBy_30 : DB cX2_loadBy 30 (.goto (-27)) (-27) 3 33 3 := ⟨by decide +kernel, rfl, rfl⟩
theorem e_X2_loadBy_33 : DC cX2_loadBy 33 (.iconst 0) 1 34 := ⟨by decide +kernel, rfl⟩
theorem e_X2_loadBy_34 : DC cX2_loadBy 34 (.istore 6) 2 36 := ⟨by decide +kernel, rfl⟩
theorem e_X2_loadBy_36 : DC cX2_loadBy 36 (.iload 6) 2 38 := ⟨by decide +kernel, rfl⟩
theorem e_X2_loadBy_38 : DC cX2_loadBy 38 (.iload 4) 2 40 := ⟨by decide +kernel, rfl⟩
theorem e_X2_loadBy_40 : DB cX2_loadBy 40 (.if_icmp .ge 22) (22) 3 43 62 := ⟨by decide +kernel, rfl, rfl⟩
theorem e_X2_loadBy_43 : DC cX2_loadBy 43 (.aload_n 0) 1 44 := ⟨by decide +kernel, rfl⟩
theorem e_X2_loadBy_44 : DC cX2_loadBy 44 (.aload_n 1) 1 45 := ⟨by decide +kernel, rfl⟩
theorem e_X2_loadBy_45 : DC cX2_loadBy 45 (.iload 5) 2 47 := ⟨by decide +kernel, rfl⟩
theorem e_X2_loadBy_47 : DC cX2_loadBy 47 (.invokevirtual 118) 3 50 := ⟨by decide +kernel, rfl⟩
theorem e_X2_loadBy_50 : DB cX2_loadBy 50 (.ifCond .ne 6) (6) 3 53 56 := ⟨by decide +kernel, rfl, rfl⟩
theorem e_X2_loadBy_53 : DC cX2_loadBy 53 (.iload 6) 2 55 := ⟨by decide +kernel, rfl⟩
theorem e_X2_loadBy_55 : DC cX2_loadBy 55 (.ireturn) 1 56 := ⟨by decide +kernel, rfl⟩
theorem e_X2_loadBy_56 : DC cX2_loadBy 56 (.iinc 6 1) 3 59 := ⟨by decide +kernel, rfl⟩
theorem e_X2_loadBy_59 : DB cX2_loadBy 59 (.goto (-23)) (-23) 3 62 36 := ⟨by decide +kernel, rfl, rfl⟩
theorem e_X2_loadBy_62 : DC cX2_loadBy 62 (.iconst 0) 1 63 := ⟨by decide +kernel, rfl⟩
theorem e_X2_loadBy_63 : DC cX2_loadBy 63 (.iload 4) 2 65 := ⟨by decide +kernel, rfl⟩
theorem e_X2_loadBy_65 : DC cX2_loadBy 65 (.invokestatic 122) 3 68 := ⟨by decide +kernel, rfl⟩
theorem e_X2_loadBy_68 : DC cX2_loadBy 68 (.ireturn) 1 69 := ⟨by decide +kernel, rfl⟩
noncomputable def m_X2_loadBy_3 (t_many : Int) (t_planes_many : Int) (t_planes_xs : Nat → Int) (t_planes_ys : Nat → Int) (t_planes_zs : Nat → Int) (t_steps_many : Int) (t_steps_xs : Nat → Int) (t_steps_ys : Nat → Int) (t_steps_zs : Nat → Int) (p2_x : Int) (p2_y : Int) (p2_z : Int) (v3 : Int) (k_33 : (Nat → Int) → Int → Int → Int → Int → Option (Int × (Nat → Int) × (Nat → Int) × Int × Int × Int × (Nat → RowT))) : Nat → (Nat → Int) → Int → Int → Int → Int → Option (Int × (Nat → Int) × (Nat → Int) × Int × Int × Int × (Nat → RowT))
  | 0, _, _, _, _, _ => none
  | F + 1, t_forces, p2_product, p2_above, p2_below, v6 => if t_many ≤ v6 then (k_33 t_forces p2_product p2_above p2_below v6) else ((m_X2_forceOn t_planes_many t_planes_xs t_planes_ys t_planes_zs t_steps_many t_steps_xs t_steps_ys t_steps_zs p2_x p2_y p2_z p2_product p2_above p2_below v3 v6).bind (fun y1 => chk (inB v6 8) (chk (inI (v6 + 1)) (m_X2_loadBy_3 t_many t_planes_many t_planes_xs t_planes_ys t_planes_zs t_steps_many t_steps_xs t_steps_ys t_steps_zs p2_x p2_y p2_z v3 k_33 F (up t_forces (Int.toNat v6) y1.1) y1.2.1 y1.2.2.1 y1.2.2.2 (v6 + 1)))))

set_option maxRecDepth 10000 in
set_option maxHeartbeats 8000000 in
theorem g_X2_loadBy_3 {l : Launch} {E : EE} {b0 n : Nat} {h : AH} {a_t a_p1 a_p2 : Nat} {t_many t_ownPart t_crossPart t_pointMany t_wallFirst t_wallSize t_planes_many t_steps_many p1_speckMany p1_sourceMany p1_baseTold p1_baseLow p1_baseHigh p1_reach p2_x p2_y p2_z v3 v4 v5 : Int} {t_planes_xs t_planes_ys t_planes_zs t_steps_xs t_steps_ys t_steps_zs t_hardnesses p1_pushes p1_lows p1_highs p1_sourceHolds p1_sources : Nat → Int} {t_rows : Nat → Nat} {t_rows_R : Nat → RowT} {r : Int × (Nat → Int) × (Nat → Int) × Int × Int × Int × (Nat → RowT)} {k_33 : (Nat → Int) → Int → Int → Int → Int → Option (Int × (Nat → Int) × (Nat → Int) × Int × Int × Int × (Nat → RowT))} (ao : AO b0 n [a_t, (a_t + 1), (a_t + 2), (a_t + 3), (a_t + 4), (a_t + 5), (a_t + 6), (a_t + 7), (a_t + 8), (a_t + 9), (a_t + 10), (a_t + 11), a_p1, (a_p1 + 1), (a_p1 + 3), (a_p1 + 4), (a_p1 + 6), (a_p1 + 8), a_p2]) (fo : FO b0 n [a_t, (a_t + 1), (a_t + 2), (a_t + 3), (a_t + 4), (a_t + 5), (a_t + 6), (a_t + 7), (a_t + 8), (a_t + 9), (a_t + 10), (a_t + 11), a_p1, (a_p1 + 1), (a_p1 + 3), (a_p1 + 4), (a_p1 + 6), (a_p1 + 8), a_p2] (a_t + 13) 8) (ok_t_many : inI t_many) (ok_t_ownPart : inI t_ownPart) (ok_t_crossPart : inI t_crossPart) (ok_t_rows : True) (ok_t_planes_many : inI t_planes_many) (ok_t_planes_xs : okA t_planes_xs) (ok_t_planes_ys : okA t_planes_ys) (ok_t_planes_zs : okA t_planes_zs) (ok_t_steps_many : inI t_steps_many) (ok_t_steps_xs : okA t_steps_xs) (ok_t_steps_ys : okA t_steps_ys) (ok_t_steps_zs : okA t_steps_zs) (ok_t_hardnesses : okJ t_hardnesses) (ok_p1_sourceMany : inI p1_sourceMany) (ok_p1_reach : inI p1_reach) (ok_p1_pushes : okA p1_pushes) (ok_p1_lows : okA p1_lows) (ok_p1_highs : okA p1_highs) (ok_p1_sourceHolds : okA p1_sourceHolds) (ok_p1_sources : okA p1_sources) (ok_p2_x : inI p2_x) (ok_p2_y : inI p2_y) (ok_p2_z : inI p2_z) (ok_t_rows_R : okR t_rows_R) (ok_v3 : inI v3) (ok_v4 : inI v4) (ok_v5 : inI v5) (hk_33 : ∀ (t_forces_ : Nat → Int) (p2_product_ : Int) (p2_above_ : Int) (p2_below_ : Int) (v6_ : Int), okA t_forces_ → inJ p2_product_ → inJ p2_above_ → inJ p2_below_ → inI v6_ → k_33 t_forces_ p2_product_ p2_above_ p2_below_ v6_ = some r → G l E b0 M_X2_loadBy (fun _ => True) (ZM E b0 (some (vI r.1)) (ov [a_t, (a_t + 1), (a_t + 2), (a_t + 3), (a_t + 4), (a_t + 5), (a_t + 6), (a_t + 7), (a_t + 8), (a_t + 9), (a_t + 10), (a_t + 11), a_p1, (a_p1 + 1), (a_p1 + 3), (a_p1 + 4), (a_p1 + 6), (a_p1 + 8), a_p2] [.inr (2, fsX2 a_t t_many t_ownPart t_crossPart t_pointMany t_wallFirst t_wallSize), RK E 8 (a_t + 13) t_rows, .inr (8, fsX8 (a_t + 2) t_planes_many), IA E 8 t_planes_xs, IA E 8 t_planes_ys, IA E 8 t_planes_zs, .inr (8, fsX8 (a_t + 6) t_steps_many), IA E 8 t_steps_xs, IA E 8 t_steps_ys, IA E 8 t_steps_zs, JA E 8 r.2.1, IA E 8 r.2.2.1, .inr (3, fsX3 a_p1 p1_speckMany p1_sourceMany p1_baseTold p1_baseLow p1_baseHigh p1_reach), IA E 21 p1_pushes, IA E 100 p1_lows, IA E 100 p1_highs, IA E 100 p1_sourceHolds, IA E 5 p1_sources, .inr (4, fsX4 a_p2 p2_x p2_y p2_z r.2.2.2.1 r.2.2.2.2.1 r.2.2.2.2.2.1)] (fam E (a_t + 13) 8 r.2.2.2.2.2.2 h)) n (inI r.1 ∧ okJ r.2.1 ∧ okA r.2.2.1 ∧ inJ r.2.2.2.1 ∧ inJ r.2.2.2.2.1 ∧ inJ r.2.2.2.2.2.1 ∧ okR r.2.2.2.2.2.2) 0 0) 0 0 n (ov [a_t, (a_t + 1), (a_t + 2), (a_t + 3), (a_t + 4), (a_t + 5), (a_t + 6), (a_t + 7), (a_t + 8), (a_t + 9), (a_t + 10), (a_t + 11), a_p1, (a_p1 + 1), (a_p1 + 3), (a_p1 + 4), (a_p1 + 6), (a_p1 + 8), a_p2] [.inr (2, fsX2 a_t t_many t_ownPart t_crossPart t_pointMany t_wallFirst t_wallSize), RK E 8 (a_t + 13) t_rows, .inr (8, fsX8 (a_t + 2) t_planes_many), IA E 8 t_planes_xs, IA E 8 t_planes_ys, IA E 8 t_planes_zs, .inr (8, fsX8 (a_t + 6) t_steps_many), IA E 8 t_steps_xs, IA E 8 t_steps_ys, IA E 8 t_steps_zs, JA E 8 t_hardnesses, IA E 8 t_forces_, .inr (3, fsX3 a_p1 p1_speckMany p1_sourceMany p1_baseTold p1_baseLow p1_baseHigh p1_reach), IA E 21 p1_pushes, IA E 100 p1_lows, IA E 100 p1_highs, IA E 100 p1_sourceHolds, IA E 5 p1_sources, .inr (4, fsX4 a_p2 p2_x p2_y p2_z p2_product_ p2_above_ p2_below_)] (fam E (a_t + 13) 8 t_rows_R h)) 33 [some (.ref a_t), some (.ref a_p1), none, none, some (vI v4), some (vI v5), none] []) :
    ∀ (F : Nat) (t_forces : Nat → Int) (p2_product : Int) (p2_above : Int) (p2_below : Int) (v6 : Int), okA t_forces → inJ p2_product → inJ p2_above → inJ p2_below → inI v6 → m_X2_loadBy_3 t_many t_planes_many t_planes_xs t_planes_ys t_planes_zs t_steps_many t_steps_xs t_steps_ys t_steps_zs p2_x p2_y p2_z v3 k_33 F t_forces p2_product p2_above p2_below v6 = some r → G l E b0 M_X2_loadBy (fun _ => True) (ZM E b0 (some (vI r.1)) (ov [a_t, (a_t + 1), (a_t + 2), (a_t + 3), (a_t + 4), (a_t + 5), (a_t + 6), (a_t + 7), (a_t + 8), (a_t + 9), (a_t + 10), (a_t + 11), a_p1, (a_p1 + 1), (a_p1 + 3), (a_p1 + 4), (a_p1 + 6), (a_p1 + 8), a_p2] [.inr (2, fsX2 a_t t_many t_ownPart t_crossPart t_pointMany t_wallFirst t_wallSize), RK E 8 (a_t + 13) t_rows, .inr (8, fsX8 (a_t + 2) t_planes_many), IA E 8 t_planes_xs, IA E 8 t_planes_ys, IA E 8 t_planes_zs, .inr (8, fsX8 (a_t + 6) t_steps_many), IA E 8 t_steps_xs, IA E 8 t_steps_ys, IA E 8 t_steps_zs, JA E 8 r.2.1, IA E 8 r.2.2.1, .inr (3, fsX3 a_p1 p1_speckMany p1_sourceMany p1_baseTold p1_baseLow p1_baseHigh p1_reach), IA E 21 p1_pushes, IA E 100 p1_lows, IA E 100 p1_highs, IA E 100 p1_sourceHolds, IA E 5 p1_sources, .inr (4, fsX4 a_p2 p2_x p2_y p2_z r.2.2.2.1 r.2.2.2.2.1 r.2.2.2.2.2.1)] (fam E (a_t + 13) 8 r.2.2.2.2.2.2 h)) n (inI r.1 ∧ okJ r.2.1 ∧ okA r.2.2.1 ∧ inJ r.2.2.2.1 ∧ inJ r.2.2.2.2.1 ∧ inJ r.2.2.2.2.2.1 ∧ okR r.2.2.2.2.2.2) 0 0) 0 0 n (ov [a_t, (a_t + 1), (a_t + 2), (a_t + 3), (a_t + 4), (a_t + 5), (a_t + 6), (a_t + 7), (a_t + 8), (a_t + 9), (a_t + 10), (a_t + 11), a_p1, (a_p1 + 1), (a_p1 + 3), (a_p1 + 4), (a_p1 + 6), (a_p1 + 8), a_p2] [.inr (2, fsX2 a_t t_many t_ownPart t_crossPart t_pointMany t_wallFirst t_wallSize), RK E 8 (a_t + 13) t_rows, .inr (8, fsX8 (a_t + 2) t_planes_many), IA E 8 t_planes_xs, IA E 8 t_planes_ys, IA E 8 t_planes_zs, .inr (8, fsX8 (a_t + 6) t_steps_many), IA E 8 t_steps_xs, IA E 8 t_steps_ys, IA E 8 t_steps_zs, JA E 8 t_hardnesses, IA E 8 t_forces, .inr (3, fsX3 a_p1 p1_speckMany p1_sourceMany p1_baseTold p1_baseLow p1_baseHigh p1_reach), IA E 21 p1_pushes, IA E 100 p1_lows, IA E 100 p1_highs, IA E 100 p1_sourceHolds, IA E 5 p1_sources, .inr (4, fsX4 a_p2 p2_x p2_y p2_z p2_product p2_above p2_below)] (fam E (a_t + 13) 8 t_rows_R h)) 3 [some (.ref a_t), some (.ref a_p1), some (.ref a_p2), some (vI v3), some (vI v4), some (vI v5), some (vI v6)] [] := by
  intro F
  induction F with
  | zero =>
    intro t_forces p2_product p2_above p2_below v6 ok_t_forces ok_p2_product ok_p2_above ok_p2_below ok_v6 hs
    rw [m_X2_loadBy_3] at hs
    cases hs
  | succ F ih =>
    intro t_forces p2_product p2_above p2_below v6 ok_t_forces ok_p2_product ok_p2_above ok_p2_below ok_v6 hs
    rw [m_X2_loadBy_3] at hs
    refine g_iload e_X2_loadBy_3 rfl ?_
    refine g_aload_n e_X2_loadBy_5 rfl ?_
    refine g_get 0 6 ao rfl rfl fsX2_g6 fl_X2_41 e_X2_loadBy_6 ?_
    refine g_icmp_ge e_X2_loadBy_9 ok_v6 ok_t_many hs (fun c9 hs => ?_) (fun c9 hs => ?_)
    · exact g_mask [true, true, false, false, true, true, false] (hk_33 _ _ _ _ _ ok_t_forces ok_p2_product ok_p2_above ok_p2_below ok_v6 hs)
    · refine g_aload_n e_X2_loadBy_12 rfl ?_
      refine g_get 0 4 ao rfl rfl fsX2_g4 fl_X2_33 e_X2_loadBy_13 ?_
      refine g_iload e_X2_loadBy_16 rfl ?_
      refine g_aload_n e_X2_loadBy_18 rfl ?_
      refine g_aload_n e_X2_loadBy_19 rfl ?_
      refine g_iload_n e_X2_loadBy_20 rfl ?_
      refine g_iload e_X2_loadBy_21 rfl ?_
      obtain ⟨y1, hy1, hs⟩ := bind_elim hs
      refine g_callVr [.ref a_p2, vI v3, vI v6] cv_X2_114 ⟨rfl, rfl, Nat.le_of_ble_eq_true rfl, Nat.le_of_ble_eq_true rfl⟩ (Ct_heap (ct_X2_forceOn (a_t := a_t) (a_p1 := a_p2) (AO_call [0, 2, 3, 4, 5, 6, 7, 8, 9, 18] ao (by decide) rfl) (FA_call [0, 2, 3, 4, 5, 6, 7, 8, 9, 18] ao.1 rfl rfl) ok_t_planes_many ok_t_planes_xs ok_t_planes_ys ok_t_planes_zs ok_t_steps_many ok_t_steps_xs ok_t_steps_ys ok_t_steps_zs ok_p2_x ok_p2_y ok_p2_z ok_p2_product ok_p2_above ok_p2_below ok_v3 ok_v6 hy1) (ov_callN (esn := [.inr (2, fsX2 a_t t_many t_ownPart t_crossPart t_pointMany t_wallFirst t_wallSize), RK E 8 (a_t + 13) t_rows, .inr (8, fsX8 (a_t + 2) t_planes_many), IA E 8 t_planes_xs, IA E 8 t_planes_ys, IA E 8 t_planes_zs, .inr (8, fsX8 (a_t + 6) t_steps_many), IA E 8 t_steps_xs, IA E 8 t_steps_ys, IA E 8 t_steps_zs, JA E 8 t_hardnesses, IA E 8 t_forces, .inr (3, fsX3 a_p1 p1_speckMany p1_sourceMany p1_baseTold p1_baseLow p1_baseHigh p1_reach), IA E 21 p1_pushes, IA E 100 p1_lows, IA E 100 p1_highs, IA E 100 p1_sourceHolds, IA E 5 p1_sources, .inr (4, fsX4 a_p2 p2_x p2_y p2_z y1.2.1 y1.2.2.1 y1.2.2.2)]) [0, 2, 3, 4, 5, 6, 7, 8, 9, 18] [false, true, false, false, false, false, false, false, false, false, true, true, true, true, true, true, true, true, false] ao.1 rfl rfl rfl rfl rfl rfl (by decide))) e_X2_loadBy_23 (ao.2 0 _ rfl) (ov_get 0 ao.1 rfl rfl) rfl rfl rfl (Nat.le_of_ble_eq_true rfl) ⟨Nat.le_refl _, Nat.le_refl _⟩ (fun Py1 => ?_)
      refine g_iast 11 ao rfl rfl ls_11 (Nat.le_of_ble_eq_true rfl) e_X2_loadBy_26 hs (fun hi2 hs => ?_)
      refine g_iinc e_X2_loadBy_27 rfl st1_6 rfl ?_
      refine g_goto e_X2_loadBy_30 ?_
      obtain ⟨hc3, hs⟩ := chk_elim hs
      exact ih _ _ _ _ _ (okA_up ok_t_forces Py1.1) Py1.2.1 Py1.2.2.1 Py1.2.2.2 hc3 hs

noncomputable def m_X2_loadBy_36 (t_many : Int) (t_ownPart : Int) (t_crossPart : Int) (t_rows : Nat → Nat) (t_forces : Nat → Int) (p1_sourceMany : Int) (p1_reach : Int) (p1_pushes : Nat → Int) (p1_lows : Nat → Int) (p1_highs : Nat → Int) (p1_sourceHolds : Nat → Int) (p1_sources : Nat → Int) (v4 : Int) (v5 : Int) (k_62 : (Nat → Int) → (Nat → RowT) → Int → Option (Int × (Nat → Int) × (Nat → Int) × Int × Int × Int × (Nat → RowT))) (k_53 : (Nat → Int) → (Nat → RowT) → Int → Option (Int × (Nat → Int) × (Nat → Int) × Int × Int × Int × (Nat → RowT))) : Nat → (Nat → Int) → (Nat → RowT) → Int → Option (Int × (Nat → Int) × (Nat → Int) × Int × Int × Int × (Nat → RowT))
  | 0, _, _, _ => none
  | F + 1, t_hardnesses, t_rows_R, v6 => if v4 ≤ v6 then (k_62 t_hardnesses t_rows_R v6) else ((m_X2_tickAll t_many t_ownPart t_crossPart t_rows t_hardnesses t_forces p1_sourceMany p1_reach p1_pushes p1_lows p1_highs p1_sourceHolds p1_sources t_rows_R v5).bind (fun y4 => if y4.1 = 0 then (k_53 y4.2.1 y4.2.2 v6) else (chk (inI (v6 + 1)) (m_X2_loadBy_36 t_many t_ownPart t_crossPart t_rows t_forces p1_sourceMany p1_reach p1_pushes p1_lows p1_highs p1_sourceHolds p1_sources v4 v5 k_62 k_53 F y4.2.1 y4.2.2 (v6 + 1)))))

set_option maxRecDepth 10000 in
set_option maxHeartbeats 8000000 in
theorem g_X2_loadBy_36 {l : Launch} {E : EE} {b0 n : Nat} {h : AH} {a_t a_p1 a_p2 : Nat} {t_many t_ownPart t_crossPart t_pointMany t_wallFirst t_wallSize t_planes_many t_steps_many p1_speckMany p1_sourceMany p1_baseTold p1_baseLow p1_baseHigh p1_reach p2_x p2_y p2_z p2_product p2_above p2_below v4 v5 : Int} {t_planes_xs t_planes_ys t_planes_zs t_steps_xs t_steps_ys t_steps_zs t_forces p1_pushes p1_lows p1_highs p1_sourceHolds p1_sources : Nat → Int} {t_rows : Nat → Nat} {r : Int × (Nat → Int) × (Nat → Int) × Int × Int × Int × (Nat → RowT)} {k_62 : (Nat → Int) → (Nat → RowT) → Int → Option (Int × (Nat → Int) × (Nat → Int) × Int × Int × Int × (Nat → RowT))} {k_53 : (Nat → Int) → (Nat → RowT) → Int → Option (Int × (Nat → Int) × (Nat → Int) × Int × Int × Int × (Nat → RowT))} (ao : AO b0 n [a_t, (a_t + 1), (a_t + 2), (a_t + 3), (a_t + 4), (a_t + 5), (a_t + 6), (a_t + 7), (a_t + 8), (a_t + 9), (a_t + 10), (a_t + 11), a_p1, (a_p1 + 1), (a_p1 + 3), (a_p1 + 4), (a_p1 + 6), (a_p1 + 8), a_p2]) (fo : FO b0 n [a_t, (a_t + 1), (a_t + 2), (a_t + 3), (a_t + 4), (a_t + 5), (a_t + 6), (a_t + 7), (a_t + 8), (a_t + 9), (a_t + 10), (a_t + 11), a_p1, (a_p1 + 1), (a_p1 + 3), (a_p1 + 4), (a_p1 + 6), (a_p1 + 8), a_p2] (a_t + 13) 8) (ok_t_many : inI t_many) (ok_t_ownPart : inI t_ownPart) (ok_t_crossPart : inI t_crossPart) (ok_t_rows : True) (ok_t_planes_many : inI t_planes_many) (ok_t_planes_xs : okA t_planes_xs) (ok_t_planes_ys : okA t_planes_ys) (ok_t_planes_zs : okA t_planes_zs) (ok_t_steps_many : inI t_steps_many) (ok_t_steps_xs : okA t_steps_xs) (ok_t_steps_ys : okA t_steps_ys) (ok_t_steps_zs : okA t_steps_zs) (ok_t_forces : okA t_forces) (ok_p1_sourceMany : inI p1_sourceMany) (ok_p1_reach : inI p1_reach) (ok_p1_pushes : okA p1_pushes) (ok_p1_lows : okA p1_lows) (ok_p1_highs : okA p1_highs) (ok_p1_sourceHolds : okA p1_sourceHolds) (ok_p1_sources : okA p1_sources) (ok_p2_x : inI p2_x) (ok_p2_y : inI p2_y) (ok_p2_z : inI p2_z) (ok_p2_product : inJ p2_product) (ok_p2_above : inJ p2_above) (ok_p2_below : inJ p2_below) (ok_v4 : inI v4) (ok_v5 : inI v5) (hk_62 : ∀ (t_hardnesses_ : Nat → Int) (t_rows_R_ : Nat → RowT) (v6_ : Int), okJ t_hardnesses_ → okR t_rows_R_ → inI v6_ → k_62 t_hardnesses_ t_rows_R_ v6_ = some r → G l E b0 M_X2_loadBy (fun _ => True) (ZM E b0 (some (vI r.1)) (ov [a_t, (a_t + 1), (a_t + 2), (a_t + 3), (a_t + 4), (a_t + 5), (a_t + 6), (a_t + 7), (a_t + 8), (a_t + 9), (a_t + 10), (a_t + 11), a_p1, (a_p1 + 1), (a_p1 + 3), (a_p1 + 4), (a_p1 + 6), (a_p1 + 8), a_p2] [.inr (2, fsX2 a_t t_many t_ownPart t_crossPart t_pointMany t_wallFirst t_wallSize), RK E 8 (a_t + 13) t_rows, .inr (8, fsX8 (a_t + 2) t_planes_many), IA E 8 t_planes_xs, IA E 8 t_planes_ys, IA E 8 t_planes_zs, .inr (8, fsX8 (a_t + 6) t_steps_many), IA E 8 t_steps_xs, IA E 8 t_steps_ys, IA E 8 t_steps_zs, JA E 8 r.2.1, IA E 8 r.2.2.1, .inr (3, fsX3 a_p1 p1_speckMany p1_sourceMany p1_baseTold p1_baseLow p1_baseHigh p1_reach), IA E 21 p1_pushes, IA E 100 p1_lows, IA E 100 p1_highs, IA E 100 p1_sourceHolds, IA E 5 p1_sources, .inr (4, fsX4 a_p2 p2_x p2_y p2_z r.2.2.2.1 r.2.2.2.2.1 r.2.2.2.2.2.1)] (fam E (a_t + 13) 8 r.2.2.2.2.2.2 h)) n (inI r.1 ∧ okJ r.2.1 ∧ okA r.2.2.1 ∧ inJ r.2.2.2.1 ∧ inJ r.2.2.2.2.1 ∧ inJ r.2.2.2.2.2.1 ∧ okR r.2.2.2.2.2.2) 0 0) 0 0 n (ov [a_t, (a_t + 1), (a_t + 2), (a_t + 3), (a_t + 4), (a_t + 5), (a_t + 6), (a_t + 7), (a_t + 8), (a_t + 9), (a_t + 10), (a_t + 11), a_p1, (a_p1 + 1), (a_p1 + 3), (a_p1 + 4), (a_p1 + 6), (a_p1 + 8), a_p2] [.inr (2, fsX2 a_t t_many t_ownPart t_crossPart t_pointMany t_wallFirst t_wallSize), RK E 8 (a_t + 13) t_rows, .inr (8, fsX8 (a_t + 2) t_planes_many), IA E 8 t_planes_xs, IA E 8 t_planes_ys, IA E 8 t_planes_zs, .inr (8, fsX8 (a_t + 6) t_steps_many), IA E 8 t_steps_xs, IA E 8 t_steps_ys, IA E 8 t_steps_zs, JA E 8 t_hardnesses_, IA E 8 t_forces, .inr (3, fsX3 a_p1 p1_speckMany p1_sourceMany p1_baseTold p1_baseLow p1_baseHigh p1_reach), IA E 21 p1_pushes, IA E 100 p1_lows, IA E 100 p1_highs, IA E 100 p1_sourceHolds, IA E 5 p1_sources, .inr (4, fsX4 a_p2 p2_x p2_y p2_z p2_product p2_above p2_below)] (fam E (a_t + 13) 8 t_rows_R_ h)) 62 [none, none, none, none, some (vI v4), none, none] []) (hk_53 : ∀ (t_hardnesses_ : Nat → Int) (t_rows_R_ : Nat → RowT) (v6_ : Int), okJ t_hardnesses_ → okR t_rows_R_ → inI v6_ → k_53 t_hardnesses_ t_rows_R_ v6_ = some r → G l E b0 M_X2_loadBy (fun _ => True) (ZM E b0 (some (vI r.1)) (ov [a_t, (a_t + 1), (a_t + 2), (a_t + 3), (a_t + 4), (a_t + 5), (a_t + 6), (a_t + 7), (a_t + 8), (a_t + 9), (a_t + 10), (a_t + 11), a_p1, (a_p1 + 1), (a_p1 + 3), (a_p1 + 4), (a_p1 + 6), (a_p1 + 8), a_p2] [.inr (2, fsX2 a_t t_many t_ownPart t_crossPart t_pointMany t_wallFirst t_wallSize), RK E 8 (a_t + 13) t_rows, .inr (8, fsX8 (a_t + 2) t_planes_many), IA E 8 t_planes_xs, IA E 8 t_planes_ys, IA E 8 t_planes_zs, .inr (8, fsX8 (a_t + 6) t_steps_many), IA E 8 t_steps_xs, IA E 8 t_steps_ys, IA E 8 t_steps_zs, JA E 8 r.2.1, IA E 8 r.2.2.1, .inr (3, fsX3 a_p1 p1_speckMany p1_sourceMany p1_baseTold p1_baseLow p1_baseHigh p1_reach), IA E 21 p1_pushes, IA E 100 p1_lows, IA E 100 p1_highs, IA E 100 p1_sourceHolds, IA E 5 p1_sources, .inr (4, fsX4 a_p2 p2_x p2_y p2_z r.2.2.2.1 r.2.2.2.2.1 r.2.2.2.2.2.1)] (fam E (a_t + 13) 8 r.2.2.2.2.2.2 h)) n (inI r.1 ∧ okJ r.2.1 ∧ okA r.2.2.1 ∧ inJ r.2.2.2.1 ∧ inJ r.2.2.2.2.1 ∧ inJ r.2.2.2.2.2.1 ∧ okR r.2.2.2.2.2.2) 0 0) 0 0 n (ov [a_t, (a_t + 1), (a_t + 2), (a_t + 3), (a_t + 4), (a_t + 5), (a_t + 6), (a_t + 7), (a_t + 8), (a_t + 9), (a_t + 10), (a_t + 11), a_p1, (a_p1 + 1), (a_p1 + 3), (a_p1 + 4), (a_p1 + 6), (a_p1 + 8), a_p2] [.inr (2, fsX2 a_t t_many t_ownPart t_crossPart t_pointMany t_wallFirst t_wallSize), RK E 8 (a_t + 13) t_rows, .inr (8, fsX8 (a_t + 2) t_planes_many), IA E 8 t_planes_xs, IA E 8 t_planes_ys, IA E 8 t_planes_zs, .inr (8, fsX8 (a_t + 6) t_steps_many), IA E 8 t_steps_xs, IA E 8 t_steps_ys, IA E 8 t_steps_zs, JA E 8 t_hardnesses_, IA E 8 t_forces, .inr (3, fsX3 a_p1 p1_speckMany p1_sourceMany p1_baseTold p1_baseLow p1_baseHigh p1_reach), IA E 21 p1_pushes, IA E 100 p1_lows, IA E 100 p1_highs, IA E 100 p1_sourceHolds, IA E 5 p1_sources, .inr (4, fsX4 a_p2 p2_x p2_y p2_z p2_product p2_above p2_below)] (fam E (a_t + 13) 8 t_rows_R_ h)) 53 [none, none, none, none, none, none, some (vI v6_)] []) :
    ∀ (F : Nat) (t_hardnesses : Nat → Int) (t_rows_R : Nat → RowT) (v6 : Int), okJ t_hardnesses → okR t_rows_R → inI v6 → m_X2_loadBy_36 t_many t_ownPart t_crossPart t_rows t_forces p1_sourceMany p1_reach p1_pushes p1_lows p1_highs p1_sourceHolds p1_sources v4 v5 k_62 k_53 F t_hardnesses t_rows_R v6 = some r → G l E b0 M_X2_loadBy (fun _ => True) (ZM E b0 (some (vI r.1)) (ov [a_t, (a_t + 1), (a_t + 2), (a_t + 3), (a_t + 4), (a_t + 5), (a_t + 6), (a_t + 7), (a_t + 8), (a_t + 9), (a_t + 10), (a_t + 11), a_p1, (a_p1 + 1), (a_p1 + 3), (a_p1 + 4), (a_p1 + 6), (a_p1 + 8), a_p2] [.inr (2, fsX2 a_t t_many t_ownPart t_crossPart t_pointMany t_wallFirst t_wallSize), RK E 8 (a_t + 13) t_rows, .inr (8, fsX8 (a_t + 2) t_planes_many), IA E 8 t_planes_xs, IA E 8 t_planes_ys, IA E 8 t_planes_zs, .inr (8, fsX8 (a_t + 6) t_steps_many), IA E 8 t_steps_xs, IA E 8 t_steps_ys, IA E 8 t_steps_zs, JA E 8 r.2.1, IA E 8 r.2.2.1, .inr (3, fsX3 a_p1 p1_speckMany p1_sourceMany p1_baseTold p1_baseLow p1_baseHigh p1_reach), IA E 21 p1_pushes, IA E 100 p1_lows, IA E 100 p1_highs, IA E 100 p1_sourceHolds, IA E 5 p1_sources, .inr (4, fsX4 a_p2 p2_x p2_y p2_z r.2.2.2.1 r.2.2.2.2.1 r.2.2.2.2.2.1)] (fam E (a_t + 13) 8 r.2.2.2.2.2.2 h)) n (inI r.1 ∧ okJ r.2.1 ∧ okA r.2.2.1 ∧ inJ r.2.2.2.1 ∧ inJ r.2.2.2.2.1 ∧ inJ r.2.2.2.2.2.1 ∧ okR r.2.2.2.2.2.2) 0 0) 0 0 n (ov [a_t, (a_t + 1), (a_t + 2), (a_t + 3), (a_t + 4), (a_t + 5), (a_t + 6), (a_t + 7), (a_t + 8), (a_t + 9), (a_t + 10), (a_t + 11), a_p1, (a_p1 + 1), (a_p1 + 3), (a_p1 + 4), (a_p1 + 6), (a_p1 + 8), a_p2] [.inr (2, fsX2 a_t t_many t_ownPart t_crossPart t_pointMany t_wallFirst t_wallSize), RK E 8 (a_t + 13) t_rows, .inr (8, fsX8 (a_t + 2) t_planes_many), IA E 8 t_planes_xs, IA E 8 t_planes_ys, IA E 8 t_planes_zs, .inr (8, fsX8 (a_t + 6) t_steps_many), IA E 8 t_steps_xs, IA E 8 t_steps_ys, IA E 8 t_steps_zs, JA E 8 t_hardnesses, IA E 8 t_forces, .inr (3, fsX3 a_p1 p1_speckMany p1_sourceMany p1_baseTold p1_baseLow p1_baseHigh p1_reach), IA E 21 p1_pushes, IA E 100 p1_lows, IA E 100 p1_highs, IA E 100 p1_sourceHolds, IA E 5 p1_sources, .inr (4, fsX4 a_p2 p2_x p2_y p2_z p2_product p2_above p2_below)] (fam E (a_t + 13) 8 t_rows_R h)) 36 [some (.ref a_t), some (.ref a_p1), none, none, some (vI v4), some (vI v5), some (vI v6)] [] := by
  intro F
  induction F with
  | zero =>
    intro t_hardnesses t_rows_R v6 ok_t_hardnesses ok_t_rows_R ok_v6 hs
    rw [m_X2_loadBy_36] at hs
    cases hs
  | succ F ih =>
    intro t_hardnesses t_rows_R v6 ok_t_hardnesses ok_t_rows_R ok_v6 hs
    rw [m_X2_loadBy_36] at hs
    refine g_iload e_X2_loadBy_36 rfl ?_
    refine g_iload e_X2_loadBy_38 rfl ?_
    refine g_icmp_ge e_X2_loadBy_40 ok_v6 ok_v4 hs (fun c40 hs => ?_) (fun c40 hs => ?_)
    · exact g_mask [false, false, true, true, true, false, false] (hk_62 _ _ _ ok_t_hardnesses ok_t_rows_R ok_v6 hs)
    · refine g_aload_n e_X2_loadBy_43 rfl ?_
      refine g_aload_n e_X2_loadBy_44 rfl ?_
      refine g_iload e_X2_loadBy_45 rfl ?_
      obtain ⟨y4, hy4, hs⟩ := bind_elim hs
      refine g_callVr [.ref a_p1, vI v5] cv_X2_118 ⟨rfl, rfl, Nat.le_of_ble_eq_true rfl, Nat.le_of_ble_eq_true rfl⟩ (Ct_heap (ct_X2_tickAll (a_t := a_t) (a_p1 := a_p1) (AO_call [0, 1, 10, 11, 12, 13, 14, 15, 16, 17] ao (by decide) rfl) (FO_call [0, 1, 10, 11, 12, 13, 14, 15, 16, 17] fo rfl) (FA_call [0, 1, 10, 11, 12, 13, 14, 15, 16, 17] ao.1 rfl rfl) (FF_ov fo) ok_t_many ok_t_ownPart ok_t_crossPart ok_t_rows ok_t_hardnesses ok_t_forces ok_p1_sourceMany ok_p1_reach ok_p1_pushes ok_p1_lows ok_p1_highs ok_p1_sourceHolds ok_p1_sources ok_t_rows_R ok_v5 hy4) (ovF_callN (esn := [.inr (2, fsX2 a_t t_many t_ownPart t_crossPart t_pointMany t_wallFirst t_wallSize), RK E 8 (a_t + 13) t_rows, .inr (8, fsX8 (a_t + 2) t_planes_many), IA E 8 t_planes_xs, IA E 8 t_planes_ys, IA E 8 t_planes_zs, .inr (8, fsX8 (a_t + 6) t_steps_many), IA E 8 t_steps_xs, IA E 8 t_steps_ys, IA E 8 t_steps_zs, JA E 8 y4.2.1, IA E 8 t_forces, .inr (3, fsX3 a_p1 p1_speckMany p1_sourceMany p1_baseTold p1_baseLow p1_baseHigh p1_reach), IA E 21 p1_pushes, IA E 100 p1_lows, IA E 100 p1_highs, IA E 100 p1_sourceHolds, IA E 5 p1_sources, .inr (4, fsX4 a_p2 p2_x p2_y p2_z p2_product p2_above p2_below)]) [0, 1, 10, 11, 12, 13, 14, 15, 16, 17] [false, false, true, true, true, true, true, true, true, true, false, false, false, false, false, false, false, false, true] fo ao.1 rfl rfl rfl rfl rfl rfl (by decide))) e_X2_loadBy_47 (ao.2 0 _ rfl) (ov_get 0 ao.1 rfl rfl) rfl rfl rfl (Nat.le_of_ble_eq_true rfl) ⟨Nat.le_refl _, Nat.le_refl _⟩ (fun Py4 => ?_)
      refine g_if_ne e_X2_loadBy_50 (inZ_I Py4.1) hs (fun c50 hs => ?_) (fun c50 hs => ?_)
      · exact g_mask [false, false, true, true, false, false, true] (hk_53 _ _ _ Py4.2.1 Py4.2.2 ok_v6 hs)
      · refine g_iinc e_X2_loadBy_56 rfl st1_6 rfl ?_
        refine g_goto e_X2_loadBy_59 ?_
        obtain ⟨hc5, hs⟩ := chk_elim hs
        exact ih _ _ _ Py4.2.1 Py4.2.2 hc5 hs

noncomputable def m_X2_loadBy_62 (t_hardnesses : Nat → Int) (t_forces : Nat → Int) (p2_product : Int) (p2_above : Int) (p2_below : Int) (t_rows_R : Nat → RowT) (v4 : Int) : Option (Int × (Nat → Int) × (Nat → Int) × Int × Int × Int × (Nat → RowT)) :=
  some (if 0 < v4 then v4 else 0, t_hardnesses, t_forces, p2_product, p2_above, p2_below, t_rows_R)

set_option maxRecDepth 10000 in
set_option maxHeartbeats 8000000 in
theorem g_X2_loadBy_62 {l : Launch} {E : EE} {b0 n : Nat} {h : AH} {a_t a_p1 a_p2 : Nat} {t_many t_ownPart t_crossPart t_pointMany t_wallFirst t_wallSize t_planes_many t_steps_many p1_speckMany p1_sourceMany p1_baseTold p1_baseLow p1_baseHigh p1_reach p2_x p2_y p2_z p2_product p2_above p2_below v4 : Int} {t_planes_xs t_planes_ys t_planes_zs t_steps_xs t_steps_ys t_steps_zs t_hardnesses t_forces p1_pushes p1_lows p1_highs p1_sourceHolds p1_sources : Nat → Int} {t_rows : Nat → Nat} {t_rows_R : Nat → RowT} {r : Int × (Nat → Int) × (Nat → Int) × Int × Int × Int × (Nat → RowT)} (ao : AO b0 n [a_t, (a_t + 1), (a_t + 2), (a_t + 3), (a_t + 4), (a_t + 5), (a_t + 6), (a_t + 7), (a_t + 8), (a_t + 9), (a_t + 10), (a_t + 11), a_p1, (a_p1 + 1), (a_p1 + 3), (a_p1 + 4), (a_p1 + 6), (a_p1 + 8), a_p2]) (fo : FO b0 n [a_t, (a_t + 1), (a_t + 2), (a_t + 3), (a_t + 4), (a_t + 5), (a_t + 6), (a_t + 7), (a_t + 8), (a_t + 9), (a_t + 10), (a_t + 11), a_p1, (a_p1 + 1), (a_p1 + 3), (a_p1 + 4), (a_p1 + 6), (a_p1 + 8), a_p2] (a_t + 13) 8) (ok_t_many : inI t_many) (ok_t_ownPart : inI t_ownPart) (ok_t_crossPart : inI t_crossPart) (ok_t_rows : True) (ok_t_planes_many : inI t_planes_many) (ok_t_planes_xs : okA t_planes_xs) (ok_t_planes_ys : okA t_planes_ys) (ok_t_planes_zs : okA t_planes_zs) (ok_t_steps_many : inI t_steps_many) (ok_t_steps_xs : okA t_steps_xs) (ok_t_steps_ys : okA t_steps_ys) (ok_t_steps_zs : okA t_steps_zs) (ok_t_hardnesses : okJ t_hardnesses) (ok_t_forces : okA t_forces) (ok_p1_sourceMany : inI p1_sourceMany) (ok_p1_reach : inI p1_reach) (ok_p1_pushes : okA p1_pushes) (ok_p1_lows : okA p1_lows) (ok_p1_highs : okA p1_highs) (ok_p1_sourceHolds : okA p1_sourceHolds) (ok_p1_sources : okA p1_sources) (ok_p2_x : inI p2_x) (ok_p2_y : inI p2_y) (ok_p2_z : inI p2_z) (ok_p2_product : inJ p2_product) (ok_p2_above : inJ p2_above) (ok_p2_below : inJ p2_below) (ok_t_rows_R : okR t_rows_R) (ok_v4 : inI v4) (hs : m_X2_loadBy_62 t_hardnesses t_forces p2_product p2_above p2_below t_rows_R v4 = some r) : G l E b0 M_X2_loadBy (fun _ => True) (ZM E b0 (some (vI r.1)) (ov [a_t, (a_t + 1), (a_t + 2), (a_t + 3), (a_t + 4), (a_t + 5), (a_t + 6), (a_t + 7), (a_t + 8), (a_t + 9), (a_t + 10), (a_t + 11), a_p1, (a_p1 + 1), (a_p1 + 3), (a_p1 + 4), (a_p1 + 6), (a_p1 + 8), a_p2] [.inr (2, fsX2 a_t t_many t_ownPart t_crossPart t_pointMany t_wallFirst t_wallSize), RK E 8 (a_t + 13) t_rows, .inr (8, fsX8 (a_t + 2) t_planes_many), IA E 8 t_planes_xs, IA E 8 t_planes_ys, IA E 8 t_planes_zs, .inr (8, fsX8 (a_t + 6) t_steps_many), IA E 8 t_steps_xs, IA E 8 t_steps_ys, IA E 8 t_steps_zs, JA E 8 r.2.1, IA E 8 r.2.2.1, .inr (3, fsX3 a_p1 p1_speckMany p1_sourceMany p1_baseTold p1_baseLow p1_baseHigh p1_reach), IA E 21 p1_pushes, IA E 100 p1_lows, IA E 100 p1_highs, IA E 100 p1_sourceHolds, IA E 5 p1_sources, .inr (4, fsX4 a_p2 p2_x p2_y p2_z r.2.2.2.1 r.2.2.2.2.1 r.2.2.2.2.2.1)] (fam E (a_t + 13) 8 r.2.2.2.2.2.2 h)) n (inI r.1 ∧ okJ r.2.1 ∧ okA r.2.2.1 ∧ inJ r.2.2.2.1 ∧ inJ r.2.2.2.2.1 ∧ inJ r.2.2.2.2.2.1 ∧ okR r.2.2.2.2.2.2) 0 0) 0 0 n (ov [a_t, (a_t + 1), (a_t + 2), (a_t + 3), (a_t + 4), (a_t + 5), (a_t + 6), (a_t + 7), (a_t + 8), (a_t + 9), (a_t + 10), (a_t + 11), a_p1, (a_p1 + 1), (a_p1 + 3), (a_p1 + 4), (a_p1 + 6), (a_p1 + 8), a_p2] [.inr (2, fsX2 a_t t_many t_ownPart t_crossPart t_pointMany t_wallFirst t_wallSize), RK E 8 (a_t + 13) t_rows, .inr (8, fsX8 (a_t + 2) t_planes_many), IA E 8 t_planes_xs, IA E 8 t_planes_ys, IA E 8 t_planes_zs, .inr (8, fsX8 (a_t + 6) t_steps_many), IA E 8 t_steps_xs, IA E 8 t_steps_ys, IA E 8 t_steps_zs, JA E 8 t_hardnesses, IA E 8 t_forces, .inr (3, fsX3 a_p1 p1_speckMany p1_sourceMany p1_baseTold p1_baseLow p1_baseHigh p1_reach), IA E 21 p1_pushes, IA E 100 p1_lows, IA E 100 p1_highs, IA E 100 p1_sourceHolds, IA E 5 p1_sources, .inr (4, fsX4 a_p2 p2_x p2_y p2_z p2_product p2_above p2_below)] (fam E (a_t + 13) 8 t_rows_R h)) 62 [none, none, none, none, some (vI v4), none, none] [] := by
  rw [m_X2_loadBy_62] at hs
  refine g_iconst e_X2_loadBy_62 ?_
  refine g_iload e_X2_loadBy_63 rfl ?_
  refine g_max jm_X2_122 e_X2_loadBy_65 ⟨Nat.le_of_ble_eq_true rfl, Nat.le_of_ble_eq_true rfl, Nat.le_of_ble_eq_true rfl⟩ (Nat.le_of_ble_eq_true rfl) (by decide : inI 0) ok_v4 ?_
  obtain rfl := Option.some.inj hs
  exact g_iret rfl ⟨(ite_I ok_v4 (by decide : inI 0)), ok_t_hardnesses, ok_t_forces, ok_p2_product, ok_p2_above, ok_p2_below, ok_t_rows_R⟩ e_X2_loadBy_68

noncomputable def m_X2_loadBy_53 (t_hardnesses : Nat → Int) (t_forces : Nat → Int) (p2_product : Int) (p2_above : Int) (p2_below : Int) (t_rows_R : Nat → RowT) (v6 : Int) : Option (Int × (Nat → Int) × (Nat → Int) × Int × Int × Int × (Nat → RowT)) :=
  some (v6, t_hardnesses, t_forces, p2_product, p2_above, p2_below, t_rows_R)

set_option maxRecDepth 10000 in
set_option maxHeartbeats 8000000 in
theorem g_X2_loadBy_53 {l : Launch} {E : EE} {b0 n : Nat} {h : AH} {a_t a_p1 a_p2 : Nat} {t_many t_ownPart t_crossPart t_pointMany t_wallFirst t_wallSize t_planes_many t_steps_many p1_speckMany p1_sourceMany p1_baseTold p1_baseLow p1_baseHigh p1_reach p2_x p2_y p2_z p2_product p2_above p2_below v6 : Int} {t_planes_xs t_planes_ys t_planes_zs t_steps_xs t_steps_ys t_steps_zs t_hardnesses t_forces p1_pushes p1_lows p1_highs p1_sourceHolds p1_sources : Nat → Int} {t_rows : Nat → Nat} {t_rows_R : Nat → RowT} {r : Int × (Nat → Int) × (Nat → Int) × Int × Int × Int × (Nat → RowT)} (ao : AO b0 n [a_t, (a_t + 1), (a_t + 2), (a_t + 3), (a_t + 4), (a_t + 5), (a_t + 6), (a_t + 7), (a_t + 8), (a_t + 9), (a_t + 10), (a_t + 11), a_p1, (a_p1 + 1), (a_p1 + 3), (a_p1 + 4), (a_p1 + 6), (a_p1 + 8), a_p2]) (fo : FO b0 n [a_t, (a_t + 1), (a_t + 2), (a_t + 3), (a_t + 4), (a_t + 5), (a_t + 6), (a_t + 7), (a_t + 8), (a_t + 9), (a_t + 10), (a_t + 11), a_p1, (a_p1 + 1), (a_p1 + 3), (a_p1 + 4), (a_p1 + 6), (a_p1 + 8), a_p2] (a_t + 13) 8) (ok_t_many : inI t_many) (ok_t_ownPart : inI t_ownPart) (ok_t_crossPart : inI t_crossPart) (ok_t_rows : True) (ok_t_planes_many : inI t_planes_many) (ok_t_planes_xs : okA t_planes_xs) (ok_t_planes_ys : okA t_planes_ys) (ok_t_planes_zs : okA t_planes_zs) (ok_t_steps_many : inI t_steps_many) (ok_t_steps_xs : okA t_steps_xs) (ok_t_steps_ys : okA t_steps_ys) (ok_t_steps_zs : okA t_steps_zs) (ok_t_hardnesses : okJ t_hardnesses) (ok_t_forces : okA t_forces) (ok_p1_sourceMany : inI p1_sourceMany) (ok_p1_reach : inI p1_reach) (ok_p1_pushes : okA p1_pushes) (ok_p1_lows : okA p1_lows) (ok_p1_highs : okA p1_highs) (ok_p1_sourceHolds : okA p1_sourceHolds) (ok_p1_sources : okA p1_sources) (ok_p2_x : inI p2_x) (ok_p2_y : inI p2_y) (ok_p2_z : inI p2_z) (ok_p2_product : inJ p2_product) (ok_p2_above : inJ p2_above) (ok_p2_below : inJ p2_below) (ok_t_rows_R : okR t_rows_R) (ok_v6 : inI v6) (hs : m_X2_loadBy_53 t_hardnesses t_forces p2_product p2_above p2_below t_rows_R v6 = some r) : G l E b0 M_X2_loadBy (fun _ => True) (ZM E b0 (some (vI r.1)) (ov [a_t, (a_t + 1), (a_t + 2), (a_t + 3), (a_t + 4), (a_t + 5), (a_t + 6), (a_t + 7), (a_t + 8), (a_t + 9), (a_t + 10), (a_t + 11), a_p1, (a_p1 + 1), (a_p1 + 3), (a_p1 + 4), (a_p1 + 6), (a_p1 + 8), a_p2] [.inr (2, fsX2 a_t t_many t_ownPart t_crossPart t_pointMany t_wallFirst t_wallSize), RK E 8 (a_t + 13) t_rows, .inr (8, fsX8 (a_t + 2) t_planes_many), IA E 8 t_planes_xs, IA E 8 t_planes_ys, IA E 8 t_planes_zs, .inr (8, fsX8 (a_t + 6) t_steps_many), IA E 8 t_steps_xs, IA E 8 t_steps_ys, IA E 8 t_steps_zs, JA E 8 r.2.1, IA E 8 r.2.2.1, .inr (3, fsX3 a_p1 p1_speckMany p1_sourceMany p1_baseTold p1_baseLow p1_baseHigh p1_reach), IA E 21 p1_pushes, IA E 100 p1_lows, IA E 100 p1_highs, IA E 100 p1_sourceHolds, IA E 5 p1_sources, .inr (4, fsX4 a_p2 p2_x p2_y p2_z r.2.2.2.1 r.2.2.2.2.1 r.2.2.2.2.2.1)] (fam E (a_t + 13) 8 r.2.2.2.2.2.2 h)) n (inI r.1 ∧ okJ r.2.1 ∧ okA r.2.2.1 ∧ inJ r.2.2.2.1 ∧ inJ r.2.2.2.2.1 ∧ inJ r.2.2.2.2.2.1 ∧ okR r.2.2.2.2.2.2) 0 0) 0 0 n (ov [a_t, (a_t + 1), (a_t + 2), (a_t + 3), (a_t + 4), (a_t + 5), (a_t + 6), (a_t + 7), (a_t + 8), (a_t + 9), (a_t + 10), (a_t + 11), a_p1, (a_p1 + 1), (a_p1 + 3), (a_p1 + 4), (a_p1 + 6), (a_p1 + 8), a_p2] [.inr (2, fsX2 a_t t_many t_ownPart t_crossPart t_pointMany t_wallFirst t_wallSize), RK E 8 (a_t + 13) t_rows, .inr (8, fsX8 (a_t + 2) t_planes_many), IA E 8 t_planes_xs, IA E 8 t_planes_ys, IA E 8 t_planes_zs, .inr (8, fsX8 (a_t + 6) t_steps_many), IA E 8 t_steps_xs, IA E 8 t_steps_ys, IA E 8 t_steps_zs, JA E 8 t_hardnesses, IA E 8 t_forces, .inr (3, fsX3 a_p1 p1_speckMany p1_sourceMany p1_baseTold p1_baseLow p1_baseHigh p1_reach), IA E 21 p1_pushes, IA E 100 p1_lows, IA E 100 p1_highs, IA E 100 p1_sourceHolds, IA E 5 p1_sources, .inr (4, fsX4 a_p2 p2_x p2_y p2_z p2_product p2_above p2_below)] (fam E (a_t + 13) 8 t_rows_R h)) 53 [none, none, none, none, none, none, some (vI v6)] [] := by
  rw [m_X2_loadBy_53] at hs
  refine g_iload e_X2_loadBy_53 rfl ?_
  obtain rfl := Option.some.inj hs
  exact g_iret rfl ⟨ok_v6, ok_t_hardnesses, ok_t_forces, ok_p2_product, ok_p2_above, ok_p2_below, ok_t_rows_R⟩ e_X2_loadBy_55

noncomputable def m_X2_loadBy_33 (t_many : Int) (t_ownPart : Int) (t_crossPart : Int) (t_rows : Nat → Nat) (t_hardnesses : Nat → Int) (t_forces : Nat → Int) (p1_sourceMany : Int) (p1_reach : Int) (p1_pushes : Nat → Int) (p1_lows : Nat → Int) (p1_highs : Nat → Int) (p1_sourceHolds : Nat → Int) (p1_sources : Nat → Int) (p2_product : Int) (p2_above : Int) (p2_below : Int) (t_rows_R : Nat → RowT) (v4 : Int) (v5 : Int) : Option (Int × (Nat → Int) × (Nat → Int) × Int × Int × Int × (Nat → RowT)) :=
  m_X2_loadBy_36 t_many t_ownPart t_crossPart t_rows t_forces p1_sourceMany p1_reach p1_pushes p1_lows p1_highs p1_sourceHolds p1_sources v4 v5 (fun t_hardnesses' t_rows_R' v6' => m_X2_loadBy_62 t_hardnesses' t_forces p2_product p2_above p2_below t_rows_R' v4) (fun t_hardnesses' t_rows_R' v6' => m_X2_loadBy_53 t_hardnesses' t_forces p2_product p2_above p2_below t_rows_R' v6') FU t_hardnesses t_rows_R 0

set_option maxRecDepth 10000 in
set_option maxHeartbeats 8000000 in
theorem g_X2_loadBy_33 {l : Launch} {E : EE} {b0 n : Nat} {h : AH} {a_t a_p1 a_p2 : Nat} {t_many t_ownPart t_crossPart t_pointMany t_wallFirst t_wallSize t_planes_many t_steps_many p1_speckMany p1_sourceMany p1_baseTold p1_baseLow p1_baseHigh p1_reach p2_x p2_y p2_z p2_product p2_above p2_below v4 v5 : Int} {t_planes_xs t_planes_ys t_planes_zs t_steps_xs t_steps_ys t_steps_zs t_hardnesses t_forces p1_pushes p1_lows p1_highs p1_sourceHolds p1_sources : Nat → Int} {t_rows : Nat → Nat} {t_rows_R : Nat → RowT} {r : Int × (Nat → Int) × (Nat → Int) × Int × Int × Int × (Nat → RowT)} (ao : AO b0 n [a_t, (a_t + 1), (a_t + 2), (a_t + 3), (a_t + 4), (a_t + 5), (a_t + 6), (a_t + 7), (a_t + 8), (a_t + 9), (a_t + 10), (a_t + 11), a_p1, (a_p1 + 1), (a_p1 + 3), (a_p1 + 4), (a_p1 + 6), (a_p1 + 8), a_p2]) (fo : FO b0 n [a_t, (a_t + 1), (a_t + 2), (a_t + 3), (a_t + 4), (a_t + 5), (a_t + 6), (a_t + 7), (a_t + 8), (a_t + 9), (a_t + 10), (a_t + 11), a_p1, (a_p1 + 1), (a_p1 + 3), (a_p1 + 4), (a_p1 + 6), (a_p1 + 8), a_p2] (a_t + 13) 8) (ok_t_many : inI t_many) (ok_t_ownPart : inI t_ownPart) (ok_t_crossPart : inI t_crossPart) (ok_t_rows : True) (ok_t_planes_many : inI t_planes_many) (ok_t_planes_xs : okA t_planes_xs) (ok_t_planes_ys : okA t_planes_ys) (ok_t_planes_zs : okA t_planes_zs) (ok_t_steps_many : inI t_steps_many) (ok_t_steps_xs : okA t_steps_xs) (ok_t_steps_ys : okA t_steps_ys) (ok_t_steps_zs : okA t_steps_zs) (ok_t_hardnesses : okJ t_hardnesses) (ok_t_forces : okA t_forces) (ok_p1_sourceMany : inI p1_sourceMany) (ok_p1_reach : inI p1_reach) (ok_p1_pushes : okA p1_pushes) (ok_p1_lows : okA p1_lows) (ok_p1_highs : okA p1_highs) (ok_p1_sourceHolds : okA p1_sourceHolds) (ok_p1_sources : okA p1_sources) (ok_p2_x : inI p2_x) (ok_p2_y : inI p2_y) (ok_p2_z : inI p2_z) (ok_p2_product : inJ p2_product) (ok_p2_above : inJ p2_above) (ok_p2_below : inJ p2_below) (ok_t_rows_R : okR t_rows_R) (ok_v4 : inI v4) (ok_v5 : inI v5) (hs : m_X2_loadBy_33 t_many t_ownPart t_crossPart t_rows t_hardnesses t_forces p1_sourceMany p1_reach p1_pushes p1_lows p1_highs p1_sourceHolds p1_sources p2_product p2_above p2_below t_rows_R v4 v5 = some r) : G l E b0 M_X2_loadBy (fun _ => True) (ZM E b0 (some (vI r.1)) (ov [a_t, (a_t + 1), (a_t + 2), (a_t + 3), (a_t + 4), (a_t + 5), (a_t + 6), (a_t + 7), (a_t + 8), (a_t + 9), (a_t + 10), (a_t + 11), a_p1, (a_p1 + 1), (a_p1 + 3), (a_p1 + 4), (a_p1 + 6), (a_p1 + 8), a_p2] [.inr (2, fsX2 a_t t_many t_ownPart t_crossPart t_pointMany t_wallFirst t_wallSize), RK E 8 (a_t + 13) t_rows, .inr (8, fsX8 (a_t + 2) t_planes_many), IA E 8 t_planes_xs, IA E 8 t_planes_ys, IA E 8 t_planes_zs, .inr (8, fsX8 (a_t + 6) t_steps_many), IA E 8 t_steps_xs, IA E 8 t_steps_ys, IA E 8 t_steps_zs, JA E 8 r.2.1, IA E 8 r.2.2.1, .inr (3, fsX3 a_p1 p1_speckMany p1_sourceMany p1_baseTold p1_baseLow p1_baseHigh p1_reach), IA E 21 p1_pushes, IA E 100 p1_lows, IA E 100 p1_highs, IA E 100 p1_sourceHolds, IA E 5 p1_sources, .inr (4, fsX4 a_p2 p2_x p2_y p2_z r.2.2.2.1 r.2.2.2.2.1 r.2.2.2.2.2.1)] (fam E (a_t + 13) 8 r.2.2.2.2.2.2 h)) n (inI r.1 ∧ okJ r.2.1 ∧ okA r.2.2.1 ∧ inJ r.2.2.2.1 ∧ inJ r.2.2.2.2.1 ∧ inJ r.2.2.2.2.2.1 ∧ okR r.2.2.2.2.2.2) 0 0) 0 0 n (ov [a_t, (a_t + 1), (a_t + 2), (a_t + 3), (a_t + 4), (a_t + 5), (a_t + 6), (a_t + 7), (a_t + 8), (a_t + 9), (a_t + 10), (a_t + 11), a_p1, (a_p1 + 1), (a_p1 + 3), (a_p1 + 4), (a_p1 + 6), (a_p1 + 8), a_p2] [.inr (2, fsX2 a_t t_many t_ownPart t_crossPart t_pointMany t_wallFirst t_wallSize), RK E 8 (a_t + 13) t_rows, .inr (8, fsX8 (a_t + 2) t_planes_many), IA E 8 t_planes_xs, IA E 8 t_planes_ys, IA E 8 t_planes_zs, .inr (8, fsX8 (a_t + 6) t_steps_many), IA E 8 t_steps_xs, IA E 8 t_steps_ys, IA E 8 t_steps_zs, JA E 8 t_hardnesses, IA E 8 t_forces, .inr (3, fsX3 a_p1 p1_speckMany p1_sourceMany p1_baseTold p1_baseLow p1_baseHigh p1_reach), IA E 21 p1_pushes, IA E 100 p1_lows, IA E 100 p1_highs, IA E 100 p1_sourceHolds, IA E 5 p1_sources, .inr (4, fsX4 a_p2 p2_x p2_y p2_z p2_product p2_above p2_below)] (fam E (a_t + 13) 8 t_rows_R h)) 33 [some (.ref a_t), some (.ref a_p1), none, none, some (vI v4), some (vI v5), none] [] := by
  rw [m_X2_loadBy_33] at hs
  refine g_iconst e_X2_loadBy_33 ?_
  refine g_istore e_X2_loadBy_34 st1_6 rfl ?_
  exact g_X2_loadBy_36 ao fo ok_t_many ok_t_ownPart ok_t_crossPart ok_t_rows ok_t_planes_many ok_t_planes_xs ok_t_planes_ys ok_t_planes_zs ok_t_steps_many ok_t_steps_xs ok_t_steps_ys ok_t_steps_zs ok_t_forces ok_p1_sourceMany ok_p1_reach ok_p1_pushes ok_p1_lows ok_p1_highs ok_p1_sourceHolds ok_p1_sources ok_p2_x ok_p2_y ok_p2_z ok_p2_product ok_p2_above ok_p2_below ok_v4 ok_v5 (hk_62 := by
      intro t_hardnesses' t_rows_R' v6' ok_t_hardnesses' ok_t_rows_R' ok_v6' hs
      exact g_X2_loadBy_62 ao fo ok_t_many ok_t_ownPart ok_t_crossPart ok_t_rows ok_t_planes_many ok_t_planes_xs ok_t_planes_ys ok_t_planes_zs ok_t_steps_many ok_t_steps_xs ok_t_steps_ys ok_t_steps_zs ok_t_hardnesses' ok_t_forces ok_p1_sourceMany ok_p1_reach ok_p1_pushes ok_p1_lows ok_p1_highs ok_p1_sourceHolds ok_p1_sources ok_p2_x ok_p2_y ok_p2_z ok_p2_product ok_p2_above ok_p2_below ok_t_rows_R' ok_v4 hs) (hk_53 := by
      intro t_hardnesses' t_rows_R' v6' ok_t_hardnesses' ok_t_rows_R' ok_v6' hs
      exact g_X2_loadBy_53 ao fo ok_t_many ok_t_ownPart ok_t_crossPart ok_t_rows ok_t_planes_many ok_t_planes_xs ok_t_planes_ys ok_t_planes_zs ok_t_steps_many ok_t_steps_xs ok_t_steps_ys ok_t_steps_zs ok_t_hardnesses' ok_t_forces ok_p1_sourceMany ok_p1_reach ok_p1_pushes ok_p1_lows ok_p1_highs ok_p1_sourceHolds ok_p1_sources ok_p2_x ok_p2_y ok_p2_z ok_p2_product ok_p2_above ok_p2_below ok_t_rows_R' ok_v6' hs) FU _ _ _ ok_t_hardnesses ok_t_rows_R (by decide : inI 0) hs

noncomputable def m_X2_loadBy_0 (t_many : Int) (t_ownPart : Int) (t_crossPart : Int) (t_rows : Nat → Nat) (t_planes_many : Int) (t_planes_xs : Nat → Int) (t_planes_ys : Nat → Int) (t_planes_zs : Nat → Int) (t_steps_many : Int) (t_steps_xs : Nat → Int) (t_steps_ys : Nat → Int) (t_steps_zs : Nat → Int) (t_hardnesses : Nat → Int) (t_forces : Nat → Int) (p1_sourceMany : Int) (p1_reach : Int) (p1_pushes : Nat → Int) (p1_lows : Nat → Int) (p1_highs : Nat → Int) (p1_sourceHolds : Nat → Int) (p1_sources : Nat → Int) (p2_x : Int) (p2_y : Int) (p2_z : Int) (p2_product : Int) (p2_above : Int) (p2_below : Int) (t_rows_R : Nat → RowT) (v3 : Int) (v4 : Int) (v5 : Int) : Option (Int × (Nat → Int) × (Nat → Int) × Int × Int × Int × (Nat → RowT)) :=
  m_X2_loadBy_3 t_many t_planes_many t_planes_xs t_planes_ys t_planes_zs t_steps_many t_steps_xs t_steps_ys t_steps_zs p2_x p2_y p2_z v3 (fun t_forces' p2_product' p2_above' p2_below' v6' => m_X2_loadBy_33 t_many t_ownPart t_crossPart t_rows t_hardnesses t_forces' p1_sourceMany p1_reach p1_pushes p1_lows p1_highs p1_sourceHolds p1_sources p2_product' p2_above' p2_below' t_rows_R v4 v5) FU t_forces p2_product p2_above p2_below 0

set_option maxRecDepth 10000 in
set_option maxHeartbeats 8000000 in
theorem g_X2_loadBy_0 {l : Launch} {E : EE} {b0 n : Nat} {h : AH} {a_t a_p1 a_p2 : Nat} {t_many t_ownPart t_crossPart t_pointMany t_wallFirst t_wallSize t_planes_many t_steps_many p1_speckMany p1_sourceMany p1_baseTold p1_baseLow p1_baseHigh p1_reach p2_x p2_y p2_z p2_product p2_above p2_below v3 v4 v5 : Int} {t_planes_xs t_planes_ys t_planes_zs t_steps_xs t_steps_ys t_steps_zs t_hardnesses t_forces p1_pushes p1_lows p1_highs p1_sourceHolds p1_sources : Nat → Int} {t_rows : Nat → Nat} {t_rows_R : Nat → RowT} {r : Int × (Nat → Int) × (Nat → Int) × Int × Int × Int × (Nat → RowT)} (ao : AO b0 n [a_t, (a_t + 1), (a_t + 2), (a_t + 3), (a_t + 4), (a_t + 5), (a_t + 6), (a_t + 7), (a_t + 8), (a_t + 9), (a_t + 10), (a_t + 11), a_p1, (a_p1 + 1), (a_p1 + 3), (a_p1 + 4), (a_p1 + 6), (a_p1 + 8), a_p2]) (fo : FO b0 n [a_t, (a_t + 1), (a_t + 2), (a_t + 3), (a_t + 4), (a_t + 5), (a_t + 6), (a_t + 7), (a_t + 8), (a_t + 9), (a_t + 10), (a_t + 11), a_p1, (a_p1 + 1), (a_p1 + 3), (a_p1 + 4), (a_p1 + 6), (a_p1 + 8), a_p2] (a_t + 13) 8) (ok_t_many : inI t_many) (ok_t_ownPart : inI t_ownPart) (ok_t_crossPart : inI t_crossPart) (ok_t_rows : True) (ok_t_planes_many : inI t_planes_many) (ok_t_planes_xs : okA t_planes_xs) (ok_t_planes_ys : okA t_planes_ys) (ok_t_planes_zs : okA t_planes_zs) (ok_t_steps_many : inI t_steps_many) (ok_t_steps_xs : okA t_steps_xs) (ok_t_steps_ys : okA t_steps_ys) (ok_t_steps_zs : okA t_steps_zs) (ok_t_hardnesses : okJ t_hardnesses) (ok_t_forces : okA t_forces) (ok_p1_sourceMany : inI p1_sourceMany) (ok_p1_reach : inI p1_reach) (ok_p1_pushes : okA p1_pushes) (ok_p1_lows : okA p1_lows) (ok_p1_highs : okA p1_highs) (ok_p1_sourceHolds : okA p1_sourceHolds) (ok_p1_sources : okA p1_sources) (ok_p2_x : inI p2_x) (ok_p2_y : inI p2_y) (ok_p2_z : inI p2_z) (ok_p2_product : inJ p2_product) (ok_p2_above : inJ p2_above) (ok_p2_below : inJ p2_below) (ok_t_rows_R : okR t_rows_R) (ok_v3 : inI v3) (ok_v4 : inI v4) (ok_v5 : inI v5) (hs : m_X2_loadBy_0 t_many t_ownPart t_crossPart t_rows t_planes_many t_planes_xs t_planes_ys t_planes_zs t_steps_many t_steps_xs t_steps_ys t_steps_zs t_hardnesses t_forces p1_sourceMany p1_reach p1_pushes p1_lows p1_highs p1_sourceHolds p1_sources p2_x p2_y p2_z p2_product p2_above p2_below t_rows_R v3 v4 v5 = some r) : G l E b0 M_X2_loadBy (fun _ => True) (ZM E b0 (some (vI r.1)) (ov [a_t, (a_t + 1), (a_t + 2), (a_t + 3), (a_t + 4), (a_t + 5), (a_t + 6), (a_t + 7), (a_t + 8), (a_t + 9), (a_t + 10), (a_t + 11), a_p1, (a_p1 + 1), (a_p1 + 3), (a_p1 + 4), (a_p1 + 6), (a_p1 + 8), a_p2] [.inr (2, fsX2 a_t t_many t_ownPart t_crossPart t_pointMany t_wallFirst t_wallSize), RK E 8 (a_t + 13) t_rows, .inr (8, fsX8 (a_t + 2) t_planes_many), IA E 8 t_planes_xs, IA E 8 t_planes_ys, IA E 8 t_planes_zs, .inr (8, fsX8 (a_t + 6) t_steps_many), IA E 8 t_steps_xs, IA E 8 t_steps_ys, IA E 8 t_steps_zs, JA E 8 r.2.1, IA E 8 r.2.2.1, .inr (3, fsX3 a_p1 p1_speckMany p1_sourceMany p1_baseTold p1_baseLow p1_baseHigh p1_reach), IA E 21 p1_pushes, IA E 100 p1_lows, IA E 100 p1_highs, IA E 100 p1_sourceHolds, IA E 5 p1_sources, .inr (4, fsX4 a_p2 p2_x p2_y p2_z r.2.2.2.1 r.2.2.2.2.1 r.2.2.2.2.2.1)] (fam E (a_t + 13) 8 r.2.2.2.2.2.2 h)) n (inI r.1 ∧ okJ r.2.1 ∧ okA r.2.2.1 ∧ inJ r.2.2.2.1 ∧ inJ r.2.2.2.2.1 ∧ inJ r.2.2.2.2.2.1 ∧ okR r.2.2.2.2.2.2) 0 0) 0 0 n (ov [a_t, (a_t + 1), (a_t + 2), (a_t + 3), (a_t + 4), (a_t + 5), (a_t + 6), (a_t + 7), (a_t + 8), (a_t + 9), (a_t + 10), (a_t + 11), a_p1, (a_p1 + 1), (a_p1 + 3), (a_p1 + 4), (a_p1 + 6), (a_p1 + 8), a_p2] [.inr (2, fsX2 a_t t_many t_ownPart t_crossPart t_pointMany t_wallFirst t_wallSize), RK E 8 (a_t + 13) t_rows, .inr (8, fsX8 (a_t + 2) t_planes_many), IA E 8 t_planes_xs, IA E 8 t_planes_ys, IA E 8 t_planes_zs, .inr (8, fsX8 (a_t + 6) t_steps_many), IA E 8 t_steps_xs, IA E 8 t_steps_ys, IA E 8 t_steps_zs, JA E 8 t_hardnesses, IA E 8 t_forces, .inr (3, fsX3 a_p1 p1_speckMany p1_sourceMany p1_baseTold p1_baseLow p1_baseHigh p1_reach), IA E 21 p1_pushes, IA E 100 p1_lows, IA E 100 p1_highs, IA E 100 p1_sourceHolds, IA E 5 p1_sources, .inr (4, fsX4 a_p2 p2_x p2_y p2_z p2_product p2_above p2_below)] (fam E (a_t + 13) 8 t_rows_R h)) 0 [some (.ref a_t), some (.ref a_p1), some (.ref a_p2), some (vI v3), some (vI v4), some (vI v5), none] [] := by
  rw [m_X2_loadBy_0] at hs
  refine g_iconst e_X2_loadBy_0 ?_
  refine g_istore e_X2_loadBy_1 st1_6 rfl ?_
  exact g_X2_loadBy_3 ao fo ok_t_many ok_t_ownPart ok_t_crossPart ok_t_rows ok_t_planes_many ok_t_planes_xs ok_t_planes_ys ok_t_planes_zs ok_t_steps_many ok_t_steps_xs ok_t_steps_ys ok_t_steps_zs ok_t_hardnesses ok_p1_sourceMany ok_p1_reach ok_p1_pushes ok_p1_lows ok_p1_highs ok_p1_sourceHolds ok_p1_sources ok_p2_x ok_p2_y ok_p2_z ok_t_rows_R ok_v3 ok_v4 ok_v5 (hk_33 := by
      intro t_forces' p2_product' p2_above' p2_below' v6' ok_t_forces' ok_p2_product' ok_p2_above' ok_p2_below' ok_v6' hs
      exact g_X2_loadBy_33 ao fo ok_t_many ok_t_ownPart ok_t_crossPart ok_t_rows ok_t_planes_many ok_t_planes_xs ok_t_planes_ys ok_t_planes_zs ok_t_steps_many ok_t_steps_xs ok_t_steps_ys ok_t_steps_zs ok_t_hardnesses ok_t_forces' ok_p1_sourceMany ok_p1_reach ok_p1_pushes ok_p1_lows ok_p1_highs ok_p1_sourceHolds ok_p1_sources ok_p2_x ok_p2_y ok_p2_z ok_p2_product' ok_p2_above' ok_p2_below' ok_t_rows_R ok_v4 ok_v5 hs) FU _ _ _ _ _ ok_t_forces ok_p2_product ok_p2_above ok_p2_below (by decide : inI 0) hs

noncomputable def m_X2_loadBy (t_many : Int) (t_ownPart : Int) (t_crossPart : Int) (t_rows : Nat → Nat) (t_planes_many : Int) (t_planes_xs : Nat → Int) (t_planes_ys : Nat → Int) (t_planes_zs : Nat → Int) (t_steps_many : Int) (t_steps_xs : Nat → Int) (t_steps_ys : Nat → Int) (t_steps_zs : Nat → Int) (t_hardnesses : Nat → Int) (t_forces : Nat → Int) (p1_sourceMany : Int) (p1_reach : Int) (p1_pushes : Nat → Int) (p1_lows : Nat → Int) (p1_highs : Nat → Int) (p1_sourceHolds : Nat → Int) (p1_sources : Nat → Int) (p2_x : Int) (p2_y : Int) (p2_z : Int) (p2_product : Int) (p2_above : Int) (p2_below : Int) (t_rows_R : Nat → RowT) (v3 : Int) (v4 : Int) (v5 : Int) : Option (Int × (Nat → Int) × (Nat → Int) × Int × Int × Int × (Nat → RowT)) := m_X2_loadBy_0 t_many t_ownPart t_crossPart t_rows t_planes_many t_planes_xs t_planes_ys t_planes_zs t_steps_many t_steps_xs t_steps_ys t_steps_zs t_hardnesses t_forces p1_sourceMany p1_reach p1_pushes p1_lows p1_highs p1_sourceHolds p1_sources p2_x p2_y p2_z p2_product p2_above p2_below t_rows_R v3 v4 v5

set_option maxRecDepth 10000 in
set_option maxHeartbeats 8000000 in
theorem ct_X2_loadBy {l : Launch} {E : EE} {b0 n : Nat} {h : AH} {a_t a_p1 a_p2 : Nat} {t_many t_ownPart t_crossPart t_pointMany t_wallFirst t_wallSize t_planes_many t_steps_many p1_speckMany p1_sourceMany p1_baseTold p1_baseLow p1_baseHigh p1_reach p2_x p2_y p2_z p2_product p2_above p2_below : Int} {t_planes_xs t_planes_ys t_planes_zs t_steps_xs t_steps_ys t_steps_zs t_hardnesses t_forces p1_pushes p1_lows p1_highs p1_sourceHolds p1_sources : Nat → Int} {t_rows : Nat → Nat} {t_rows_R : Nat → RowT} {v3 v4 v5 : Int} (ao : AO b0 n [a_t, (a_t + 1), (a_t + 2), (a_t + 3), (a_t + 4), (a_t + 5), (a_t + 6), (a_t + 7), (a_t + 8), (a_t + 9), (a_t + 10), (a_t + 11), a_p1, (a_p1 + 1), (a_p1 + 3), (a_p1 + 4), (a_p1 + 6), (a_p1 + 8), a_p2]) (fo : FO b0 n [a_t, (a_t + 1), (a_t + 2), (a_t + 3), (a_t + 4), (a_t + 5), (a_t + 6), (a_t + 7), (a_t + 8), (a_t + 9), (a_t + 10), (a_t + 11), a_p1, (a_p1 + 1), (a_p1 + 3), (a_p1 + 4), (a_p1 + 6), (a_p1 + 8), a_p2] (a_t + 13) 8) (hf : FA h [a_t, (a_t + 1), (a_t + 2), (a_t + 3), (a_t + 4), (a_t + 5), (a_t + 6), (a_t + 7), (a_t + 8), (a_t + 9), (a_t + 10), (a_t + 11), a_p1, (a_p1 + 1), (a_p1 + 3), (a_p1 + 4), (a_p1 + 6), (a_p1 + 8), a_p2] [.inr (2, fsX2 a_t t_many t_ownPart t_crossPart t_pointMany t_wallFirst t_wallSize), RK E 8 (a_t + 13) t_rows, .inr (8, fsX8 (a_t + 2) t_planes_many), IA E 8 t_planes_xs, IA E 8 t_planes_ys, IA E 8 t_planes_zs, .inr (8, fsX8 (a_t + 6) t_steps_many), IA E 8 t_steps_xs, IA E 8 t_steps_ys, IA E 8 t_steps_zs, JA E 8 t_hardnesses, IA E 8 t_forces, .inr (3, fsX3 a_p1 p1_speckMany p1_sourceMany p1_baseTold p1_baseLow p1_baseHigh p1_reach), IA E 21 p1_pushes, IA E 100 p1_lows, IA E 100 p1_highs, IA E 100 p1_sourceHolds, IA E 5 p1_sources, .inr (4, fsX4 a_p2 p2_x p2_y p2_z p2_product p2_above p2_below)]) (hF : FF E h (a_t + 13) 8 t_rows_R) (ok_t_many : inI t_many) (ok_t_ownPart : inI t_ownPart) (ok_t_crossPart : inI t_crossPart) (ok_t_rows : True) (ok_t_planes_many : inI t_planes_many) (ok_t_planes_xs : okA t_planes_xs) (ok_t_planes_ys : okA t_planes_ys) (ok_t_planes_zs : okA t_planes_zs) (ok_t_steps_many : inI t_steps_many) (ok_t_steps_xs : okA t_steps_xs) (ok_t_steps_ys : okA t_steps_ys) (ok_t_steps_zs : okA t_steps_zs) (ok_t_hardnesses : okJ t_hardnesses) (ok_t_forces : okA t_forces) (ok_p1_sourceMany : inI p1_sourceMany) (ok_p1_reach : inI p1_reach) (ok_p1_pushes : okA p1_pushes) (ok_p1_lows : okA p1_lows) (ok_p1_highs : okA p1_highs) (ok_p1_sourceHolds : okA p1_sourceHolds) (ok_p1_sources : okA p1_sources) (ok_p2_x : inI p2_x) (ok_p2_y : inI p2_y) (ok_p2_z : inI p2_z) (ok_p2_product : inJ p2_product) (ok_p2_above : inJ p2_above) (ok_p2_below : inJ p2_below) (ok_t_rows_R : okR t_rows_R) (ok_v3 : inI v3) (ok_v4 : inI v4) (ok_v5 : inI v5) {r : Int × (Nat → Int) × (Nat → Int) × Int × Int × Int × (Nat → RowT)} (hm : m_X2_loadBy t_many t_ownPart t_crossPart t_rows t_planes_many t_planes_xs t_planes_ys t_planes_zs t_steps_many t_steps_xs t_steps_ys t_steps_zs t_hardnesses t_forces p1_sourceMany p1_reach p1_pushes p1_lows p1_highs p1_sourceHolds p1_sources p2_x p2_y p2_z p2_product p2_above p2_below t_rows_R v3 v4 v5 = some r) : Ct l E b0 M_X2_loadBy 0 0 [.ref a_t, .ref a_p1, .ref a_p2, vI v3, vI v4, vI v5] h n (some (vI r.1)) (ov [a_t, (a_t + 1), (a_t + 2), (a_t + 3), (a_t + 4), (a_t + 5), (a_t + 6), (a_t + 7), (a_t + 8), (a_t + 9), (a_t + 10), (a_t + 11), a_p1, (a_p1 + 1), (a_p1 + 3), (a_p1 + 4), (a_p1 + 6), (a_p1 + 8), a_p2] [.inr (2, fsX2 a_t t_many t_ownPart t_crossPart t_pointMany t_wallFirst t_wallSize), RK E 8 (a_t + 13) t_rows, .inr (8, fsX8 (a_t + 2) t_planes_many), IA E 8 t_planes_xs, IA E 8 t_planes_ys, IA E 8 t_planes_zs, .inr (8, fsX8 (a_t + 6) t_steps_many), IA E 8 t_steps_xs, IA E 8 t_steps_ys, IA E 8 t_steps_zs, JA E 8 r.2.1, IA E 8 r.2.2.1, .inr (3, fsX3 a_p1 p1_speckMany p1_sourceMany p1_baseTold p1_baseLow p1_baseHigh p1_reach), IA E 21 p1_pushes, IA E 100 p1_lows, IA E 100 p1_highs, IA E 100 p1_sourceHolds, IA E 5 p1_sources, .inr (4, fsX4 a_p2 p2_x p2_y p2_z r.2.2.2.1 r.2.2.2.2.1 r.2.2.2.2.2.1)] (fam E (a_t + 13) 8 r.2.2.2.2.2.2 h)) n (inI r.1 ∧ okJ r.2.1 ∧ okA r.2.2.1 ∧ inJ r.2.2.2.1 ∧ inJ r.2.2.2.2.1 ∧ inJ r.2.2.2.2.2.1 ∧ okR r.2.2.2.2.2.2) := by
  rw [m_X2_loadBy] at hm
  have hg : G l E b0 M_X2_loadBy (fun _ => True) (ZM E b0 (some (vI r.1)) (ov [a_t, (a_t + 1), (a_t + 2), (a_t + 3), (a_t + 4), (a_t + 5), (a_t + 6), (a_t + 7), (a_t + 8), (a_t + 9), (a_t + 10), (a_t + 11), a_p1, (a_p1 + 1), (a_p1 + 3), (a_p1 + 4), (a_p1 + 6), (a_p1 + 8), a_p2] [.inr (2, fsX2 a_t t_many t_ownPart t_crossPart t_pointMany t_wallFirst t_wallSize), RK E 8 (a_t + 13) t_rows, .inr (8, fsX8 (a_t + 2) t_planes_many), IA E 8 t_planes_xs, IA E 8 t_planes_ys, IA E 8 t_planes_zs, .inr (8, fsX8 (a_t + 6) t_steps_many), IA E 8 t_steps_xs, IA E 8 t_steps_ys, IA E 8 t_steps_zs, JA E 8 r.2.1, IA E 8 r.2.2.1, .inr (3, fsX3 a_p1 p1_speckMany p1_sourceMany p1_baseTold p1_baseLow p1_baseHigh p1_reach), IA E 21 p1_pushes, IA E 100 p1_lows, IA E 100 p1_highs, IA E 100 p1_sourceHolds, IA E 5 p1_sources, .inr (4, fsX4 a_p2 p2_x p2_y p2_z r.2.2.2.1 r.2.2.2.2.1 r.2.2.2.2.2.1)] (fam E (a_t + 13) 8 r.2.2.2.2.2.2 h)) n (inI r.1 ∧ okJ r.2.1 ∧ okA r.2.2.1 ∧ inJ r.2.2.2.1 ∧ inJ r.2.2.2.2.1 ∧ inJ r.2.2.2.2.2.1 ∧ okR r.2.2.2.2.2.2) 0 0) 0 0 n (ov [a_t, (a_t + 1), (a_t + 2), (a_t + 3), (a_t + 4), (a_t + 5), (a_t + 6), (a_t + 7), (a_t + 8), (a_t + 9), (a_t + 10), (a_t + 11), a_p1, (a_p1 + 1), (a_p1 + 3), (a_p1 + 4), (a_p1 + 6), (a_p1 + 8), a_p2] [.inr (2, fsX2 a_t t_many t_ownPart t_crossPart t_pointMany t_wallFirst t_wallSize), RK E 8 (a_t + 13) t_rows, .inr (8, fsX8 (a_t + 2) t_planes_many), IA E 8 t_planes_xs, IA E 8 t_planes_ys, IA E 8 t_planes_zs, .inr (8, fsX8 (a_t + 6) t_steps_many), IA E 8 t_steps_xs, IA E 8 t_steps_ys, IA E 8 t_steps_zs, JA E 8 t_hardnesses, IA E 8 t_forces, .inr (3, fsX3 a_p1 p1_speckMany p1_sourceMany p1_baseTold p1_baseLow p1_baseHigh p1_reach), IA E 21 p1_pushes, IA E 100 p1_lows, IA E 100 p1_highs, IA E 100 p1_sourceHolds, IA E 5 p1_sources, .inr (4, fsX4 a_p2 p2_x p2_y p2_z p2_product p2_above p2_below)] (fam E (a_t + 13) 8 t_rows_R h)) 0 [some (.ref a_t), some (.ref a_p1), some (.ref a_p2), some (vI v3), some (vI v4), some (vI v5), none] [] := by
    have hs := hm
    exact g_X2_loadBy_0 ao fo ok_t_many ok_t_ownPart ok_t_crossPart ok_t_rows ok_t_planes_many ok_t_planes_xs ok_t_planes_ys ok_t_planes_zs ok_t_steps_many ok_t_steps_xs ok_t_steps_ys ok_t_steps_zs ok_t_hardnesses ok_t_forces ok_p1_sourceMany ok_p1_reach ok_p1_pushes ok_p1_lows ok_p1_highs ok_p1_sourceHolds ok_p1_sources ok_p2_x ok_p2_y ok_p2_z ok_p2_product ok_p2_above ok_p2_below ok_t_rows_R ok_v3 ok_v4 ok_v5 hs
  rw [FF_id hF] at hg
  rw [FA_id hf] at hg
  exact Ct_of [some (.ref a_t), some (.ref a_p1), some (.ref a_p2), some (vI v3), some (vI v4), some (vI v5), none] ⟨by decide +kernel, rfl⟩ rfl (Nat.le_of_ble_eq_true rfl) hg

/-! ===== X2_curveBy ===== -/
theorem e_X2_curveBy_0 : DC cX2_curveBy 0 (.aload_n 0) 1 1 := ⟨by decide +kernel, rfl⟩
theorem e_X2_curveBy_1 : DC cX2_curveBy 1 (.iload 5) 2 3 := ⟨by decide +kernel, rfl⟩
theorem e_X2_curveBy_3 : DC cX2_curveBy 3 (.bipush 20) 2 5 := ⟨by decide +kernel, rfl⟩
theorem e_X2_curveBy_5 : DC cX2_curveBy 5 (.invokestatic 135) 3 8 := ⟨by decide +kernel, rfl⟩
theorem e_X2_curveBy_8 : DC cX2_curveBy 8 (.putfield 138) 3 11 := ⟨by decide +kernel, rfl⟩
theorem e_X2_curveBy_11 : DC cX2_curveBy 11 (.iconst 0) 1 12 := ⟨by decide +kernel, rfl⟩
theorem e_X2_curveBy_12 : DC cX2_curveBy 12 (.istore 7) 2 14 := ⟨by decide +kernel, rfl⟩
theorem e_X2_curveBy_14 : DC cX2_curveBy 14 (.iload 7) 2 16 := ⟨by decide +kernel, rfl⟩
theorem e_X2_curveBy_16 : DC cX2_curveBy 16 (.aload_n 0) 1 17 := ⟨by decide +kernel, rfl⟩
theorem e_X2_curveBy_17 : DC cX2_curveBy 17 (.getfield 138) 3 20 := ⟨by decide +kernel, rfl⟩
theorem e_X2_curveBy_20 : DB cX2_curveBy 20 (.if_icmp .ge 38) (38) 3 23 58 := ⟨by decide +kernel, rfl, rfl⟩
theorem e_X2_curveBy_23 : DC cX2_curveBy 23 (.aload_n 0) 1 24 := ⟨by decide +kernel, rfl⟩
theorem e_X2_curveBy_24 : DC cX2_curveBy 24 (.aload_n 1) 1 25 := ⟨by decide +kernel, rfl⟩
theorem e_X2_curveBy_25 : DC cX2_curveBy 25 (.aload_n 2) 1 26 := ⟨by decide +kernel, rfl⟩
theorem e_X2_curveBy_26 : DC cX2_curveBy 26 (.iload_n 3) 1 27 := ⟨by decide +kernel, rfl⟩
theorem e_X2_curveBy_27 : DC cX2_curveBy 27 (.iload 7) 2 29 := ⟨by decide +kernel, rfl⟩
theorem e_X2_curveBy_29 : DC cX2_curveBy 29 (.iload 4) 2 31 := ⟨by decide +kernel, rfl⟩
theorem e_X2_curveBy_31 : DC cX2_curveBy 31 (.imul) 1 32 := ⟨by decide +kernel, rfl⟩
theorem e_X2_curveBy_32 : DC cX2_curveBy 32 (.iadd) 1 33 := ⟨by decide +kernel, rfl⟩
theorem e_X2_curveBy_33 : DC cX2_curveBy 33 (.iload 6) 2 35 := ⟨by decide +kernel, rfl⟩
theorem e_X2_curveBy_35 : DC cX2_curveBy 35 (.iconst 1) 1 36 := ⟨by decide +kernel, rfl⟩
theorem e_X2_curveBy_36 : DC cX2_curveBy 36 (.invokevirtual 141) 3 39 := ⟨by decide +kernel, rfl⟩
theorem e_X2_curveBy_39 : DC cX2_curveBy 39 (.pop) 1 40 := ⟨by decide +kernel, rfl⟩
theorem e_X2_curveBy_40 : DC cX2_curveBy 40 (.aload_n 0) 1 41 := ⟨by decide +kernel, rfl⟩
theorem e_X2_curveBy_41 : DC cX2_curveBy 41 (.getfield 37) 3 44 := ⟨by decide +kernel, rfl⟩
theorem e_X2_curveBy_44 : DC cX2_curveBy 44 (.iload 7) 2 46 := ⟨by decide +kernel, rfl⟩
theorem e_X2_curveBy_46 : DC cX2_curveBy 46 (.aload_n 0) 1 47 := ⟨by decide +kernel, rfl⟩
theorem e_X2_curveBy_47 : DC cX2_curveBy 47 (.aload_n 2) 1 48 := ⟨by decide +kernel, rfl⟩
theorem e_X2_curveBy_48 : DC cX2_curveBy 48 (.invokevirtual 145) 3 51 := ⟨by decide +kernel, rfl⟩
theorem e_X2_curveBy_51 : DC cX2_curveBy 51 (.lastore) 1 52 := ⟨by decide +kernel, rfl⟩
theorem e_X2_curveBy_52 : DC cX2_curveBy 52 (.iinc 7 1) 3 55 := ⟨by decide +kernel, rfl⟩
theorem e_X2_curveBy_55 : DB cX2_curveBy 55 (.goto (-41)) (-41) 3 58 14 := ⟨by decide +kernel, rfl, rfl⟩
theorem e_X2_curveBy_58 : DC cX2_curveBy 58 (.aload_n 0) 1 59 := ⟨by decide +kernel, rfl⟩
theorem e_X2_curveBy_59 : DC cX2_curveBy 59 (.aload_n 0) 1 60 := ⟨by decide +kernel, rfl⟩
theorem e_X2_curveBy_60 : DC cX2_curveBy 60 (.getfield 138) 3 63 := ⟨by decide +kernel, rfl⟩
theorem e_X2_curveBy_63 : DC cX2_curveBy 63 (.iconst 1) 1 64 := ⟨by decide +kernel, rfl⟩
theorem e_X2_curveBy_64 : DC cX2_curveBy 64 (.isub) 1 65 := ⟨by decide +kernel, rfl⟩
theorem e_X2_curveBy_65 : DC cX2_curveBy 65 (.invokevirtual 149) 3 68 := ⟨by decide +kernel, rfl⟩
theorem e_X2_curveBy_68 : DC cX2_curveBy 68 (.lreturn) 1 69 := ⟨by decide +kernel, rfl⟩
noncomputable def m_X2_curveBy_14 (t_many : Int) (t_ownPart : Int) (t_crossPart : Int) (t_pointMany : Int) (t_rows : Nat → Nat) (t_planes_many : Int) (t_planes_xs : Nat → Int) (t_planes_ys : Nat → Int) (t_planes_zs : Nat → Int) (t_steps_many : Int) (t_steps_xs : Nat → Int) (t_steps_ys : Nat → Int) (t_steps_zs : Nat → Int) (p1_sourceMany : Int) (p1_reach : Int) (p1_pushes : Nat → Int) (p1_lows : Nat → Int) (p1_highs : Nat → Int) (p1_sourceHolds : Nat → Int) (p1_sources : Nat → Int) (p2_x : Int) (p2_y : Int) (p2_z : Int) (v3 : Int) (v4 : Int) (v6 : Int) (k_58 : (Nat → Int) → (Nat → Int) → (Nat → Int) → Int → Int → Int → (Nat → RowT) → Int → Option (Int × Int × (Nat → Int) × (Nat → Int) × (Nat → Int) × Int × Int × Int × (Nat → RowT))) : Nat → (Nat → Int) → (Nat → Int) → (Nat → Int) → Int → Int → Int → (Nat → RowT) → Int → Option (Int × Int × (Nat → Int) × (Nat → Int) × (Nat → Int) × Int × Int × Int × (Nat → RowT))
  | 0, _, _, _, _, _, _, _, _ => none
  | F + 1, t_hardnesses, t_forces, t_points, p2_product, p2_above, p2_below, t_rows_R, v7 => if t_pointMany ≤ v7 then (k_58 t_hardnesses t_forces t_points p2_product p2_above p2_below t_rows_R v7) else (chk (inI (v3 + (v7 * v4))) ((m_X2_loadBy t_many t_ownPart t_crossPart t_rows t_planes_many t_planes_xs t_planes_ys t_planes_zs t_steps_many t_steps_xs t_steps_ys t_steps_zs t_hardnesses t_forces p1_sourceMany p1_reach p1_pushes p1_lows p1_highs p1_sourceHolds p1_sources p2_x p2_y p2_z p2_product p2_above p2_below t_rows_R (v3 + (v7 * v4)) v6 1).bind (fun y2 => (m_X2_strainAlong t_many t_rows t_planes_many t_planes_xs t_planes_ys t_planes_zs t_steps_many t_steps_xs t_steps_ys t_steps_zs p2_x p2_y p2_z y2.2.2.2.2.2.2).bind (fun y3 => chk (inB v7 20) (chk (inI (v7 + 1)) (m_X2_curveBy_14 t_many t_ownPart t_crossPart t_pointMany t_rows t_planes_many t_planes_xs t_planes_ys t_planes_zs t_steps_many t_steps_xs t_steps_ys t_steps_zs p1_sourceMany p1_reach p1_pushes p1_lows p1_highs p1_sourceHolds p1_sources p2_x p2_y p2_z v3 v4 v6 k_58 F y2.2.1 y2.2.2.1 (up t_points (Int.toNat v7) y3) y2.2.2.2.1 y2.2.2.2.2.1 y2.2.2.2.2.2.1 y2.2.2.2.2.2.2 (v7 + 1)))))))

set_option maxRecDepth 10000 in
set_option maxHeartbeats 8000000 in
theorem g_X2_curveBy_14 {l : Launch} {E : EE} {b0 n : Nat} {h : AH} {a_t a_p1 a_p2 : Nat} {t_many t_ownPart t_crossPart t_pointMany t_wallFirst t_wallSize t_planes_many t_steps_many p1_speckMany p1_sourceMany p1_baseTold p1_baseLow p1_baseHigh p1_reach p2_x p2_y p2_z v3 v4 v6 : Int} {t_planes_xs t_planes_ys t_planes_zs t_steps_xs t_steps_ys t_steps_zs p1_pushes p1_lows p1_highs p1_sourceHolds p1_sources : Nat → Int} {t_rows : Nat → Nat} {r : Int × Int × (Nat → Int) × (Nat → Int) × (Nat → Int) × Int × Int × Int × (Nat → RowT)} {k_58 : (Nat → Int) → (Nat → Int) → (Nat → Int) → Int → Int → Int → (Nat → RowT) → Int → Option (Int × Int × (Nat → Int) × (Nat → Int) × (Nat → Int) × Int × Int × Int × (Nat → RowT))} (ao : AO b0 n [a_t, (a_t + 1), (a_t + 2), (a_t + 3), (a_t + 4), (a_t + 5), (a_t + 6), (a_t + 7), (a_t + 8), (a_t + 9), (a_t + 10), (a_t + 11), (a_t + 12), a_p1, (a_p1 + 1), (a_p1 + 3), (a_p1 + 4), (a_p1 + 6), (a_p1 + 8), a_p2]) (fo : FO b0 n [a_t, (a_t + 1), (a_t + 2), (a_t + 3), (a_t + 4), (a_t + 5), (a_t + 6), (a_t + 7), (a_t + 8), (a_t + 9), (a_t + 10), (a_t + 11), (a_t + 12), a_p1, (a_p1 + 1), (a_p1 + 3), (a_p1 + 4), (a_p1 + 6), (a_p1 + 8), a_p2] (a_t + 13) 8) (ok_t_many : inI t_many) (ok_t_ownPart : inI t_ownPart) (ok_t_crossPart : inI t_crossPart) (ok_t_pointMany : inI t_pointMany) (ok_t_rows : True) (ok_t_planes_many : inI t_planes_many) (ok_t_planes_xs : okA t_planes_xs) (ok_t_planes_ys : okA t_planes_ys) (ok_t_planes_zs : okA t_planes_zs) (ok_t_steps_many : inI t_steps_many) (ok_t_steps_xs : okA t_steps_xs) (ok_t_steps_ys : okA t_steps_ys) (ok_t_steps_zs : okA t_steps_zs) (ok_p1_sourceMany : inI p1_sourceMany) (ok_p1_reach : inI p1_reach) (ok_p1_pushes : okA p1_pushes) (ok_p1_lows : okA p1_lows) (ok_p1_highs : okA p1_highs) (ok_p1_sourceHolds : okA p1_sourceHolds) (ok_p1_sources : okA p1_sources) (ok_p2_x : inI p2_x) (ok_p2_y : inI p2_y) (ok_p2_z : inI p2_z) (ok_v3 : inI v3) (ok_v4 : inI v4) (ok_v6 : inI v6) (hk_58 : ∀ (t_hardnesses_ : Nat → Int) (t_forces_ : Nat → Int) (t_points_ : Nat → Int) (p2_product_ : Int) (p2_above_ : Int) (p2_below_ : Int) (t_rows_R_ : Nat → RowT) (v7_ : Int), okJ t_hardnesses_ → okA t_forces_ → okJ t_points_ → inJ p2_product_ → inJ p2_above_ → inJ p2_below_ → okR t_rows_R_ → inI v7_ → k_58 t_hardnesses_ t_forces_ t_points_ p2_product_ p2_above_ p2_below_ t_rows_R_ v7_ = some r → G l E b0 M_X2_curveBy (fun _ => True) (ZM E b0 (some (vJ r.1)) (ov [a_t, (a_t + 1), (a_t + 2), (a_t + 3), (a_t + 4), (a_t + 5), (a_t + 6), (a_t + 7), (a_t + 8), (a_t + 9), (a_t + 10), (a_t + 11), (a_t + 12), a_p1, (a_p1 + 1), (a_p1 + 3), (a_p1 + 4), (a_p1 + 6), (a_p1 + 8), a_p2] [.inr (2, fsX2 a_t t_many t_ownPart t_crossPart r.2.1 t_wallFirst t_wallSize), RK E 8 (a_t + 13) t_rows, .inr (8, fsX8 (a_t + 2) t_planes_many), IA E 8 t_planes_xs, IA E 8 t_planes_ys, IA E 8 t_planes_zs, .inr (8, fsX8 (a_t + 6) t_steps_many), IA E 8 t_steps_xs, IA E 8 t_steps_ys, IA E 8 t_steps_zs, JA E 8 r.2.2.1, IA E 8 r.2.2.2.1, JA E 20 r.2.2.2.2.1, .inr (3, fsX3 a_p1 p1_speckMany p1_sourceMany p1_baseTold p1_baseLow p1_baseHigh p1_reach), IA E 21 p1_pushes, IA E 100 p1_lows, IA E 100 p1_highs, IA E 100 p1_sourceHolds, IA E 5 p1_sources, .inr (4, fsX4 a_p2 p2_x p2_y p2_z r.2.2.2.2.2.1 r.2.2.2.2.2.2.1 r.2.2.2.2.2.2.2.1)] (fam E (a_t + 13) 8 r.2.2.2.2.2.2.2.2 h)) n (inJ r.1 ∧ inI r.2.1 ∧ okJ r.2.2.1 ∧ okA r.2.2.2.1 ∧ okJ r.2.2.2.2.1 ∧ inJ r.2.2.2.2.2.1 ∧ inJ r.2.2.2.2.2.2.1 ∧ inJ r.2.2.2.2.2.2.2.1 ∧ okR r.2.2.2.2.2.2.2.2) 0 0) 0 0 n (ov [a_t, (a_t + 1), (a_t + 2), (a_t + 3), (a_t + 4), (a_t + 5), (a_t + 6), (a_t + 7), (a_t + 8), (a_t + 9), (a_t + 10), (a_t + 11), (a_t + 12), a_p1, (a_p1 + 1), (a_p1 + 3), (a_p1 + 4), (a_p1 + 6), (a_p1 + 8), a_p2] [.inr (2, fsX2 a_t t_many t_ownPart t_crossPart t_pointMany t_wallFirst t_wallSize), RK E 8 (a_t + 13) t_rows, .inr (8, fsX8 (a_t + 2) t_planes_many), IA E 8 t_planes_xs, IA E 8 t_planes_ys, IA E 8 t_planes_zs, .inr (8, fsX8 (a_t + 6) t_steps_many), IA E 8 t_steps_xs, IA E 8 t_steps_ys, IA E 8 t_steps_zs, JA E 8 t_hardnesses_, IA E 8 t_forces_, JA E 20 t_points_, .inr (3, fsX3 a_p1 p1_speckMany p1_sourceMany p1_baseTold p1_baseLow p1_baseHigh p1_reach), IA E 21 p1_pushes, IA E 100 p1_lows, IA E 100 p1_highs, IA E 100 p1_sourceHolds, IA E 5 p1_sources, .inr (4, fsX4 a_p2 p2_x p2_y p2_z p2_product_ p2_above_ p2_below_)] (fam E (a_t + 13) 8 t_rows_R_ h)) 58 [some (.ref a_t), none, none, none, none, none, none, none] []) :
    ∀ (F : Nat) (t_hardnesses : Nat → Int) (t_forces : Nat → Int) (t_points : Nat → Int) (p2_product : Int) (p2_above : Int) (p2_below : Int) (t_rows_R : Nat → RowT) (v7 : Int), okJ t_hardnesses → okA t_forces → okJ t_points → inJ p2_product → inJ p2_above → inJ p2_below → okR t_rows_R → inI v7 → m_X2_curveBy_14 t_many t_ownPart t_crossPart t_pointMany t_rows t_planes_many t_planes_xs t_planes_ys t_planes_zs t_steps_many t_steps_xs t_steps_ys t_steps_zs p1_sourceMany p1_reach p1_pushes p1_lows p1_highs p1_sourceHolds p1_sources p2_x p2_y p2_z v3 v4 v6 k_58 F t_hardnesses t_forces t_points p2_product p2_above p2_below t_rows_R v7 = some r → G l E b0 M_X2_curveBy (fun _ => True) (ZM E b0 (some (vJ r.1)) (ov [a_t, (a_t + 1), (a_t + 2), (a_t + 3), (a_t + 4), (a_t + 5), (a_t + 6), (a_t + 7), (a_t + 8), (a_t + 9), (a_t + 10), (a_t + 11), (a_t + 12), a_p1, (a_p1 + 1), (a_p1 + 3), (a_p1 + 4), (a_p1 + 6), (a_p1 + 8), a_p2] [.inr (2, fsX2 a_t t_many t_ownPart t_crossPart r.2.1 t_wallFirst t_wallSize), RK E 8 (a_t + 13) t_rows, .inr (8, fsX8 (a_t + 2) t_planes_many), IA E 8 t_planes_xs, IA E 8 t_planes_ys, IA E 8 t_planes_zs, .inr (8, fsX8 (a_t + 6) t_steps_many), IA E 8 t_steps_xs, IA E 8 t_steps_ys, IA E 8 t_steps_zs, JA E 8 r.2.2.1, IA E 8 r.2.2.2.1, JA E 20 r.2.2.2.2.1, .inr (3, fsX3 a_p1 p1_speckMany p1_sourceMany p1_baseTold p1_baseLow p1_baseHigh p1_reach), IA E 21 p1_pushes, IA E 100 p1_lows, IA E 100 p1_highs, IA E 100 p1_sourceHolds, IA E 5 p1_sources, .inr (4, fsX4 a_p2 p2_x p2_y p2_z r.2.2.2.2.2.1 r.2.2.2.2.2.2.1 r.2.2.2.2.2.2.2.1)] (fam E (a_t + 13) 8 r.2.2.2.2.2.2.2.2 h)) n (inJ r.1 ∧ inI r.2.1 ∧ okJ r.2.2.1 ∧ okA r.2.2.2.1 ∧ okJ r.2.2.2.2.1 ∧ inJ r.2.2.2.2.2.1 ∧ inJ r.2.2.2.2.2.2.1 ∧ inJ r.2.2.2.2.2.2.2.1 ∧ okR r.2.2.2.2.2.2.2.2) 0 0) 0 0 n (ov [a_t, (a_t + 1), (a_t + 2), (a_t + 3), (a_t + 4), (a_t + 5), (a_t + 6), (a_t + 7), (a_t + 8), (a_t + 9), (a_t + 10), (a_t + 11), (a_t + 12), a_p1, (a_p1 + 1), (a_p1 + 3), (a_p1 + 4), (a_p1 + 6), (a_p1 + 8), a_p2] [.inr (2, fsX2 a_t t_many t_ownPart t_crossPart t_pointMany t_wallFirst t_wallSize), RK E 8 (a_t + 13) t_rows, .inr (8, fsX8 (a_t + 2) t_planes_many), IA E 8 t_planes_xs, IA E 8 t_planes_ys, IA E 8 t_planes_zs, .inr (8, fsX8 (a_t + 6) t_steps_many), IA E 8 t_steps_xs, IA E 8 t_steps_ys, IA E 8 t_steps_zs, JA E 8 t_hardnesses, IA E 8 t_forces, JA E 20 t_points, .inr (3, fsX3 a_p1 p1_speckMany p1_sourceMany p1_baseTold p1_baseLow p1_baseHigh p1_reach), IA E 21 p1_pushes, IA E 100 p1_lows, IA E 100 p1_highs, IA E 100 p1_sourceHolds, IA E 5 p1_sources, .inr (4, fsX4 a_p2 p2_x p2_y p2_z p2_product p2_above p2_below)] (fam E (a_t + 13) 8 t_rows_R h)) 14 [some (.ref a_t), some (.ref a_p1), some (.ref a_p2), some (vI v3), some (vI v4), none, some (vI v6), some (vI v7)] [] := by
  intro F
  induction F with
  | zero =>
    intro t_hardnesses t_forces t_points p2_product p2_above p2_below t_rows_R v7 ok_t_hardnesses ok_t_forces ok_t_points ok_p2_product ok_p2_above ok_p2_below ok_t_rows_R ok_v7 hs
    rw [m_X2_curveBy_14] at hs
    cases hs
  | succ F ih =>
    intro t_hardnesses t_forces t_points p2_product p2_above p2_below t_rows_R v7 ok_t_hardnesses ok_t_forces ok_t_points ok_p2_product ok_p2_above ok_p2_below ok_t_rows_R ok_v7 hs
    rw [m_X2_curveBy_14] at hs
    refine g_iload e_X2_curveBy_14 rfl ?_
    refine g_aload_n e_X2_curveBy_16 rfl ?_
    refine g_get 0 9 ao rfl rfl fsX2_g9 fl_X2_138 e_X2_curveBy_17 ?_
    refine g_icmp_ge e_X2_curveBy_20 ok_v7 ok_t_pointMany hs (fun c20 hs => ?_) (fun c20 hs => ?_)
    · exact g_mask [true, false, false, false, false, true, false, false] (hk_58 _ _ _ _ _ _ _ _ ok_t_hardnesses ok_t_forces ok_t_points ok_p2_product ok_p2_above ok_p2_below ok_t_rows_R ok_v7 hs)
    · refine g_aload_n e_X2_curveBy_23 rfl ?_
      refine g_aload_n e_X2_curveBy_24 rfl ?_
      refine g_aload_n e_X2_curveBy_25 rfl ?_
      refine g_iload_n e_X2_curveBy_26 rfl ?_
      refine g_iload e_X2_curveBy_27 rfl ?_
      refine g_iload e_X2_curveBy_29 rfl ?_
      refine g_imul e_X2_curveBy_31 ?_
      refine g_iadd e_X2_curveBy_32 ?_
      refine g_iload e_X2_curveBy_33 rfl ?_
      refine g_iconst e_X2_curveBy_35 ?_
      obtain ⟨hc1, hs⟩ := chk_elim hs
      obtain ⟨y2, hy2, hs⟩ := bind_elim hs
      refine g_callVr [.ref a_p1, .ref a_p2, vI (v3 + (v7 * v4)), vI v6, vI 1] cv_X2_141 ⟨rfl, rfl, Nat.le_of_ble_eq_true rfl, Nat.le_of_ble_eq_true rfl⟩ (Ct_heap (ct_X2_loadBy (a_t := a_t) (a_p1 := a_p1) (a_p2 := a_p2) (AO_call [0, 1, 2, 3, 4, 5, 6, 7, 8, 9, 10, 11, 13, 14, 15, 16, 17, 18, 19] ao (by decide) rfl) (FO_call [0, 1, 2, 3, 4, 5, 6, 7, 8, 9, 10, 11, 13, 14, 15, 16, 17, 18, 19] fo rfl) (FA_call [0, 1, 2, 3, 4, 5, 6, 7, 8, 9, 10, 11, 13, 14, 15, 16, 17, 18, 19] ao.1 rfl rfl) (FF_ov fo) ok_t_many ok_t_ownPart ok_t_crossPart ok_t_rows ok_t_planes_many ok_t_planes_xs ok_t_planes_ys ok_t_planes_zs ok_t_steps_many ok_t_steps_xs ok_t_steps_ys ok_t_steps_zs ok_t_hardnesses ok_t_forces ok_p1_sourceMany ok_p1_reach ok_p1_pushes ok_p1_lows ok_p1_highs ok_p1_sourceHolds ok_p1_sources ok_p2_x ok_p2_y ok_p2_z ok_p2_product ok_p2_above ok_p2_below ok_t_rows_R hc1 ok_v6 (by decide : inI 1) hy2) (ovF_callN (esn := [.inr (2, fsX2 a_t t_many t_ownPart t_crossPart t_pointMany t_wallFirst t_wallSize), RK E 8 (a_t + 13) t_rows, .inr (8, fsX8 (a_t + 2) t_planes_many), IA E 8 t_planes_xs, IA E 8 t_planes_ys, IA E 8 t_planes_zs, .inr (8, fsX8 (a_t + 6) t_steps_many), IA E 8 t_steps_xs, IA E 8 t_steps_ys, IA E 8 t_steps_zs, JA E 8 y2.2.1, IA E 8 y2.2.2.1, JA E 20 t_points, .inr (3, fsX3 a_p1 p1_speckMany p1_sourceMany p1_baseTold p1_baseLow p1_baseHigh p1_reach), IA E 21 p1_pushes, IA E 100 p1_lows, IA E 100 p1_highs, IA E 100 p1_sourceHolds, IA E 5 p1_sources, .inr (4, fsX4 a_p2 p2_x p2_y p2_z y2.2.2.2.1 y2.2.2.2.2.1 y2.2.2.2.2.2.1)]) [0, 1, 2, 3, 4, 5, 6, 7, 8, 9, 10, 11, 13, 14, 15, 16, 17, 18, 19] [false, false, false, false, false, false, false, false, false, false, false, false, true, false, false, false, false, false, false, false] fo ao.1 rfl rfl rfl rfl rfl rfl (by decide))) e_X2_curveBy_36 (ao.2 0 _ rfl) (ov_get 0 ao.1 rfl rfl) rfl rfl rfl (Nat.le_of_ble_eq_true rfl) ⟨Nat.le_refl _, Nat.le_refl _⟩ (fun Py2 => ?_)
      refine g_pop e_X2_curveBy_39 rfl ?_
      refine g_aload_n e_X2_curveBy_40 rfl ?_
      refine g_get 0 5 ao rfl rfl fsX2_g5 fl_X2_37 e_X2_curveBy_41 ?_
      refine g_iload e_X2_curveBy_44 rfl ?_
      refine g_aload_n e_X2_curveBy_46 rfl ?_
      refine g_aload_n e_X2_curveBy_47 rfl ?_
      obtain ⟨y3, hy3, hs⟩ := bind_elim hs
      refine g_callVr [.ref a_p2] cv_X2_145 ⟨rfl, rfl, Nat.le_of_ble_eq_true rfl, Nat.le_of_ble_eq_true rfl⟩ (ct_X2_strainAlong (a_t := a_t) (a_p1 := a_p2) (AO_call [0, 1, 2, 3, 4, 5, 6, 7, 8, 9, 19] ao (by decide) rfl) (FO_call [0, 1, 2, 3, 4, 5, 6, 7, 8, 9, 19] fo rfl) (FA_call [0, 1, 2, 3, 4, 5, 6, 7, 8, 9, 19] ao.1 rfl rfl) (FF_ov fo) ok_t_many ok_t_rows ok_t_planes_many ok_t_planes_xs ok_t_planes_ys ok_t_planes_zs ok_t_steps_many ok_t_steps_xs ok_t_steps_ys ok_t_steps_zs ok_p2_x ok_p2_y ok_p2_z Py2.2.2.2.2.2.2 hy3) e_X2_curveBy_48 (ao.2 0 _ rfl) (ov_get 0 ao.1 rfl rfl) rfl rfl rfl (Nat.le_of_ble_eq_true rfl) ⟨Nat.le_refl _, Nat.le_refl _⟩ (fun Py3 => ?_)
      refine g_last 12 ao rfl rfl ls_12 (Nat.le_of_ble_eq_true rfl) e_X2_curveBy_51 hs (fun hi4 hs => ?_)
      refine g_iinc e_X2_curveBy_52 rfl st1_7 rfl ?_
      refine g_goto e_X2_curveBy_55 ?_
      obtain ⟨hc5, hs⟩ := chk_elim hs
      exact ih _ _ _ _ _ _ _ _ Py2.2.1 Py2.2.2.1 (okJ_up ok_t_points Py3) Py2.2.2.2.1 Py2.2.2.2.2.1 Py2.2.2.2.2.2.1 Py2.2.2.2.2.2.2 hc5 hs

noncomputable def m_X2_curveBy_58 (t_pointMany : Int) (t_hardnesses : Nat → Int) (t_forces : Nat → Int) (t_points : Nat → Int) (p2_product : Int) (p2_above : Int) (p2_below : Int) (t_rows_R : Nat → RowT) : Option (Int × Int × (Nat → Int) × (Nat → Int) × (Nat → Int) × Int × Int × Int × (Nat → RowT)) :=
  chk (inI (t_pointMany - 1)) ((m_X2_curvePoint t_pointMany t_points (t_pointMany - 1)).bind (fun y7 => some (y7, t_pointMany, t_hardnesses, t_forces, t_points, p2_product, p2_above, p2_below, t_rows_R)))

set_option maxRecDepth 10000 in
set_option maxHeartbeats 8000000 in
theorem g_X2_curveBy_58 {l : Launch} {E : EE} {b0 n : Nat} {h : AH} {a_t a_p1 a_p2 : Nat} {t_many t_ownPart t_crossPart t_pointMany t_wallFirst t_wallSize t_planes_many t_steps_many p1_speckMany p1_sourceMany p1_baseTold p1_baseLow p1_baseHigh p1_reach p2_x p2_y p2_z p2_product p2_above p2_below : Int} {t_planes_xs t_planes_ys t_planes_zs t_steps_xs t_steps_ys t_steps_zs t_hardnesses t_forces t_points p1_pushes p1_lows p1_highs p1_sourceHolds p1_sources : Nat → Int} {t_rows : Nat → Nat} {t_rows_R : Nat → RowT} {r : Int × Int × (Nat → Int) × (Nat → Int) × (Nat → Int) × Int × Int × Int × (Nat → RowT)} (ao : AO b0 n [a_t, (a_t + 1), (a_t + 2), (a_t + 3), (a_t + 4), (a_t + 5), (a_t + 6), (a_t + 7), (a_t + 8), (a_t + 9), (a_t + 10), (a_t + 11), (a_t + 12), a_p1, (a_p1 + 1), (a_p1 + 3), (a_p1 + 4), (a_p1 + 6), (a_p1 + 8), a_p2]) (fo : FO b0 n [a_t, (a_t + 1), (a_t + 2), (a_t + 3), (a_t + 4), (a_t + 5), (a_t + 6), (a_t + 7), (a_t + 8), (a_t + 9), (a_t + 10), (a_t + 11), (a_t + 12), a_p1, (a_p1 + 1), (a_p1 + 3), (a_p1 + 4), (a_p1 + 6), (a_p1 + 8), a_p2] (a_t + 13) 8) (ok_t_many : inI t_many) (ok_t_ownPart : inI t_ownPart) (ok_t_crossPart : inI t_crossPart) (ok_t_pointMany : inI t_pointMany) (ok_t_rows : True) (ok_t_planes_many : inI t_planes_many) (ok_t_planes_xs : okA t_planes_xs) (ok_t_planes_ys : okA t_planes_ys) (ok_t_planes_zs : okA t_planes_zs) (ok_t_steps_many : inI t_steps_many) (ok_t_steps_xs : okA t_steps_xs) (ok_t_steps_ys : okA t_steps_ys) (ok_t_steps_zs : okA t_steps_zs) (ok_t_hardnesses : okJ t_hardnesses) (ok_t_forces : okA t_forces) (ok_t_points : okJ t_points) (ok_p1_sourceMany : inI p1_sourceMany) (ok_p1_reach : inI p1_reach) (ok_p1_pushes : okA p1_pushes) (ok_p1_lows : okA p1_lows) (ok_p1_highs : okA p1_highs) (ok_p1_sourceHolds : okA p1_sourceHolds) (ok_p1_sources : okA p1_sources) (ok_p2_x : inI p2_x) (ok_p2_y : inI p2_y) (ok_p2_z : inI p2_z) (ok_p2_product : inJ p2_product) (ok_p2_above : inJ p2_above) (ok_p2_below : inJ p2_below) (ok_t_rows_R : okR t_rows_R) (hs : m_X2_curveBy_58 t_pointMany t_hardnesses t_forces t_points p2_product p2_above p2_below t_rows_R = some r) : G l E b0 M_X2_curveBy (fun _ => True) (ZM E b0 (some (vJ r.1)) (ov [a_t, (a_t + 1), (a_t + 2), (a_t + 3), (a_t + 4), (a_t + 5), (a_t + 6), (a_t + 7), (a_t + 8), (a_t + 9), (a_t + 10), (a_t + 11), (a_t + 12), a_p1, (a_p1 + 1), (a_p1 + 3), (a_p1 + 4), (a_p1 + 6), (a_p1 + 8), a_p2] [.inr (2, fsX2 a_t t_many t_ownPart t_crossPart r.2.1 t_wallFirst t_wallSize), RK E 8 (a_t + 13) t_rows, .inr (8, fsX8 (a_t + 2) t_planes_many), IA E 8 t_planes_xs, IA E 8 t_planes_ys, IA E 8 t_planes_zs, .inr (8, fsX8 (a_t + 6) t_steps_many), IA E 8 t_steps_xs, IA E 8 t_steps_ys, IA E 8 t_steps_zs, JA E 8 r.2.2.1, IA E 8 r.2.2.2.1, JA E 20 r.2.2.2.2.1, .inr (3, fsX3 a_p1 p1_speckMany p1_sourceMany p1_baseTold p1_baseLow p1_baseHigh p1_reach), IA E 21 p1_pushes, IA E 100 p1_lows, IA E 100 p1_highs, IA E 100 p1_sourceHolds, IA E 5 p1_sources, .inr (4, fsX4 a_p2 p2_x p2_y p2_z r.2.2.2.2.2.1 r.2.2.2.2.2.2.1 r.2.2.2.2.2.2.2.1)] (fam E (a_t + 13) 8 r.2.2.2.2.2.2.2.2 h)) n (inJ r.1 ∧ inI r.2.1 ∧ okJ r.2.2.1 ∧ okA r.2.2.2.1 ∧ okJ r.2.2.2.2.1 ∧ inJ r.2.2.2.2.2.1 ∧ inJ r.2.2.2.2.2.2.1 ∧ inJ r.2.2.2.2.2.2.2.1 ∧ okR r.2.2.2.2.2.2.2.2) 0 0) 0 0 n (ov [a_t, (a_t + 1), (a_t + 2), (a_t + 3), (a_t + 4), (a_t + 5), (a_t + 6), (a_t + 7), (a_t + 8), (a_t + 9), (a_t + 10), (a_t + 11), (a_t + 12), a_p1, (a_p1 + 1), (a_p1 + 3), (a_p1 + 4), (a_p1 + 6), (a_p1 + 8), a_p2] [.inr (2, fsX2 a_t t_many t_ownPart t_crossPart t_pointMany t_wallFirst t_wallSize), RK E 8 (a_t + 13) t_rows, .inr (8, fsX8 (a_t + 2) t_planes_many), IA E 8 t_planes_xs, IA E 8 t_planes_ys, IA E 8 t_planes_zs, .inr (8, fsX8 (a_t + 6) t_steps_many), IA E 8 t_steps_xs, IA E 8 t_steps_ys, IA E 8 t_steps_zs, JA E 8 t_hardnesses, IA E 8 t_forces, JA E 20 t_points, .inr (3, fsX3 a_p1 p1_speckMany p1_sourceMany p1_baseTold p1_baseLow p1_baseHigh p1_reach), IA E 21 p1_pushes, IA E 100 p1_lows, IA E 100 p1_highs, IA E 100 p1_sourceHolds, IA E 5 p1_sources, .inr (4, fsX4 a_p2 p2_x p2_y p2_z p2_product p2_above p2_below)] (fam E (a_t + 13) 8 t_rows_R h)) 58 [some (.ref a_t), none, none, none, none, none, none, none] [] := by
  rw [m_X2_curveBy_58] at hs
  refine g_aload_n e_X2_curveBy_58 rfl ?_
  refine g_aload_n e_X2_curveBy_59 rfl ?_
  refine g_get 0 9 ao rfl rfl fsX2_g9 fl_X2_138 e_X2_curveBy_60 ?_
  refine g_iconst e_X2_curveBy_63 ?_
  refine g_isub e_X2_curveBy_64 ?_
  obtain ⟨hc6, hs⟩ := chk_elim hs
  obtain ⟨y7, hy7, hs⟩ := bind_elim hs
  refine g_callVr [vI (t_pointMany - 1)] cv_X2_149 ⟨rfl, rfl, Nat.le_of_ble_eq_true rfl, Nat.le_of_ble_eq_true rfl⟩ (ct_X2_curvePoint (a_t := a_t) (AO_call [0, 12] ao (by decide) rfl) (FA_call [0, 12] ao.1 rfl rfl) ok_t_pointMany ok_t_points hc6 hy7) e_X2_curveBy_65 (ao.2 0 _ rfl) (ov_get 0 ao.1 rfl rfl) rfl rfl rfl (Nat.le_of_ble_eq_true rfl) ⟨Nat.le_refl _, Nat.le_refl _⟩ (fun Py7 => ?_)
  obtain rfl := Option.some.inj hs
  exact g_lret rfl ⟨Py7, ok_t_pointMany, ok_t_hardnesses, ok_t_forces, ok_t_points, ok_p2_product, ok_p2_above, ok_p2_below, ok_t_rows_R⟩ e_X2_curveBy_68

noncomputable def m_X2_curveBy_0 (t_many : Int) (t_ownPart : Int) (t_crossPart : Int) (t_pointMany : Int) (t_rows : Nat → Nat) (t_planes_many : Int) (t_planes_xs : Nat → Int) (t_planes_ys : Nat → Int) (t_planes_zs : Nat → Int) (t_steps_many : Int) (t_steps_xs : Nat → Int) (t_steps_ys : Nat → Int) (t_steps_zs : Nat → Int) (t_hardnesses : Nat → Int) (t_forces : Nat → Int) (t_points : Nat → Int) (p1_sourceMany : Int) (p1_reach : Int) (p1_pushes : Nat → Int) (p1_lows : Nat → Int) (p1_highs : Nat → Int) (p1_sourceHolds : Nat → Int) (p1_sources : Nat → Int) (p2_x : Int) (p2_y : Int) (p2_z : Int) (p2_product : Int) (p2_above : Int) (p2_below : Int) (t_rows_R : Nat → RowT) (v3 : Int) (v4 : Int) (v5 : Int) (v6 : Int) : Option (Int × Int × (Nat → Int) × (Nat → Int) × (Nat → Int) × Int × Int × Int × (Nat → RowT)) :=
  m_X2_curveBy_14 t_many t_ownPart t_crossPart (if 20 < v5 then 20 else v5) t_rows t_planes_many t_planes_xs t_planes_ys t_planes_zs t_steps_many t_steps_xs t_steps_ys t_steps_zs p1_sourceMany p1_reach p1_pushes p1_lows p1_highs p1_sourceHolds p1_sources p2_x p2_y p2_z v3 v4 v6 (fun t_hardnesses' t_forces' t_points' p2_product' p2_above' p2_below' t_rows_R' v7' => m_X2_curveBy_58 (if 20 < v5 then 20 else v5) t_hardnesses' t_forces' t_points' p2_product' p2_above' p2_below' t_rows_R') FU t_hardnesses t_forces t_points p2_product p2_above p2_below t_rows_R 0

set_option maxRecDepth 10000 in
set_option maxHeartbeats 8000000 in
theorem g_X2_curveBy_0 {l : Launch} {E : EE} {b0 n : Nat} {h : AH} {a_t a_p1 a_p2 : Nat} {t_many t_ownPart t_crossPart t_pointMany t_wallFirst t_wallSize t_planes_many t_steps_many p1_speckMany p1_sourceMany p1_baseTold p1_baseLow p1_baseHigh p1_reach p2_x p2_y p2_z p2_product p2_above p2_below v3 v4 v5 v6 : Int} {t_planes_xs t_planes_ys t_planes_zs t_steps_xs t_steps_ys t_steps_zs t_hardnesses t_forces t_points p1_pushes p1_lows p1_highs p1_sourceHolds p1_sources : Nat → Int} {t_rows : Nat → Nat} {t_rows_R : Nat → RowT} {r : Int × Int × (Nat → Int) × (Nat → Int) × (Nat → Int) × Int × Int × Int × (Nat → RowT)} (ao : AO b0 n [a_t, (a_t + 1), (a_t + 2), (a_t + 3), (a_t + 4), (a_t + 5), (a_t + 6), (a_t + 7), (a_t + 8), (a_t + 9), (a_t + 10), (a_t + 11), (a_t + 12), a_p1, (a_p1 + 1), (a_p1 + 3), (a_p1 + 4), (a_p1 + 6), (a_p1 + 8), a_p2]) (fo : FO b0 n [a_t, (a_t + 1), (a_t + 2), (a_t + 3), (a_t + 4), (a_t + 5), (a_t + 6), (a_t + 7), (a_t + 8), (a_t + 9), (a_t + 10), (a_t + 11), (a_t + 12), a_p1, (a_p1 + 1), (a_p1 + 3), (a_p1 + 4), (a_p1 + 6), (a_p1 + 8), a_p2] (a_t + 13) 8) (ok_t_many : inI t_many) (ok_t_ownPart : inI t_ownPart) (ok_t_crossPart : inI t_crossPart) (ok_t_pointMany : inI t_pointMany) (ok_t_rows : True) (ok_t_planes_many : inI t_planes_many) (ok_t_planes_xs : okA t_planes_xs) (ok_t_planes_ys : okA t_planes_ys) (ok_t_planes_zs : okA t_planes_zs) (ok_t_steps_many : inI t_steps_many) (ok_t_steps_xs : okA t_steps_xs) (ok_t_steps_ys : okA t_steps_ys) (ok_t_steps_zs : okA t_steps_zs) (ok_t_hardnesses : okJ t_hardnesses) (ok_t_forces : okA t_forces) (ok_t_points : okJ t_points) (ok_p1_sourceMany : inI p1_sourceMany) (ok_p1_reach : inI p1_reach) (ok_p1_pushes : okA p1_pushes) (ok_p1_lows : okA p1_lows) (ok_p1_highs : okA p1_highs) (ok_p1_sourceHolds : okA p1_sourceHolds) (ok_p1_sources : okA p1_sources) (ok_p2_x : inI p2_x) (ok_p2_y : inI p2_y) (ok_p2_z : inI p2_z) (ok_p2_product : inJ p2_product) (ok_p2_above : inJ p2_above) (ok_p2_below : inJ p2_below) (ok_t_rows_R : okR t_rows_R) (ok_v3 : inI v3) (ok_v4 : inI v4) (ok_v5 : inI v5) (ok_v6 : inI v6) (hs : m_X2_curveBy_0 t_many t_ownPart t_crossPart t_pointMany t_rows t_planes_many t_planes_xs t_planes_ys t_planes_zs t_steps_many t_steps_xs t_steps_ys t_steps_zs t_hardnesses t_forces t_points p1_sourceMany p1_reach p1_pushes p1_lows p1_highs p1_sourceHolds p1_sources p2_x p2_y p2_z p2_product p2_above p2_below t_rows_R v3 v4 v5 v6 = some r) : G l E b0 M_X2_curveBy (fun _ => True) (ZM E b0 (some (vJ r.1)) (ov [a_t, (a_t + 1), (a_t + 2), (a_t + 3), (a_t + 4), (a_t + 5), (a_t + 6), (a_t + 7), (a_t + 8), (a_t + 9), (a_t + 10), (a_t + 11), (a_t + 12), a_p1, (a_p1 + 1), (a_p1 + 3), (a_p1 + 4), (a_p1 + 6), (a_p1 + 8), a_p2] [.inr (2, fsX2 a_t t_many t_ownPart t_crossPart r.2.1 t_wallFirst t_wallSize), RK E 8 (a_t + 13) t_rows, .inr (8, fsX8 (a_t + 2) t_planes_many), IA E 8 t_planes_xs, IA E 8 t_planes_ys, IA E 8 t_planes_zs, .inr (8, fsX8 (a_t + 6) t_steps_many), IA E 8 t_steps_xs, IA E 8 t_steps_ys, IA E 8 t_steps_zs, JA E 8 r.2.2.1, IA E 8 r.2.2.2.1, JA E 20 r.2.2.2.2.1, .inr (3, fsX3 a_p1 p1_speckMany p1_sourceMany p1_baseTold p1_baseLow p1_baseHigh p1_reach), IA E 21 p1_pushes, IA E 100 p1_lows, IA E 100 p1_highs, IA E 100 p1_sourceHolds, IA E 5 p1_sources, .inr (4, fsX4 a_p2 p2_x p2_y p2_z r.2.2.2.2.2.1 r.2.2.2.2.2.2.1 r.2.2.2.2.2.2.2.1)] (fam E (a_t + 13) 8 r.2.2.2.2.2.2.2.2 h)) n (inJ r.1 ∧ inI r.2.1 ∧ okJ r.2.2.1 ∧ okA r.2.2.2.1 ∧ okJ r.2.2.2.2.1 ∧ inJ r.2.2.2.2.2.1 ∧ inJ r.2.2.2.2.2.2.1 ∧ inJ r.2.2.2.2.2.2.2.1 ∧ okR r.2.2.2.2.2.2.2.2) 0 0) 0 0 n (ov [a_t, (a_t + 1), (a_t + 2), (a_t + 3), (a_t + 4), (a_t + 5), (a_t + 6), (a_t + 7), (a_t + 8), (a_t + 9), (a_t + 10), (a_t + 11), (a_t + 12), a_p1, (a_p1 + 1), (a_p1 + 3), (a_p1 + 4), (a_p1 + 6), (a_p1 + 8), a_p2] [.inr (2, fsX2 a_t t_many t_ownPart t_crossPart t_pointMany t_wallFirst t_wallSize), RK E 8 (a_t + 13) t_rows, .inr (8, fsX8 (a_t + 2) t_planes_many), IA E 8 t_planes_xs, IA E 8 t_planes_ys, IA E 8 t_planes_zs, .inr (8, fsX8 (a_t + 6) t_steps_many), IA E 8 t_steps_xs, IA E 8 t_steps_ys, IA E 8 t_steps_zs, JA E 8 t_hardnesses, IA E 8 t_forces, JA E 20 t_points, .inr (3, fsX3 a_p1 p1_speckMany p1_sourceMany p1_baseTold p1_baseLow p1_baseHigh p1_reach), IA E 21 p1_pushes, IA E 100 p1_lows, IA E 100 p1_highs, IA E 100 p1_sourceHolds, IA E 5 p1_sources, .inr (4, fsX4 a_p2 p2_x p2_y p2_z p2_product p2_above p2_below)] (fam E (a_t + 13) 8 t_rows_R h)) 0 [some (.ref a_t), some (.ref a_p1), some (.ref a_p2), some (vI v3), some (vI v4), some (vI v5), some (vI v6), none] [] := by
  rw [m_X2_curveBy_0] at hs
  refine g_aload_n e_X2_curveBy_0 rfl ?_
  refine g_iload e_X2_curveBy_1 rfl ?_
  refine g_bipush e_X2_curveBy_3 bp_20 ?_
  refine g_min jm_X2_135 e_X2_curveBy_5 ⟨Nat.le_of_ble_eq_true rfl, Nat.le_of_ble_eq_true rfl, Nat.le_of_ble_eq_true rfl⟩ (Nat.le_of_ble_eq_true rfl) ok_v5 (by decide : inI 20) ?_
  refine g_put 0 9 ao rfl rfl fsX2_k9 fsX2_s9 ls_0 fw_X2_138 (fun h => by cases h) ⟨rfl, rfl⟩ e_X2_curveBy_8 ?_
  refine g_iconst e_X2_curveBy_11 ?_
  refine g_istore e_X2_curveBy_12 st1_7 rfl ?_
  exact g_mask [true, true, true, true, true, false, true, true] (g_X2_curveBy_14 ao fo ok_t_many ok_t_ownPart ok_t_crossPart (ite_I (by decide : inI 20) ok_v5) ok_t_rows ok_t_planes_many ok_t_planes_xs ok_t_planes_ys ok_t_planes_zs ok_t_steps_many ok_t_steps_xs ok_t_steps_ys ok_t_steps_zs ok_p1_sourceMany ok_p1_reach ok_p1_pushes ok_p1_lows ok_p1_highs ok_p1_sourceHolds ok_p1_sources ok_p2_x ok_p2_y ok_p2_z ok_v3 ok_v4 ok_v6 (hk_58 := by
      intro t_hardnesses' t_forces' t_points' p2_product' p2_above' p2_below' t_rows_R' v7' ok_t_hardnesses' ok_t_forces' ok_t_points' ok_p2_product' ok_p2_above' ok_p2_below' ok_t_rows_R' ok_v7' hs
      exact g_X2_curveBy_58 ao fo ok_t_many ok_t_ownPart ok_t_crossPart (ite_I (by decide : inI 20) ok_v5) ok_t_rows ok_t_planes_many ok_t_planes_xs ok_t_planes_ys ok_t_planes_zs ok_t_steps_many ok_t_steps_xs ok_t_steps_ys ok_t_steps_zs ok_t_hardnesses' ok_t_forces' ok_t_points' ok_p1_sourceMany ok_p1_reach ok_p1_pushes ok_p1_lows ok_p1_highs ok_p1_sourceHolds ok_p1_sources ok_p2_x ok_p2_y ok_p2_z ok_p2_product' ok_p2_above' ok_p2_below' ok_t_rows_R' hs) FU _ _ _ _ _ _ _ _ ok_t_hardnesses ok_t_forces ok_t_points ok_p2_product ok_p2_above ok_p2_below ok_t_rows_R (by decide : inI 0) hs)

noncomputable def m_X2_curveBy (t_many : Int) (t_ownPart : Int) (t_crossPart : Int) (t_pointMany : Int) (t_rows : Nat → Nat) (t_planes_many : Int) (t_planes_xs : Nat → Int) (t_planes_ys : Nat → Int) (t_planes_zs : Nat → Int) (t_steps_many : Int) (t_steps_xs : Nat → Int) (t_steps_ys : Nat → Int) (t_steps_zs : Nat → Int) (t_hardnesses : Nat → Int) (t_forces : Nat → Int) (t_points : Nat → Int) (p1_sourceMany : Int) (p1_reach : Int) (p1_pushes : Nat → Int) (p1_lows : Nat → Int) (p1_highs : Nat → Int) (p1_sourceHolds : Nat → Int) (p1_sources : Nat → Int) (p2_x : Int) (p2_y : Int) (p2_z : Int) (p2_product : Int) (p2_above : Int) (p2_below : Int) (t_rows_R : Nat → RowT) (v3 : Int) (v4 : Int) (v5 : Int) (v6 : Int) : Option (Int × Int × (Nat → Int) × (Nat → Int) × (Nat → Int) × Int × Int × Int × (Nat → RowT)) := m_X2_curveBy_0 t_many t_ownPart t_crossPart t_pointMany t_rows t_planes_many t_planes_xs t_planes_ys t_planes_zs t_steps_many t_steps_xs t_steps_ys t_steps_zs t_hardnesses t_forces t_points p1_sourceMany p1_reach p1_pushes p1_lows p1_highs p1_sourceHolds p1_sources p2_x p2_y p2_z p2_product p2_above p2_below t_rows_R v3 v4 v5 v6

set_option maxRecDepth 10000 in
set_option maxHeartbeats 8000000 in
theorem ct_X2_curveBy {l : Launch} {E : EE} {b0 n : Nat} {h : AH} {a_t a_p1 a_p2 : Nat} {t_many t_ownPart t_crossPart t_pointMany t_wallFirst t_wallSize t_planes_many t_steps_many p1_speckMany p1_sourceMany p1_baseTold p1_baseLow p1_baseHigh p1_reach p2_x p2_y p2_z p2_product p2_above p2_below : Int} {t_planes_xs t_planes_ys t_planes_zs t_steps_xs t_steps_ys t_steps_zs t_hardnesses t_forces t_points p1_pushes p1_lows p1_highs p1_sourceHolds p1_sources : Nat → Int} {t_rows : Nat → Nat} {t_rows_R : Nat → RowT} {v3 v4 v5 v6 : Int} (ao : AO b0 n [a_t, (a_t + 1), (a_t + 2), (a_t + 3), (a_t + 4), (a_t + 5), (a_t + 6), (a_t + 7), (a_t + 8), (a_t + 9), (a_t + 10), (a_t + 11), (a_t + 12), a_p1, (a_p1 + 1), (a_p1 + 3), (a_p1 + 4), (a_p1 + 6), (a_p1 + 8), a_p2]) (fo : FO b0 n [a_t, (a_t + 1), (a_t + 2), (a_t + 3), (a_t + 4), (a_t + 5), (a_t + 6), (a_t + 7), (a_t + 8), (a_t + 9), (a_t + 10), (a_t + 11), (a_t + 12), a_p1, (a_p1 + 1), (a_p1 + 3), (a_p1 + 4), (a_p1 + 6), (a_p1 + 8), a_p2] (a_t + 13) 8) (hf : FA h [a_t, (a_t + 1), (a_t + 2), (a_t + 3), (a_t + 4), (a_t + 5), (a_t + 6), (a_t + 7), (a_t + 8), (a_t + 9), (a_t + 10), (a_t + 11), (a_t + 12), a_p1, (a_p1 + 1), (a_p1 + 3), (a_p1 + 4), (a_p1 + 6), (a_p1 + 8), a_p2] [.inr (2, fsX2 a_t t_many t_ownPart t_crossPart t_pointMany t_wallFirst t_wallSize), RK E 8 (a_t + 13) t_rows, .inr (8, fsX8 (a_t + 2) t_planes_many), IA E 8 t_planes_xs, IA E 8 t_planes_ys, IA E 8 t_planes_zs, .inr (8, fsX8 (a_t + 6) t_steps_many), IA E 8 t_steps_xs, IA E 8 t_steps_ys, IA E 8 t_steps_zs, JA E 8 t_hardnesses, IA E 8 t_forces, JA E 20 t_points, .inr (3, fsX3 a_p1 p1_speckMany p1_sourceMany p1_baseTold p1_baseLow p1_baseHigh p1_reach), IA E 21 p1_pushes, IA E 100 p1_lows, IA E 100 p1_highs, IA E 100 p1_sourceHolds, IA E 5 p1_sources, .inr (4, fsX4 a_p2 p2_x p2_y p2_z p2_product p2_above p2_below)]) (hF : FF E h (a_t + 13) 8 t_rows_R) (ok_t_many : inI t_many) (ok_t_ownPart : inI t_ownPart) (ok_t_crossPart : inI t_crossPart) (ok_t_pointMany : inI t_pointMany) (ok_t_rows : True) (ok_t_planes_many : inI t_planes_many) (ok_t_planes_xs : okA t_planes_xs) (ok_t_planes_ys : okA t_planes_ys) (ok_t_planes_zs : okA t_planes_zs) (ok_t_steps_many : inI t_steps_many) (ok_t_steps_xs : okA t_steps_xs) (ok_t_steps_ys : okA t_steps_ys) (ok_t_steps_zs : okA t_steps_zs) (ok_t_hardnesses : okJ t_hardnesses) (ok_t_forces : okA t_forces) (ok_t_points : okJ t_points) (ok_p1_sourceMany : inI p1_sourceMany) (ok_p1_reach : inI p1_reach) (ok_p1_pushes : okA p1_pushes) (ok_p1_lows : okA p1_lows) (ok_p1_highs : okA p1_highs) (ok_p1_sourceHolds : okA p1_sourceHolds) (ok_p1_sources : okA p1_sources) (ok_p2_x : inI p2_x) (ok_p2_y : inI p2_y) (ok_p2_z : inI p2_z) (ok_p2_product : inJ p2_product) (ok_p2_above : inJ p2_above) (ok_p2_below : inJ p2_below) (ok_t_rows_R : okR t_rows_R) (ok_v3 : inI v3) (ok_v4 : inI v4) (ok_v5 : inI v5) (ok_v6 : inI v6) {r : Int × Int × (Nat → Int) × (Nat → Int) × (Nat → Int) × Int × Int × Int × (Nat → RowT)} (hm : m_X2_curveBy t_many t_ownPart t_crossPart t_pointMany t_rows t_planes_many t_planes_xs t_planes_ys t_planes_zs t_steps_many t_steps_xs t_steps_ys t_steps_zs t_hardnesses t_forces t_points p1_sourceMany p1_reach p1_pushes p1_lows p1_highs p1_sourceHolds p1_sources p2_x p2_y p2_z p2_product p2_above p2_below t_rows_R v3 v4 v5 v6 = some r) : Ct l E b0 M_X2_curveBy 0 0 [.ref a_t, .ref a_p1, .ref a_p2, vI v3, vI v4, vI v5, vI v6] h n (some (vJ r.1)) (ov [a_t, (a_t + 1), (a_t + 2), (a_t + 3), (a_t + 4), (a_t + 5), (a_t + 6), (a_t + 7), (a_t + 8), (a_t + 9), (a_t + 10), (a_t + 11), (a_t + 12), a_p1, (a_p1 + 1), (a_p1 + 3), (a_p1 + 4), (a_p1 + 6), (a_p1 + 8), a_p2] [.inr (2, fsX2 a_t t_many t_ownPart t_crossPart r.2.1 t_wallFirst t_wallSize), RK E 8 (a_t + 13) t_rows, .inr (8, fsX8 (a_t + 2) t_planes_many), IA E 8 t_planes_xs, IA E 8 t_planes_ys, IA E 8 t_planes_zs, .inr (8, fsX8 (a_t + 6) t_steps_many), IA E 8 t_steps_xs, IA E 8 t_steps_ys, IA E 8 t_steps_zs, JA E 8 r.2.2.1, IA E 8 r.2.2.2.1, JA E 20 r.2.2.2.2.1, .inr (3, fsX3 a_p1 p1_speckMany p1_sourceMany p1_baseTold p1_baseLow p1_baseHigh p1_reach), IA E 21 p1_pushes, IA E 100 p1_lows, IA E 100 p1_highs, IA E 100 p1_sourceHolds, IA E 5 p1_sources, .inr (4, fsX4 a_p2 p2_x p2_y p2_z r.2.2.2.2.2.1 r.2.2.2.2.2.2.1 r.2.2.2.2.2.2.2.1)] (fam E (a_t + 13) 8 r.2.2.2.2.2.2.2.2 h)) n (inJ r.1 ∧ inI r.2.1 ∧ okJ r.2.2.1 ∧ okA r.2.2.2.1 ∧ okJ r.2.2.2.2.1 ∧ inJ r.2.2.2.2.2.1 ∧ inJ r.2.2.2.2.2.2.1 ∧ inJ r.2.2.2.2.2.2.2.1 ∧ okR r.2.2.2.2.2.2.2.2) := by
  rw [m_X2_curveBy] at hm
  have hg : G l E b0 M_X2_curveBy (fun _ => True) (ZM E b0 (some (vJ r.1)) (ov [a_t, (a_t + 1), (a_t + 2), (a_t + 3), (a_t + 4), (a_t + 5), (a_t + 6), (a_t + 7), (a_t + 8), (a_t + 9), (a_t + 10), (a_t + 11), (a_t + 12), a_p1, (a_p1 + 1), (a_p1 + 3), (a_p1 + 4), (a_p1 + 6), (a_p1 + 8), a_p2] [.inr (2, fsX2 a_t t_many t_ownPart t_crossPart r.2.1 t_wallFirst t_wallSize), RK E 8 (a_t + 13) t_rows, .inr (8, fsX8 (a_t + 2) t_planes_many), IA E 8 t_planes_xs, IA E 8 t_planes_ys, IA E 8 t_planes_zs, .inr (8, fsX8 (a_t + 6) t_steps_many), IA E 8 t_steps_xs, IA E 8 t_steps_ys, IA E 8 t_steps_zs, JA E 8 r.2.2.1, IA E 8 r.2.2.2.1, JA E 20 r.2.2.2.2.1, .inr (3, fsX3 a_p1 p1_speckMany p1_sourceMany p1_baseTold p1_baseLow p1_baseHigh p1_reach), IA E 21 p1_pushes, IA E 100 p1_lows, IA E 100 p1_highs, IA E 100 p1_sourceHolds, IA E 5 p1_sources, .inr (4, fsX4 a_p2 p2_x p2_y p2_z r.2.2.2.2.2.1 r.2.2.2.2.2.2.1 r.2.2.2.2.2.2.2.1)] (fam E (a_t + 13) 8 r.2.2.2.2.2.2.2.2 h)) n (inJ r.1 ∧ inI r.2.1 ∧ okJ r.2.2.1 ∧ okA r.2.2.2.1 ∧ okJ r.2.2.2.2.1 ∧ inJ r.2.2.2.2.2.1 ∧ inJ r.2.2.2.2.2.2.1 ∧ inJ r.2.2.2.2.2.2.2.1 ∧ okR r.2.2.2.2.2.2.2.2) 0 0) 0 0 n (ov [a_t, (a_t + 1), (a_t + 2), (a_t + 3), (a_t + 4), (a_t + 5), (a_t + 6), (a_t + 7), (a_t + 8), (a_t + 9), (a_t + 10), (a_t + 11), (a_t + 12), a_p1, (a_p1 + 1), (a_p1 + 3), (a_p1 + 4), (a_p1 + 6), (a_p1 + 8), a_p2] [.inr (2, fsX2 a_t t_many t_ownPart t_crossPart t_pointMany t_wallFirst t_wallSize), RK E 8 (a_t + 13) t_rows, .inr (8, fsX8 (a_t + 2) t_planes_many), IA E 8 t_planes_xs, IA E 8 t_planes_ys, IA E 8 t_planes_zs, .inr (8, fsX8 (a_t + 6) t_steps_many), IA E 8 t_steps_xs, IA E 8 t_steps_ys, IA E 8 t_steps_zs, JA E 8 t_hardnesses, IA E 8 t_forces, JA E 20 t_points, .inr (3, fsX3 a_p1 p1_speckMany p1_sourceMany p1_baseTold p1_baseLow p1_baseHigh p1_reach), IA E 21 p1_pushes, IA E 100 p1_lows, IA E 100 p1_highs, IA E 100 p1_sourceHolds, IA E 5 p1_sources, .inr (4, fsX4 a_p2 p2_x p2_y p2_z p2_product p2_above p2_below)] (fam E (a_t + 13) 8 t_rows_R h)) 0 [some (.ref a_t), some (.ref a_p1), some (.ref a_p2), some (vI v3), some (vI v4), some (vI v5), some (vI v6), none] [] := by
    have hs := hm
    exact g_X2_curveBy_0 ao fo ok_t_many ok_t_ownPart ok_t_crossPart ok_t_pointMany ok_t_rows ok_t_planes_many ok_t_planes_xs ok_t_planes_ys ok_t_planes_zs ok_t_steps_many ok_t_steps_xs ok_t_steps_ys ok_t_steps_zs ok_t_hardnesses ok_t_forces ok_t_points ok_p1_sourceMany ok_p1_reach ok_p1_pushes ok_p1_lows ok_p1_highs ok_p1_sourceHolds ok_p1_sources ok_p2_x ok_p2_y ok_p2_z ok_p2_product ok_p2_above ok_p2_below ok_t_rows_R ok_v3 ok_v4 ok_v5 ok_v6 hs
  rw [FF_id hF] at hg
  rw [FA_id hf] at hg
  exact Ct_of [some (.ref a_t), some (.ref a_p1), some (.ref a_p2), some (vI v3), some (vI v4), some (vI v5), some (vI v6), none] ⟨by decide +kernel, rfl⟩ rfl (Nat.le_of_ble_eq_true rfl) hg


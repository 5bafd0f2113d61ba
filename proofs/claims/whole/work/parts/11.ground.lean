def M_X3_becomes : MB := (yX3_becomes, cX3_becomes, 2, none, ({ frames := 5, cells := 0, slots := 0, locals := 93 } : Room), RX3)
def M_X3_tellBase : MB := (yX3_tellBase, cX3_tellBase, 3, none, ({ frames := 1, cells := 0, slots := 0, locals := 40 } : Room), RX3)
def M_X3_findReach : MB := (yX3_findReach, cX3_findReach, 2, none, ({ frames := 1, cells := 0, slots := 0, locals := 40 } : Room), RX3)
def M_X3_drop : MB := (yX3_drop, cX3_drop, 2, none, ({ frames := 2, cells := 0, slots := 0, locals := 63 } : Room), RX3)
def M_X3_tellPush : MB := (yX3_tellPush, cX3_tellPush, 3, none, ({ frames := 2, cells := 0, slots := 0, locals := 60 } : Room), RX3)
def M_X3_tellSpeck : MB := (yX3_tellSpeck, cX3_tellSpeck, 4, none, ({ frames := 2, cells := 0, slots := 0, locals := 60 } : Room), RX3)
def M_X3_tellSource : MB := (yX3_tellSource, cX3_tellSource, 3, none, ({ frames := 2, cells := 0, slots := 0, locals := 60 } : Room), RX3)
def M_X3_settle : MB := (yX3_settle, cX3_settle, 3, none, ({ frames := 2, cells := 0, slots := 0, locals := 61 } : Room), RX3)
def M_X3_pushAt : MB := (yX3_pushAt, cX3_pushAt, 2, (some .int), ({ frames := 2, cells := 0, slots := 0, locals := 60 } : Room), RX3)
def M_X3_holdAt : MB := (yX3_holdAt, cX3_holdAt, 3, (some .int), ({ frames := 2, cells := 0, slots := 0, locals := 60 } : Room), RX3)
def M_X3_isPushTold : MB := (yX3_isPushTold, cX3_isPushTold, 2, (some .boolean), ({ frames := 2, cells := 0, slots := 0, locals := 60 } : Room), RX3)
def M_X3_isSpeckTold : MB := (yX3_isSpeckTold, cX3_isSpeckTold, 2, (some .boolean), ({ frames := 2, cells := 0, slots := 0, locals := 60 } : Room), RX3)
def M_X3_isSourceTold : MB := (yX3_isSourceTold, cX3_isSourceTold, 2, (some .boolean), ({ frames := 2, cells := 0, slots := 0, locals := 60 } : Room), RX3)
theorem cb_J7_fill_53178 : CB M_J7_fill_53178 2 := ⟨GW_of 587 (by decide +kernel) (by decide +kernel), GW_of 97 (by decide +kernel) (by decide +kernel), by decide +kernel, by decide +kernel, by decide +kernel⟩
theorem cb_X10_isDistance : CB M_X10_isDistance 1 := ⟨GW_of 711 (by decide +kernel) (by decide +kernel), GW_of 84 (by decide +kernel) (by decide +kernel), by decide +kernel, by decide +kernel, by decide +kernel⟩
theorem cb_X10_isPlace : CB M_X10_isPlace 1 := ⟨GW_of 726 (by decide +kernel) (by decide +kernel), GW_of 84 (by decide +kernel) (by decide +kernel), by decide +kernel, by decide +kernel, by decide +kernel⟩
theorem cb_X3_findReach : CB M_X3_findReach 0 := ⟨GW_of 758 (by decide +kernel) (by decide +kernel), GW_of 93 (by decide +kernel) (by decide +kernel), by decide +kernel, by decide +kernel, by decide +kernel⟩
theorem jc_X3_63 : Cond.methodLink RX3 63 arraycopyName ∈ GW ∧ Cond.native arraycopyName ∈ GW ∧ Cond.static arraycopyName ∈ GW ∧ Cond.initialized "java/lang/System" ∈ GW := ⟨GW_of 1182 (by decide +kernel) (by decide +kernel), GW_of 1025 (by decide +kernel) (by decide +kernel), GW_of 1024 (by decide +kernel) (by decide +kernel), GW_of 102 (by decide +kernel) (by decide +kernel)⟩
theorem fl_X3_9 : FL RX3 9 3 0 := ⟨RX3, TX3, 14, rfl, by decide, rfl, Or.inl (GW_of 323 (by decide +kernel) (by decide +kernel))⟩
theorem fl_X3_19 : FL RX3 19 3 2 := ⟨RX3, TX3, 14, rfl, by decide, rfl, Or.inl (GW_of 326 (by decide +kernel) (by decide +kernel))⟩
theorem fl_X3_22 : FL RX3 22 3 3 := ⟨RX3, TX3, 14, rfl, by decide, rfl, Or.inl (GW_of 327 (by decide +kernel) (by decide +kernel))⟩
theorem fl_X3_28 : FL RX3 28 3 5 := ⟨RX3, TX3, 14, rfl, by decide, rfl, Or.inl (GW_of 329 (by decide +kernel) (by decide +kernel))⟩
theorem fl_X3_34 : FL RX3 34 3 7 := ⟨RX3, TX3, 14, rfl, by decide, rfl, Or.inl (GW_of 332 (by decide +kernel) (by decide +kernel))⟩
theorem fl_X3_47 : FL RX3 47 3 9 := ⟨RX3, TX3, 14, rfl, by decide, rfl, Or.inl (GW_of 336 (by decide +kernel) (by decide +kernel))⟩
theorem fw_X3_47 : FW RX3 47 3 9 false .int := ⟨RX3, TX3, 14, rfl, by decide, rfl, rfl, by decide +kernel, Or.inl (GW_of 336 (by decide +kernel) (by decide +kernel)), fun h => by cases h⟩
theorem fl_X3_60 : FL RX3 60 3 13 := ⟨RX3, TX3, 14, rfl, by decide, rfl, Or.inl (GW_of 343 (by decide +kernel) (by decide +kernel))⟩
theorem fw_X3_60 : FW RX3 60 3 13 false .int := ⟨RX3, TX3, 14, rfl, by decide, rfl, rfl, by decide +kernel, Or.inl (GW_of 343 (by decide +kernel) (by decide +kernel)), fun h => by cases h⟩
theorem fw_X3_54 : FW RX3 54 3 11 false .int := ⟨RX3, TX3, 14, rfl, by decide, rfl, rfl, by decide +kernel, Or.inl (GW_of 341 (by decide +kernel) (by decide +kernel)), fun h => by cases h⟩
theorem fw_X3_57 : FW RX3 57 3 12 false .int := ⟨RX3, TX3, 14, rfl, by decide, rfl, rfl, by decide +kernel, Or.inl (GW_of 342 (by decide +kernel) (by decide +kernel)), fun h => by cases h⟩
theorem fw_X3_50 : FW RX3 50 3 10 false .boolean := ⟨RX3, TX3, 14, rfl, by decide, rfl, rfl, by decide +kernel, Or.inl (GW_of 339 (by decide +kernel) (by decide +kernel)), fun h => by cases h⟩
theorem fl_X3_15 : FL RX3 15 3 1 := ⟨RX3, TX3, 14, rfl, by decide, rfl, Or.inl (GW_of 325 (by decide +kernel) (by decide +kernel))⟩
theorem fl_X3_25 : FL RX3 25 3 4 := ⟨RX3, TX3, 14, rfl, by decide, rfl, Or.inl (GW_of 328 (by decide +kernel) (by decide +kernel))⟩
theorem fl_X3_31 : FL RX3 31 3 6 := ⟨RX3, TX3, 14, rfl, by decide, rfl, Or.inl (GW_of 331 (by decide +kernel) (by decide +kernel))⟩
theorem fw_X3_43 : FW RX3 43 3 8 false .int := ⟨RX3, TX3, 14, rfl, by decide, rfl, rfl, by decide +kernel, Or.inl (GW_of 334 (by decide +kernel) (by decide +kernel)), fun h => by cases h⟩
theorem fl_X3_43 : FL RX3 43 3 8 := ⟨RX3, TX3, 14, rfl, by decide, rfl, Or.inl (GW_of 334 (by decide +kernel) (by decide +kernel))⟩
theorem fl_X3_54 : FL RX3 54 3 11 := ⟨RX3, TX3, 14, rfl, by decide, rfl, Or.inl (GW_of 341 (by decide +kernel) (by decide +kernel))⟩
theorem fl_X3_57 : FL RX3 57 3 12 := ⟨RX3, TX3, 14, rfl, by decide, rfl, Or.inl (GW_of 342 (by decide +kernel) (by decide +kernel))⟩
theorem cs_X3_37 : CS RX3 37 M_J7_fill_53178 2 := ⟨cb_J7_fill_53178, Or.inl (GW_of 585 (by decide +kernel) (by decide +kernel)), GW_of 586 (by decide +kernel) (by decide +kernel)⟩
theorem cs_X3_69 : CS RX3 69 M_X10_isDistance 1 := ⟨cb_X10_isDistance, Or.inr (List.mem_of_getElem? (i := 11) (by decide +kernel)), GW_of 710 (by decide +kernel) (by decide +kernel)⟩
theorem cs_X3_73 : CS RX3 73 M_X10_isPlace 1 := ⟨cb_X10_isPlace, Or.inr (List.mem_of_getElem? (i := 12) (by decide +kernel)), GW_of 725 (by decide +kernel) (by decide +kernel)⟩
theorem cv_X3_76 : CV RX3 76 M_X3_findReach 0 := ⟨cb_X3_findReach, Or.inl (GW_of 755 (by decide +kernel) (by decide +kernel)), GW_of 756 (by decide +kernel) (by decide +kernel), GW_of 757 (by decide +kernel) (by decide +kernel)⟩
/-! ===== X3_becomes ===== -/
theorem e_X3_becomes_0 : DC cX3_becomes 0 (.aload_n 1) 1 1 := ⟨by decide +kernel, rfl⟩
theorem e_X3_becomes_1 : DC cX3_becomes 1 (.getfield 9) 3 4 := ⟨by decide +kernel, rfl⟩
theorem e_X3_becomes_4 : DC cX3_becomes 4 (.iconst 0) 1 5 := ⟨by decide +kernel, rfl⟩
theorem e_X3_becomes_5 : DC cX3_becomes 5 (.aload_n 0) 1 6 := ⟨by decide +kernel, rfl⟩
theorem e_X3_becomes_6 : DC cX3_becomes 6 (.getfield 9) 3 9 := ⟨by decide +kernel, rfl⟩
theorem e_X3_becomes_9 : DC cX3_becomes 9 (.iconst 0) 1 10 := ⟨by decide +kernel, rfl⟩
theorem e_X3_becomes_10 : DC cX3_becomes 10 (.aload_n 0) 1 11 := ⟨by decide +kernel, rfl⟩
theorem e_X3_becomes_11 : DC cX3_becomes 11 (.getfield 9) 3 14 := ⟨by decide +kernel, rfl⟩
theorem e_X3_becomes_14 : DC cX3_becomes 14 (.arraylength) 1 15 := ⟨by decide +kernel, rfl⟩
theorem e_X3_becomes_15 : DC cX3_becomes 15 (.invokestatic 63) 3 18 := ⟨by decide +kernel, rfl⟩
theorem e_X3_becomes_18 : DC cX3_becomes 18 (.aload_n 1) 1 19 := ⟨by decide +kernel, rfl⟩
theorem e_X3_becomes_19 : DC cX3_becomes 19 (.getfield 19) 3 22 := ⟨by decide +kernel, rfl⟩
theorem e_X3_becomes_22 : DC cX3_becomes 22 (.iconst 0) 1 23 := ⟨by decide +kernel, rfl⟩
theorem e_X3_becomes_23 : DC cX3_becomes 23 (.aload_n 0) 1 24 := ⟨by decide +kernel, rfl⟩
theorem e_X3_becomes_24 : DC cX3_becomes 24 (.getfield 19) 3 27 := ⟨by decide +kernel, rfl⟩
theorem e_X3_becomes_27 : DC cX3_becomes 27 (.iconst 0) 1 28 := ⟨by decide +kernel, rfl⟩
theorem e_X3_becomes_28 : DC cX3_becomes 28 (.aload_n 0) 1 29 := ⟨by decide +kernel, rfl⟩
theorem e_X3_becomes_29 : DC cX3_becomes 29 (.getfield 19) 3 32 := ⟨by decide +kernel, rfl⟩
theorem e_X3_becomes_32 : DC cX3_becomes 32 (.arraylength) 1 33 := ⟨by decide +kernel, rfl⟩
theorem e_X3_becomes_33 : DC cX3_becomes 33 (.invokestatic 63) 3 36 := ⟨by decide +kernel, rfl⟩
theorem e_X3_becomes_36 : DC cX3_becomes 36 (.aload_n 1) 1 37 := ⟨by decide +kernel, rfl⟩
theorem e_X3_becomes_37 : DC cX3_becomes 37 (.getfield 22) 3 40 := ⟨by decide +kernel, rfl⟩
theorem e_X3_becomes_40 : DC cX3_becomes 40 (.iconst 0) 1 41 := ⟨by decide +kernel, rfl⟩
theorem e_X3_becomes_41 : DC cX3_becomes 41 (.aload_n 0) 1 42 := ⟨by decide +kernel, rfl⟩
theorem e_X3_becomes_42 : DC cX3_becomes 42 (.getfield 22) 3 45 := ⟨by decide +kernel, rfl⟩
theorem e_X3_becomes_45 : DC cX3_becomes 45 (.iconst 0) 1 46 := ⟨by decide +kernel, rfl⟩
theorem e_X3_becomes_46 : DC cX3_becomes 46 (.aload_n 0) 1 47 := ⟨by decide +kernel, rfl⟩
theorem e_X3_becomes_47 : DC cX3_becomes 47 (.getfield 22) 3 50 := ⟨by decide +kernel, rfl⟩
theorem e_X3_becomes_50 : DC cX3_becomes 50 (.arraylength) 1 51 := ⟨by decide +kernel, rfl⟩
theorem e_X3_becomes_51 : DC cX3_becomes 51 (.invokestatic 63) 3 54 := ⟨by decide +kernel, rfl⟩
theorem e_X3_becomes_54 : DC cX3_becomes 54 (.aload_n 1) 1 55 := ⟨by decide +kernel, rfl⟩
theorem e_X3_becomes_55 : DC cX3_becomes 55 (.getfield 28) 3 58 := ⟨by decide +kernel, rfl⟩
theorem e_X3_becomes_58 : DC cX3_becomes 58 (.iconst 0) 1 59 := ⟨by decide +kernel, rfl⟩
theorem e_X3_becomes_59 : DC cX3_becomes 59 (.aload_n 0) 1 60 := ⟨by decide +kernel, rfl⟩
theorem e_X3_becomes_60 : DC cX3_becomes 60 (.getfield 28) 3 63 := ⟨by decide +kernel, rfl⟩
theorem e_X3_becomes_63 : DC cX3_becomes 63 (.iconst 0) 1 64 := ⟨by decide +kernel, rfl⟩
theorem e_X3_becomes_64 : DC cX3_becomes 64 (.aload_n 0) 1 65 := ⟨by decide +kernel, rfl⟩
theorem e_X3_becomes_65 : DC cX3_becomes 65 (.getfield 28) 3 68 := ⟨by decide +kernel, rfl⟩
theorem e_X3_becomes_68 : DC cX3_becomes 68 (.arraylength) 1 69 := ⟨by decide +kernel, rfl⟩
theorem e_X3_becomes_69 : DC cX3_becomes 69 (.invokestatic 63) 3 72 := ⟨by decide +kernel, rfl⟩
theorem e_X3_becomes_72 : DC cX3_becomes 72 (.aload_n 1) 1 73 := ⟨by decide +kernel, rfl⟩
theorem e_X3_becomes_73 : DC cX3_becomes 73 (.getfield 34) 3 76 := ⟨by decide +kernel, rfl⟩
theorem e_X3_becomes_76 : DC cX3_becomes 76 (.iconst 0) 1 77 := ⟨by decide +kernel, rfl⟩
theorem e_X3_becomes_77 : DC cX3_becomes 77 (.aload_n 0) 1 78 := ⟨by decide +kernel, rfl⟩
theorem e_X3_becomes_78 : DC cX3_becomes 78 (.getfield 34) 3 81 := ⟨by decide +kernel, rfl⟩
theorem e_X3_becomes_81 : DC cX3_becomes 81 (.iconst 0) 1 82 := ⟨by decide +kernel, rfl⟩
theorem e_X3_becomes_82 : DC cX3_becomes 82 (.aload_n 0) 1 83 := ⟨by decide +kernel, rfl⟩
theorem e_X3_becomes_83 : DC cX3_becomes 83 (.getfield 34) 3 86 := ⟨by decide +kernel, rfl⟩
theorem e_X3_becomes_86 : DC cX3_becomes 86 (.arraylength) 1 87 := ⟨by decide +kernel, rfl⟩
theorem e_X3_becomes_87 : DC cX3_becomes 87 (.invokestatic 63) 3 90 := ⟨by decide +kernel, rfl⟩
theorem e_X3_becomes_90 : DC cX3_becomes 90 (.aload_n 0) 1 91 := ⟨by decide +kernel, rfl⟩
theorem e_X3_becomes_91 : DC cX3_becomes 91 (.aload_n 1) 1 92 := ⟨by decide +kernel, rfl⟩
theorem e_X3_becomes_92 : DC cX3_becomes 92 (.getfield 47) 3 95 := ⟨by decide +kernel, rfl⟩
theorem e_X3_becomes_95 : DC cX3_becomes 95 (.putfield 47) 3 98 := ⟨by decide +kernel, rfl⟩
theorem e_X3_becomes_98 : DC cX3_becomes 98 (.aload_n 0) 1 99 := ⟨by decide +kernel, rfl⟩
theorem e_X3_becomes_99 : DC cX3_becomes 99 (.aload_n 1) 1 100 := ⟨by decide +kernel, rfl⟩
theorem e_X3_becomes_100 : DC cX3_becomes 100 (.getfield 60) 3 103 := ⟨by decide +kernel, rfl⟩
theorem e_X3_becomes_103 : DC cX3_becomes 103 (.putfield 60) 3 106 := ⟨by decide +kernel, rfl⟩
theorem e_X3_becomes_106 : DC cX3_becomes 106 (.return_) 1 107 := ⟨by decide +kernel, rfl⟩
noncomputable def m_X3_becomes_0 (t_sourceMany : Int) (t_reach : Int) (t_pushes : Nat → Int) (t_lows : Nat → Int) (t_highs : Nat → Int) (t_sourceHolds : Nat → Int) (t_sources : Nat → Int) (p1_sourceMany : Int) (p1_reach : Int) (p1_pushes : Nat → Int) (p1_lows : Nat → Int) (p1_highs : Nat → Int) (p1_sourceHolds : Nat → Int) (p1_sources : Nat → Int) : Option (Int × Int × (Nat → Int) × (Nat → Int) × (Nat → Int) × (Nat → Int) × (Nat → Int)) :=
  chk (0 ≤ 0 ∧ 0 ≤ 0 ∧ 0 ≤ ((21 : Nat) : Int) ∧ 0 + ((21 : Nat) : Int) ≤ ((21 : Nat) : Int) ∧ 0 + ((21 : Nat) : Int) ≤ ((21 : Nat) : Int)) (chk (0 ≤ 0 ∧ 0 ≤ 0 ∧ 0 ≤ ((100 : Nat) : Int) ∧ 0 + ((100 : Nat) : Int) ≤ ((100 : Nat) : Int) ∧ 0 + ((100 : Nat) : Int) ≤ ((100 : Nat) : Int)) (chk (0 ≤ 0 ∧ 0 ≤ 0 ∧ 0 ≤ ((100 : Nat) : Int) ∧ 0 + ((100 : Nat) : Int) ≤ ((100 : Nat) : Int) ∧ 0 + ((100 : Nat) : Int) ≤ ((100 : Nat) : Int)) (chk (0 ≤ 0 ∧ 0 ≤ 0 ∧ 0 ≤ ((100 : Nat) : Int) ∧ 0 + ((100 : Nat) : Int) ≤ ((100 : Nat) : Int) ∧ 0 + ((100 : Nat) : Int) ≤ ((100 : Nat) : Int)) (chk (0 ≤ 0 ∧ 0 ≤ 0 ∧ 0 ≤ ((5 : Nat) : Int) ∧ 0 + ((5 : Nat) : Int) ≤ ((5 : Nat) : Int) ∧ 0 + ((5 : Nat) : Int) ≤ ((5 : Nat) : Int)) (some (p1_sourceMany, p1_reach, cpy p1_pushes t_pushes 0 0 ((21 : Nat) : Int), cpy p1_lows t_lows 0 0 ((100 : Nat) : Int), cpy p1_highs t_highs 0 0 ((100 : Nat) : Int), cpy p1_sourceHolds t_sourceHolds 0 0 ((100 : Nat) : Int), cpy p1_sources t_sources 0 0 ((5 : Nat) : Int)))))))

set_option maxRecDepth 10000 in
theorem g_X3_becomes_0 {l : Launch} {E : EE} {b0 n : Nat} {h : AH} {a_t a_p1 : Nat} {t_speckMany t_sourceMany t_baseTold t_baseLow t_baseHigh t_reach p1_speckMany p1_sourceMany p1_baseTold p1_baseLow p1_baseHigh p1_reach : Int} {t_pushes t_lows t_highs t_sourceHolds t_sources p1_pushes p1_lows p1_highs p1_sourceHolds p1_sources : Nat → Int} {r : Int × Int × (Nat → Int) × (Nat → Int) × (Nat → Int) × (Nat → Int) × (Nat → Int)} (ao : AO b0 n [a_t, (a_t + 1), (a_t + 3), (a_t + 4), (a_t + 6), (a_t + 8), a_p1, (a_p1 + 1), (a_p1 + 3), (a_p1 + 4), (a_p1 + 6), (a_p1 + 8)]) (ok_t_sourceMany : inI t_sourceMany) (ok_t_reach : inI t_reach) (ok_t_pushes : okA t_pushes) (ok_t_lows : okA t_lows) (ok_t_highs : okA t_highs) (ok_t_sourceHolds : okA t_sourceHolds) (ok_t_sources : okA t_sources) (ok_p1_sourceMany : inI p1_sourceMany) (ok_p1_reach : inI p1_reach) (ok_p1_pushes : okA p1_pushes) (ok_p1_lows : okA p1_lows) (ok_p1_highs : okA p1_highs) (ok_p1_sourceHolds : okA p1_sourceHolds) (ok_p1_sources : okA p1_sources) (hs : m_X3_becomes_0 t_sourceMany t_reach t_pushes t_lows t_highs t_sourceHolds t_sources p1_sourceMany p1_reach p1_pushes p1_lows p1_highs p1_sourceHolds p1_sources = some r) : G l E b0 M_X3_becomes (fun _ => True) (ZM E b0 (none) (ov [a_t, (a_t + 1), (a_t + 3), (a_t + 4), (a_t + 6), (a_t + 8), a_p1, (a_p1 + 1), (a_p1 + 3), (a_p1 + 4), (a_p1 + 6), (a_p1 + 8)] [.inr (3, fsX3 a_t t_speckMany r.1 t_baseTold t_baseLow t_baseHigh r.2.1), IA E 21 r.2.2.1, IA E 100 r.2.2.2.1, IA E 100 r.2.2.2.2.1, IA E 100 r.2.2.2.2.2.1, IA E 5 r.2.2.2.2.2.2, .inr (3, fsX3 a_p1 p1_speckMany p1_sourceMany p1_baseTold p1_baseLow p1_baseHigh p1_reach), IA E 21 p1_pushes, IA E 100 p1_lows, IA E 100 p1_highs, IA E 100 p1_sourceHolds, IA E 5 p1_sources] h) n (inI r.1 ∧ inI r.2.1 ∧ okA r.2.2.1 ∧ okA r.2.2.2.1 ∧ okA r.2.2.2.2.1 ∧ okA r.2.2.2.2.2.1 ∧ okA r.2.2.2.2.2.2) 0 0) 0 0 n (ov [a_t, (a_t + 1), (a_t + 3), (a_t + 4), (a_t + 6), (a_t + 8), a_p1, (a_p1 + 1), (a_p1 + 3), (a_p1 + 4), (a_p1 + 6), (a_p1 + 8)] [.inr (3, fsX3 a_t t_speckMany t_sourceMany t_baseTold t_baseLow t_baseHigh t_reach), IA E 21 t_pushes, IA E 100 t_lows, IA E 100 t_highs, IA E 100 t_sourceHolds, IA E 5 t_sources, .inr (3, fsX3 a_p1 p1_speckMany p1_sourceMany p1_baseTold p1_baseLow p1_baseHigh p1_reach), IA E 21 p1_pushes, IA E 100 p1_lows, IA E 100 p1_highs, IA E 100 p1_sourceHolds, IA E 5 p1_sources] h) 0 [some (.ref a_t), some (.ref a_p1)] [] := by
  rw [m_X3_becomes_0] at hs
  refine g_aload_n e_X3_becomes_0 rfl ?_
  refine g_get 6 0 ao rfl rfl fsX3_g0 fl_X3_9 e_X3_becomes_1 ?_
  refine g_iconst e_X3_becomes_4 ?_
  refine g_aload_n e_X3_becomes_5 rfl ?_
  refine g_get 0 0 ao rfl rfl fsX3_g0 fl_X3_9 e_X3_becomes_6 ?_
  refine g_iconst e_X3_becomes_9 ?_
  refine g_aload_n e_X3_becomes_10 rfl ?_
  refine g_get 0 0 ao rfl rfl fsX3_g0 fl_X3_9 e_X3_becomes_11 ?_
  refine g_alen 1 ao rfl (Or.inl rfl) e_X3_becomes_14 ?_
  refine g_copy 7 1 jc_X3_63 ao rfl rfl rfl rfl ls_1 (Nat.le_of_ble_eq_true rfl) (Nat.le_of_ble_eq_true rfl) e_X3_becomes_15 hs (Nat.le_of_ble_eq_true rfl) (Nat.le_of_ble_eq_true rfl) (fun hi1 hs => ?_)
  refine g_aload_n e_X3_becomes_18 rfl ?_
  refine g_get 6 2 ao rfl rfl fsX3_g2 fl_X3_19 e_X3_becomes_19 ?_
  refine g_iconst e_X3_becomes_22 ?_
  refine g_aload_n e_X3_becomes_23 rfl ?_
  refine g_get 0 2 ao rfl rfl fsX3_g2 fl_X3_19 e_X3_becomes_24 ?_
  refine g_iconst e_X3_becomes_27 ?_
  refine g_aload_n e_X3_becomes_28 rfl ?_
  refine g_get 0 2 ao rfl rfl fsX3_g2 fl_X3_19 e_X3_becomes_29 ?_
  refine g_alen 2 ao rfl (Or.inl rfl) e_X3_becomes_32 ?_
  refine g_copy 8 2 jc_X3_63 ao rfl rfl rfl rfl ls_2 (Nat.le_of_ble_eq_true rfl) (Nat.le_of_ble_eq_true rfl) e_X3_becomes_33 hs (Nat.le_of_ble_eq_true rfl) (Nat.le_of_ble_eq_true rfl) (fun hi2 hs => ?_)
  refine g_aload_n e_X3_becomes_36 rfl ?_
  refine g_get 6 3 ao rfl rfl fsX3_g3 fl_X3_22 e_X3_becomes_37 ?_
  refine g_iconst e_X3_becomes_40 ?_
  refine g_aload_n e_X3_becomes_41 rfl ?_
  refine g_get 0 3 ao rfl rfl fsX3_g3 fl_X3_22 e_X3_becomes_42 ?_
  refine g_iconst e_X3_becomes_45 ?_
  refine g_aload_n e_X3_becomes_46 rfl ?_
  refine g_get 0 3 ao rfl rfl fsX3_g3 fl_X3_22 e_X3_becomes_47 ?_
  refine g_alen 3 ao rfl (Or.inl rfl) e_X3_becomes_50 ?_
  refine g_copy 9 3 jc_X3_63 ao rfl rfl rfl rfl ls_3 (Nat.le_of_ble_eq_true rfl) (Nat.le_of_ble_eq_true rfl) e_X3_becomes_51 hs (Nat.le_of_ble_eq_true rfl) (Nat.le_of_ble_eq_true rfl) (fun hi3 hs => ?_)
  refine g_aload_n e_X3_becomes_54 rfl ?_
  refine g_get 6 5 ao rfl rfl fsX3_g5 fl_X3_28 e_X3_becomes_55 ?_
  refine g_iconst e_X3_becomes_58 ?_
  refine g_aload_n e_X3_becomes_59 rfl ?_
  refine g_get 0 5 ao rfl rfl fsX3_g5 fl_X3_28 e_X3_becomes_60 ?_
  refine g_iconst e_X3_becomes_63 ?_
  refine g_aload_n e_X3_becomes_64 rfl ?_
  refine g_get 0 5 ao rfl rfl fsX3_g5 fl_X3_28 e_X3_becomes_65 ?_
  refine g_alen 4 ao rfl (Or.inl rfl) e_X3_becomes_68 ?_
  refine g_copy 10 4 jc_X3_63 ao rfl rfl rfl rfl ls_4 (Nat.le_of_ble_eq_true rfl) (Nat.le_of_ble_eq_true rfl) e_X3_becomes_69 hs (Nat.le_of_ble_eq_true rfl) (Nat.le_of_ble_eq_true rfl) (fun hi4 hs => ?_)
  refine g_aload_n e_X3_becomes_72 rfl ?_
  refine g_get 6 7 ao rfl rfl fsX3_g7 fl_X3_34 e_X3_becomes_73 ?_
  refine g_iconst e_X3_becomes_76 ?_
  refine g_aload_n e_X3_becomes_77 rfl ?_
  refine g_get 0 7 ao rfl rfl fsX3_g7 fl_X3_34 e_X3_becomes_78 ?_
  refine g_iconst e_X3_becomes_81 ?_
  refine g_aload_n e_X3_becomes_82 rfl ?_
  refine g_get 0 7 ao rfl rfl fsX3_g7 fl_X3_34 e_X3_becomes_83 ?_
  refine g_alen 5 ao rfl (Or.inl rfl) e_X3_becomes_86 ?_
  refine g_copy 11 5 jc_X3_63 ao rfl rfl rfl rfl ls_5 (Nat.le_of_ble_eq_true rfl) (Nat.le_of_ble_eq_true rfl) e_X3_becomes_87 hs (Nat.le_of_ble_eq_true rfl) (Nat.le_of_ble_eq_true rfl) (fun hi5 hs => ?_)
  refine g_aload_n e_X3_becomes_90 rfl ?_
  refine g_aload_n e_X3_becomes_91 rfl ?_
  refine g_get 6 9 ao rfl rfl fsX3_g9 fl_X3_47 e_X3_becomes_92 ?_
  refine g_put 0 9 ao rfl rfl fsX3_k9 fsX3_s9 ls_0 fw_X3_47 (fun h => by cases h) ⟨rfl, rfl⟩ e_X3_becomes_95 ?_
  refine g_aload_n e_X3_becomes_98 rfl ?_
  refine g_aload_n e_X3_becomes_99 rfl ?_
  refine g_get 6 13 ao rfl rfl fsX3_g13 fl_X3_60 e_X3_becomes_100 ?_
  refine g_put 0 13 ao rfl rfl fsX3_k13 fsX3_s13 ls_0 fw_X3_60 (fun h => by cases h) ⟨rfl, rfl⟩ e_X3_becomes_103 ?_
  obtain rfl := Option.some.inj hs
  exact g_vret rfl ⟨ok_p1_sourceMany, ok_p1_reach, (okA_cpy ok_p1_pushes ok_t_pushes), (okA_cpy ok_p1_lows ok_t_lows), (okA_cpy ok_p1_highs ok_t_highs), (okA_cpy ok_p1_sourceHolds ok_t_sourceHolds), (okA_cpy ok_p1_sources ok_t_sources)⟩ e_X3_becomes_106

noncomputable def m_X3_becomes (t_sourceMany : Int) (t_reach : Int) (t_pushes : Nat → Int) (t_lows : Nat → Int) (t_highs : Nat → Int) (t_sourceHolds : Nat → Int) (t_sources : Nat → Int) (p1_sourceMany : Int) (p1_reach : Int) (p1_pushes : Nat → Int) (p1_lows : Nat → Int) (p1_highs : Nat → Int) (p1_sourceHolds : Nat → Int) (p1_sources : Nat → Int) : Option (Int × Int × (Nat → Int) × (Nat → Int) × (Nat → Int) × (Nat → Int) × (Nat → Int)) := m_X3_becomes_0 t_sourceMany t_reach t_pushes t_lows t_highs t_sourceHolds t_sources p1_sourceMany p1_reach p1_pushes p1_lows p1_highs p1_sourceHolds p1_sources

set_option maxRecDepth 10000 in
theorem ct_X3_becomes {l : Launch} {E : EE} {b0 n : Nat} {h : AH} {a_t a_p1 : Nat} {t_speckMany t_sourceMany t_baseTold t_baseLow t_baseHigh t_reach p1_speckMany p1_sourceMany p1_baseTold p1_baseLow p1_baseHigh p1_reach : Int} {t_pushes t_lows t_highs t_sourceHolds t_sources p1_pushes p1_lows p1_highs p1_sourceHolds p1_sources : Nat → Int} (ao : AO b0 n [a_t, (a_t + 1), (a_t + 3), (a_t + 4), (a_t + 6), (a_t + 8), a_p1, (a_p1 + 1), (a_p1 + 3), (a_p1 + 4), (a_p1 + 6), (a_p1 + 8)]) (hf : FA h [a_t, (a_t + 1), (a_t + 3), (a_t + 4), (a_t + 6), (a_t + 8), a_p1, (a_p1 + 1), (a_p1 + 3), (a_p1 + 4), (a_p1 + 6), (a_p1 + 8)] [.inr (3, fsX3 a_t t_speckMany t_sourceMany t_baseTold t_baseLow t_baseHigh t_reach), IA E 21 t_pushes, IA E 100 t_lows, IA E 100 t_highs, IA E 100 t_sourceHolds, IA E 5 t_sources, .inr (3, fsX3 a_p1 p1_speckMany p1_sourceMany p1_baseTold p1_baseLow p1_baseHigh p1_reach), IA E 21 p1_pushes, IA E 100 p1_lows, IA E 100 p1_highs, IA E 100 p1_sourceHolds, IA E 5 p1_sources]) (ok_t_sourceMany : inI t_sourceMany) (ok_t_reach : inI t_reach) (ok_t_pushes : okA t_pushes) (ok_t_lows : okA t_lows) (ok_t_highs : okA t_highs) (ok_t_sourceHolds : okA t_sourceHolds) (ok_t_sources : okA t_sources) (ok_p1_sourceMany : inI p1_sourceMany) (ok_p1_reach : inI p1_reach) (ok_p1_pushes : okA p1_pushes) (ok_p1_lows : okA p1_lows) (ok_p1_highs : okA p1_highs) (ok_p1_sourceHolds : okA p1_sourceHolds) (ok_p1_sources : okA p1_sources) {r : Int × Int × (Nat → Int) × (Nat → Int) × (Nat → Int) × (Nat → Int) × (Nat → Int)} (hm : m_X3_becomes t_sourceMany t_reach t_pushes t_lows t_highs t_sourceHolds t_sources p1_sourceMany p1_reach p1_pushes p1_lows p1_highs p1_sourceHolds p1_sources = some r) : Ct l E b0 M_X3_becomes 0 0 [.ref a_t, .ref a_p1] h n (none) (ov [a_t, (a_t + 1), (a_t + 3), (a_t + 4), (a_t + 6), (a_t + 8), a_p1, (a_p1 + 1), (a_p1 + 3), (a_p1 + 4), (a_p1 + 6), (a_p1 + 8)] [.inr (3, fsX3 a_t t_speckMany r.1 t_baseTold t_baseLow t_baseHigh r.2.1), IA E 21 r.2.2.1, IA E 100 r.2.2.2.1, IA E 100 r.2.2.2.2.1, IA E 100 r.2.2.2.2.2.1, IA E 5 r.2.2.2.2.2.2, .inr (3, fsX3 a_p1 p1_speckMany p1_sourceMany p1_baseTold p1_baseLow p1_baseHigh p1_reach), IA E 21 p1_pushes, IA E 100 p1_lows, IA E 100 p1_highs, IA E 100 p1_sourceHolds, IA E 5 p1_sources] h) n (inI r.1 ∧ inI r.2.1 ∧ okA r.2.2.1 ∧ okA r.2.2.2.1 ∧ okA r.2.2.2.2.1 ∧ okA r.2.2.2.2.2.1 ∧ okA r.2.2.2.2.2.2) := by
  rw [m_X3_becomes] at hm
  have hg : G l E b0 M_X3_becomes (fun _ => True) (ZM E b0 (none) (ov [a_t, (a_t + 1), (a_t + 3), (a_t + 4), (a_t + 6), (a_t + 8), a_p1, (a_p1 + 1), (a_p1 + 3), (a_p1 + 4), (a_p1 + 6), (a_p1 + 8)] [.inr (3, fsX3 a_t t_speckMany r.1 t_baseTold t_baseLow t_baseHigh r.2.1), IA E 21 r.2.2.1, IA E 100 r.2.2.2.1, IA E 100 r.2.2.2.2.1, IA E 100 r.2.2.2.2.2.1, IA E 5 r.2.2.2.2.2.2, .inr (3, fsX3 a_p1 p1_speckMany p1_sourceMany p1_baseTold p1_baseLow p1_baseHigh p1_reach), IA E 21 p1_pushes, IA E 100 p1_lows, IA E 100 p1_highs, IA E 100 p1_sourceHolds, IA E 5 p1_sources] h) n (inI r.1 ∧ inI r.2.1 ∧ okA r.2.2.1 ∧ okA r.2.2.2.1 ∧ okA r.2.2.2.2.1 ∧ okA r.2.2.2.2.2.1 ∧ okA r.2.2.2.2.2.2) 0 0) 0 0 n (ov [a_t, (a_t + 1), (a_t + 3), (a_t + 4), (a_t + 6), (a_t + 8), a_p1, (a_p1 + 1), (a_p1 + 3), (a_p1 + 4), (a_p1 + 6), (a_p1 + 8)] [.inr (3, fsX3 a_t t_speckMany t_sourceMany t_baseTold t_baseLow t_baseHigh t_reach), IA E 21 t_pushes, IA E 100 t_lows, IA E 100 t_highs, IA E 100 t_sourceHolds, IA E 5 t_sources, .inr (3, fsX3 a_p1 p1_speckMany p1_sourceMany p1_baseTold p1_baseLow p1_baseHigh p1_reach), IA E 21 p1_pushes, IA E 100 p1_lows, IA E 100 p1_highs, IA E 100 p1_sourceHolds, IA E 5 p1_sources] h) 0 [some (.ref a_t), some (.ref a_p1)] [] := by
    have hs := hm
    exact g_X3_becomes_0 ao ok_t_sourceMany ok_t_reach ok_t_pushes ok_t_lows ok_t_highs ok_t_sourceHolds ok_t_sources ok_p1_sourceMany ok_p1_reach ok_p1_pushes ok_p1_lows ok_p1_highs ok_p1_sourceHolds ok_p1_sources hs
  rw [FA_id hf] at hg
  exact Ct_of [some (.ref a_t), some (.ref a_p1)] ⟨by decide +kernel, rfl⟩ rfl (Nat.le_of_ble_eq_true rfl) hg

/-! ===== X3_tellBase ===== -/
theorem e_X3_tellBase_0 : DC cX3_tellBase 0 (.aload_n 0) 1 1 := ⟨by decide +kernel, rfl⟩
theorem e_X3_tellBase_1 : DC cX3_tellBase 1 (.iload_n 1) 1 2 := ⟨by decide +kernel, rfl⟩
theorem e_X3_tellBase_2 : DC cX3_tellBase 2 (.putfield 54) 3 5 := ⟨by decide +kernel, rfl⟩
theorem e_X3_tellBase_5 : DC cX3_tellBase 5 (.aload_n 0) 1 6 := ⟨by decide +kernel, rfl⟩
theorem e_X3_tellBase_6 : DC cX3_tellBase 6 (.iload_n 2) 1 7 := ⟨by decide +kernel, rfl⟩
theorem e_X3_tellBase_7 : DC cX3_tellBase 7 (.putfield 57) 3 10 := ⟨by decide +kernel, rfl⟩
theorem e_X3_tellBase_10 : DC cX3_tellBase 10 (.aload_n 0) 1 11 := ⟨by decide +kernel, rfl⟩
theorem e_X3_tellBase_11 : DC cX3_tellBase 11 (.iconst 1) 1 12 := ⟨by decide +kernel, rfl⟩
theorem e_X3_tellBase_12 : DC cX3_tellBase 12 (.putfield 50) 3 15 := ⟨by decide +kernel, rfl⟩
theorem e_X3_tellBase_15 : DC cX3_tellBase 15 (.return_) 1 16 := ⟨by decide +kernel, rfl⟩
noncomputable def m_X3_tellBase_0 (t_baseTold : Int) (t_baseLow : Int) (t_baseHigh : Int) (v1 : Int) (v2 : Int) : Option (Int × Int × Int) :=
  some (1, v1, v2)

set_option maxRecDepth 10000 in
theorem g_X3_tellBase_0 {l : Launch} {E : EE} {b0 n : Nat} {h : AH} {a_t : Nat} {t_speckMany t_sourceMany t_baseTold t_baseLow t_baseHigh t_reach v1 v2 : Int} {r : Int × Int × Int} (ao : AO b0 n [a_t]) (ok_t_baseTold : inZ t_baseTold) (ok_t_baseLow : inI t_baseLow) (ok_t_baseHigh : inI t_baseHigh) (ok_v1 : inI v1) (ok_v2 : inI v2) (hs : m_X3_tellBase_0 t_baseTold t_baseLow t_baseHigh v1 v2 = some r) : G l E b0 M_X3_tellBase (fun _ => True) (ZM E b0 (none) (ov [a_t] [.inr (3, fsX3 a_t t_speckMany t_sourceMany r.1 r.2.1 r.2.2 t_reach)] h) n (inZ r.1 ∧ inI r.2.1 ∧ inI r.2.2) 0 0) 0 0 n (ov [a_t] [.inr (3, fsX3 a_t t_speckMany t_sourceMany t_baseTold t_baseLow t_baseHigh t_reach)] h) 0 [some (.ref a_t), some (vI v1), some (vI v2)] [] := by
  rw [m_X3_tellBase_0] at hs
  refine g_aload_n e_X3_tellBase_0 rfl ?_
  refine g_iload_n e_X3_tellBase_1 rfl ?_
  refine g_put 0 11 ao rfl rfl fsX3_k11 fsX3_s11 ls_0 fw_X3_54 (fun h => by cases h) ⟨rfl, rfl⟩ e_X3_tellBase_2 ?_
  refine g_aload_n e_X3_tellBase_5 rfl ?_
  refine g_iload_n e_X3_tellBase_6 rfl ?_
  refine g_put 0 12 ao rfl rfl fsX3_k12 fsX3_s12 ls_0 fw_X3_57 (fun h => by cases h) ⟨rfl, rfl⟩ e_X3_tellBase_7 ?_
  refine g_aload_n e_X3_tellBase_10 rfl ?_
  refine g_iconst e_X3_tellBase_11 ?_
  refine g_put 0 10 ao rfl rfl fsX3_k10 fsX3_s10 ls_0 fw_X3_50 (fun h => by cases h) ⟨nar_Z (by decide : inZ 1), rfl⟩ e_X3_tellBase_12 ?_
  obtain rfl := Option.some.inj hs
  exact g_vret rfl ⟨(by decide : inZ 1), ok_v1, ok_v2⟩ e_X3_tellBase_15

noncomputable def m_X3_tellBase (t_baseTold : Int) (t_baseLow : Int) (t_baseHigh : Int) (v1 : Int) (v2 : Int) : Option (Int × Int × Int) := m_X3_tellBase_0 t_baseTold t_baseLow t_baseHigh v1 v2

set_option maxRecDepth 10000 in
theorem ct_X3_tellBase {l : Launch} {E : EE} {b0 n : Nat} {h : AH} {a_t : Nat} {t_speckMany t_sourceMany t_baseTold t_baseLow t_baseHigh t_reach : Int} {v1 v2 : Int} (ao : AO b0 n [a_t]) (hf : FA h [a_t] [.inr (3, fsX3 a_t t_speckMany t_sourceMany t_baseTold t_baseLow t_baseHigh t_reach)]) (ok_t_baseTold : inZ t_baseTold) (ok_t_baseLow : inI t_baseLow) (ok_t_baseHigh : inI t_baseHigh) (ok_v1 : inI v1) (ok_v2 : inI v2) {r : Int × Int × Int} (hm : m_X3_tellBase t_baseTold t_baseLow t_baseHigh v1 v2 = some r) : Ct l E b0 M_X3_tellBase 0 0 [.ref a_t, vI v1, vI v2] h n (none) (ov [a_t] [.inr (3, fsX3 a_t t_speckMany t_sourceMany r.1 r.2.1 r.2.2 t_reach)] h) n (inZ r.1 ∧ inI r.2.1 ∧ inI r.2.2) := by
  rw [m_X3_tellBase] at hm
  have hg : G l E b0 M_X3_tellBase (fun _ => True) (ZM E b0 (none) (ov [a_t] [.inr (3, fsX3 a_t t_speckMany t_sourceMany r.1 r.2.1 r.2.2 t_reach)] h) n (inZ r.1 ∧ inI r.2.1 ∧ inI r.2.2) 0 0) 0 0 n (ov [a_t] [.inr (3, fsX3 a_t t_speckMany t_sourceMany t_baseTold t_baseLow t_baseHigh t_reach)] h) 0 [some (.ref a_t), some (vI v1), some (vI v2)] [] := by
    have hs := hm
    exact g_X3_tellBase_0 ao ok_t_baseTold ok_t_baseLow ok_t_baseHigh ok_v1 ok_v2 hs
  rw [FA_id hf] at hg
  exact Ct_of [some (.ref a_t), some (vI v1), some (vI v2)] ⟨by decide +kernel, rfl⟩ rfl (Nat.le_of_ble_eq_true rfl) hg

/-! ===== X3_findReach ===== -/
theorem e_X3_findReach_0 : DC cX3_findReach 0 (.aload_n 0) 1 1 := ⟨by decide +kernel, rfl⟩
theorem e_X3_findReach_1 : DC cX3_findReach 1 (.iconst 0) 1 2 := ⟨by decide +kernel, rfl⟩
theorem e_X3_findReach_2 : DC cX3_findReach 2 (.putfield 60) 3 5 := ⟨by decide +kernel, rfl⟩
theorem e_X3_findReach_5 : DC cX3_findReach 5 (.iconst 1) 1 6 := ⟨by decide +kernel, rfl⟩
theorem e_X3_findReach_6 : DC cX3_findReach 6 (.istore_n 1) 1 7 := ⟨by decide +kernel, rfl⟩
theorem e_X3_findReach_7 : DC cX3_findReach 7 (.iload_n 1) 1 8 := ⟨by decide +kernel, rfl⟩
theorem e_X3_findReach_8 : DC cX3_findReach 8 (.bipush 20) 2 10 := ⟨by decide +kernel, rfl⟩
theorem e_X3_findReach_10 : DB cX3_findReach 10 (.if_icmp .gt 23) (23) 3 13 33 := ⟨by decide +kernel, rfl, rfl⟩
theorem e_X3_findReach_13 : DC cX3_findReach 13 (.aload_n 0) 1 14 := ⟨by decide +kernel, rfl⟩
theorem e_X3_findReach_14 : DC cX3_findReach 14 (.getfield 9) 3 17 := ⟨by decide +kernel, rfl⟩
theorem e_X3_findReach_17 : DC cX3_findReach 17 (.iload_n 1) 1 18 := ⟨by decide +kernel, rfl⟩
theorem e_X3_findReach_18 : DC cX3_findReach 18 (.iaload) 1 19 := ⟨by decide +kernel, rfl⟩
theorem e_X3_findReach_19 : DB cX3_findReach 19 (.ifCond .eq 8) (8) 3 22 27 := ⟨by decide +kernel, rfl, rfl⟩
theorem e_X3_findReach_22 : DC cX3_findReach 22 (.aload_n 0) 1 23 := ⟨by decide +kernel, rfl⟩
theorem e_X3_findReach_23 : DC cX3_findReach 23 (.iload_n 1) 1 24 := ⟨by decide +kernel, rfl⟩
theorem e_X3_findReach_24 : DC cX3_findReach 24 (.putfield 60) 3 27 := ⟨by decide +kernel, rfl⟩
theorem e_X3_findReach_27 : DC cX3_findReach 27 (.iinc 1 1) 3 30 := ⟨by decide +kernel, rfl⟩
theorem e_X3_findReach_30 : DB cX3_findReach 30 (.goto (-23)) (-23) 3 33 7 := ⟨by decide +kernel, rfl, rfl⟩
theorem e_X3_findReach_33 : DC cX3_findReach 33 (.return_) 1 34 := ⟨by decide +kernel, rfl⟩
noncomputable def m_X3_findReach_27 (t_reach : Int) (t_pushes : Nat → Int) (v1 : Int) (ag : Int → Int → Option (Int)) (k_33 : Int → Int → Option (Int)) : Option (Int) :=
  chk (inI (v1 + 1)) (ag t_reach (v1 + 1))

set_option maxRecDepth 10000 in
theorem g_X3_findReach_27 {l : Launch} {E : EE} {b0 n : Nat} {h : AH} {a_t : Nat} {t_speckMany t_sourceMany t_baseTold t_baseLow t_baseHigh t_reach v1 : Int} {t_pushes : Nat → Int} {r : Int} {ag : Int → Int → Option (Int)} {k_33 : Int → Int → Option (Int)} (ao : AO b0 n [a_t, (a_t + 1)]) (ok_t_reach : inI t_reach) (ok_t_pushes : okA t_pushes) (ok_v1 : inI v1) (hag : ∀ (t_reach_ : Int) (v1_ : Int), inI t_reach_ → inI v1_ → ag t_reach_ v1_ = some r → G l E b0 M_X3_findReach (fun _ => True) (ZM E b0 (none) (ov [a_t, (a_t + 1)] [.inr (3, fsX3 a_t t_speckMany t_sourceMany t_baseTold t_baseLow t_baseHigh r), IA E 21 t_pushes] h) n (inI r) 0 0) 0 0 n (ov [a_t, (a_t + 1)] [.inr (3, fsX3 a_t t_speckMany t_sourceMany t_baseTold t_baseLow t_baseHigh t_reach_), IA E 21 t_pushes] h) 7 [some (.ref a_t), some (vI v1_)] []) (hk_33 : ∀ (t_reach_ : Int) (v1_ : Int), inI t_reach_ → inI v1_ → k_33 t_reach_ v1_ = some r → G l E b0 M_X3_findReach (fun _ => True) (ZM E b0 (none) (ov [a_t, (a_t + 1)] [.inr (3, fsX3 a_t t_speckMany t_sourceMany t_baseTold t_baseLow t_baseHigh r), IA E 21 t_pushes] h) n (inI r) 0 0) 0 0 n (ov [a_t, (a_t + 1)] [.inr (3, fsX3 a_t t_speckMany t_sourceMany t_baseTold t_baseLow t_baseHigh t_reach_), IA E 21 t_pushes] h) 33 [none, none] []) (hs : m_X3_findReach_27 t_reach t_pushes v1 ag k_33 = some r) : G l E b0 M_X3_findReach (fun _ => True) (ZM E b0 (none) (ov [a_t, (a_t + 1)] [.inr (3, fsX3 a_t t_speckMany t_sourceMany t_baseTold t_baseLow t_baseHigh r), IA E 21 t_pushes] h) n (inI r) 0 0) 0 0 n (ov [a_t, (a_t + 1)] [.inr (3, fsX3 a_t t_speckMany t_sourceMany t_baseTold t_baseLow t_baseHigh t_reach), IA E 21 t_pushes] h) 27 [some (.ref a_t), some (vI v1)] [] := by
  rw [m_X3_findReach_27] at hs
  refine g_iinc e_X3_findReach_27 rfl st1_1 rfl ?_
  refine g_goto e_X3_findReach_30 ?_
  obtain ⟨hc2, hs⟩ := chk_elim hs
  exact hag _ _ ok_t_reach hc2 hs

noncomputable def m_X3_findReach_7 (t_pushes : Nat → Int) (k_33 : Int → Int → Option (Int)) : Nat → Int → Int → Option (Int)
  | 0, _, _ => none
  | F + 1, t_reach, v1 => if 20 < v1 then (some (t_reach)) else (chk (inB v1 21) (if (t_pushes (Int.toNat v1)) = 0 then (m_X3_findReach_27 t_reach t_pushes v1 (m_X3_findReach_7 t_pushes k_33 F) k_33) else (m_X3_findReach_27 v1 t_pushes v1 (m_X3_findReach_7 t_pushes k_33 F) k_33)))

set_option maxRecDepth 10000 in
theorem g_X3_findReach_7 {l : Launch} {E : EE} {b0 n : Nat} {h : AH} {a_t : Nat} {t_speckMany t_sourceMany t_baseTold t_baseLow t_baseHigh : Int} {t_pushes : Nat → Int} {r : Int} {k_33 : Int → Int → Option (Int)} (ao : AO b0 n [a_t, (a_t + 1)]) (ok_t_pushes : okA t_pushes) (hk_33 : ∀ (t_reach_ : Int) (v1_ : Int), inI t_reach_ → inI v1_ → k_33 t_reach_ v1_ = some r → G l E b0 M_X3_findReach (fun _ => True) (ZM E b0 (none) (ov [a_t, (a_t + 1)] [.inr (3, fsX3 a_t t_speckMany t_sourceMany t_baseTold t_baseLow t_baseHigh r), IA E 21 t_pushes] h) n (inI r) 0 0) 0 0 n (ov [a_t, (a_t + 1)] [.inr (3, fsX3 a_t t_speckMany t_sourceMany t_baseTold t_baseLow t_baseHigh t_reach_), IA E 21 t_pushes] h) 33 [none, none] []) :
    ∀ (F : Nat) (t_reach : Int) (v1 : Int), inI t_reach → inI v1 → m_X3_findReach_7 t_pushes k_33 F t_reach v1 = some r → G l E b0 M_X3_findReach (fun _ => True) (ZM E b0 (none) (ov [a_t, (a_t + 1)] [.inr (3, fsX3 a_t t_speckMany t_sourceMany t_baseTold t_baseLow t_baseHigh r), IA E 21 t_pushes] h) n (inI r) 0 0) 0 0 n (ov [a_t, (a_t + 1)] [.inr (3, fsX3 a_t t_speckMany t_sourceMany t_baseTold t_baseLow t_baseHigh t_reach), IA E 21 t_pushes] h) 7 [some (.ref a_t), some (vI v1)] [] := by
  intro F
  induction F with
  | zero =>
    intro t_reach v1 ok_t_reach ok_v1 hs
    rw [m_X3_findReach_7] at hs
    cases hs
  | succ F ih =>
    intro t_reach v1 ok_t_reach ok_v1 hs
    rw [m_X3_findReach_7] at hs
    refine g_iload_n e_X3_findReach_7 rfl ?_
    refine g_bipush e_X3_findReach_8 bp_20 ?_
    refine g_icmp_gt e_X3_findReach_10 ok_v1 (by decide : inI 20) hs (fun c10 hs => ?_) (fun c10 hs => ?_)
    · obtain rfl := Option.some.inj hs
      exact g_vret rfl ok_t_reach e_X3_findReach_33
    · refine g_aload_n e_X3_findReach_13 rfl ?_
      refine g_get 0 0 ao rfl rfl fsX3_g0 fl_X3_9 e_X3_findReach_14 ?_
      refine g_iload_n e_X3_findReach_17 rfl ?_
      refine g_iald 1 ao rfl rfl (Nat.le_of_ble_eq_true rfl) e_X3_findReach_18 hs (fun hi1 hs => ?_)
      refine g_if_eq e_X3_findReach_19 (ok_t_pushes _) hs (fun c19 hs => ?_) (fun c19 hs => ?_)
      · exact g_X3_findReach_27 ao ok_t_reach ok_t_pushes ok_v1 ih hk_33 hs
      · refine g_aload_n e_X3_findReach_22 rfl ?_
        refine g_iload_n e_X3_findReach_23 rfl ?_
        refine g_put 0 13 ao rfl rfl fsX3_k13 fsX3_s13 ls_0 fw_X3_60 (fun h => by cases h) ⟨rfl, rfl⟩ e_X3_findReach_24 ?_
        exact g_X3_findReach_27 ao ok_v1 ok_t_pushes ok_v1 ih hk_33 hs

noncomputable def m_X3_findReach_33 (t_reach : Int) : Option (Int) :=
  some (t_reach)

set_option maxRecDepth 10000 in
theorem g_X3_findReach_33 {l : Launch} {E : EE} {b0 n : Nat} {h : AH} {a_t : Nat} {t_speckMany t_sourceMany t_baseTold t_baseLow t_baseHigh t_reach : Int} {t_pushes : Nat → Int} {r : Int} (ao : AO b0 n [a_t, (a_t + 1)]) (ok_t_reach : inI t_reach) (ok_t_pushes : okA t_pushes) (hs : m_X3_findReach_33 t_reach = some r) : G l E b0 M_X3_findReach (fun _ => True) (ZM E b0 (none) (ov [a_t, (a_t + 1)] [.inr (3, fsX3 a_t t_speckMany t_sourceMany t_baseTold t_baseLow t_baseHigh r), IA E 21 t_pushes] h) n (inI r) 0 0) 0 0 n (ov [a_t, (a_t + 1)] [.inr (3, fsX3 a_t t_speckMany t_sourceMany t_baseTold t_baseLow t_baseHigh t_reach), IA E 21 t_pushes] h) 33 [none, none] [] := by
  rw [m_X3_findReach_33] at hs
  obtain rfl := Option.some.inj hs
  exact g_vret rfl ok_t_reach e_X3_findReach_33

noncomputable def m_X3_findReach_0 (t_reach : Int) (t_pushes : Nat → Int) : Option (Int) :=
  m_X3_findReach_7 t_pushes (fun t_reach' v1' => m_X3_findReach_33 t_reach') FU 0 1

set_option maxRecDepth 10000 in
theorem g_X3_findReach_0 {l : Launch} {E : EE} {b0 n : Nat} {h : AH} {a_t : Nat} {t_speckMany t_sourceMany t_baseTold t_baseLow t_baseHigh t_reach : Int} {t_pushes : Nat → Int} {r : Int} (ao : AO b0 n [a_t, (a_t + 1)]) (ok_t_reach : inI t_reach) (ok_t_pushes : okA t_pushes) (hs : m_X3_findReach_0 t_reach t_pushes = some r) : G l E b0 M_X3_findReach (fun _ => True) (ZM E b0 (none) (ov [a_t, (a_t + 1)] [.inr (3, fsX3 a_t t_speckMany t_sourceMany t_baseTold t_baseLow t_baseHigh r), IA E 21 t_pushes] h) n (inI r) 0 0) 0 0 n (ov [a_t, (a_t + 1)] [.inr (3, fsX3 a_t t_speckMany t_sourceMany t_baseTold t_baseLow t_baseHigh t_reach), IA E 21 t_pushes] h) 0 [some (.ref a_t), none] [] := by
  rw [m_X3_findReach_0] at hs
  refine g_aload_n e_X3_findReach_0 rfl ?_
  refine g_iconst e_X3_findReach_1 ?_
  refine g_put 0 13 ao rfl rfl fsX3_k13 fsX3_s13 ls_0 fw_X3_60 (fun h => by cases h) ⟨rfl, rfl⟩ e_X3_findReach_2 ?_
  refine g_iconst e_X3_findReach_5 ?_
  refine g_istore_n e_X3_findReach_6 st1_1 rfl ?_
  exact g_X3_findReach_7 ao ok_t_pushes (hk_33 := by
      intro t_reach' v1' ok_t_reach' ok_v1' hs
      exact g_X3_findReach_33 ao ok_t_reach' ok_t_pushes hs) FU _ _ (by decide : inI 0) (by decide : inI 1) hs

noncomputable def m_X3_findReach (t_reach : Int) (t_pushes : Nat → Int) : Option (Int) := m_X3_findReach_0 t_reach t_pushes

set_option maxRecDepth 10000 in
theorem ct_X3_findReach {l : Launch} {E : EE} {b0 n : Nat} {h : AH} {a_t : Nat} {t_speckMany t_sourceMany t_baseTold t_baseLow t_baseHigh t_reach : Int} {t_pushes : Nat → Int} (ao : AO b0 n [a_t, (a_t + 1)]) (hf : FA h [a_t, (a_t + 1)] [.inr (3, fsX3 a_t t_speckMany t_sourceMany t_baseTold t_baseLow t_baseHigh t_reach), IA E 21 t_pushes]) (ok_t_reach : inI t_reach) (ok_t_pushes : okA t_pushes) {r : Int} (hm : m_X3_findReach t_reach t_pushes = some r) : Ct l E b0 M_X3_findReach 0 0 [.ref a_t] h n (none) (ov [a_t, (a_t + 1)] [.inr (3, fsX3 a_t t_speckMany t_sourceMany t_baseTold t_baseLow t_baseHigh r), IA E 21 t_pushes] h) n (inI r) := by
  rw [m_X3_findReach] at hm
  have hg : G l E b0 M_X3_findReach (fun _ => True) (ZM E b0 (none) (ov [a_t, (a_t + 1)] [.inr (3, fsX3 a_t t_speckMany t_sourceMany t_baseTold t_baseLow t_baseHigh r), IA E 21 t_pushes] h) n (inI r) 0 0) 0 0 n (ov [a_t, (a_t + 1)] [.inr (3, fsX3 a_t t_speckMany t_sourceMany t_baseTold t_baseLow t_baseHigh t_reach), IA E 21 t_pushes] h) 0 [some (.ref a_t), none] [] := by
    have hs := hm
    exact g_X3_findReach_0 ao ok_t_reach ok_t_pushes hs
  rw [FA_id hf] at hg
  exact Ct_of [some (.ref a_t), none] ⟨by decide +kernel, rfl⟩ rfl (Nat.le_of_ble_eq_true rfl) hg

/-! ===== X3_drop ===== -/
theorem e_X3_drop_0 : DC cX3_drop 0 (.aload_n 0) 1 1 := ⟨by decide +kernel, rfl⟩
theorem e_X3_drop_1 : DC cX3_drop 1 (.getfield 9) 3 4 := ⟨by decide +kernel, rfl⟩
theorem e_X3_drop_4 : DC cX3_drop 4 (.iconst 0) 1 5 := ⟨by decide +kernel, rfl⟩
theorem e_X3_drop_5 : DC cX3_drop 5 (.invokestatic 37) 3 8 := ⟨by decide +kernel, rfl⟩
theorem e_X3_drop_8 : DC cX3_drop 8 (.iconst 0) 1 9 := ⟨by decide +kernel, rfl⟩
theorem e_X3_drop_9 : DC cX3_drop 9 (.istore_n 1) 1 10 := ⟨by decide +kernel, rfl⟩
theorem e_X3_drop_10 : DC cX3_drop 10 (.iload_n 1) 1 11 := ⟨by decide +kernel, rfl⟩
theorem e_X3_drop_11 : DC cX3_drop 11 (.aload_n 0) 1 12 := ⟨by decide +kernel, rfl⟩
theorem e_X3_drop_12 : DC cX3_drop 12 (.getfield 15) 3 15 := ⟨by decide +kernel, rfl⟩
theorem e_X3_drop_15 : DC cX3_drop 15 (.arraylength) 1 16 := ⟨by decide +kernel, rfl⟩
theorem e_X3_drop_16 : DB cX3_drop 16 (.if_icmp .ge 16) (16) 3 19 32 := ⟨by decide +kernel, rfl, rfl⟩
theorem e_X3_drop_19 : DC cX3_drop 19 (.aload_n 0) 1 20 := ⟨by decide +kernel, rfl⟩
theorem e_X3_drop_20 : DC cX3_drop 20 (.getfield 15) 3 23 := ⟨by decide +kernel, rfl⟩
theorem e_X3_drop_23 : DC cX3_drop 23 (.iload_n 1) 1 24 := ⟨by decide +kernel, rfl⟩
theorem e_X3_drop_24 : DC cX3_drop 24 (.iconst 0) 1 25 := ⟨by decide +kernel, rfl⟩
theorem e_X3_drop_25 : DC cX3_drop 25 (.bastore) 1 26 := ⟨by decide +kernel, rfl⟩
theorem e_X3_drop_26 : DC cX3_drop 26 (.iinc 1 1) 3 29 := ⟨by decide +kernel, rfl⟩
theorem e_X3_drop_29 : DB cX3_drop 29 (.goto (-19)) (-19) 3 32 10 := ⟨by decide +kernel, rfl, rfl⟩
theorem e_X3_drop_32 : DC cX3_drop 32 (.iconst 0) 1 33 := ⟨by decide +kernel, rfl⟩
theorem e_X3_drop_33 : DC cX3_drop 33 (.istore_n 1) 1 34 := ⟨by decide +kernel, rfl⟩
theorem e_X3_drop_34 : DC cX3_drop 34 (.iload_n 1) 1 35 := ⟨by decide +kernel, rfl⟩
theorem e_X3_drop_35 : DC cX3_drop 35 (.bipush 100) 2 37 := ⟨by decide +kernel, rfl⟩
theorem e_X3_drop_37 : DB cX3_drop 37 (.if_icmp .ge 23) (23) 3 40 60 := ⟨by decide +kernel, rfl, rfl⟩
theorem e_X3_drop_40 : DC cX3_drop 40 (.aload_n 0) 1 41 := ⟨by decide +kernel, rfl⟩
theorem e_X3_drop_41 : DC cX3_drop 41 (.getfield 25) 3 44 := ⟨by decide +kernel, rfl⟩
theorem e_X3_drop_44 : DC cX3_drop 44 (.iload_n 1) 1 45 := ⟨by decide +kernel, rfl⟩
theorem e_X3_drop_45 : DC cX3_drop 45 (.iconst 0) 1 46 := ⟨by decide +kernel, rfl⟩
theorem e_X3_drop_46 : DC cX3_drop 46 (.bastore) 1 47 := ⟨by decide +kernel, rfl⟩
theorem e_X3_drop_47 : DC cX3_drop 47 (.aload_n 0) 1 48 := ⟨by decide +kernel, rfl⟩
theorem e_X3_drop_48 : DC cX3_drop 48 (.getfield 31) 3 51 := ⟨by decide +kernel, rfl⟩
theorem e_X3_drop_51 : DC cX3_drop 51 (.iload_n 1) 1 52 := ⟨by decide +kernel, rfl⟩
theorem e_X3_drop_52 : DC cX3_drop 52 (.iconst 0) 1 53 := ⟨by decide +kernel, rfl⟩
theorem e_X3_drop_53 : DC cX3_drop 53 (.bastore) 1 54 := ⟨by decide +kernel, rfl⟩
theorem e_X3_drop_54 : DC cX3_drop 54 (.iinc 1 1) 3 57 := ⟨by decide +kernel, rfl⟩
theorem e_X3_drop_57 : DB cX3_drop 57 (.goto (-23)) (-23) 3 60 34 := ⟨by decide +kernel, rfl, rfl⟩
theorem e_X3_drop_60 : DC cX3_drop 60 (.aload_n 0) 1 61 := ⟨by decide +kernel, rfl⟩
theorem e_X3_drop_61 : DC cX3_drop 61 (.iconst 0) 1 62 := ⟨by decide +kernel, rfl⟩
theorem e_X3_drop_62 : DC cX3_drop 62 (.putfield 43) 3 65 := ⟨by decide +kernel, rfl⟩
theorem e_X3_drop_65 : DC cX3_drop 65 (.aload_n 0) 1 66 := ⟨by decide +kernel, rfl⟩
theorem e_X3_drop_66 : DC cX3_drop 66 (.iconst 0) 1 67 := ⟨by decide +kernel, rfl⟩
theorem e_X3_drop_67 : DC cX3_drop 67 (.putfield 47) 3 70 := ⟨by decide +kernel, rfl⟩
theorem e_X3_drop_70 : DC cX3_drop 70 (.aload_n 0) 1 71 := ⟨by decide +kernel, rfl⟩
theorem e_X3_drop_71 : DC cX3_drop 71 (.iconst 0) 1 72 := ⟨by decide +kernel, rfl⟩
theorem e_X3_drop_72 : DC cX3_drop 72 (.putfield 50) 3 75 := ⟨by decide +kernel, rfl⟩
theorem e_X3_drop_75 : DC cX3_drop 75 (.aload_n 0) 1 76 := ⟨by decide +kernel, rfl⟩
theorem e_X3_drop_76 : DC cX3_drop 76 (.iconst 0) 1 77 := ⟨by decide +kernel, rfl⟩
theorem e_X3_drop_77 : DC cX3_drop 77 (.putfield 54) 3 80 := ⟨by decide +kernel, rfl⟩
theorem e_X3_drop_80 : DC cX3_drop 80 (.aload_n 0) 1 81 := ⟨by decide +kernel, rfl⟩
theorem e_X3_drop_81 : DC cX3_drop 81 (.iconst 0) 1 82 := ⟨by decide +kernel, rfl⟩
theorem e_X3_drop_82 : DC cX3_drop 82 (.putfield 57) 3 85 := ⟨by decide +kernel, rfl⟩
theorem e_X3_drop_85 : DC cX3_drop 85 (.aload_n 0) 1 86 := ⟨by decide +kernel, rfl⟩
theorem e_X3_drop_86 : DC cX3_drop 86 (.iconst 0) 1 87 := ⟨by decide +kernel, rfl⟩
theorem e_X3_drop_87 : DC cX3_drop 87 (.putfield 60) 3 90 := ⟨by decide +kernel, rfl⟩
theorem e_X3_drop_90 : DC cX3_drop 90 (.return_) 1 91 := ⟨by decide +kernel, rfl⟩
noncomputable def m_X3_drop_10 (k_32 : (Nat → Int) → Int → Option (Int × Int × Int × Int × Int × Int × (Nat → Int) × (Nat → Int) × (Nat → Int) × (Nat → Int))) : Nat → (Nat → Int) → Int → Option (Int × Int × Int × Int × Int × Int × (Nat → Int) × (Nat → Int) × (Nat → Int) × (Nat → Int))
  | 0, _, _ => none
  | F + 1, t_pushTold, v1 => if ((21 : Nat) : Int) ≤ v1 then (k_32 t_pushTold v1) else (chk (inB v1 21) (chk (inI (v1 + 1)) (m_X3_drop_10 k_32 F (up t_pushTold (Int.toNat v1) 0) (v1 + 1))))

set_option maxRecDepth 10000 in
theorem g_X3_drop_10 {l : Launch} {E : EE} {b0 n : Nat} {h : AH} {a_t : Nat} {t_speckMany t_sourceMany t_baseTold t_baseLow t_baseHigh t_reach : Int} {t_pushes t_speckTold t_sourceTold : Nat → Int} {r : Int × Int × Int × Int × Int × Int × (Nat → Int) × (Nat → Int) × (Nat → Int) × (Nat → Int)} {k_32 : (Nat → Int) → Int → Option (Int × Int × Int × Int × Int × Int × (Nat → Int) × (Nat → Int) × (Nat → Int) × (Nat → Int))} (ao : AO b0 n [a_t, (a_t + 1), (a_t + 2), (a_t + 5), (a_t + 7)]) (ok_t_speckMany : inI t_speckMany) (ok_t_sourceMany : inI t_sourceMany) (ok_t_baseTold : inZ t_baseTold) (ok_t_baseLow : inI t_baseLow) (ok_t_baseHigh : inI t_baseHigh) (ok_t_reach : inI t_reach) (ok_t_pushes : okA t_pushes) (ok_t_speckTold : okZ t_speckTold) (ok_t_sourceTold : okZ t_sourceTold) (hk_32 : ∀ (t_pushTold_ : Nat → Int) (v1_ : Int), okZ t_pushTold_ → inI v1_ → k_32 t_pushTold_ v1_ = some r → G l E b0 M_X3_drop (fun _ => True) (ZM E b0 (none) (ov [a_t, (a_t + 1), (a_t + 2), (a_t + 5), (a_t + 7)] [.inr (3, fsX3 a_t r.1 r.2.1 r.2.2.1 r.2.2.2.1 r.2.2.2.2.1 r.2.2.2.2.2.1), IA E 21 r.2.2.2.2.2.2.1, ZA E 21 r.2.2.2.2.2.2.2.1, ZA E 100 r.2.2.2.2.2.2.2.2.1, ZA E 100 r.2.2.2.2.2.2.2.2.2] h) n (inI r.1 ∧ inI r.2.1 ∧ inZ r.2.2.1 ∧ inI r.2.2.2.1 ∧ inI r.2.2.2.2.1 ∧ inI r.2.2.2.2.2.1 ∧ okA r.2.2.2.2.2.2.1 ∧ okZ r.2.2.2.2.2.2.2.1 ∧ okZ r.2.2.2.2.2.2.2.2.1 ∧ okZ r.2.2.2.2.2.2.2.2.2) 0 0) 0 0 n (ov [a_t, (a_t + 1), (a_t + 2), (a_t + 5), (a_t + 7)] [.inr (3, fsX3 a_t t_speckMany t_sourceMany t_baseTold t_baseLow t_baseHigh t_reach), IA E 21 t_pushes, ZA E 21 t_pushTold_, ZA E 100 t_speckTold, ZA E 100 t_sourceTold] h) 32 [some (.ref a_t), none] []) :
    ∀ (F : Nat) (t_pushTold : Nat → Int) (v1 : Int), okZ t_pushTold → inI v1 → m_X3_drop_10 k_32 F t_pushTold v1 = some r → G l E b0 M_X3_drop (fun _ => True) (ZM E b0 (none) (ov [a_t, (a_t + 1), (a_t + 2), (a_t + 5), (a_t + 7)] [.inr (3, fsX3 a_t r.1 r.2.1 r.2.2.1 r.2.2.2.1 r.2.2.2.2.1 r.2.2.2.2.2.1), IA E 21 r.2.2.2.2.2.2.1, ZA E 21 r.2.2.2.2.2.2.2.1, ZA E 100 r.2.2.2.2.2.2.2.2.1, ZA E 100 r.2.2.2.2.2.2.2.2.2] h) n (inI r.1 ∧ inI r.2.1 ∧ inZ r.2.2.1 ∧ inI r.2.2.2.1 ∧ inI r.2.2.2.2.1 ∧ inI r.2.2.2.2.2.1 ∧ okA r.2.2.2.2.2.2.1 ∧ okZ r.2.2.2.2.2.2.2.1 ∧ okZ r.2.2.2.2.2.2.2.2.1 ∧ okZ r.2.2.2.2.2.2.2.2.2) 0 0) 0 0 n (ov [a_t, (a_t + 1), (a_t + 2), (a_t + 5), (a_t + 7)] [.inr (3, fsX3 a_t t_speckMany t_sourceMany t_baseTold t_baseLow t_baseHigh t_reach), IA E 21 t_pushes, ZA E 21 t_pushTold, ZA E 100 t_speckTold, ZA E 100 t_sourceTold] h) 10 [some (.ref a_t), some (vI v1)] [] := by
  intro F
  induction F with
  | zero =>
    intro t_pushTold v1 ok_t_pushTold ok_v1 hs
    rw [m_X3_drop_10] at hs
    cases hs
  | succ F ih =>
    intro t_pushTold v1 ok_t_pushTold ok_v1 hs
    rw [m_X3_drop_10] at hs
    refine g_iload_n e_X3_drop_10 rfl ?_
    refine g_aload_n e_X3_drop_11 rfl ?_
    refine g_get 0 1 ao rfl rfl fsX3_g1 fl_X3_15 e_X3_drop_12 ?_
    refine g_alen 2 ao rfl (Or.inr rfl) e_X3_drop_15 ?_
    refine g_icmp_ge e_X3_drop_16 ok_v1 (by decide : inI ((21 : Nat) : Int)) hs (fun c16 hs => ?_) (fun c16 hs => ?_)
    · exact g_mask [true, false] (hk_32 _ _ ok_t_pushTold ok_v1 hs)
    · refine g_aload_n e_X3_drop_19 rfl ?_
      refine g_get 0 1 ao rfl rfl fsX3_g1 fl_X3_15 e_X3_drop_20 ?_
      refine g_iload_n e_X3_drop_23 rfl ?_
      refine g_iconst e_X3_drop_24 ?_
      refine g_zast 2 ao rfl rfl ls_2 (Nat.le_of_ble_eq_true rfl) (by decide : inZ 0) e_X3_drop_25 hs (fun hi2 hs => ?_)
      refine g_iinc e_X3_drop_26 rfl st1_1 rfl ?_
      refine g_goto e_X3_drop_29 ?_
      obtain ⟨hc3, hs⟩ := chk_elim hs
      exact ih _ _ (okZ_up ok_t_pushTold (by decide : inZ 0)) hc3 hs

noncomputable def m_X3_drop_34 (k_60 : (Nat → Int) → (Nat → Int) → Int → Option (Int × Int × Int × Int × Int × Int × (Nat → Int) × (Nat → Int) × (Nat → Int) × (Nat → Int))) : Nat → (Nat → Int) → (Nat → Int) → Int → Option (Int × Int × Int × Int × Int × Int × (Nat → Int) × (Nat → Int) × (Nat → Int) × (Nat → Int))
  | 0, _, _, _ => none
  | F + 1, t_speckTold, t_sourceTold, v1 => if 100 ≤ v1 then (k_60 t_speckTold t_sourceTold v1) else (chk (inB v1 100) (chk (inB v1 100) (chk (inI (v1 + 1)) (m_X3_drop_34 k_60 F (up t_speckTold (Int.toNat v1) 0) (up t_sourceTold (Int.toNat v1) 0) (v1 + 1)))))

set_option maxRecDepth 10000 in
theorem g_X3_drop_34 {l : Launch} {E : EE} {b0 n : Nat} {h : AH} {a_t : Nat} {t_speckMany t_sourceMany t_baseTold t_baseLow t_baseHigh t_reach : Int} {t_pushes t_pushTold : Nat → Int} {r : Int × Int × Int × Int × Int × Int × (Nat → Int) × (Nat → Int) × (Nat → Int) × (Nat → Int)} {k_60 : (Nat → Int) → (Nat → Int) → Int → Option (Int × Int × Int × Int × Int × Int × (Nat → Int) × (Nat → Int) × (Nat → Int) × (Nat → Int))} (ao : AO b0 n [a_t, (a_t + 1), (a_t + 2), (a_t + 5), (a_t + 7)]) (ok_t_speckMany : inI t_speckMany) (ok_t_sourceMany : inI t_sourceMany) (ok_t_baseTold : inZ t_baseTold) (ok_t_baseLow : inI t_baseLow) (ok_t_baseHigh : inI t_baseHigh) (ok_t_reach : inI t_reach) (ok_t_pushes : okA t_pushes) (ok_t_pushTold : okZ t_pushTold) (hk_60 : ∀ (t_speckTold_ : Nat → Int) (t_sourceTold_ : Nat → Int) (v1_ : Int), okZ t_speckTold_ → okZ t_sourceTold_ → inI v1_ → k_60 t_speckTold_ t_sourceTold_ v1_ = some r → G l E b0 M_X3_drop (fun _ => True) (ZM E b0 (none) (ov [a_t, (a_t + 1), (a_t + 2), (a_t + 5), (a_t + 7)] [.inr (3, fsX3 a_t r.1 r.2.1 r.2.2.1 r.2.2.2.1 r.2.2.2.2.1 r.2.2.2.2.2.1), IA E 21 r.2.2.2.2.2.2.1, ZA E 21 r.2.2.2.2.2.2.2.1, ZA E 100 r.2.2.2.2.2.2.2.2.1, ZA E 100 r.2.2.2.2.2.2.2.2.2] h) n (inI r.1 ∧ inI r.2.1 ∧ inZ r.2.2.1 ∧ inI r.2.2.2.1 ∧ inI r.2.2.2.2.1 ∧ inI r.2.2.2.2.2.1 ∧ okA r.2.2.2.2.2.2.1 ∧ okZ r.2.2.2.2.2.2.2.1 ∧ okZ r.2.2.2.2.2.2.2.2.1 ∧ okZ r.2.2.2.2.2.2.2.2.2) 0 0) 0 0 n (ov [a_t, (a_t + 1), (a_t + 2), (a_t + 5), (a_t + 7)] [.inr (3, fsX3 a_t t_speckMany t_sourceMany t_baseTold t_baseLow t_baseHigh t_reach), IA E 21 t_pushes, ZA E 21 t_pushTold, ZA E 100 t_speckTold_, ZA E 100 t_sourceTold_] h) 60 [some (.ref a_t), none] []) :
    ∀ (F : Nat) (t_speckTold : Nat → Int) (t_sourceTold : Nat → Int) (v1 : Int), okZ t_speckTold → okZ t_sourceTold → inI v1 → m_X3_drop_34 k_60 F t_speckTold t_sourceTold v1 = some r → G l E b0 M_X3_drop (fun _ => True) (ZM E b0 (none) (ov [a_t, (a_t + 1), (a_t + 2), (a_t + 5), (a_t + 7)] [.inr (3, fsX3 a_t r.1 r.2.1 r.2.2.1 r.2.2.2.1 r.2.2.2.2.1 r.2.2.2.2.2.1), IA E 21 r.2.2.2.2.2.2.1, ZA E 21 r.2.2.2.2.2.2.2.1, ZA E 100 r.2.2.2.2.2.2.2.2.1, ZA E 100 r.2.2.2.2.2.2.2.2.2] h) n (inI r.1 ∧ inI r.2.1 ∧ inZ r.2.2.1 ∧ inI r.2.2.2.1 ∧ inI r.2.2.2.2.1 ∧ inI r.2.2.2.2.2.1 ∧ okA r.2.2.2.2.2.2.1 ∧ okZ r.2.2.2.2.2.2.2.1 ∧ okZ r.2.2.2.2.2.2.2.2.1 ∧ okZ r.2.2.2.2.2.2.2.2.2) 0 0) 0 0 n (ov [a_t, (a_t + 1), (a_t + 2), (a_t + 5), (a_t + 7)] [.inr (3, fsX3 a_t t_speckMany t_sourceMany t_baseTold t_baseLow t_baseHigh t_reach), IA E 21 t_pushes, ZA E 21 t_pushTold, ZA E 100 t_speckTold, ZA E 100 t_sourceTold] h) 34 [some (.ref a_t), some (vI v1)] [] := by
  intro F
  induction F with
  | zero =>
    intro t_speckTold t_sourceTold v1 ok_t_speckTold ok_t_sourceTold ok_v1 hs
    rw [m_X3_drop_34] at hs
    cases hs
  | succ F ih =>
    intro t_speckTold t_sourceTold v1 ok_t_speckTold ok_t_sourceTold ok_v1 hs
    rw [m_X3_drop_34] at hs
    refine g_iload_n e_X3_drop_34 rfl ?_
    refine g_bipush e_X3_drop_35 bp_100 ?_
    refine g_icmp_ge e_X3_drop_37 ok_v1 (by decide : inI 100) hs (fun c37 hs => ?_) (fun c37 hs => ?_)
    · exact g_mask [true, false] (hk_60 _ _ _ ok_t_speckTold ok_t_sourceTold ok_v1 hs)
    · refine g_aload_n e_X3_drop_40 rfl ?_
      refine g_get 0 4 ao rfl rfl fsX3_g4 fl_X3_25 e_X3_drop_41 ?_
      refine g_iload_n e_X3_drop_44 rfl ?_
      refine g_iconst e_X3_drop_45 ?_
      refine g_zast 3 ao rfl rfl ls_3 (Nat.le_of_ble_eq_true rfl) (by decide : inZ 0) e_X3_drop_46 hs (fun hi4 hs => ?_)
      refine g_aload_n e_X3_drop_47 rfl ?_
      refine g_get 0 6 ao rfl rfl fsX3_g6 fl_X3_31 e_X3_drop_48 ?_
      refine g_iload_n e_X3_drop_51 rfl ?_
      refine g_iconst e_X3_drop_52 ?_
      refine g_zast 4 ao rfl rfl ls_4 (Nat.le_of_ble_eq_true rfl) (by decide : inZ 0) e_X3_drop_53 hs (fun hi5 hs => ?_)
      refine g_iinc e_X3_drop_54 rfl st1_1 rfl ?_
      refine g_goto e_X3_drop_57 ?_
      obtain ⟨hc6, hs⟩ := chk_elim hs
      exact ih _ _ _ (okZ_up ok_t_speckTold (by decide : inZ 0)) (okZ_up ok_t_sourceTold (by decide : inZ 0)) hc6 hs

noncomputable def m_X3_drop_60 (t_speckMany : Int) (t_sourceMany : Int) (t_baseTold : Int) (t_baseLow : Int) (t_baseHigh : Int) (t_reach : Int) (t_pushes : Nat → Int) (t_pushTold : Nat → Int) (t_speckTold : Nat → Int) (t_sourceTold : Nat → Int) : Option (Int × Int × Int × Int × Int × Int × (Nat → Int) × (Nat → Int) × (Nat → Int) × (Nat → Int)) :=
  some (0, 0, 0, 0, 0, 0, t_pushes, t_pushTold, t_speckTold, t_sourceTold)

set_option maxRecDepth 10000 in
theorem g_X3_drop_60 {l : Launch} {E : EE} {b0 n : Nat} {h : AH} {a_t : Nat} {t_speckMany t_sourceMany t_baseTold t_baseLow t_baseHigh t_reach : Int} {t_pushes t_pushTold t_speckTold t_sourceTold : Nat → Int} {r : Int × Int × Int × Int × Int × Int × (Nat → Int) × (Nat → Int) × (Nat → Int) × (Nat → Int)} (ao : AO b0 n [a_t, (a_t + 1), (a_t + 2), (a_t + 5), (a_t + 7)]) (ok_t_speckMany : inI t_speckMany) (ok_t_sourceMany : inI t_sourceMany) (ok_t_baseTold : inZ t_baseTold) (ok_t_baseLow : inI t_baseLow) (ok_t_baseHigh : inI t_baseHigh) (ok_t_reach : inI t_reach) (ok_t_pushes : okA t_pushes) (ok_t_pushTold : okZ t_pushTold) (ok_t_speckTold : okZ t_speckTold) (ok_t_sourceTold : okZ t_sourceTold) (hs : m_X3_drop_60 t_speckMany t_sourceMany t_baseTold t_baseLow t_baseHigh t_reach t_pushes t_pushTold t_speckTold t_sourceTold = some r) : G l E b0 M_X3_drop (fun _ => True) (ZM E b0 (none) (ov [a_t, (a_t + 1), (a_t + 2), (a_t + 5), (a_t + 7)] [.inr (3, fsX3 a_t r.1 r.2.1 r.2.2.1 r.2.2.2.1 r.2.2.2.2.1 r.2.2.2.2.2.1), IA E 21 r.2.2.2.2.2.2.1, ZA E 21 r.2.2.2.2.2.2.2.1, ZA E 100 r.2.2.2.2.2.2.2.2.1, ZA E 100 r.2.2.2.2.2.2.2.2.2] h) n (inI r.1 ∧ inI r.2.1 ∧ inZ r.2.2.1 ∧ inI r.2.2.2.1 ∧ inI r.2.2.2.2.1 ∧ inI r.2.2.2.2.2.1 ∧ okA r.2.2.2.2.2.2.1 ∧ okZ r.2.2.2.2.2.2.2.1 ∧ okZ r.2.2.2.2.2.2.2.2.1 ∧ okZ r.2.2.2.2.2.2.2.2.2) 0 0) 0 0 n (ov [a_t, (a_t + 1), (a_t + 2), (a_t + 5), (a_t + 7)] [.inr (3, fsX3 a_t t_speckMany t_sourceMany t_baseTold t_baseLow t_baseHigh t_reach), IA E 21 t_pushes, ZA E 21 t_pushTold, ZA E 100 t_speckTold, ZA E 100 t_sourceTold] h) 60 [some (.ref a_t), none] [] := by
  rw [m_X3_drop_60] at hs
  refine g_aload_n e_X3_drop_60 rfl ?_
  refine g_iconst e_X3_drop_61 ?_
  refine g_put 0 8 ao rfl rfl fsX3_k8 fsX3_s8 ls_0 fw_X3_43 (fun h => by cases h) ⟨rfl, rfl⟩ e_X3_drop_62 ?_
  refine g_aload_n e_X3_drop_65 rfl ?_
  refine g_iconst e_X3_drop_66 ?_
  refine g_put 0 9 ao rfl rfl fsX3_k9 fsX3_s9 ls_0 fw_X3_47 (fun h => by cases h) ⟨rfl, rfl⟩ e_X3_drop_67 ?_
  refine g_aload_n e_X3_drop_70 rfl ?_
  refine g_iconst e_X3_drop_71 ?_
  refine g_put 0 10 ao rfl rfl fsX3_k10 fsX3_s10 ls_0 fw_X3_50 (fun h => by cases h) ⟨nar_Z (by decide : inZ 0), rfl⟩ e_X3_drop_72 ?_
  refine g_aload_n e_X3_drop_75 rfl ?_
  refine g_iconst e_X3_drop_76 ?_
  refine g_put 0 11 ao rfl rfl fsX3_k11 fsX3_s11 ls_0 fw_X3_54 (fun h => by cases h) ⟨rfl, rfl⟩ e_X3_drop_77 ?_
  refine g_aload_n e_X3_drop_80 rfl ?_
  refine g_iconst e_X3_drop_81 ?_
  refine g_put 0 12 ao rfl rfl fsX3_k12 fsX3_s12 ls_0 fw_X3_57 (fun h => by cases h) ⟨rfl, rfl⟩ e_X3_drop_82 ?_
  refine g_aload_n e_X3_drop_85 rfl ?_
  refine g_iconst e_X3_drop_86 ?_
  refine g_put 0 13 ao rfl rfl fsX3_k13 fsX3_s13 ls_0 fw_X3_60 (fun h => by cases h) ⟨rfl, rfl⟩ e_X3_drop_87 ?_
  obtain rfl := Option.some.inj hs
  exact g_vret rfl ⟨(by decide : inI 0), (by decide : inI 0), (by decide : inZ 0), (by decide : inI 0), (by decide : inI 0), (by decide : inI 0), ok_t_pushes, ok_t_pushTold, ok_t_speckTold, ok_t_sourceTold⟩ e_X3_drop_90

noncomputable def m_X3_drop_32 (t_speckMany : Int) (t_sourceMany : Int) (t_baseTold : Int) (t_baseLow : Int) (t_baseHigh : Int) (t_reach : Int) (t_pushes : Nat → Int) (t_pushTold : Nat → Int) (t_speckTold : Nat → Int) (t_sourceTold : Nat → Int) : Option (Int × Int × Int × Int × Int × Int × (Nat → Int) × (Nat → Int) × (Nat → Int) × (Nat → Int)) :=
  m_X3_drop_34 (fun t_speckTold' t_sourceTold' v1' => m_X3_drop_60 t_speckMany t_sourceMany t_baseTold t_baseLow t_baseHigh t_reach t_pushes t_pushTold t_speckTold' t_sourceTold') FU t_speckTold t_sourceTold 0

set_option maxRecDepth 10000 in
theorem g_X3_drop_32 {l : Launch} {E : EE} {b0 n : Nat} {h : AH} {a_t : Nat} {t_speckMany t_sourceMany t_baseTold t_baseLow t_baseHigh t_reach : Int} {t_pushes t_pushTold t_speckTold t_sourceTold : Nat → Int} {r : Int × Int × Int × Int × Int × Int × (Nat → Int) × (Nat → Int) × (Nat → Int) × (Nat → Int)} (ao : AO b0 n [a_t, (a_t + 1), (a_t + 2), (a_t + 5), (a_t + 7)]) (ok_t_speckMany : inI t_speckMany) (ok_t_sourceMany : inI t_sourceMany) (ok_t_baseTold : inZ t_baseTold) (ok_t_baseLow : inI t_baseLow) (ok_t_baseHigh : inI t_baseHigh) (ok_t_reach : inI t_reach) (ok_t_pushes : okA t_pushes) (ok_t_pushTold : okZ t_pushTold) (ok_t_speckTold : okZ t_speckTold) (ok_t_sourceTold : okZ t_sourceTold) (hs : m_X3_drop_32 t_speckMany t_sourceMany t_baseTold t_baseLow t_baseHigh t_reach t_pushes t_pushTold t_speckTold t_sourceTold = some r) : G l E b0 M_X3_drop (fun _ => True) (ZM E b0 (none) (ov [a_t, (a_t + 1), (a_t + 2), (a_t + 5), (a_t + 7)] [.inr (3, fsX3 a_t r.1 r.2.1 r.2.2.1 r.2.2.2.1 r.2.2.2.2.1 r.2.2.2.2.2.1), IA E 21 r.2.2.2.2.2.2.1, ZA E 21 r.2.2.2.2.2.2.2.1, ZA E 100 r.2.2.2.2.2.2.2.2.1, ZA E 100 r.2.2.2.2.2.2.2.2.2] h) n (inI r.1 ∧ inI r.2.1 ∧ inZ r.2.2.1 ∧ inI r.2.2.2.1 ∧ inI r.2.2.2.2.1 ∧ inI r.2.2.2.2.2.1 ∧ okA r.2.2.2.2.2.2.1 ∧ okZ r.2.2.2.2.2.2.2.1 ∧ okZ r.2.2.2.2.2.2.2.2.1 ∧ okZ r.2.2.2.2.2.2.2.2.2) 0 0) 0 0 n (ov [a_t, (a_t + 1), (a_t + 2), (a_t + 5), (a_t + 7)] [.inr (3, fsX3 a_t t_speckMany t_sourceMany t_baseTold t_baseLow t_baseHigh t_reach), IA E 21 t_pushes, ZA E 21 t_pushTold, ZA E 100 t_speckTold, ZA E 100 t_sourceTold] h) 32 [some (.ref a_t), none] [] := by
  rw [m_X3_drop_32] at hs
  refine g_iconst e_X3_drop_32 ?_
  refine g_istore_n e_X3_drop_33 st1_1 rfl ?_
  exact g_X3_drop_34 ao ok_t_speckMany ok_t_sourceMany ok_t_baseTold ok_t_baseLow ok_t_baseHigh ok_t_reach ok_t_pushes ok_t_pushTold (hk_60 := by
      intro t_speckTold' t_sourceTold' v1' ok_t_speckTold' ok_t_sourceTold' ok_v1' hs
      exact g_X3_drop_60 ao ok_t_speckMany ok_t_sourceMany ok_t_baseTold ok_t_baseLow ok_t_baseHigh ok_t_reach ok_t_pushes ok_t_pushTold ok_t_speckTold' ok_t_sourceTold' hs) FU _ _ _ ok_t_speckTold ok_t_sourceTold (by decide : inI 0) hs

noncomputable def m_X3_drop_0 (t_speckMany : Int) (t_sourceMany : Int) (t_baseTold : Int) (t_baseLow : Int) (t_baseHigh : Int) (t_reach : Int) (t_pushes : Nat → Int) (t_pushTold : Nat → Int) (t_speckTold : Nat → Int) (t_sourceTold : Nat → Int) : Option (Int × Int × Int × Int × Int × Int × (Nat → Int) × (Nat → Int) × (Nat → Int) × (Nat → Int)) :=
  (m_J7_fill_53178 21 t_pushes 0).bind (fun y1 => m_X3_drop_10 (fun t_pushTold' v1' => m_X3_drop_32 t_speckMany t_sourceMany t_baseTold t_baseLow t_baseHigh t_reach y1 t_pushTold' t_speckTold t_sourceTold) FU t_pushTold 0)

set_option maxRecDepth 10000 in
theorem g_X3_drop_0 {l : Launch} {E : EE} {b0 n : Nat} {h : AH} {a_t : Nat} {t_speckMany t_sourceMany t_baseTold t_baseLow t_baseHigh t_reach : Int} {t_pushes t_pushTold t_speckTold t_sourceTold : Nat → Int} {r : Int × Int × Int × Int × Int × Int × (Nat → Int) × (Nat → Int) × (Nat → Int) × (Nat → Int)} (ao : AO b0 n [a_t, (a_t + 1), (a_t + 2), (a_t + 5), (a_t + 7)]) (ok_t_speckMany : inI t_speckMany) (ok_t_sourceMany : inI t_sourceMany) (ok_t_baseTold : inZ t_baseTold) (ok_t_baseLow : inI t_baseLow) (ok_t_baseHigh : inI t_baseHigh) (ok_t_reach : inI t_reach) (ok_t_pushes : okA t_pushes) (ok_t_pushTold : okZ t_pushTold) (ok_t_speckTold : okZ t_speckTold) (ok_t_sourceTold : okZ t_sourceTold) (hs : m_X3_drop_0 t_speckMany t_sourceMany t_baseTold t_baseLow t_baseHigh t_reach t_pushes t_pushTold t_speckTold t_sourceTold = some r) : G l E b0 M_X3_drop (fun _ => True) (ZM E b0 (none) (ov [a_t, (a_t + 1), (a_t + 2), (a_t + 5), (a_t + 7)] [.inr (3, fsX3 a_t r.1 r.2.1 r.2.2.1 r.2.2.2.1 r.2.2.2.2.1 r.2.2.2.2.2.1), IA E 21 r.2.2.2.2.2.2.1, ZA E 21 r.2.2.2.2.2.2.2.1, ZA E 100 r.2.2.2.2.2.2.2.2.1, ZA E 100 r.2.2.2.2.2.2.2.2.2] h) n (inI r.1 ∧ inI r.2.1 ∧ inZ r.2.2.1 ∧ inI r.2.2.2.1 ∧ inI r.2.2.2.2.1 ∧ inI r.2.2.2.2.2.1 ∧ okA r.2.2.2.2.2.2.1 ∧ okZ r.2.2.2.2.2.2.2.1 ∧ okZ r.2.2.2.2.2.2.2.2.1 ∧ okZ r.2.2.2.2.2.2.2.2.2) 0 0) 0 0 n (ov [a_t, (a_t + 1), (a_t + 2), (a_t + 5), (a_t + 7)] [.inr (3, fsX3 a_t t_speckMany t_sourceMany t_baseTold t_baseLow t_baseHigh t_reach), IA E 21 t_pushes, ZA E 21 t_pushTold, ZA E 100 t_speckTold, ZA E 100 t_sourceTold] h) 0 [some (.ref a_t), none] [] := by
  rw [m_X3_drop_0] at hs
  refine g_aload_n e_X3_drop_0 rfl ?_
  refine g_get 0 0 ao rfl rfl fsX3_g0 fl_X3_9 e_X3_drop_1 ?_
  refine g_iconst e_X3_drop_4 ?_
  obtain ⟨y1, hy1, hs⟩ := bind_elim hs
  refine g_callSv [.ref (a_t + 1), vI 0] cs_X3_37 ⟨rfl, rfl, Nat.le_of_ble_eq_true rfl, Nat.le_of_ble_eq_true rfl⟩ (Ct_heap (ct_J7_fill_53178 (AO_call [1] ao (by decide) rfl) (by omega) (FA_call [1] ao.1 rfl rfl) ok_t_pushes (by decide : inI 0) hy1) (ov_call (esn := [.inr (3, fsX3 a_t t_speckMany t_sourceMany t_baseTold t_baseLow t_baseHigh t_reach), IA E 21 y1, ZA E 21 t_pushTold, ZA E 100 t_speckTold, ZA E 100 t_sourceTold]) [1] ao.1 rfl rfl rfl rfl)) e_X3_drop_5 rfl rfl (Nat.le_of_ble_eq_true rfl) ⟨Nat.le_refl _, Nat.le_refl _⟩ (fun Py1 => ?_)
  refine g_iconst e_X3_drop_8 ?_
  refine g_istore_n e_X3_drop_9 st1_1 rfl ?_
  exact g_X3_drop_10 ao ok_t_speckMany ok_t_sourceMany ok_t_baseTold ok_t_baseLow ok_t_baseHigh ok_t_reach Py1 ok_t_speckTold ok_t_sourceTold (hk_32 := by
      intro t_pushTold' v1' ok_t_pushTold' ok_v1' hs
      exact g_X3_drop_32 ao ok_t_speckMany ok_t_sourceMany ok_t_baseTold ok_t_baseLow ok_t_baseHigh ok_t_reach Py1 ok_t_pushTold' ok_t_speckTold ok_t_sourceTold hs) FU _ _ ok_t_pushTold (by decide : inI 0) hs

noncomputable def m_X3_drop (t_speckMany : Int) (t_sourceMany : Int) (t_baseTold : Int) (t_baseLow : Int) (t_baseHigh : Int) (t_reach : Int) (t_pushes : Nat → Int) (t_pushTold : Nat → Int) (t_speckTold : Nat → Int) (t_sourceTold : Nat → Int) : Option (Int × Int × Int × Int × Int × Int × (Nat → Int) × (Nat → Int) × (Nat → Int) × (Nat → Int)) := m_X3_drop_0 t_speckMany t_sourceMany t_baseTold t_baseLow t_baseHigh t_reach t_pushes t_pushTold t_speckTold t_sourceTold

set_option maxRecDepth 10000 in
theorem ct_X3_drop {l : Launch} {E : EE} {b0 n : Nat} {h : AH} {a_t : Nat} {t_speckMany t_sourceMany t_baseTold t_baseLow t_baseHigh t_reach : Int} {t_pushes t_pushTold t_speckTold t_sourceTold : Nat → Int} (ao : AO b0 n [a_t, (a_t + 1), (a_t + 2), (a_t + 5), (a_t + 7)]) (hf : FA h [a_t, (a_t + 1), (a_t + 2), (a_t + 5), (a_t + 7)] [.inr (3, fsX3 a_t t_speckMany t_sourceMany t_baseTold t_baseLow t_baseHigh t_reach), IA E 21 t_pushes, ZA E 21 t_pushTold, ZA E 100 t_speckTold, ZA E 100 t_sourceTold]) (ok_t_speckMany : inI t_speckMany) (ok_t_sourceMany : inI t_sourceMany) (ok_t_baseTold : inZ t_baseTold) (ok_t_baseLow : inI t_baseLow) (ok_t_baseHigh : inI t_baseHigh) (ok_t_reach : inI t_reach) (ok_t_pushes : okA t_pushes) (ok_t_pushTold : okZ t_pushTold) (ok_t_speckTold : okZ t_speckTold) (ok_t_sourceTold : okZ t_sourceTold) {r : Int × Int × Int × Int × Int × Int × (Nat → Int) × (Nat → Int) × (Nat → Int) × (Nat → Int)} (hm : m_X3_drop t_speckMany t_sourceMany t_baseTold t_baseLow t_baseHigh t_reach t_pushes t_pushTold t_speckTold t_sourceTold = some r) : Ct l E b0 M_X3_drop 0 0 [.ref a_t] h n (none) (ov [a_t, (a_t + 1), (a_t + 2), (a_t + 5), (a_t + 7)] [.inr (3, fsX3 a_t r.1 r.2.1 r.2.2.1 r.2.2.2.1 r.2.2.2.2.1 r.2.2.2.2.2.1), IA E 21 r.2.2.2.2.2.2.1, ZA E 21 r.2.2.2.2.2.2.2.1, ZA E 100 r.2.2.2.2.2.2.2.2.1, ZA E 100 r.2.2.2.2.2.2.2.2.2] h) n (inI r.1 ∧ inI r.2.1 ∧ inZ r.2.2.1 ∧ inI r.2.2.2.1 ∧ inI r.2.2.2.2.1 ∧ inI r.2.2.2.2.2.1 ∧ okA r.2.2.2.2.2.2.1 ∧ okZ r.2.2.2.2.2.2.2.1 ∧ okZ r.2.2.2.2.2.2.2.2.1 ∧ okZ r.2.2.2.2.2.2.2.2.2) := by
  rw [m_X3_drop] at hm
  have hg : G l E b0 M_X3_drop (fun _ => True) (ZM E b0 (none) (ov [a_t, (a_t + 1), (a_t + 2), (a_t + 5), (a_t + 7)] [.inr (3, fsX3 a_t r.1 r.2.1 r.2.2.1 r.2.2.2.1 r.2.2.2.2.1 r.2.2.2.2.2.1), IA E 21 r.2.2.2.2.2.2.1, ZA E 21 r.2.2.2.2.2.2.2.1, ZA E 100 r.2.2.2.2.2.2.2.2.1, ZA E 100 r.2.2.2.2.2.2.2.2.2] h) n (inI r.1 ∧ inI r.2.1 ∧ inZ r.2.2.1 ∧ inI r.2.2.2.1 ∧ inI r.2.2.2.2.1 ∧ inI r.2.2.2.2.2.1 ∧ okA r.2.2.2.2.2.2.1 ∧ okZ r.2.2.2.2.2.2.2.1 ∧ okZ r.2.2.2.2.2.2.2.2.1 ∧ okZ r.2.2.2.2.2.2.2.2.2) 0 0) 0 0 n (ov [a_t, (a_t + 1), (a_t + 2), (a_t + 5), (a_t + 7)] [.inr (3, fsX3 a_t t_speckMany t_sourceMany t_baseTold t_baseLow t_baseHigh t_reach), IA E 21 t_pushes, ZA E 21 t_pushTold, ZA E 100 t_speckTold, ZA E 100 t_sourceTold] h) 0 [some (.ref a_t), none] [] := by
    have hs := hm
    exact g_X3_drop_0 ao ok_t_speckMany ok_t_sourceMany ok_t_baseTold ok_t_baseLow ok_t_baseHigh ok_t_reach ok_t_pushes ok_t_pushTold ok_t_speckTold ok_t_sourceTold hs
  rw [FA_id hf] at hg
  exact Ct_of [some (.ref a_t), none] ⟨by decide +kernel, rfl⟩ rfl (Nat.le_of_ble_eq_true rfl) hg

/-! ===== X3_tellPush ===== -/
theorem e_X3_tellPush_0 : DC cX3_tellPush 0 (.iload_n 1) 1 1 := ⟨by decide +kernel, rfl⟩
theorem e_X3_tellPush_1 : DC cX3_tellPush 1 (.invokestatic 69) 3 4 := ⟨by decide +kernel, rfl⟩
theorem e_X3_tellPush_4 : DB cX3_tellPush 4 (.ifCond .eq 17) (17) 3 7 21 := ⟨by decide +kernel, rfl, rfl⟩
theorem e_X3_tellPush_7 : DC cX3_tellPush 7 (.aload_n 0) 1 8 := ⟨by decide +kernel, rfl⟩
theorem e_X3_tellPush_8 : DC cX3_tellPush 8 (.getfield 9) 3 11 := ⟨by decide +kernel, rfl⟩
theorem e_X3_tellPush_11 : DC cX3_tellPush 11 (.iload_n 1) 1 12 := ⟨by decide +kernel, rfl⟩
theorem e_X3_tellPush_12 : DC cX3_tellPush 12 (.iload_n 2) 1 13 := ⟨by decide +kernel, rfl⟩
theorem e_X3_tellPush_13 : DC cX3_tellPush 13 (.iastore) 1 14 := ⟨by decide +kernel, rfl⟩
theorem e_X3_tellPush_14 : DC cX3_tellPush 14 (.aload_n 0) 1 15 := ⟨by decide +kernel, rfl⟩
theorem e_X3_tellPush_15 : DC cX3_tellPush 15 (.getfield 15) 3 18 := ⟨by decide +kernel, rfl⟩
theorem e_X3_tellPush_18 : DC cX3_tellPush 18 (.iload_n 1) 1 19 := ⟨by decide +kernel, rfl⟩
theorem e_X3_tellPush_19 : DC cX3_tellPush 19 (.iconst 1) 1 20 := ⟨by decide +kernel, rfl⟩
theorem e_X3_tellPush_20 : DC cX3_tellPush 20 (.bastore) 1 21 := ⟨by decide +kernel, rfl⟩
theorem e_X3_tellPush_21 : DC cX3_tellPush 21 (.return_) 1 22 := ⟨by decide +kernel, rfl⟩
noncomputable def m_X3_tellPush_0 (t_pushes : Nat → Int) (t_pushTold : Nat → Int) (v1 : Int) (v2 : Int) : Option ((Nat → Int) × (Nat → Int)) :=
  (m_X10_isDistance v1).bind (fun y1 => if y1 = 0 then (some (t_pushes, t_pushTold)) else (chk (inB v1 21) (chk (inB v1 21) (some (up t_pushes (Int.toNat v1) v2, up t_pushTold (Int.toNat v1) 1)))))

set_option maxRecDepth 10000 in
theorem g_X3_tellPush_0 {l : Launch} {E : EE} {b0 n : Nat} {h : AH} {a_t : Nat} {t_speckMany t_sourceMany t_baseTold t_baseLow t_baseHigh t_reach v1 v2 : Int} {t_pushes t_pushTold : Nat → Int} {r : (Nat → Int) × (Nat → Int)} (ao : AO b0 n [a_t, (a_t + 1), (a_t + 2)]) (ok_t_pushes : okA t_pushes) (ok_t_pushTold : okZ t_pushTold) (ok_v1 : inI v1) (ok_v2 : inI v2) (hs : m_X3_tellPush_0 t_pushes t_pushTold v1 v2 = some r) : G l E b0 M_X3_tellPush (fun _ => True) (ZM E b0 (none) (ov [a_t, (a_t + 1), (a_t + 2)] [.inr (3, fsX3 a_t t_speckMany t_sourceMany t_baseTold t_baseLow t_baseHigh t_reach), IA E 21 r.1, ZA E 21 r.2] h) n (okA r.1 ∧ okZ r.2) 0 0) 0 0 n (ov [a_t, (a_t + 1), (a_t + 2)] [.inr (3, fsX3 a_t t_speckMany t_sourceMany t_baseTold t_baseLow t_baseHigh t_reach), IA E 21 t_pushes, ZA E 21 t_pushTold] h) 0 [some (.ref a_t), some (vI v1), some (vI v2)] [] := by
  rw [m_X3_tellPush_0] at hs
  refine g_iload_n e_X3_tellPush_0 rfl ?_
  obtain ⟨y1, hy1, hs⟩ := bind_elim hs
  refine g_callSr [vI v1] cs_X3_69 ⟨rfl, rfl, Nat.le_of_ble_eq_true rfl, Nat.le_of_ble_eq_true rfl⟩ (ct_X10_isDistance ⟨List.nodup_nil, fun i a h => by simp at h⟩ (fun i a e h => by simp at h) ok_v1 hy1) e_X3_tellPush_1 rfl rfl (Nat.le_of_ble_eq_true rfl) ⟨Nat.le_refl _, Nat.le_refl _⟩ (fun Py1 => ?_)
  refine g_if_eq e_X3_tellPush_4 (inZ_I Py1) hs (fun c4 hs => ?_) (fun c4 hs => ?_)
  · obtain rfl := Option.some.inj hs
    exact g_vret rfl ⟨ok_t_pushes, ok_t_pushTold⟩ e_X3_tellPush_21
  · refine g_aload_n e_X3_tellPush_7 rfl ?_
    refine g_get 0 0 ao rfl rfl fsX3_g0 fl_X3_9 e_X3_tellPush_8 ?_
    refine g_iload_n e_X3_tellPush_11 rfl ?_
    refine g_iload_n e_X3_tellPush_12 rfl ?_
    refine g_iast 1 ao rfl rfl ls_1 (Nat.le_of_ble_eq_true rfl) e_X3_tellPush_13 hs (fun hi2 hs => ?_)
    refine g_aload_n e_X3_tellPush_14 rfl ?_
    refine g_get 0 1 ao rfl rfl fsX3_g1 fl_X3_15 e_X3_tellPush_15 ?_
    refine g_iload_n e_X3_tellPush_18 rfl ?_
    refine g_iconst e_X3_tellPush_19 ?_
    refine g_zast 2 ao rfl rfl ls_2 (Nat.le_of_ble_eq_true rfl) (by decide : inZ 1) e_X3_tellPush_20 hs (fun hi3 hs => ?_)
    obtain rfl := Option.some.inj hs
    exact g_vret rfl ⟨(okA_up ok_t_pushes ok_v2), (okZ_up ok_t_pushTold (by decide : inZ 1))⟩ e_X3_tellPush_21

noncomputable def m_X3_tellPush (t_pushes : Nat → Int) (t_pushTold : Nat → Int) (v1 : Int) (v2 : Int) : Option ((Nat → Int) × (Nat → Int)) := m_X3_tellPush_0 t_pushes t_pushTold v1 v2

set_option maxRecDepth 10000 in
theorem ct_X3_tellPush {l : Launch} {E : EE} {b0 n : Nat} {h : AH} {a_t : Nat} {t_speckMany t_sourceMany t_baseTold t_baseLow t_baseHigh t_reach : Int} {t_pushes t_pushTold : Nat → Int} {v1 v2 : Int} (ao : AO b0 n [a_t, (a_t + 1), (a_t + 2)]) (hf : FA h [a_t, (a_t + 1), (a_t + 2)] [.inr (3, fsX3 a_t t_speckMany t_sourceMany t_baseTold t_baseLow t_baseHigh t_reach), IA E 21 t_pushes, ZA E 21 t_pushTold]) (ok_t_pushes : okA t_pushes) (ok_t_pushTold : okZ t_pushTold) (ok_v1 : inI v1) (ok_v2 : inI v2) {r : (Nat → Int) × (Nat → Int)} (hm : m_X3_tellPush t_pushes t_pushTold v1 v2 = some r) : Ct l E b0 M_X3_tellPush 0 0 [.ref a_t, vI v1, vI v2] h n (none) (ov [a_t, (a_t + 1), (a_t + 2)] [.inr (3, fsX3 a_t t_speckMany t_sourceMany t_baseTold t_baseLow t_baseHigh t_reach), IA E 21 r.1, ZA E 21 r.2] h) n (okA r.1 ∧ okZ r.2) := by
  rw [m_X3_tellPush] at hm
  have hg : G l E b0 M_X3_tellPush (fun _ => True) (ZM E b0 (none) (ov [a_t, (a_t + 1), (a_t + 2)] [.inr (3, fsX3 a_t t_speckMany t_sourceMany t_baseTold t_baseLow t_baseHigh t_reach), IA E 21 r.1, ZA E 21 r.2] h) n (okA r.1 ∧ okZ r.2) 0 0) 0 0 n (ov [a_t, (a_t + 1), (a_t + 2)] [.inr (3, fsX3 a_t t_speckMany t_sourceMany t_baseTold t_baseLow t_baseHigh t_reach), IA E 21 t_pushes, ZA E 21 t_pushTold] h) 0 [some (.ref a_t), some (vI v1), some (vI v2)] [] := by
    have hs := hm
    exact g_X3_tellPush_0 ao ok_t_pushes ok_t_pushTold ok_v1 ok_v2 hs
  rw [FA_id hf] at hg
  exact Ct_of [some (.ref a_t), some (vI v1), some (vI v2)] ⟨by decide +kernel, rfl⟩ rfl (Nat.le_of_ble_eq_true rfl) hg

/-! ===== X3_tellSpeck ===== -/
theorem e_X3_tellSpeck_0 : DC cX3_tellSpeck 0 (.iload_n 1) 1 1 := ⟨by decide +kernel, rfl⟩
theorem e_X3_tellSpeck_1 : DC cX3_tellSpeck 1 (.invokestatic 73) 3 4 := ⟨by decide +kernel, rfl⟩
theorem e_X3_tellSpeck_4 : DB cX3_tellSpeck 4 (.ifCond .eq 34) (34) 3 7 38 := ⟨by decide +kernel, rfl, rfl⟩
theorem e_X3_tellSpeck_7 : DC cX3_tellSpeck 7 (.aload_n 0) 1 8 := ⟨by decide +kernel, rfl⟩
theorem e_X3_tellSpeck_8 : DC cX3_tellSpeck 8 (.getfield 19) 3 11 := ⟨by decide +kernel, rfl⟩
theorem e_X3_tellSpeck_11 : DC cX3_tellSpeck 11 (.iload_n 1) 1 12 := ⟨by decide +kernel, rfl⟩
theorem e_X3_tellSpeck_12 : DC cX3_tellSpeck 12 (.iload_n 2) 1 13 := ⟨by decide +kernel, rfl⟩
theorem e_X3_tellSpeck_13 : DC cX3_tellSpeck 13 (.iastore) 1 14 := ⟨by decide +kernel, rfl⟩
theorem e_X3_tellSpeck_14 : DC cX3_tellSpeck 14 (.aload_n 0) 1 15 := ⟨by decide +kernel, rfl⟩
theorem e_X3_tellSpeck_15 : DC cX3_tellSpeck 15 (.getfield 22) 3 18 := ⟨by decide +kernel, rfl⟩
theorem e_X3_tellSpeck_18 : DC cX3_tellSpeck 18 (.iload_n 1) 1 19 := ⟨by decide +kernel, rfl⟩
theorem e_X3_tellSpeck_19 : DC cX3_tellSpeck 19 (.iload_n 3) 1 20 := ⟨by decide +kernel, rfl⟩
theorem e_X3_tellSpeck_20 : DC cX3_tellSpeck 20 (.iastore) 1 21 := ⟨by decide +kernel, rfl⟩
theorem e_X3_tellSpeck_21 : DC cX3_tellSpeck 21 (.aload_n 0) 1 22 := ⟨by decide +kernel, rfl⟩
theorem e_X3_tellSpeck_22 : DC cX3_tellSpeck 22 (.getfield 25) 3 25 := ⟨by decide +kernel, rfl⟩
theorem e_X3_tellSpeck_25 : DC cX3_tellSpeck 25 (.iload_n 1) 1 26 := ⟨by decide +kernel, rfl⟩
theorem e_X3_tellSpeck_26 : DC cX3_tellSpeck 26 (.iconst 1) 1 27 := ⟨by decide +kernel, rfl⟩
theorem e_X3_tellSpeck_27 : DC cX3_tellSpeck 27 (.bastore) 1 28 := ⟨by decide +kernel, rfl⟩
theorem e_X3_tellSpeck_28 : DC cX3_tellSpeck 28 (.aload_n 0) 1 29 := ⟨by decide +kernel, rfl⟩
theorem e_X3_tellSpeck_29 : DC cX3_tellSpeck 29 (.dup) 1 30 := ⟨by decide +kernel, rfl⟩
theorem e_X3_tellSpeck_30 : DC cX3_tellSpeck 30 (.getfield 43) 3 33 := ⟨by decide +kernel, rfl⟩
theorem e_X3_tellSpeck_33 : DC cX3_tellSpeck 33 (.iconst 1) 1 34 := ⟨by decide +kernel, rfl⟩
theorem e_X3_tellSpeck_34 : DC cX3_tellSpeck 34 (.iadd) 1 35 := ⟨by decide +kernel, rfl⟩
theorem e_X3_tellSpeck_35 : DC cX3_tellSpeck 35 (.putfield 43) 3 38 := ⟨by decide +kernel, rfl⟩
theorem e_X3_tellSpeck_38 : DC cX3_tellSpeck 38 (.return_) 1 39 := ⟨by decide +kernel, rfl⟩
noncomputable def m_X3_tellSpeck_0 (t_speckMany : Int) (t_lows : Nat → Int) (t_highs : Nat → Int) (t_speckTold : Nat → Int) (v1 : Int) (v2 : Int) (v3 : Int) : Option (Int × (Nat → Int) × (Nat → Int) × (Nat → Int)) :=
  (m_X10_isPlace v1).bind (fun y1 => if y1 = 0 then (some (t_speckMany, t_lows, t_highs, t_speckTold)) else (chk (inB v1 100) (chk (inB v1 100) (chk (inB v1 100) (chk (inI (t_speckMany + 1)) (some (t_speckMany + 1, up t_lows (Int.toNat v1) v2, up t_highs (Int.toNat v1) v3, up t_speckTold (Int.toNat v1) 1)))))))

set_option maxRecDepth 10000 in
theorem g_X3_tellSpeck_0 {l : Launch} {E : EE} {b0 n : Nat} {h : AH} {a_t : Nat} {t_speckMany t_sourceMany t_baseTold t_baseLow t_baseHigh t_reach v1 v2 v3 : Int} {t_lows t_highs t_speckTold : Nat → Int} {r : Int × (Nat → Int) × (Nat → Int) × (Nat → Int)} (ao : AO b0 n [a_t, (a_t + 3), (a_t + 4), (a_t + 5)]) (ok_t_speckMany : inI t_speckMany) (ok_t_lows : okA t_lows) (ok_t_highs : okA t_highs) (ok_t_speckTold : okZ t_speckTold) (ok_v1 : inI v1) (ok_v2 : inI v2) (ok_v3 : inI v3) (hs : m_X3_tellSpeck_0 t_speckMany t_lows t_highs t_speckTold v1 v2 v3 = some r) : G l E b0 M_X3_tellSpeck (fun _ => True) (ZM E b0 (none) (ov [a_t, (a_t + 3), (a_t + 4), (a_t + 5)] [.inr (3, fsX3 a_t r.1 t_sourceMany t_baseTold t_baseLow t_baseHigh t_reach), IA E 100 r.2.1, IA E 100 r.2.2.1, ZA E 100 r.2.2.2] h) n (inI r.1 ∧ okA r.2.1 ∧ okA r.2.2.1 ∧ okZ r.2.2.2) 0 0) 0 0 n (ov [a_t, (a_t + 3), (a_t + 4), (a_t + 5)] [.inr (3, fsX3 a_t t_speckMany t_sourceMany t_baseTold t_baseLow t_baseHigh t_reach), IA E 100 t_lows, IA E 100 t_highs, ZA E 100 t_speckTold] h) 0 [some (.ref a_t), some (vI v1), some (vI v2), some (vI v3)] [] := by
  rw [m_X3_tellSpeck_0] at hs
  refine g_iload_n e_X3_tellSpeck_0 rfl ?_
  obtain ⟨y1, hy1, hs⟩ := bind_elim hs
  refine g_callSr [vI v1] cs_X3_73 ⟨rfl, rfl, Nat.le_of_ble_eq_true rfl, Nat.le_of_ble_eq_true rfl⟩ (ct_X10_isPlace ⟨List.nodup_nil, fun i a h => by simp at h⟩ (fun i a e h => by simp at h) ok_v1 hy1) e_X3_tellSpeck_1 rfl rfl (Nat.le_of_ble_eq_true rfl) ⟨Nat.le_refl _, Nat.le_refl _⟩ (fun Py1 => ?_)
  refine g_if_eq e_X3_tellSpeck_4 (inZ_I Py1) hs (fun c4 hs => ?_) (fun c4 hs => ?_)
  · obtain rfl := Option.some.inj hs
    exact g_vret rfl ⟨ok_t_speckMany, ok_t_lows, ok_t_highs, ok_t_speckTold⟩ e_X3_tellSpeck_38
  · refine g_aload_n e_X3_tellSpeck_7 rfl ?_
    refine g_get 0 2 ao rfl rfl fsX3_g2 fl_X3_19 e_X3_tellSpeck_8 ?_
    refine g_iload_n e_X3_tellSpeck_11 rfl ?_
    refine g_iload_n e_X3_tellSpeck_12 rfl ?_
    refine g_iast 1 ao rfl rfl ls_1 (Nat.le_of_ble_eq_true rfl) e_X3_tellSpeck_13 hs (fun hi2 hs => ?_)
    refine g_aload_n e_X3_tellSpeck_14 rfl ?_
    refine g_get 0 3 ao rfl rfl fsX3_g3 fl_X3_22 e_X3_tellSpeck_15 ?_
    refine g_iload_n e_X3_tellSpeck_18 rfl ?_
    refine g_iload_n e_X3_tellSpeck_19 rfl ?_
    refine g_iast 2 ao rfl rfl ls_2 (Nat.le_of_ble_eq_true rfl) e_X3_tellSpeck_20 hs (fun hi3 hs => ?_)
    refine g_aload_n e_X3_tellSpeck_21 rfl ?_
    refine g_get 0 4 ao rfl rfl fsX3_g4 fl_X3_25 e_X3_tellSpeck_22 ?_
    refine g_iload_n e_X3_tellSpeck_25 rfl ?_
    refine g_iconst e_X3_tellSpeck_26 ?_
    refine g_zast 3 ao rfl rfl ls_3 (Nat.le_of_ble_eq_true rfl) (by decide : inZ 1) e_X3_tellSpeck_27 hs (fun hi4 hs => ?_)
    refine g_aload_n e_X3_tellSpeck_28 rfl ?_
    refine g_dup e_X3_tellSpeck_29 rfl ?_
    refine g_get 0 8 ao rfl rfl fsX3_g8 fl_X3_43 e_X3_tellSpeck_30 ?_
    refine g_iconst e_X3_tellSpeck_33 ?_
    refine g_iadd e_X3_tellSpeck_34 ?_
    obtain ⟨hc5, hs⟩ := chk_elim hs
    refine g_put 0 8 ao rfl rfl fsX3_k8 fsX3_s8 ls_0 fw_X3_43 (fun h => by cases h) ⟨rfl, rfl⟩ e_X3_tellSpeck_35 ?_
    obtain rfl := Option.some.inj hs
    exact g_vret rfl ⟨hc5, (okA_up ok_t_lows ok_v2), (okA_up ok_t_highs ok_v3), (okZ_up ok_t_speckTold (by decide : inZ 1))⟩ e_X3_tellSpeck_38

noncomputable def m_X3_tellSpeck (t_speckMany : Int) (t_lows : Nat → Int) (t_highs : Nat → Int) (t_speckTold : Nat → Int) (v1 : Int) (v2 : Int) (v3 : Int) : Option (Int × (Nat → Int) × (Nat → Int) × (Nat → Int)) := m_X3_tellSpeck_0 t_speckMany t_lows t_highs t_speckTold v1 v2 v3

set_option maxRecDepth 10000 in
theorem ct_X3_tellSpeck {l : Launch} {E : EE} {b0 n : Nat} {h : AH} {a_t : Nat} {t_speckMany t_sourceMany t_baseTold t_baseLow t_baseHigh t_reach : Int} {t_lows t_highs t_speckTold : Nat → Int} {v1 v2 v3 : Int} (ao : AO b0 n [a_t, (a_t + 3), (a_t + 4), (a_t + 5)]) (hf : FA h [a_t, (a_t + 3), (a_t + 4), (a_t + 5)] [.inr (3, fsX3 a_t t_speckMany t_sourceMany t_baseTold t_baseLow t_baseHigh t_reach), IA E 100 t_lows, IA E 100 t_highs, ZA E 100 t_speckTold]) (ok_t_speckMany : inI t_speckMany) (ok_t_lows : okA t_lows) (ok_t_highs : okA t_highs) (ok_t_speckTold : okZ t_speckTold) (ok_v1 : inI v1) (ok_v2 : inI v2) (ok_v3 : inI v3) {r : Int × (Nat → Int) × (Nat → Int) × (Nat → Int)} (hm : m_X3_tellSpeck t_speckMany t_lows t_highs t_speckTold v1 v2 v3 = some r) : Ct l E b0 M_X3_tellSpeck 0 0 [.ref a_t, vI v1, vI v2, vI v3] h n (none) (ov [a_t, (a_t + 3), (a_t + 4), (a_t + 5)] [.inr (3, fsX3 a_t r.1 t_sourceMany t_baseTold t_baseLow t_baseHigh t_reach), IA E 100 r.2.1, IA E 100 r.2.2.1, ZA E 100 r.2.2.2] h) n (inI r.1 ∧ okA r.2.1 ∧ okA r.2.2.1 ∧ okZ r.2.2.2) := by
  rw [m_X3_tellSpeck] at hm
  have hg : G l E b0 M_X3_tellSpeck (fun _ => True) (ZM E b0 (none) (ov [a_t, (a_t + 3), (a_t + 4), (a_t + 5)] [.inr (3, fsX3 a_t r.1 t_sourceMany t_baseTold t_baseLow t_baseHigh t_reach), IA E 100 r.2.1, IA E 100 r.2.2.1, ZA E 100 r.2.2.2] h) n (inI r.1 ∧ okA r.2.1 ∧ okA r.2.2.1 ∧ okZ r.2.2.2) 0 0) 0 0 n (ov [a_t, (a_t + 3), (a_t + 4), (a_t + 5)] [.inr (3, fsX3 a_t t_speckMany t_sourceMany t_baseTold t_baseLow t_baseHigh t_reach), IA E 100 t_lows, IA E 100 t_highs, ZA E 100 t_speckTold] h) 0 [some (.ref a_t), some (vI v1), some (vI v2), some (vI v3)] [] := by
    have hs := hm
    exact g_X3_tellSpeck_0 ao ok_t_speckMany ok_t_lows ok_t_highs ok_t_speckTold ok_v1 ok_v2 ok_v3 hs
  rw [FA_id hf] at hg
  exact Ct_of [some (.ref a_t), some (vI v1), some (vI v2), some (vI v3)] ⟨by decide +kernel, rfl⟩ rfl (Nat.le_of_ble_eq_true rfl) hg

/-! ===== X3_tellSource ===== -/
theorem e_X3_tellSource_0 : DC cX3_tellSource 0 (.iload_n 1) 1 1 := ⟨by decide +kernel, rfl⟩
theorem e_X3_tellSource_1 : DC cX3_tellSource 1 (.invokestatic 73) 3 4 := ⟨by decide +kernel, rfl⟩
theorem e_X3_tellSource_4 : DB cX3_tellSource 4 (.ifCond .eq 27) (27) 3 7 31 := ⟨by decide +kernel, rfl, rfl⟩
theorem e_X3_tellSource_7 : DC cX3_tellSource 7 (.aload_n 0) 1 8 := ⟨by decide +kernel, rfl⟩
theorem e_X3_tellSource_8 : DC cX3_tellSource 8 (.getfield 28) 3 11 := ⟨by decide +kernel, rfl⟩
theorem e_X3_tellSource_11 : DC cX3_tellSource 11 (.iload_n 1) 1 12 := ⟨by decide +kernel, rfl⟩
theorem e_X3_tellSource_12 : DC cX3_tellSource 12 (.iload_n 2) 1 13 := ⟨by decide +kernel, rfl⟩
theorem e_X3_tellSource_13 : DC cX3_tellSource 13 (.iastore) 1 14 := ⟨by decide +kernel, rfl⟩
theorem e_X3_tellSource_14 : DC cX3_tellSource 14 (.aload_n 0) 1 15 := ⟨by decide +kernel, rfl⟩
theorem e_X3_tellSource_15 : DC cX3_tellSource 15 (.getfield 31) 3 18 := ⟨by decide +kernel, rfl⟩
theorem e_X3_tellSource_18 : DC cX3_tellSource 18 (.iload_n 1) 1 19 := ⟨by decide +kernel, rfl⟩
theorem e_X3_tellSource_19 : DC cX3_tellSource 19 (.iconst 1) 1 20 := ⟨by decide +kernel, rfl⟩
theorem e_X3_tellSource_20 : DC cX3_tellSource 20 (.bastore) 1 21 := ⟨by decide +kernel, rfl⟩
theorem e_X3_tellSource_21 : DC cX3_tellSource 21 (.aload_n 0) 1 22 := ⟨by decide +kernel, rfl⟩
theorem e_X3_tellSource_22 : DC cX3_tellSource 22 (.dup) 1 23 := ⟨by decide +kernel, rfl⟩
theorem e_X3_tellSource_23 : DC cX3_tellSource 23 (.getfield 47) 3 26 := ⟨by decide +kernel, rfl⟩
theorem e_X3_tellSource_26 : DC cX3_tellSource 26 (.iconst 1) 1 27 := ⟨by decide +kernel, rfl⟩
theorem e_X3_tellSource_27 : DC cX3_tellSource 27 (.iadd) 1 28 := ⟨by decide +kernel, rfl⟩
theorem e_X3_tellSource_28 : DC cX3_tellSource 28 (.putfield 47) 3 31 := ⟨by decide +kernel, rfl⟩
theorem e_X3_tellSource_31 : DC cX3_tellSource 31 (.return_) 1 32 := ⟨by decide +kernel, rfl⟩
noncomputable def m_X3_tellSource_0 (t_sourceMany : Int) (t_sourceHolds : Nat → Int) (t_sourceTold : Nat → Int) (v1 : Int) (v2 : Int) : Option (Int × (Nat → Int) × (Nat → Int)) :=
  (m_X10_isPlace v1).bind (fun y1 => if y1 = 0 then (some (t_sourceMany, t_sourceHolds, t_sourceTold)) else (chk (inB v1 100) (chk (inB v1 100) (chk (inI (t_sourceMany + 1)) (some (t_sourceMany + 1, up t_sourceHolds (Int.toNat v1) v2, up t_sourceTold (Int.toNat v1) 1))))))

set_option maxRecDepth 10000 in
theorem g_X3_tellSource_0 {l : Launch} {E : EE} {b0 n : Nat} {h : AH} {a_t : Nat} {t_speckMany t_sourceMany t_baseTold t_baseLow t_baseHigh t_reach v1 v2 : Int} {t_sourceHolds t_sourceTold : Nat → Int} {r : Int × (Nat → Int) × (Nat → Int)} (ao : AO b0 n [a_t, (a_t + 6), (a_t + 7)]) (ok_t_sourceMany : inI t_sourceMany) (ok_t_sourceHolds : okA t_sourceHolds) (ok_t_sourceTold : okZ t_sourceTold) (ok_v1 : inI v1) (ok_v2 : inI v2) (hs : m_X3_tellSource_0 t_sourceMany t_sourceHolds t_sourceTold v1 v2 = some r) : G l E b0 M_X3_tellSource (fun _ => True) (ZM E b0 (none) (ov [a_t, (a_t + 6), (a_t + 7)] [.inr (3, fsX3 a_t t_speckMany r.1 t_baseTold t_baseLow t_baseHigh t_reach), IA E 100 r.2.1, ZA E 100 r.2.2] h) n (inI r.1 ∧ okA r.2.1 ∧ okZ r.2.2) 0 0) 0 0 n (ov [a_t, (a_t + 6), (a_t + 7)] [.inr (3, fsX3 a_t t_speckMany t_sourceMany t_baseTold t_baseLow t_baseHigh t_reach), IA E 100 t_sourceHolds, ZA E 100 t_sourceTold] h) 0 [some (.ref a_t), some (vI v1), some (vI v2)] [] := by
  rw [m_X3_tellSource_0] at hs
  refine g_iload_n e_X3_tellSource_0 rfl ?_
  obtain ⟨y1, hy1, hs⟩ := bind_elim hs
  refine g_callSr [vI v1] cs_X3_73 ⟨rfl, rfl, Nat.le_of_ble_eq_true rfl, Nat.le_of_ble_eq_true rfl⟩ (ct_X10_isPlace ⟨List.nodup_nil, fun i a h => by simp at h⟩ (fun i a e h => by simp at h) ok_v1 hy1) e_X3_tellSource_1 rfl rfl (Nat.le_of_ble_eq_true rfl) ⟨Nat.le_refl _, Nat.le_refl _⟩ (fun Py1 => ?_)
  refine g_if_eq e_X3_tellSource_4 (inZ_I Py1) hs (fun c4 hs => ?_) (fun c4 hs => ?_)
  · obtain rfl := Option.some.inj hs
    exact g_vret rfl ⟨ok_t_sourceMany, ok_t_sourceHolds, ok_t_sourceTold⟩ e_X3_tellSource_31
  · refine g_aload_n e_X3_tellSource_7 rfl ?_
    refine g_get 0 5 ao rfl rfl fsX3_g5 fl_X3_28 e_X3_tellSource_8 ?_
    refine g_iload_n e_X3_tellSource_11 rfl ?_
    refine g_iload_n e_X3_tellSource_12 rfl ?_
    refine g_iast 1 ao rfl rfl ls_1 (Nat.le_of_ble_eq_true rfl) e_X3_tellSource_13 hs (fun hi2 hs => ?_)
    refine g_aload_n e_X3_tellSource_14 rfl ?_
    refine g_get 0 6 ao rfl rfl fsX3_g6 fl_X3_31 e_X3_tellSource_15 ?_
    refine g_iload_n e_X3_tellSource_18 rfl ?_
    refine g_iconst e_X3_tellSource_19 ?_
    refine g_zast 2 ao rfl rfl ls_2 (Nat.le_of_ble_eq_true rfl) (by decide : inZ 1) e_X3_tellSource_20 hs (fun hi3 hs => ?_)
    refine g_aload_n e_X3_tellSource_21 rfl ?_
    refine g_dup e_X3_tellSource_22 rfl ?_
    refine g_get 0 9 ao rfl rfl fsX3_g9 fl_X3_47 e_X3_tellSource_23 ?_
    refine g_iconst e_X3_tellSource_26 ?_
    refine g_iadd e_X3_tellSource_27 ?_
    obtain ⟨hc4, hs⟩ := chk_elim hs
    refine g_put 0 9 ao rfl rfl fsX3_k9 fsX3_s9 ls_0 fw_X3_47 (fun h => by cases h) ⟨rfl, rfl⟩ e_X3_tellSource_28 ?_
    obtain rfl := Option.some.inj hs
    exact g_vret rfl ⟨hc4, (okA_up ok_t_sourceHolds ok_v2), (okZ_up ok_t_sourceTold (by decide : inZ 1))⟩ e_X3_tellSource_31

noncomputable def m_X3_tellSource (t_sourceMany : Int) (t_sourceHolds : Nat → Int) (t_sourceTold : Nat → Int) (v1 : Int) (v2 : Int) : Option (Int × (Nat → Int) × (Nat → Int)) := m_X3_tellSource_0 t_sourceMany t_sourceHolds t_sourceTold v1 v2

set_option maxRecDepth 10000 in
theorem ct_X3_tellSource {l : Launch} {E : EE} {b0 n : Nat} {h : AH} {a_t : Nat} {t_speckMany t_sourceMany t_baseTold t_baseLow t_baseHigh t_reach : Int} {t_sourceHolds t_sourceTold : Nat → Int} {v1 v2 : Int} (ao : AO b0 n [a_t, (a_t + 6), (a_t + 7)]) (hf : FA h [a_t, (a_t + 6), (a_t + 7)] [.inr (3, fsX3 a_t t_speckMany t_sourceMany t_baseTold t_baseLow t_baseHigh t_reach), IA E 100 t_sourceHolds, ZA E 100 t_sourceTold]) (ok_t_sourceMany : inI t_sourceMany) (ok_t_sourceHolds : okA t_sourceHolds) (ok_t_sourceTold : okZ t_sourceTold) (ok_v1 : inI v1) (ok_v2 : inI v2) {r : Int × (Nat → Int) × (Nat → Int)} (hm : m_X3_tellSource t_sourceMany t_sourceHolds t_sourceTold v1 v2 = some r) : Ct l E b0 M_X3_tellSource 0 0 [.ref a_t, vI v1, vI v2] h n (none) (ov [a_t, (a_t + 6), (a_t + 7)] [.inr (3, fsX3 a_t t_speckMany r.1 t_baseTold t_baseLow t_baseHigh t_reach), IA E 100 r.2.1, ZA E 100 r.2.2] h) n (inI r.1 ∧ okA r.2.1 ∧ okZ r.2.2) := by
  rw [m_X3_tellSource] at hm
  have hg : G l E b0 M_X3_tellSource (fun _ => True) (ZM E b0 (none) (ov [a_t, (a_t + 6), (a_t + 7)] [.inr (3, fsX3 a_t t_speckMany r.1 t_baseTold t_baseLow t_baseHigh t_reach), IA E 100 r.2.1, ZA E 100 r.2.2] h) n (inI r.1 ∧ okA r.2.1 ∧ okZ r.2.2) 0 0) 0 0 n (ov [a_t, (a_t + 6), (a_t + 7)] [.inr (3, fsX3 a_t t_speckMany t_sourceMany t_baseTold t_baseLow t_baseHigh t_reach), IA E 100 t_sourceHolds, ZA E 100 t_sourceTold] h) 0 [some (.ref a_t), some (vI v1), some (vI v2)] [] := by
    have hs := hm
    exact g_X3_tellSource_0 ao ok_t_sourceMany ok_t_sourceHolds ok_t_sourceTold ok_v1 ok_v2 hs
  rw [FA_id hf] at hg
  exact Ct_of [some (.ref a_t), some (vI v1), some (vI v2)] ⟨by decide +kernel, rfl⟩ rfl (Nat.le_of_ble_eq_true rfl) hg

/-! ===== X3_settle ===== -/
theorem e_X3_settle_0 : DC cX3_settle 0 (.iconst 0) 1 1 := ⟨by decide +kernel, rfl⟩
theorem e_X3_settle_1 : DC cX3_settle 1 (.istore_n 1) 1 2 := ⟨by decide +kernel, rfl⟩
theorem e_X3_settle_2 : DC cX3_settle 2 (.iconst 0) 1 3 := ⟨by decide +kernel, rfl⟩
theorem e_X3_settle_3 : DC cX3_settle 3 (.istore_n 2) 1 4 := ⟨by decide +kernel, rfl⟩
theorem e_X3_settle_4 : DC cX3_settle 4 (.iload_n 2) 1 5 := ⟨by decide +kernel, rfl⟩
theorem e_X3_settle_5 : DC cX3_settle 5 (.bipush 100) 2 7 := ⟨by decide +kernel, rfl⟩
theorem e_X3_settle_7 : DB cX3_settle 7 (.if_icmp .ge 62) (62) 3 10 69 := ⟨by decide +kernel, rfl, rfl⟩
theorem e_X3_settle_10 : DC cX3_settle 10 (.aload_n 0) 1 11 := ⟨by decide +kernel, rfl⟩
theorem e_X3_settle_11 : DC cX3_settle 11 (.getfield 25) 3 14 := ⟨by decide +kernel, rfl⟩
theorem e_X3_settle_14 : DC cX3_settle 14 (.iload_n 2) 1 15 := ⟨by decide +kernel, rfl⟩
theorem e_X3_settle_15 : DC cX3_settle 15 (.baload) 1 16 := ⟨by decide +kernel, rfl⟩
theorem e_X3_settle_16 : DB cX3_settle 16 (.ifCond .ne 23) (23) 3 19 39 := ⟨by decide +kernel, rfl, rfl⟩
theorem e_X3_settle_19 : DC cX3_settle 19 (.aload_n 0) 1 20 := ⟨by decide +kernel, rfl⟩
theorem e_X3_settle_20 : DC cX3_settle 20 (.getfield 19) 3 23 := ⟨by decide +kernel, rfl⟩
theorem e_X3_settle_23 : DC cX3_settle 23 (.iload_n 2) 1 24 := ⟨by decide +kernel, rfl⟩
theorem e_X3_settle_24 : DC cX3_settle 24 (.aload_n 0) 1 25 := ⟨by decide +kernel, rfl⟩
theorem e_X3_settle_25 : DC cX3_settle 25 (.getfield 54) 3 28 := ⟨by decide +kernel, rfl⟩
theorem e_X3_settle_28 : DC cX3_settle 28 (.iastore) 1 29 := ⟨by decide +kernel, rfl⟩
theorem e_X3_settle_29 : DC cX3_settle 29 (.aload_n 0) 1 30 := ⟨by decide +kernel, rfl⟩
theorem e_X3_settle_30 : DC cX3_settle 30 (.getfield 22) 3 33 := ⟨by decide +kernel, rfl⟩
theorem e_X3_settle_33 : DC cX3_settle 33 (.iload_n 2) 1 34 := ⟨by decide +kernel, rfl⟩
theorem e_X3_settle_34 : DC cX3_settle 34 (.aload_n 0) 1 35 := ⟨by decide +kernel, rfl⟩
theorem e_X3_settle_35 : DC cX3_settle 35 (.getfield 57) 3 38 := ⟨by decide +kernel, rfl⟩
theorem e_X3_settle_38 : DC cX3_settle 38 (.iastore) 1 39 := ⟨by decide +kernel, rfl⟩
theorem e_X3_settle_39 : DC cX3_settle 39 (.aload_n 0) 1 40 := ⟨by decide +kernel, rfl⟩
theorem e_X3_settle_40 : DC cX3_settle 40 (.getfield 31) 3 43 := ⟨by decide +kernel, rfl⟩
theorem e_X3_settle_43 : DC cX3_settle 43 (.iload_n 2) 1 44 := ⟨by decide +kernel, rfl⟩
theorem e_X3_settle_44 : DC cX3_settle 44 (.baload) 1 45 := ⟨by decide +kernel, rfl⟩
theorem e_X3_settle_45 : DB cX3_settle 45 (.ifCond .eq 18) (18) 3 48 63 := ⟨by decide +kernel, rfl, rfl⟩
theorem e_X3_settle_48 : DC cX3_settle 48 (.iload_n 1) 1 49 := ⟨by decide +kernel, rfl⟩
theorem e_X3_settle_49 : DC cX3_settle 49 (.iconst 5) 1 50 := ⟨by decide +kernel, rfl⟩
theorem e_X3_settle_50 : DB cX3_settle 50 (.if_icmp .ge 13) (13) 3 53 63 := ⟨by decide +kernel, rfl, rfl⟩
theorem e_X3_settle_53 : DC cX3_settle 53 (.aload_n 0) 1 54 := ⟨by decide +kernel, rfl⟩
theorem e_X3_settle_54 : DC cX3_settle 54 (.getfield 34) 3 57 := ⟨by decide +kernel, rfl⟩
theorem e_X3_settle_57 : DC cX3_settle 57 (.iload_n 1) 1 58 := ⟨by decide +kernel, rfl⟩
theorem e_X3_settle_58 : DC cX3_settle 58 (.iload_n 2) 1 59 := ⟨by decide +kernel, rfl⟩
theorem e_X3_settle_59 : DC cX3_settle 59 (.iastore) 1 60 := ⟨by decide +kernel, rfl⟩
theorem e_X3_settle_60 : DC cX3_settle 60 (.iinc 1 1) 3 63 := ⟨by decide +kernel, rfl⟩
theorem e_X3_settle_63 : DC cX3_settle 63 (.iinc 2 1) 3 66 := ⟨by decide +kernel, rfl⟩
theorem e_X3_settle_66 : DB cX3_settle 66 (.goto (-62)) (-62) 3 69 4 := ⟨by decide +kernel, rfl, rfl⟩
theorem e_X3_settle_69 : DC cX3_settle 69 (.aload_n 0) 1 70 := ⟨by decide +kernel, rfl⟩
theorem e_X3_settle_70 : DC cX3_settle 70 (.iload_n 1) 1 71 := ⟨by decide +kernel, rfl⟩
theorem e_X3_settle_71 : DC cX3_settle 71 (.putfield 47) 3 74 := ⟨by decide +kernel, rfl⟩
theorem e_X3_settle_74 : DC cX3_settle 74 (.aload_n 0) 1 75 := ⟨by decide +kernel, rfl⟩
theorem e_X3_settle_75 : DC cX3_settle 75 (.invokevirtual 76) 3 78 := ⟨by decide +kernel, rfl⟩
theorem e_X3_settle_78 : DC cX3_settle 78 (.return_) 1 79 := ⟨by decide +kernel, rfl⟩
noncomputable def m_X3_settle_63 (t_baseLow : Int) (t_baseHigh : Int) (t_lows : Nat → Int) (t_highs : Nat → Int) (t_speckTold : Nat → Int) (t_sourceTold : Nat → Int) (t_sources : Nat → Int) (v1 : Int) (v2 : Int) (ag : (Nat → Int) → (Nat → Int) → (Nat → Int) → Int → Int → Option (Int × Int × (Nat → Int) × (Nat → Int) × (Nat → Int))) (k_69 : (Nat → Int) → (Nat → Int) → (Nat → Int) → Int → Int → Option (Int × Int × (Nat → Int) × (Nat → Int) × (Nat → Int))) : Option (Int × Int × (Nat → Int) × (Nat → Int) × (Nat → Int)) :=
  chk (inI (v2 + 1)) (ag t_lows t_highs t_sources v1 (v2 + 1))

set_option maxRecDepth 10000 in
theorem g_X3_settle_63 {l : Launch} {E : EE} {b0 n : Nat} {h : AH} {a_t : Nat} {t_speckMany t_sourceMany t_baseTold t_baseLow t_baseHigh t_reach v1 v2 : Int} {t_pushes t_lows t_highs t_speckTold t_sourceTold t_sources : Nat → Int} {r : Int × Int × (Nat → Int) × (Nat → Int) × (Nat → Int)} {ag : (Nat → Int) → (Nat → Int) → (Nat → Int) → Int → Int → Option (Int × Int × (Nat → Int) × (Nat → Int) × (Nat → Int))} {k_69 : (Nat → Int) → (Nat → Int) → (Nat → Int) → Int → Int → Option (Int × Int × (Nat → Int) × (Nat → Int) × (Nat → Int))} (ao : AO b0 n [a_t, (a_t + 1), (a_t + 3), (a_t + 4), (a_t + 5), (a_t + 7), (a_t + 8)]) (ok_t_sourceMany : inI t_sourceMany) (ok_t_baseLow : inI t_baseLow) (ok_t_baseHigh : inI t_baseHigh) (ok_t_reach : inI t_reach) (ok_t_pushes : okA t_pushes) (ok_t_lows : okA t_lows) (ok_t_highs : okA t_highs) (ok_t_speckTold : okZ t_speckTold) (ok_t_sourceTold : okZ t_sourceTold) (ok_t_sources : okA t_sources) (ok_v1 : inI v1) (ok_v2 : inI v2) (hag : ∀ (t_lows_ : Nat → Int) (t_highs_ : Nat → Int) (t_sources_ : Nat → Int) (v1_ : Int) (v2_ : Int), okA t_lows_ → okA t_highs_ → okA t_sources_ → inI v1_ → inI v2_ → ag t_lows_ t_highs_ t_sources_ v1_ v2_ = some r → G l E b0 M_X3_settle (fun _ => True) (ZM E b0 (none) (ov [a_t, (a_t + 1), (a_t + 3), (a_t + 4), (a_t + 5), (a_t + 7), (a_t + 8)] [.inr (3, fsX3 a_t t_speckMany r.1 t_baseTold t_baseLow t_baseHigh r.2.1), IA E 21 t_pushes, IA E 100 r.2.2.1, IA E 100 r.2.2.2.1, ZA E 100 t_speckTold, ZA E 100 t_sourceTold, IA E 5 r.2.2.2.2] h) n (inI r.1 ∧ inI r.2.1 ∧ okA r.2.2.1 ∧ okA r.2.2.2.1 ∧ okA r.2.2.2.2) 0 0) 0 0 n (ov [a_t, (a_t + 1), (a_t + 3), (a_t + 4), (a_t + 5), (a_t + 7), (a_t + 8)] [.inr (3, fsX3 a_t t_speckMany t_sourceMany t_baseTold t_baseLow t_baseHigh t_reach), IA E 21 t_pushes, IA E 100 t_lows_, IA E 100 t_highs_, ZA E 100 t_speckTold, ZA E 100 t_sourceTold, IA E 5 t_sources_] h) 4 [some (.ref a_t), some (vI v1_), some (vI v2_)] []) (hk_69 : ∀ (t_lows_ : Nat → Int) (t_highs_ : Nat → Int) (t_sources_ : Nat → Int) (v1_ : Int) (v2_ : Int), okA t_lows_ → okA t_highs_ → okA t_sources_ → inI v1_ → inI v2_ → k_69 t_lows_ t_highs_ t_sources_ v1_ v2_ = some r → G l E b0 M_X3_settle (fun _ => True) (ZM E b0 (none) (ov [a_t, (a_t + 1), (a_t + 3), (a_t + 4), (a_t + 5), (a_t + 7), (a_t + 8)] [.inr (3, fsX3 a_t t_speckMany r.1 t_baseTold t_baseLow t_baseHigh r.2.1), IA E 21 t_pushes, IA E 100 r.2.2.1, IA E 100 r.2.2.2.1, ZA E 100 t_speckTold, ZA E 100 t_sourceTold, IA E 5 r.2.2.2.2] h) n (inI r.1 ∧ inI r.2.1 ∧ okA r.2.2.1 ∧ okA r.2.2.2.1 ∧ okA r.2.2.2.2) 0 0) 0 0 n (ov [a_t, (a_t + 1), (a_t + 3), (a_t + 4), (a_t + 5), (a_t + 7), (a_t + 8)] [.inr (3, fsX3 a_t t_speckMany t_sourceMany t_baseTold t_baseLow t_baseHigh t_reach), IA E 21 t_pushes, IA E 100 t_lows_, IA E 100 t_highs_, ZA E 100 t_speckTold, ZA E 100 t_sourceTold, IA E 5 t_sources_] h) 69 [some (.ref a_t), some (vI v1_), none] []) (hs : m_X3_settle_63 t_baseLow t_baseHigh t_lows t_highs t_speckTold t_sourceTold t_sources v1 v2 ag k_69 = some r) : G l E b0 M_X3_settle (fun _ => True) (ZM E b0 (none) (ov [a_t, (a_t + 1), (a_t + 3), (a_t + 4), (a_t + 5), (a_t + 7), (a_t + 8)] [.inr (3, fsX3 a_t t_speckMany r.1 t_baseTold t_baseLow t_baseHigh r.2.1), IA E 21 t_pushes, IA E 100 r.2.2.1, IA E 100 r.2.2.2.1, ZA E 100 t_speckTold, ZA E 100 t_sourceTold, IA E 5 r.2.2.2.2] h) n (inI r.1 ∧ inI r.2.1 ∧ okA r.2.2.1 ∧ okA r.2.2.2.1 ∧ okA r.2.2.2.2) 0 0) 0 0 n (ov [a_t, (a_t + 1), (a_t + 3), (a_t + 4), (a_t + 5), (a_t + 7), (a_t + 8)] [.inr (3, fsX3 a_t t_speckMany t_sourceMany t_baseTold t_baseLow t_baseHigh t_reach), IA E 21 t_pushes, IA E 100 t_lows, IA E 100 t_highs, ZA E 100 t_speckTold, ZA E 100 t_sourceTold, IA E 5 t_sources] h) 63 [some (.ref a_t), some (vI v1), some (vI v2)] [] := by
  rw [m_X3_settle_63] at hs
  refine g_iinc e_X3_settle_63 rfl st1_2 rfl ?_
  refine g_goto e_X3_settle_66 ?_
  obtain ⟨hc5, hs⟩ := chk_elim hs
  exact hag _ _ _ _ _ ok_t_lows ok_t_highs ok_t_sources ok_v1 hc5 hs

noncomputable def m_X3_settle_39 (t_baseLow : Int) (t_baseHigh : Int) (t_lows : Nat → Int) (t_highs : Nat → Int) (t_speckTold : Nat → Int) (t_sourceTold : Nat → Int) (t_sources : Nat → Int) (v1 : Int) (v2 : Int) (ag : (Nat → Int) → (Nat → Int) → (Nat → Int) → Int → Int → Option (Int × Int × (Nat → Int) × (Nat → Int) × (Nat → Int))) (k_69 : (Nat → Int) → (Nat → Int) → (Nat → Int) → Int → Int → Option (Int × Int × (Nat → Int) × (Nat → Int) × (Nat → Int))) : Option (Int × Int × (Nat → Int) × (Nat → Int) × (Nat → Int)) :=
  chk (inB v2 100) (if (t_sourceTold (Int.toNat v2)) = 0 then (m_X3_settle_63 t_baseLow t_baseHigh t_lows t_highs t_speckTold t_sourceTold t_sources v1 v2 ag k_69) else (if 5 ≤ v1 then (m_X3_settle_63 t_baseLow t_baseHigh t_lows t_highs t_speckTold t_sourceTold t_sources v1 v2 ag k_69) else (chk (inB v1 5) (chk (inI (v1 + 1)) (m_X3_settle_63 t_baseLow t_baseHigh t_lows t_highs t_speckTold t_sourceTold (up t_sources (Int.toNat v1) v2) (v1 + 1) v2 ag k_69)))))

set_option maxRecDepth 10000 in
theorem g_X3_settle_39 {l : Launch} {E : EE} {b0 n : Nat} {h : AH} {a_t : Nat} {t_speckMany t_sourceMany t_baseTold t_baseLow t_baseHigh t_reach v1 v2 : Int} {t_pushes t_lows t_highs t_speckTold t_sourceTold t_sources : Nat → Int} {r : Int × Int × (Nat → Int) × (Nat → Int) × (Nat → Int)} {ag : (Nat → Int) → (Nat → Int) → (Nat → Int) → Int → Int → Option (Int × Int × (Nat → Int) × (Nat → Int) × (Nat → Int))} {k_69 : (Nat → Int) → (Nat → Int) → (Nat → Int) → Int → Int → Option (Int × Int × (Nat → Int) × (Nat → Int) × (Nat → Int))} (ao : AO b0 n [a_t, (a_t + 1), (a_t + 3), (a_t + 4), (a_t + 5), (a_t + 7), (a_t + 8)]) (ok_t_sourceMany : inI t_sourceMany) (ok_t_baseLow : inI t_baseLow) (ok_t_baseHigh : inI t_baseHigh) (ok_t_reach : inI t_reach) (ok_t_pushes : okA t_pushes) (ok_t_lows : okA t_lows) (ok_t_highs : okA t_highs) (ok_t_speckTold : okZ t_speckTold) (ok_t_sourceTold : okZ t_sourceTold) (ok_t_sources : okA t_sources) (ok_v1 : inI v1) (ok_v2 : inI v2) (hag : ∀ (t_lows_ : Nat → Int) (t_highs_ : Nat → Int) (t_sources_ : Nat → Int) (v1_ : Int) (v2_ : Int), okA t_lows_ → okA t_highs_ → okA t_sources_ → inI v1_ → inI v2_ → ag t_lows_ t_highs_ t_sources_ v1_ v2_ = some r → G l E b0 M_X3_settle (fun _ => True) (ZM E b0 (none) (ov [a_t, (a_t + 1), (a_t + 3), (a_t + 4), (a_t + 5), (a_t + 7), (a_t + 8)] [.inr (3, fsX3 a_t t_speckMany r.1 t_baseTold t_baseLow t_baseHigh r.2.1), IA E 21 t_pushes, IA E 100 r.2.2.1, IA E 100 r.2.2.2.1, ZA E 100 t_speckTold, ZA E 100 t_sourceTold, IA E 5 r.2.2.2.2] h) n (inI r.1 ∧ inI r.2.1 ∧ okA r.2.2.1 ∧ okA r.2.2.2.1 ∧ okA r.2.2.2.2) 0 0) 0 0 n (ov [a_t, (a_t + 1), (a_t + 3), (a_t + 4), (a_t + 5), (a_t + 7), (a_t + 8)] [.inr (3, fsX3 a_t t_speckMany t_sourceMany t_baseTold t_baseLow t_baseHigh t_reach), IA E 21 t_pushes, IA E 100 t_lows_, IA E 100 t_highs_, ZA E 100 t_speckTold, ZA E 100 t_sourceTold, IA E 5 t_sources_] h) 4 [some (.ref a_t), some (vI v1_), some (vI v2_)] []) (hk_69 : ∀ (t_lows_ : Nat → Int) (t_highs_ : Nat → Int) (t_sources_ : Nat → Int) (v1_ : Int) (v2_ : Int), okA t_lows_ → okA t_highs_ → okA t_sources_ → inI v1_ → inI v2_ → k_69 t_lows_ t_highs_ t_sources_ v1_ v2_ = some r → G l E b0 M_X3_settle (fun _ => True) (ZM E b0 (none) (ov [a_t, (a_t + 1), (a_t + 3), (a_t + 4), (a_t + 5), (a_t + 7), (a_t + 8)] [.inr (3, fsX3 a_t t_speckMany r.1 t_baseTold t_baseLow t_baseHigh r.2.1), IA E 21 t_pushes, IA E 100 r.2.2.1, IA E 100 r.2.2.2.1, ZA E 100 t_speckTold, ZA E 100 t_sourceTold, IA E 5 r.2.2.2.2] h) n (inI r.1 ∧ inI r.2.1 ∧ okA r.2.2.1 ∧ okA r.2.2.2.1 ∧ okA r.2.2.2.2) 0 0) 0 0 n (ov [a_t, (a_t + 1), (a_t + 3), (a_t + 4), (a_t + 5), (a_t + 7), (a_t + 8)] [.inr (3, fsX3 a_t t_speckMany t_sourceMany t_baseTold t_baseLow t_baseHigh t_reach), IA E 21 t_pushes, IA E 100 t_lows_, IA E 100 t_highs_, ZA E 100 t_speckTold, ZA E 100 t_sourceTold, IA E 5 t_sources_] h) 69 [some (.ref a_t), some (vI v1_), none] []) (hs : m_X3_settle_39 t_baseLow t_baseHigh t_lows t_highs t_speckTold t_sourceTold t_sources v1 v2 ag k_69 = some r) : G l E b0 M_X3_settle (fun _ => True) (ZM E b0 (none) (ov [a_t, (a_t + 1), (a_t + 3), (a_t + 4), (a_t + 5), (a_t + 7), (a_t + 8)] [.inr (3, fsX3 a_t t_speckMany r.1 t_baseTold t_baseLow t_baseHigh r.2.1), IA E 21 t_pushes, IA E 100 r.2.2.1, IA E 100 r.2.2.2.1, ZA E 100 t_speckTold, ZA E 100 t_sourceTold, IA E 5 r.2.2.2.2] h) n (inI r.1 ∧ inI r.2.1 ∧ okA r.2.2.1 ∧ okA r.2.2.2.1 ∧ okA r.2.2.2.2) 0 0) 0 0 n (ov [a_t, (a_t + 1), (a_t + 3), (a_t + 4), (a_t + 5), (a_t + 7), (a_t + 8)] [.inr (3, fsX3 a_t t_speckMany t_sourceMany t_baseTold t_baseLow t_baseHigh t_reach), IA E 21 t_pushes, IA E 100 t_lows, IA E 100 t_highs, ZA E 100 t_speckTold, ZA E 100 t_sourceTold, IA E 5 t_sources] h) 39 [some (.ref a_t), some (vI v1), some (vI v2)] [] := by
  rw [m_X3_settle_39] at hs
  refine g_aload_n e_X3_settle_39 rfl ?_
  refine g_get 0 6 ao rfl rfl fsX3_g6 fl_X3_31 e_X3_settle_40 ?_
  refine g_iload_n e_X3_settle_43 rfl ?_
  refine g_zald 5 ao rfl rfl (Nat.le_of_ble_eq_true rfl) e_X3_settle_44 hs (fun hi4 hs => ?_)
  refine g_if_eq e_X3_settle_45 (inZ_I (ok_t_sourceTold _)) hs (fun c45 hs => ?_) (fun c45 hs => ?_)
  · exact g_X3_settle_63 ao ok_t_sourceMany ok_t_baseLow ok_t_baseHigh ok_t_reach ok_t_pushes ok_t_lows ok_t_highs ok_t_speckTold ok_t_sourceTold ok_t_sources ok_v1 ok_v2 hag hk_69 hs
  · refine g_iload_n e_X3_settle_48 rfl ?_
    refine g_iconst e_X3_settle_49 ?_
    refine g_icmp_ge e_X3_settle_50 ok_v1 (by decide : inI 5) hs (fun c50 hs => ?_) (fun c50 hs => ?_)
    · exact g_X3_settle_63 ao ok_t_sourceMany ok_t_baseLow ok_t_baseHigh ok_t_reach ok_t_pushes ok_t_lows ok_t_highs ok_t_speckTold ok_t_sourceTold ok_t_sources ok_v1 ok_v2 hag hk_69 hs
    · refine g_aload_n e_X3_settle_53 rfl ?_
      refine g_get 0 7 ao rfl rfl fsX3_g7 fl_X3_34 e_X3_settle_54 ?_
      refine g_iload_n e_X3_settle_57 rfl ?_
      refine g_iload_n e_X3_settle_58 rfl ?_
      refine g_iast 6 ao rfl rfl ls_6 (Nat.le_of_ble_eq_true rfl) e_X3_settle_59 hs (fun hi6 hs => ?_)
      refine g_iinc e_X3_settle_60 rfl st1_1 rfl ?_
      obtain ⟨hc7, hs⟩ := chk_elim hs
      exact g_X3_settle_63 ao ok_t_sourceMany ok_t_baseLow ok_t_baseHigh ok_t_reach ok_t_pushes ok_t_lows ok_t_highs ok_t_speckTold ok_t_sourceTold (okA_up ok_t_sources ok_v2) hc7 ok_v2 hag hk_69 hs

noncomputable def m_X3_settle_4 (t_baseLow : Int) (t_baseHigh : Int) (t_speckTold : Nat → Int) (t_sourceTold : Nat → Int) (k_69 : (Nat → Int) → (Nat → Int) → (Nat → Int) → Int → Int → Option (Int × Int × (Nat → Int) × (Nat → Int) × (Nat → Int))) : Nat → (Nat → Int) → (Nat → Int) → (Nat → Int) → Int → Int → Option (Int × Int × (Nat → Int) × (Nat → Int) × (Nat → Int))
  | 0, _, _, _, _, _ => none
  | F + 1, t_lows, t_highs, t_sources, v1, v2 => if 100 ≤ v2 then (k_69 t_lows t_highs t_sources v1 v2) else (chk (inB v2 100) (if (t_speckTold (Int.toNat v2)) = 0 then (chk (inB v2 100) (chk (inB v2 100) (m_X3_settle_39 t_baseLow t_baseHigh (up t_lows (Int.toNat v2) t_baseLow) (up t_highs (Int.toNat v2) t_baseHigh) t_speckTold t_sourceTold t_sources v1 v2 (m_X3_settle_4 t_baseLow t_baseHigh t_speckTold t_sourceTold k_69 F) k_69))) else (m_X3_settle_39 t_baseLow t_baseHigh t_lows t_highs t_speckTold t_sourceTold t_sources v1 v2 (m_X3_settle_4 t_baseLow t_baseHigh t_speckTold t_sourceTold k_69 F) k_69)))

set_option maxRecDepth 10000 in
theorem g_X3_settle_4 {l : Launch} {E : EE} {b0 n : Nat} {h : AH} {a_t : Nat} {t_speckMany t_sourceMany t_baseTold t_baseLow t_baseHigh t_reach : Int} {t_pushes t_speckTold t_sourceTold : Nat → Int} {r : Int × Int × (Nat → Int) × (Nat → Int) × (Nat → Int)} {k_69 : (Nat → Int) → (Nat → Int) → (Nat → Int) → Int → Int → Option (Int × Int × (Nat → Int) × (Nat → Int) × (Nat → Int))} (ao : AO b0 n [a_t, (a_t + 1), (a_t + 3), (a_t + 4), (a_t + 5), (a_t + 7), (a_t + 8)]) (ok_t_sourceMany : inI t_sourceMany) (ok_t_baseLow : inI t_baseLow) (ok_t_baseHigh : inI t_baseHigh) (ok_t_reach : inI t_reach) (ok_t_pushes : okA t_pushes) (ok_t_speckTold : okZ t_speckTold) (ok_t_sourceTold : okZ t_sourceTold) (hk_69 : ∀ (t_lows_ : Nat → Int) (t_highs_ : Nat → Int) (t_sources_ : Nat → Int) (v1_ : Int) (v2_ : Int), okA t_lows_ → okA t_highs_ → okA t_sources_ → inI v1_ → inI v2_ → k_69 t_lows_ t_highs_ t_sources_ v1_ v2_ = some r → G l E b0 M_X3_settle (fun _ => True) (ZM E b0 (none) (ov [a_t, (a_t + 1), (a_t + 3), (a_t + 4), (a_t + 5), (a_t + 7), (a_t + 8)] [.inr (3, fsX3 a_t t_speckMany r.1 t_baseTold t_baseLow t_baseHigh r.2.1), IA E 21 t_pushes, IA E 100 r.2.2.1, IA E 100 r.2.2.2.1, ZA E 100 t_speckTold, ZA E 100 t_sourceTold, IA E 5 r.2.2.2.2] h) n (inI r.1 ∧ inI r.2.1 ∧ okA r.2.2.1 ∧ okA r.2.2.2.1 ∧ okA r.2.2.2.2) 0 0) 0 0 n (ov [a_t, (a_t + 1), (a_t + 3), (a_t + 4), (a_t + 5), (a_t + 7), (a_t + 8)] [.inr (3, fsX3 a_t t_speckMany t_sourceMany t_baseTold t_baseLow t_baseHigh t_reach), IA E 21 t_pushes, IA E 100 t_lows_, IA E 100 t_highs_, ZA E 100 t_speckTold, ZA E 100 t_sourceTold, IA E 5 t_sources_] h) 69 [some (.ref a_t), some (vI v1_), none] []) :
    ∀ (F : Nat) (t_lows : Nat → Int) (t_highs : Nat → Int) (t_sources : Nat → Int) (v1 : Int) (v2 : Int), okA t_lows → okA t_highs → okA t_sources → inI v1 → inI v2 → m_X3_settle_4 t_baseLow t_baseHigh t_speckTold t_sourceTold k_69 F t_lows t_highs t_sources v1 v2 = some r → G l E b0 M_X3_settle (fun _ => True) (ZM E b0 (none) (ov [a_t, (a_t + 1), (a_t + 3), (a_t + 4), (a_t + 5), (a_t + 7), (a_t + 8)] [.inr (3, fsX3 a_t t_speckMany r.1 t_baseTold t_baseLow t_baseHigh r.2.1), IA E 21 t_pushes, IA E 100 r.2.2.1, IA E 100 r.2.2.2.1, ZA E 100 t_speckTold, ZA E 100 t_sourceTold, IA E 5 r.2.2.2.2] h) n (inI r.1 ∧ inI r.2.1 ∧ okA r.2.2.1 ∧ okA r.2.2.2.1 ∧ okA r.2.2.2.2) 0 0) 0 0 n (ov [a_t, (a_t + 1), (a_t + 3), (a_t + 4), (a_t + 5), (a_t + 7), (a_t + 8)] [.inr (3, fsX3 a_t t_speckMany t_sourceMany t_baseTold t_baseLow t_baseHigh t_reach), IA E 21 t_pushes, IA E 100 t_lows, IA E 100 t_highs, ZA E 100 t_speckTold, ZA E 100 t_sourceTold, IA E 5 t_sources] h) 4 [some (.ref a_t), some (vI v1), some (vI v2)] [] := by
  intro F
  induction F with
  | zero =>
    intro t_lows t_highs t_sources v1 v2 ok_t_lows ok_t_highs ok_t_sources ok_v1 ok_v2 hs
    rw [m_X3_settle_4] at hs
    cases hs
  | succ F ih =>
    intro t_lows t_highs t_sources v1 v2 ok_t_lows ok_t_highs ok_t_sources ok_v1 ok_v2 hs
    rw [m_X3_settle_4] at hs
    refine g_iload_n e_X3_settle_4 rfl ?_
    refine g_bipush e_X3_settle_5 bp_100 ?_
    refine g_icmp_ge e_X3_settle_7 ok_v2 (by decide : inI 100) hs (fun c7 hs => ?_) (fun c7 hs => ?_)
    · exact g_mask [true, true, false] (hk_69 _ _ _ _ _ ok_t_lows ok_t_highs ok_t_sources ok_v1 ok_v2 hs)
    · refine g_aload_n e_X3_settle_10 rfl ?_
      refine g_get 0 4 ao rfl rfl fsX3_g4 fl_X3_25 e_X3_settle_11 ?_
      refine g_iload_n e_X3_settle_14 rfl ?_
      refine g_zald 4 ao rfl rfl (Nat.le_of_ble_eq_true rfl) e_X3_settle_15 hs (fun hi1 hs => ?_)
      refine g_if_ne e_X3_settle_16 (inZ_I (ok_t_speckTold _)) hs (fun c16 hs => ?_) (fun c16 hs => ?_)
      · refine g_aload_n e_X3_settle_19 rfl ?_
        refine g_get 0 2 ao rfl rfl fsX3_g2 fl_X3_19 e_X3_settle_20 ?_
        refine g_iload_n e_X3_settle_23 rfl ?_
        refine g_aload_n e_X3_settle_24 rfl ?_
        refine g_get 0 11 ao rfl rfl fsX3_g11 fl_X3_54 e_X3_settle_25 ?_
        refine g_iast 2 ao rfl rfl ls_2 (Nat.le_of_ble_eq_true rfl) e_X3_settle_28 hs (fun hi2 hs => ?_)
        refine g_aload_n e_X3_settle_29 rfl ?_
        refine g_get 0 3 ao rfl rfl fsX3_g3 fl_X3_22 e_X3_settle_30 ?_
        refine g_iload_n e_X3_settle_33 rfl ?_
        refine g_aload_n e_X3_settle_34 rfl ?_
        refine g_get 0 12 ao rfl rfl fsX3_g12 fl_X3_57 e_X3_settle_35 ?_
        refine g_iast 3 ao rfl rfl ls_3 (Nat.le_of_ble_eq_true rfl) e_X3_settle_38 hs (fun hi3 hs => ?_)
        exact g_X3_settle_39 ao ok_t_sourceMany ok_t_baseLow ok_t_baseHigh ok_t_reach ok_t_pushes (okA_up ok_t_lows ok_t_baseLow) (okA_up ok_t_highs ok_t_baseHigh) ok_t_speckTold ok_t_sourceTold ok_t_sources ok_v1 ok_v2 ih hk_69 hs
      · exact g_X3_settle_39 ao ok_t_sourceMany ok_t_baseLow ok_t_baseHigh ok_t_reach ok_t_pushes ok_t_lows ok_t_highs ok_t_speckTold ok_t_sourceTold ok_t_sources ok_v1 ok_v2 ih hk_69 hs

noncomputable def m_X3_settle_69 (t_sourceMany : Int) (t_reach : Int) (t_pushes : Nat → Int) (t_lows : Nat → Int) (t_highs : Nat → Int) (t_sources : Nat → Int) (v1 : Int) : Option (Int × Int × (Nat → Int) × (Nat → Int) × (Nat → Int)) :=
  (m_X3_findReach t_reach t_pushes).bind (fun y8 => some (v1, y8, t_lows, t_highs, t_sources))

set_option maxRecDepth 10000 in
theorem g_X3_settle_69 {l : Launch} {E : EE} {b0 n : Nat} {h : AH} {a_t : Nat} {t_speckMany t_sourceMany t_baseTold t_baseLow t_baseHigh t_reach v1 : Int} {t_pushes t_lows t_highs t_speckTold t_sourceTold t_sources : Nat → Int} {r : Int × Int × (Nat → Int) × (Nat → Int) × (Nat → Int)} (ao : AO b0 n [a_t, (a_t + 1), (a_t + 3), (a_t + 4), (a_t + 5), (a_t + 7), (a_t + 8)]) (ok_t_sourceMany : inI t_sourceMany) (ok_t_baseLow : inI t_baseLow) (ok_t_baseHigh : inI t_baseHigh) (ok_t_reach : inI t_reach) (ok_t_pushes : okA t_pushes) (ok_t_lows : okA t_lows) (ok_t_highs : okA t_highs) (ok_t_speckTold : okZ t_speckTold) (ok_t_sourceTold : okZ t_sourceTold) (ok_t_sources : okA t_sources) (ok_v1 : inI v1) (hs : m_X3_settle_69 t_sourceMany t_reach t_pushes t_lows t_highs t_sources v1 = some r) : G l E b0 M_X3_settle (fun _ => True) (ZM E b0 (none) (ov [a_t, (a_t + 1), (a_t + 3), (a_t + 4), (a_t + 5), (a_t + 7), (a_t + 8)] [.inr (3, fsX3 a_t t_speckMany r.1 t_baseTold t_baseLow t_baseHigh r.2.1), IA E 21 t_pushes, IA E 100 r.2.2.1, IA E 100 r.2.2.2.1, ZA E 100 t_speckTold, ZA E 100 t_sourceTold, IA E 5 r.2.2.2.2] h) n (inI r.1 ∧ inI r.2.1 ∧ okA r.2.2.1 ∧ okA r.2.2.2.1 ∧ okA r.2.2.2.2) 0 0) 0 0 n (ov [a_t, (a_t + 1), (a_t + 3), (a_t + 4), (a_t + 5), (a_t + 7), (a_t + 8)] [.inr (3, fsX3 a_t t_speckMany t_sourceMany t_baseTold t_baseLow t_baseHigh t_reach), IA E 21 t_pushes, IA E 100 t_lows, IA E 100 t_highs, ZA E 100 t_speckTold, ZA E 100 t_sourceTold, IA E 5 t_sources] h) 69 [some (.ref a_t), some (vI v1), none] [] := by
  rw [m_X3_settle_69] at hs
  refine g_aload_n e_X3_settle_69 rfl ?_
  refine g_iload_n e_X3_settle_70 rfl ?_
  refine g_put 0 9 ao rfl rfl fsX3_k9 fsX3_s9 ls_0 fw_X3_47 (fun h => by cases h) ⟨rfl, rfl⟩ e_X3_settle_71 ?_
  refine g_aload_n e_X3_settle_74 rfl ?_
  obtain ⟨y8, hy8, hs⟩ := bind_elim hs
  refine g_callVv [] cv_X3_76 ⟨rfl, rfl, Nat.le_of_ble_eq_true rfl, Nat.le_of_ble_eq_true rfl⟩ (Ct_heap (ct_X3_findReach (AO_call [0, 1] ao (by decide) rfl) (FA_call [0, 1] ao.1 rfl rfl) ok_t_reach ok_t_pushes hy8) (ov_call (esn := [.inr (3, fsX3 a_t t_speckMany v1 t_baseTold t_baseLow t_baseHigh y8), IA E 21 t_pushes, IA E 100 t_lows, IA E 100 t_highs, ZA E 100 t_speckTold, ZA E 100 t_sourceTold, IA E 5 t_sources]) [0, 1] ao.1 rfl rfl rfl rfl)) e_X3_settle_75 (ao.2 0 _ rfl) (ov_get 0 ao.1 rfl rfl) rfl rfl rfl (Nat.le_of_ble_eq_true rfl) ⟨Nat.le_refl _, Nat.le_refl _⟩ (fun Py8 => ?_)
  obtain rfl := Option.some.inj hs
  exact g_vret rfl ⟨ok_v1, Py8, ok_t_lows, ok_t_highs, ok_t_sources⟩ e_X3_settle_78

noncomputable def m_X3_settle_0 (t_sourceMany : Int) (t_baseLow : Int) (t_baseHigh : Int) (t_reach : Int) (t_pushes : Nat → Int) (t_lows : Nat → Int) (t_highs : Nat → Int) (t_speckTold : Nat → Int) (t_sourceTold : Nat → Int) (t_sources : Nat → Int) : Option (Int × Int × (Nat → Int) × (Nat → Int) × (Nat → Int)) :=
  m_X3_settle_4 t_baseLow t_baseHigh t_speckTold t_sourceTold (fun t_lows' t_highs' t_sources' v1' v2' => m_X3_settle_69 t_sourceMany t_reach t_pushes t_lows' t_highs' t_sources' v1') FU t_lows t_highs t_sources 0 0

set_option maxRecDepth 10000 in
theorem g_X3_settle_0 {l : Launch} {E : EE} {b0 n : Nat} {h : AH} {a_t : Nat} {t_speckMany t_sourceMany t_baseTold t_baseLow t_baseHigh t_reach : Int} {t_pushes t_lows t_highs t_speckTold t_sourceTold t_sources : Nat → Int} {r : Int × Int × (Nat → Int) × (Nat → Int) × (Nat → Int)} (ao : AO b0 n [a_t, (a_t + 1), (a_t + 3), (a_t + 4), (a_t + 5), (a_t + 7), (a_t + 8)]) (ok_t_sourceMany : inI t_sourceMany) (ok_t_baseLow : inI t_baseLow) (ok_t_baseHigh : inI t_baseHigh) (ok_t_reach : inI t_reach) (ok_t_pushes : okA t_pushes) (ok_t_lows : okA t_lows) (ok_t_highs : okA t_highs) (ok_t_speckTold : okZ t_speckTold) (ok_t_sourceTold : okZ t_sourceTold) (ok_t_sources : okA t_sources) (hs : m_X3_settle_0 t_sourceMany t_baseLow t_baseHigh t_reach t_pushes t_lows t_highs t_speckTold t_sourceTold t_sources = some r) : G l E b0 M_X3_settle (fun _ => True) (ZM E b0 (none) (ov [a_t, (a_t + 1), (a_t + 3), (a_t + 4), (a_t + 5), (a_t + 7), (a_t + 8)] [.inr (3, fsX3 a_t t_speckMany r.1 t_baseTold t_baseLow t_baseHigh r.2.1), IA E 21 t_pushes, IA E 100 r.2.2.1, IA E 100 r.2.2.2.1, ZA E 100 t_speckTold, ZA E 100 t_sourceTold, IA E 5 r.2.2.2.2] h) n (inI r.1 ∧ inI r.2.1 ∧ okA r.2.2.1 ∧ okA r.2.2.2.1 ∧ okA r.2.2.2.2) 0 0) 0 0 n (ov [a_t, (a_t + 1), (a_t + 3), (a_t + 4), (a_t + 5), (a_t + 7), (a_t + 8)] [.inr (3, fsX3 a_t t_speckMany t_sourceMany t_baseTold t_baseLow t_baseHigh t_reach), IA E 21 t_pushes, IA E 100 t_lows, IA E 100 t_highs, ZA E 100 t_speckTold, ZA E 100 t_sourceTold, IA E 5 t_sources] h) 0 [some (.ref a_t), none, none] [] := by
  rw [m_X3_settle_0] at hs
  refine g_iconst e_X3_settle_0 ?_
  refine g_istore_n e_X3_settle_1 st1_1 rfl ?_
  refine g_iconst e_X3_settle_2 ?_
  refine g_istore_n e_X3_settle_3 st1_2 rfl ?_
  exact g_X3_settle_4 ao ok_t_sourceMany ok_t_baseLow ok_t_baseHigh ok_t_reach ok_t_pushes ok_t_speckTold ok_t_sourceTold (hk_69 := by
      intro t_lows' t_highs' t_sources' v1' v2' ok_t_lows' ok_t_highs' ok_t_sources' ok_v1' ok_v2' hs
      exact g_X3_settle_69 ao ok_t_sourceMany ok_t_baseLow ok_t_baseHigh ok_t_reach ok_t_pushes ok_t_lows' ok_t_highs' ok_t_speckTold ok_t_sourceTold ok_t_sources' ok_v1' hs) FU _ _ _ _ _ ok_t_lows ok_t_highs ok_t_sources (by decide : inI 0) (by decide : inI 0) hs

noncomputable def m_X3_settle (t_sourceMany : Int) (t_baseLow : Int) (t_baseHigh : Int) (t_reach : Int) (t_pushes : Nat → Int) (t_lows : Nat → Int) (t_highs : Nat → Int) (t_speckTold : Nat → Int) (t_sourceTold : Nat → Int) (t_sources : Nat → Int) : Option (Int × Int × (Nat → Int) × (Nat → Int) × (Nat → Int)) := m_X3_settle_0 t_sourceMany t_baseLow t_baseHigh t_reach t_pushes t_lows t_highs t_speckTold t_sourceTold t_sources

set_option maxRecDepth 10000 in
theorem ct_X3_settle {l : Launch} {E : EE} {b0 n : Nat} {h : AH} {a_t : Nat} {t_speckMany t_sourceMany t_baseTold t_baseLow t_baseHigh t_reach : Int} {t_pushes t_lows t_highs t_speckTold t_sourceTold t_sources : Nat → Int} (ao : AO b0 n [a_t, (a_t + 1), (a_t + 3), (a_t + 4), (a_t + 5), (a_t + 7), (a_t + 8)]) (hf : FA h [a_t, (a_t + 1), (a_t + 3), (a_t + 4), (a_t + 5), (a_t + 7), (a_t + 8)] [.inr (3, fsX3 a_t t_speckMany t_sourceMany t_baseTold t_baseLow t_baseHigh t_reach), IA E 21 t_pushes, IA E 100 t_lows, IA E 100 t_highs, ZA E 100 t_speckTold, ZA E 100 t_sourceTold, IA E 5 t_sources]) (ok_t_sourceMany : inI t_sourceMany) (ok_t_baseLow : inI t_baseLow) (ok_t_baseHigh : inI t_baseHigh) (ok_t_reach : inI t_reach) (ok_t_pushes : okA t_pushes) (ok_t_lows : okA t_lows) (ok_t_highs : okA t_highs) (ok_t_speckTold : okZ t_speckTold) (ok_t_sourceTold : okZ t_sourceTold) (ok_t_sources : okA t_sources) {r : Int × Int × (Nat → Int) × (Nat → Int) × (Nat → Int)} (hm : m_X3_settle t_sourceMany t_baseLow t_baseHigh t_reach t_pushes t_lows t_highs t_speckTold t_sourceTold t_sources = some r) : Ct l E b0 M_X3_settle 0 0 [.ref a_t] h n (none) (ov [a_t, (a_t + 1), (a_t + 3), (a_t + 4), (a_t + 5), (a_t + 7), (a_t + 8)] [.inr (3, fsX3 a_t t_speckMany r.1 t_baseTold t_baseLow t_baseHigh r.2.1), IA E 21 t_pushes, IA E 100 r.2.2.1, IA E 100 r.2.2.2.1, ZA E 100 t_speckTold, ZA E 100 t_sourceTold, IA E 5 r.2.2.2.2] h) n (inI r.1 ∧ inI r.2.1 ∧ okA r.2.2.1 ∧ okA r.2.2.2.1 ∧ okA r.2.2.2.2) := by
  rw [m_X3_settle] at hm
  have hg : G l E b0 M_X3_settle (fun _ => True) (ZM E b0 (none) (ov [a_t, (a_t + 1), (a_t + 3), (a_t + 4), (a_t + 5), (a_t + 7), (a_t + 8)] [.inr (3, fsX3 a_t t_speckMany r.1 t_baseTold t_baseLow t_baseHigh r.2.1), IA E 21 t_pushes, IA E 100 r.2.2.1, IA E 100 r.2.2.2.1, ZA E 100 t_speckTold, ZA E 100 t_sourceTold, IA E 5 r.2.2.2.2] h) n (inI r.1 ∧ inI r.2.1 ∧ okA r.2.2.1 ∧ okA r.2.2.2.1 ∧ okA r.2.2.2.2) 0 0) 0 0 n (ov [a_t, (a_t + 1), (a_t + 3), (a_t + 4), (a_t + 5), (a_t + 7), (a_t + 8)] [.inr (3, fsX3 a_t t_speckMany t_sourceMany t_baseTold t_baseLow t_baseHigh t_reach), IA E 21 t_pushes, IA E 100 t_lows, IA E 100 t_highs, ZA E 100 t_speckTold, ZA E 100 t_sourceTold, IA E 5 t_sources] h) 0 [some (.ref a_t), none, none] [] := by
    have hs := hm
    exact g_X3_settle_0 ao ok_t_sourceMany ok_t_baseLow ok_t_baseHigh ok_t_reach ok_t_pushes ok_t_lows ok_t_highs ok_t_speckTold ok_t_sourceTold ok_t_sources hs
  rw [FA_id hf] at hg
  exact Ct_of [some (.ref a_t), none, none] ⟨by decide +kernel, rfl⟩ rfl (Nat.le_of_ble_eq_true rfl) hg

/-! ===== X3_pushAt ===== -/
theorem e_X3_pushAt_0 : DC cX3_pushAt 0 (.iload_n 1) 1 1 := ⟨by decide +kernel, rfl⟩
theorem e_X3_pushAt_1 : DC cX3_pushAt 1 (.invokestatic 69) 3 4 := ⟨by decide +kernel, rfl⟩
theorem e_X3_pushAt_4 : DB cX3_pushAt 4 (.ifCond .eq 12) (12) 3 7 16 := ⟨by decide +kernel, rfl, rfl⟩
theorem e_X3_pushAt_7 : DC cX3_pushAt 7 (.aload_n 0) 1 8 := ⟨by decide +kernel, rfl⟩
theorem e_X3_pushAt_8 : DC cX3_pushAt 8 (.getfield 9) 3 11 := ⟨by decide +kernel, rfl⟩
theorem e_X3_pushAt_11 : DC cX3_pushAt 11 (.iload_n 1) 1 12 := ⟨by decide +kernel, rfl⟩
theorem e_X3_pushAt_12 : DC cX3_pushAt 12 (.iaload) 1 13 := ⟨by decide +kernel, rfl⟩
theorem e_X3_pushAt_13 : DB cX3_pushAt 13 (.goto 4) (4) 3 16 17 := ⟨by decide +kernel, rfl, rfl⟩
theorem e_X3_pushAt_16 : DC cX3_pushAt 16 (.iconst 0) 1 17 := ⟨by decide +kernel, rfl⟩
theorem e_X3_pushAt_17 : DC cX3_pushAt 17 (.ireturn) 1 18 := ⟨by decide +kernel, rfl⟩
noncomputable def m_X3_pushAt_0 (t_pushes : Nat → Int) (v1 : Int) : Option (Int) :=
  (m_X10_isDistance v1).bind (fun y1 => if y1 = 0 then (some (0)) else (chk (inB v1 21) (some (t_pushes (Int.toNat v1)))))

set_option maxRecDepth 10000 in
theorem g_X3_pushAt_0 {l : Launch} {E : EE} {b0 n : Nat} {h : AH} {a_t : Nat} {t_speckMany t_sourceMany t_baseTold t_baseLow t_baseHigh t_reach v1 : Int} {t_pushes : Nat → Int} {r : Int} (ao : AO b0 n [a_t, (a_t + 1)]) (ok_t_pushes : okA t_pushes) (ok_v1 : inI v1) (hs : m_X3_pushAt_0 t_pushes v1 = some r) : G l E b0 M_X3_pushAt (fun _ => True) (ZM E b0 (some (vI r)) (ov [a_t, (a_t + 1)] [.inr (3, fsX3 a_t t_speckMany t_sourceMany t_baseTold t_baseLow t_baseHigh t_reach), IA E 21 t_pushes] h) n (inI r) 0 0) 0 0 n (ov [a_t, (a_t + 1)] [.inr (3, fsX3 a_t t_speckMany t_sourceMany t_baseTold t_baseLow t_baseHigh t_reach), IA E 21 t_pushes] h) 0 [some (.ref a_t), some (vI v1)] [] := by
  rw [m_X3_pushAt_0] at hs
  refine g_iload_n e_X3_pushAt_0 rfl ?_
  obtain ⟨y1, hy1, hs⟩ := bind_elim hs
  refine g_callSr [vI v1] cs_X3_69 ⟨rfl, rfl, Nat.le_of_ble_eq_true rfl, Nat.le_of_ble_eq_true rfl⟩ (ct_X10_isDistance ⟨List.nodup_nil, fun i a h => by simp at h⟩ (fun i a e h => by simp at h) ok_v1 hy1) e_X3_pushAt_1 rfl rfl (Nat.le_of_ble_eq_true rfl) ⟨Nat.le_refl _, Nat.le_refl _⟩ (fun Py1 => ?_)
  refine g_if_eq e_X3_pushAt_4 (inZ_I Py1) hs (fun c4 hs => ?_) (fun c4 hs => ?_)
  · refine g_iconst e_X3_pushAt_16 ?_
    obtain rfl := Option.some.inj hs
    exact g_iret rfl (by decide : inI 0) e_X3_pushAt_17
  · refine g_aload_n e_X3_pushAt_7 rfl ?_
    refine g_get 0 0 ao rfl rfl fsX3_g0 fl_X3_9 e_X3_pushAt_8 ?_
    refine g_iload_n e_X3_pushAt_11 rfl ?_
    refine g_iald 1 ao rfl rfl (Nat.le_of_ble_eq_true rfl) e_X3_pushAt_12 hs (fun hi2 hs => ?_)
    refine g_goto e_X3_pushAt_13 ?_
    obtain rfl := Option.some.inj hs
    exact g_iret rfl (ok_t_pushes _) e_X3_pushAt_17

noncomputable def m_X3_pushAt (t_pushes : Nat → Int) (v1 : Int) : Option (Int) := m_X3_pushAt_0 t_pushes v1

set_option maxRecDepth 10000 in
theorem ct_X3_pushAt {l : Launch} {E : EE} {b0 n : Nat} {h : AH} {a_t : Nat} {t_speckMany t_sourceMany t_baseTold t_baseLow t_baseHigh t_reach : Int} {t_pushes : Nat → Int} {v1 : Int} (ao : AO b0 n [a_t, (a_t + 1)]) (hf : FA h [a_t, (a_t + 1)] [.inr (3, fsX3 a_t t_speckMany t_sourceMany t_baseTold t_baseLow t_baseHigh t_reach), IA E 21 t_pushes]) (ok_t_pushes : okA t_pushes) (ok_v1 : inI v1) {r : Int} (hm : m_X3_pushAt t_pushes v1 = some r) : Ct l E b0 M_X3_pushAt 0 0 [.ref a_t, vI v1] h n (some (vI r)) h n (inI r) := by
  rw [m_X3_pushAt] at hm
  have hg : G l E b0 M_X3_pushAt (fun _ => True) (ZM E b0 (some (vI r)) (ov [a_t, (a_t + 1)] [.inr (3, fsX3 a_t t_speckMany t_sourceMany t_baseTold t_baseLow t_baseHigh t_reach), IA E 21 t_pushes] h) n (inI r) 0 0) 0 0 n (ov [a_t, (a_t + 1)] [.inr (3, fsX3 a_t t_speckMany t_sourceMany t_baseTold t_baseLow t_baseHigh t_reach), IA E 21 t_pushes] h) 0 [some (.ref a_t), some (vI v1)] [] := by
    have hs := hm
    exact g_X3_pushAt_0 ao ok_t_pushes ok_v1 hs
  rw [FA_id hf] at hg
  exact Ct_of [some (.ref a_t), some (vI v1)] ⟨by decide +kernel, rfl⟩ rfl (Nat.le_of_ble_eq_true rfl) hg

/-! ===== X3_holdAt ===== -/
theorem e_X3_holdAt_0 : DC cX3_holdAt 0 (.iload_n 1) 1 1 := ⟨by decide +kernel, rfl⟩
theorem e_X3_holdAt_1 : DC cX3_holdAt 1 (.invokestatic 73) 3 4 := ⟨by decide +kernel, rfl⟩
theorem e_X3_holdAt_4 : DB cX3_holdAt 4 (.ifCond .ne 5) (5) 3 7 9 := ⟨by decide +kernel, rfl, rfl⟩
theorem e_X3_holdAt_7 : DC cX3_holdAt 7 (.iconst 0) 1 8 := ⟨by decide +kernel, rfl⟩
theorem e_X3_holdAt_8 : DC cX3_holdAt 8 (.ireturn) 1 9 := ⟨by decide +kernel, rfl⟩
theorem e_X3_holdAt_9 : DC cX3_holdAt 9 (.iload_n 2) 1 10 := ⟨by decide +kernel, rfl⟩
theorem e_X3_holdAt_10 : DB cX3_holdAt 10 (.ifCond .ne 12) (12) 3 13 22 := ⟨by decide +kernel, rfl, rfl⟩
theorem e_X3_holdAt_13 : DC cX3_holdAt 13 (.aload_n 0) 1 14 := ⟨by decide +kernel, rfl⟩
theorem e_X3_holdAt_14 : DC cX3_holdAt 14 (.getfield 19) 3 17 := ⟨by decide +kernel, rfl⟩
theorem e_X3_holdAt_17 : DC cX3_holdAt 17 (.iload_n 1) 1 18 := ⟨by decide +kernel, rfl⟩
theorem e_X3_holdAt_18 : DC cX3_holdAt 18 (.iaload) 1 19 := ⟨by decide +kernel, rfl⟩
theorem e_X3_holdAt_19 : DB cX3_holdAt 19 (.goto 9) (9) 3 22 28 := ⟨by decide +kernel, rfl, rfl⟩
theorem e_X3_holdAt_22 : DC cX3_holdAt 22 (.aload_n 0) 1 23 := ⟨by decide +kernel, rfl⟩
theorem e_X3_holdAt_23 : DC cX3_holdAt 23 (.getfield 22) 3 26 := ⟨by decide +kernel, rfl⟩
theorem e_X3_holdAt_26 : DC cX3_holdAt 26 (.iload_n 1) 1 27 := ⟨by decide +kernel, rfl⟩
theorem e_X3_holdAt_27 : DC cX3_holdAt 27 (.iaload) 1 28 := ⟨by decide +kernel, rfl⟩
theorem e_X3_holdAt_28 : DC cX3_holdAt 28 (.ireturn) 1 29 := ⟨by decide +kernel, rfl⟩
noncomputable def m_X3_holdAt_0 (t_lows : Nat → Int) (t_highs : Nat → Int) (v1 : Int) (v2 : Int) : Option (Int) :=
  (m_X10_isPlace v1).bind (fun y1 => if y1 = 0 then (some (0)) else (if v2 = 0 then (chk (inB v1 100) (some (t_lows (Int.toNat v1)))) else (chk (inB v1 100) (some (t_highs (Int.toNat v1))))))

set_option maxRecDepth 10000 in
theorem g_X3_holdAt_0 {l : Launch} {E : EE} {b0 n : Nat} {h : AH} {a_t : Nat} {t_speckMany t_sourceMany t_baseTold t_baseLow t_baseHigh t_reach v1 v2 : Int} {t_lows t_highs : Nat → Int} {r : Int} (ao : AO b0 n [a_t, (a_t + 3), (a_t + 4)]) (ok_t_lows : okA t_lows) (ok_t_highs : okA t_highs) (ok_v1 : inI v1) (ok_v2 : inI v2) (hs : m_X3_holdAt_0 t_lows t_highs v1 v2 = some r) : G l E b0 M_X3_holdAt (fun _ => True) (ZM E b0 (some (vI r)) (ov [a_t, (a_t + 3), (a_t + 4)] [.inr (3, fsX3 a_t t_speckMany t_sourceMany t_baseTold t_baseLow t_baseHigh t_reach), IA E 100 t_lows, IA E 100 t_highs] h) n (inI r) 0 0) 0 0 n (ov [a_t, (a_t + 3), (a_t + 4)] [.inr (3, fsX3 a_t t_speckMany t_sourceMany t_baseTold t_baseLow t_baseHigh t_reach), IA E 100 t_lows, IA E 100 t_highs] h) 0 [some (.ref a_t), some (vI v1), some (vI v2)] [] := by
  rw [m_X3_holdAt_0] at hs
  refine g_iload_n e_X3_holdAt_0 rfl ?_
  obtain ⟨y1, hy1, hs⟩ := bind_elim hs
  refine g_callSr [vI v1] cs_X3_73 ⟨rfl, rfl, Nat.le_of_ble_eq_true rfl, Nat.le_of_ble_eq_true rfl⟩ (ct_X10_isPlace ⟨List.nodup_nil, fun i a h => by simp at h⟩ (fun i a e h => by simp at h) ok_v1 hy1) e_X3_holdAt_1 rfl rfl (Nat.le_of_ble_eq_true rfl) ⟨Nat.le_refl _, Nat.le_refl _⟩ (fun Py1 => ?_)
  refine g_if_ne e_X3_holdAt_4 (inZ_I Py1) hs (fun c4 hs => ?_) (fun c4 hs => ?_)
  · refine g_iconst e_X3_holdAt_7 ?_
    obtain rfl := Option.some.inj hs
    exact g_iret rfl (by decide : inI 0) e_X3_holdAt_8
  · refine g_iload_n e_X3_holdAt_9 rfl ?_
    refine g_if_ne e_X3_holdAt_10 ok_v2 hs (fun c10 hs => ?_) (fun c10 hs => ?_)
    · refine g_aload_n e_X3_holdAt_13 rfl ?_
      refine g_get 0 2 ao rfl rfl fsX3_g2 fl_X3_19 e_X3_holdAt_14 ?_
      refine g_iload_n e_X3_holdAt_17 rfl ?_
      refine g_iald 1 ao rfl rfl (Nat.le_of_ble_eq_true rfl) e_X3_holdAt_18 hs (fun hi2 hs => ?_)
      refine g_goto e_X3_holdAt_19 ?_
      obtain rfl := Option.some.inj hs
      exact g_iret rfl (ok_t_lows _) e_X3_holdAt_28
    · refine g_aload_n e_X3_holdAt_22 rfl ?_
      refine g_get 0 3 ao rfl rfl fsX3_g3 fl_X3_22 e_X3_holdAt_23 ?_
      refine g_iload_n e_X3_holdAt_26 rfl ?_
      refine g_iald 2 ao rfl rfl (Nat.le_of_ble_eq_true rfl) e_X3_holdAt_27 hs (fun hi3 hs => ?_)
      obtain rfl := Option.some.inj hs
      exact g_iret rfl (ok_t_highs _) e_X3_holdAt_28

noncomputable def m_X3_holdAt (t_lows : Nat → Int) (t_highs : Nat → Int) (v1 : Int) (v2 : Int) : Option (Int) := m_X3_holdAt_0 t_lows t_highs v1 v2

set_option maxRecDepth 10000 in
theorem ct_X3_holdAt {l : Launch} {E : EE} {b0 n : Nat} {h : AH} {a_t : Nat} {t_speckMany t_sourceMany t_baseTold t_baseLow t_baseHigh t_reach : Int} {t_lows t_highs : Nat → Int} {v1 v2 : Int} (ao : AO b0 n [a_t, (a_t + 3), (a_t + 4)]) (hf : FA h [a_t, (a_t + 3), (a_t + 4)] [.inr (3, fsX3 a_t t_speckMany t_sourceMany t_baseTold t_baseLow t_baseHigh t_reach), IA E 100 t_lows, IA E 100 t_highs]) (ok_t_lows : okA t_lows) (ok_t_highs : okA t_highs) (ok_v1 : inI v1) (ok_v2 : inI v2) {r : Int} (hm : m_X3_holdAt t_lows t_highs v1 v2 = some r) : Ct l E b0 M_X3_holdAt 0 0 [.ref a_t, vI v1, vI v2] h n (some (vI r)) h n (inI r) := by
  rw [m_X3_holdAt] at hm
  have hg : G l E b0 M_X3_holdAt (fun _ => True) (ZM E b0 (some (vI r)) (ov [a_t, (a_t + 3), (a_t + 4)] [.inr (3, fsX3 a_t t_speckMany t_sourceMany t_baseTold t_baseLow t_baseHigh t_reach), IA E 100 t_lows, IA E 100 t_highs] h) n (inI r) 0 0) 0 0 n (ov [a_t, (a_t + 3), (a_t + 4)] [.inr (3, fsX3 a_t t_speckMany t_sourceMany t_baseTold t_baseLow t_baseHigh t_reach), IA E 100 t_lows, IA E 100 t_highs] h) 0 [some (.ref a_t), some (vI v1), some (vI v2)] [] := by
    have hs := hm
    exact g_X3_holdAt_0 ao ok_t_lows ok_t_highs ok_v1 ok_v2 hs
  rw [FA_id hf] at hg
  exact Ct_of [some (.ref a_t), some (vI v1), some (vI v2)] ⟨by decide +kernel, rfl⟩ rfl (Nat.le_of_ble_eq_true rfl) hg

/-! ===== X3_isPushTold ===== -/
theorem e_X3_isPushTold_0 : DC cX3_isPushTold 0 (.iload_n 1) 1 1 := ⟨by decide +kernel, rfl⟩
theorem e_X3_isPushTold_1 : DC cX3_isPushTold 1 (.invokestatic 69) 3 4 := ⟨by decide +kernel, rfl⟩
theorem e_X3_isPushTold_4 : DB cX3_isPushTold 4 (.ifCond .eq 16) (16) 3 7 20 := ⟨by decide +kernel, rfl, rfl⟩
theorem e_X3_isPushTold_7 : DC cX3_isPushTold 7 (.aload_n 0) 1 8 := ⟨by decide +kernel, rfl⟩
theorem e_X3_isPushTold_8 : DC cX3_isPushTold 8 (.getfield 15) 3 11 := ⟨by decide +kernel, rfl⟩
theorem e_X3_isPushTold_11 : DC cX3_isPushTold 11 (.iload_n 1) 1 12 := ⟨by decide +kernel, rfl⟩
theorem e_X3_isPushTold_12 : DC cX3_isPushTold 12 (.baload) 1 13 := ⟨by decide +kernel, rfl⟩
theorem e_X3_isPushTold_13 : DB cX3_isPushTold 13 (.ifCond .eq 7) (7) 3 16 20 := ⟨by decide +kernel, rfl, rfl⟩
theorem e_X3_isPushTold_16 : DC cX3_isPushTold 16 (.iconst 1) 1 17 := ⟨by decide +kernel, rfl⟩
theorem e_X3_isPushTold_17 : DB cX3_isPushTold 17 (.goto 4) (4) 3 20 21 := ⟨by decide +kernel, rfl, rfl⟩
theorem e_X3_isPushTold_20 : DC cX3_isPushTold 20 (.iconst 0) 1 21 := ⟨by decide +kernel, rfl⟩
theorem e_X3_isPushTold_21 : DC cX3_isPushTold 21 (.ireturn) 1 22 := ⟨by decide +kernel, rfl⟩
noncomputable def m_X3_isPushTold_0 (t_pushTold : Nat → Int) (v1 : Int) : Option (Int) :=
  (m_X10_isDistance v1).bind (fun y1 => if y1 = 0 then (some (0)) else (chk (inB v1 21) (if (t_pushTold (Int.toNat v1)) = 0 then (some (0)) else (some (1)))))

set_option maxRecDepth 10000 in
theorem g_X3_isPushTold_0 {l : Launch} {E : EE} {b0 n : Nat} {h : AH} {a_t : Nat} {t_speckMany t_sourceMany t_baseTold t_baseLow t_baseHigh t_reach v1 : Int} {t_pushTold : Nat → Int} {r : Int} (ao : AO b0 n [a_t, (a_t + 2)]) (ok_t_pushTold : okZ t_pushTold) (ok_v1 : inI v1) (hs : m_X3_isPushTold_0 t_pushTold v1 = some r) : G l E b0 M_X3_isPushTold (fun _ => True) (ZM E b0 (some (vI r)) (ov [a_t, (a_t + 2)] [.inr (3, fsX3 a_t t_speckMany t_sourceMany t_baseTold t_baseLow t_baseHigh t_reach), ZA E 21 t_pushTold] h) n (inZ r) 0 0) 0 0 n (ov [a_t, (a_t + 2)] [.inr (3, fsX3 a_t t_speckMany t_sourceMany t_baseTold t_baseLow t_baseHigh t_reach), ZA E 21 t_pushTold] h) 0 [some (.ref a_t), some (vI v1)] [] := by
  rw [m_X3_isPushTold_0] at hs
  refine g_iload_n e_X3_isPushTold_0 rfl ?_
  obtain ⟨y1, hy1, hs⟩ := bind_elim hs
  refine g_callSr [vI v1] cs_X3_69 ⟨rfl, rfl, Nat.le_of_ble_eq_true rfl, Nat.le_of_ble_eq_true rfl⟩ (ct_X10_isDistance ⟨List.nodup_nil, fun i a h => by simp at h⟩ (fun i a e h => by simp at h) ok_v1 hy1) e_X3_isPushTold_1 rfl rfl (Nat.le_of_ble_eq_true rfl) ⟨Nat.le_refl _, Nat.le_refl _⟩ (fun Py1 => ?_)
  refine g_if_eq e_X3_isPushTold_4 (inZ_I Py1) hs (fun c4 hs => ?_) (fun c4 hs => ?_)
  · refine g_iconst e_X3_isPushTold_20 ?_
    obtain rfl := Option.some.inj hs
    exact g_zret rfl (by decide : inZ 0) (by decide : inZ 0) e_X3_isPushTold_21
  · refine g_aload_n e_X3_isPushTold_7 rfl ?_
    refine g_get 0 1 ao rfl rfl fsX3_g1 fl_X3_15 e_X3_isPushTold_8 ?_
    refine g_iload_n e_X3_isPushTold_11 rfl ?_
    refine g_zald 1 ao rfl rfl (Nat.le_of_ble_eq_true rfl) e_X3_isPushTold_12 hs (fun hi2 hs => ?_)
    refine g_if_eq e_X3_isPushTold_13 (inZ_I (ok_t_pushTold _)) hs (fun c13 hs => ?_) (fun c13 hs => ?_)
    · refine g_iconst e_X3_isPushTold_20 ?_
      obtain rfl := Option.some.inj hs
      exact g_zret rfl (by decide : inZ 0) (by decide : inZ 0) e_X3_isPushTold_21
    · refine g_iconst e_X3_isPushTold_16 ?_
      refine g_goto e_X3_isPushTold_17 ?_
      obtain rfl := Option.some.inj hs
      exact g_zret rfl (by decide : inZ 1) (by decide : inZ 1) e_X3_isPushTold_21

noncomputable def m_X3_isPushTold (t_pushTold : Nat → Int) (v1 : Int) : Option (Int) := m_X3_isPushTold_0 t_pushTold v1

set_option maxRecDepth 10000 in
theorem ct_X3_isPushTold {l : Launch} {E : EE} {b0 n : Nat} {h : AH} {a_t : Nat} {t_speckMany t_sourceMany t_baseTold t_baseLow t_baseHigh t_reach : Int} {t_pushTold : Nat → Int} {v1 : Int} (ao : AO b0 n [a_t, (a_t + 2)]) (hf : FA h [a_t, (a_t + 2)] [.inr (3, fsX3 a_t t_speckMany t_sourceMany t_baseTold t_baseLow t_baseHigh t_reach), ZA E 21 t_pushTold]) (ok_t_pushTold : okZ t_pushTold) (ok_v1 : inI v1) {r : Int} (hm : m_X3_isPushTold t_pushTold v1 = some r) : Ct l E b0 M_X3_isPushTold 0 0 [.ref a_t, vI v1] h n (some (vI r)) h n (inZ r) := by
  rw [m_X3_isPushTold] at hm
  have hg : G l E b0 M_X3_isPushTold (fun _ => True) (ZM E b0 (some (vI r)) (ov [a_t, (a_t + 2)] [.inr (3, fsX3 a_t t_speckMany t_sourceMany t_baseTold t_baseLow t_baseHigh t_reach), ZA E 21 t_pushTold] h) n (inZ r) 0 0) 0 0 n (ov [a_t, (a_t + 2)] [.inr (3, fsX3 a_t t_speckMany t_sourceMany t_baseTold t_baseLow t_baseHigh t_reach), ZA E 21 t_pushTold] h) 0 [some (.ref a_t), some (vI v1)] [] := by
    have hs := hm
    exact g_X3_isPushTold_0 ao ok_t_pushTold ok_v1 hs
  rw [FA_id hf] at hg
  exact Ct_of [some (.ref a_t), some (vI v1)] ⟨by decide +kernel, rfl⟩ rfl (Nat.le_of_ble_eq_true rfl) hg

/-! ===== X3_isSpeckTold ===== -/
theorem e_X3_isSpeckTold_0 : DC cX3_isSpeckTold 0 (.iload_n 1) 1 1 := ⟨by decide +kernel, rfl⟩
theorem e_X3_isSpeckTold_1 : DC cX3_isSpeckTold 1 (.invokestatic 73) 3 4 := ⟨by decide +kernel, rfl⟩
theorem e_X3_isSpeckTold_4 : DB cX3_isSpeckTold 4 (.ifCond .eq 16) (16) 3 7 20 := ⟨by decide +kernel, rfl, rfl⟩
theorem e_X3_isSpeckTold_7 : DC cX3_isSpeckTold 7 (.aload_n 0) 1 8 := ⟨by decide +kernel, rfl⟩
theorem e_X3_isSpeckTold_8 : DC cX3_isSpeckTold 8 (.getfield 25) 3 11 := ⟨by decide +kernel, rfl⟩
theorem e_X3_isSpeckTold_11 : DC cX3_isSpeckTold 11 (.iload_n 1) 1 12 := ⟨by decide +kernel, rfl⟩
theorem e_X3_isSpeckTold_12 : DC cX3_isSpeckTold 12 (.baload) 1 13 := ⟨by decide +kernel, rfl⟩
theorem e_X3_isSpeckTold_13 : DB cX3_isSpeckTold 13 (.ifCond .eq 7) (7) 3 16 20 := ⟨by decide +kernel, rfl, rfl⟩
theorem e_X3_isSpeckTold_16 : DC cX3_isSpeckTold 16 (.iconst 1) 1 17 := ⟨by decide +kernel, rfl⟩
theorem e_X3_isSpeckTold_17 : DB cX3_isSpeckTold 17 (.goto 4) (4) 3 20 21 := ⟨by decide +kernel, rfl, rfl⟩
theorem e_X3_isSpeckTold_20 : DC cX3_isSpeckTold 20 (.iconst 0) 1 21 := ⟨by decide +kernel, rfl⟩
theorem e_X3_isSpeckTold_21 : DC cX3_isSpeckTold 21 (.ireturn) 1 22 := ⟨by decide +kernel, rfl⟩
noncomputable def m_X3_isSpeckTold_0 (t_speckTold : Nat → Int) (v1 : Int) : Option (Int) :=
  (m_X10_isPlace v1).bind (fun y1 => if y1 = 0 then (some (0)) else (chk (inB v1 100) (if (t_speckTold (Int.toNat v1)) = 0 then (some (0)) else (some (1)))))

set_option maxRecDepth 10000 in
theorem g_X3_isSpeckTold_0 {l : Launch} {E : EE} {b0 n : Nat} {h : AH} {a_t : Nat} {t_speckMany t_sourceMany t_baseTold t_baseLow t_baseHigh t_reach v1 : Int} {t_speckTold : Nat → Int} {r : Int} (ao : AO b0 n [a_t, (a_t + 5)]) (ok_t_speckTold : okZ t_speckTold) (ok_v1 : inI v1) (hs : m_X3_isSpeckTold_0 t_speckTold v1 = some r) : G l E b0 M_X3_isSpeckTold (fun _ => True) (ZM E b0 (some (vI r)) (ov [a_t, (a_t + 5)] [.inr (3, fsX3 a_t t_speckMany t_sourceMany t_baseTold t_baseLow t_baseHigh t_reach), ZA E 100 t_speckTold] h) n (inZ r) 0 0) 0 0 n (ov [a_t, (a_t + 5)] [.inr (3, fsX3 a_t t_speckMany t_sourceMany t_baseTold t_baseLow t_baseHigh t_reach), ZA E 100 t_speckTold] h) 0 [some (.ref a_t), some (vI v1)] [] := by
  rw [m_X3_isSpeckTold_0] at hs
  refine g_iload_n e_X3_isSpeckTold_0 rfl ?_
  obtain ⟨y1, hy1, hs⟩ := bind_elim hs
  refine g_callSr [vI v1] cs_X3_73 ⟨rfl, rfl, Nat.le_of_ble_eq_true rfl, Nat.le_of_ble_eq_true rfl⟩ (ct_X10_isPlace ⟨List.nodup_nil, fun i a h => by simp at h⟩ (fun i a e h => by simp at h) ok_v1 hy1) e_X3_isSpeckTold_1 rfl rfl (Nat.le_of_ble_eq_true rfl) ⟨Nat.le_refl _, Nat.le_refl _⟩ (fun Py1 => ?_)
  refine g_if_eq e_X3_isSpeckTold_4 (inZ_I Py1) hs (fun c4 hs => ?_) (fun c4 hs => ?_)
  · refine g_iconst e_X3_isSpeckTold_20 ?_
    obtain rfl := Option.some.inj hs
    exact g_zret rfl (by decide : inZ 0) (by decide : inZ 0) e_X3_isSpeckTold_21
  · refine g_aload_n e_X3_isSpeckTold_7 rfl ?_
    refine g_get 0 4 ao rfl rfl fsX3_g4 fl_X3_25 e_X3_isSpeckTold_8 ?_
    refine g_iload_n e_X3_isSpeckTold_11 rfl ?_
    refine g_zald 1 ao rfl rfl (Nat.le_of_ble_eq_true rfl) e_X3_isSpeckTold_12 hs (fun hi2 hs => ?_)
    refine g_if_eq e_X3_isSpeckTold_13 (inZ_I (ok_t_speckTold _)) hs (fun c13 hs => ?_) (fun c13 hs => ?_)
    · refine g_iconst e_X3_isSpeckTold_20 ?_
      obtain rfl := Option.some.inj hs
      exact g_zret rfl (by decide : inZ 0) (by decide : inZ 0) e_X3_isSpeckTold_21
    · refine g_iconst e_X3_isSpeckTold_16 ?_
      refine g_goto e_X3_isSpeckTold_17 ?_
      obtain rfl := Option.some.inj hs
      exact g_zret rfl (by decide : inZ 1) (by decide : inZ 1) e_X3_isSpeckTold_21

noncomputable def m_X3_isSpeckTold (t_speckTold : Nat → Int) (v1 : Int) : Option (Int) := m_X3_isSpeckTold_0 t_speckTold v1

set_option maxRecDepth 10000 in
theorem ct_X3_isSpeckTold {l : Launch} {E : EE} {b0 n : Nat} {h : AH} {a_t : Nat} {t_speckMany t_sourceMany t_baseTold t_baseLow t_baseHigh t_reach : Int} {t_speckTold : Nat → Int} {v1 : Int} (ao : AO b0 n [a_t, (a_t + 5)]) (hf : FA h [a_t, (a_t + 5)] [.inr (3, fsX3 a_t t_speckMany t_sourceMany t_baseTold t_baseLow t_baseHigh t_reach), ZA E 100 t_speckTold]) (ok_t_speckTold : okZ t_speckTold) (ok_v1 : inI v1) {r : Int} (hm : m_X3_isSpeckTold t_speckTold v1 = some r) : Ct l E b0 M_X3_isSpeckTold 0 0 [.ref a_t, vI v1] h n (some (vI r)) h n (inZ r) := by
  rw [m_X3_isSpeckTold] at hm
  have hg : G l E b0 M_X3_isSpeckTold (fun _ => True) (ZM E b0 (some (vI r)) (ov [a_t, (a_t + 5)] [.inr (3, fsX3 a_t t_speckMany t_sourceMany t_baseTold t_baseLow t_baseHigh t_reach), ZA E 100 t_speckTold] h) n (inZ r) 0 0) 0 0 n (ov [a_t, (a_t + 5)] [.inr (3, fsX3 a_t t_speckMany t_sourceMany t_baseTold t_baseLow t_baseHigh t_reach), ZA E 100 t_speckTold] h) 0 [some (.ref a_t), some (vI v1)] [] := by
    have hs := hm
    exact g_X3_isSpeckTold_0 ao ok_t_speckTold ok_v1 hs
  rw [FA_id hf] at hg
  exact Ct_of [some (.ref a_t), some (vI v1)] ⟨by decide +kernel, rfl⟩ rfl (Nat.le_of_ble_eq_true rfl) hg

/-! ===== X3_isSourceTold ===== -/
theorem e_X3_isSourceTold_0 : DC cX3_isSourceTold 0 (.iload_n 1) 1 1 := ⟨by decide +kernel, rfl⟩
theorem e_X3_isSourceTold_1 : DC cX3_isSourceTold 1 (.invokestatic 73) 3 4 := ⟨by decide +kernel, rfl⟩
theorem e_X3_isSourceTold_4 : DB cX3_isSourceTold 4 (.ifCond .eq 16) (16) 3 7 20 := ⟨by decide +kernel, rfl, rfl⟩
theorem e_X3_isSourceTold_7 : DC cX3_isSourceTold 7 (.aload_n 0) 1 8 := ⟨by decide +kernel, rfl⟩
theorem e_X3_isSourceTold_8 : DC cX3_isSourceTold 8 (.getfield 31) 3 11 := ⟨by decide +kernel, rfl⟩
theorem e_X3_isSourceTold_11 : DC cX3_isSourceTold 11 (.iload_n 1) 1 12 := ⟨by decide +kernel, rfl⟩
theorem e_X3_isSourceTold_12 : DC cX3_isSourceTold 12 (.baload) 1 13 := ⟨by decide +kernel, rfl⟩
theorem e_X3_isSourceTold_13 : DB cX3_isSourceTold 13 (.ifCond .eq 7) (7) 3 16 20 := ⟨by decide +kernel, rfl, rfl⟩
theorem e_X3_isSourceTold_16 : DC cX3_isSourceTold 16 (.iconst 1) 1 17 := ⟨by decide +kernel, rfl⟩
theorem e_X3_isSourceTold_17 : DB cX3_isSourceTold 17 (.goto 4) (4) 3 20 21 := ⟨by decide +kernel, rfl, rfl⟩
theorem e_X3_isSourceTold_20 : DC cX3_isSourceTold 20 (.iconst 0) 1 21 := ⟨by decide +kernel, rfl⟩
theorem e_X3_isSourceTold_21 : DC cX3_isSourceTold 21 (.ireturn) 1 22 := ⟨by decide +kernel, rfl⟩
noncomputable def m_X3_isSourceTold_0 (t_sourceTold : Nat → Int) (v1 : Int) : Option (Int) :=
  (m_X10_isPlace v1).bind (fun y1 => if y1 = 0 then (some (0)) else (chk (inB v1 100) (if (t_sourceTold (Int.toNat v1)) = 0 then (some (0)) else (some (1)))))

set_option maxRecDepth 10000 in
theorem g_X3_isSourceTold_0 {l : Launch} {E : EE} {b0 n : Nat} {h : AH} {a_t : Nat} {t_speckMany t_sourceMany t_baseTold t_baseLow t_baseHigh t_reach v1 : Int} {t_sourceTold : Nat → Int} {r : Int} (ao : AO b0 n [a_t, (a_t + 7)]) (ok_t_sourceTold : okZ t_sourceTold) (ok_v1 : inI v1) (hs : m_X3_isSourceTold_0 t_sourceTold v1 = some r) : G l E b0 M_X3_isSourceTold (fun _ => True) (ZM E b0 (some (vI r)) (ov [a_t, (a_t + 7)] [.inr (3, fsX3 a_t t_speckMany t_sourceMany t_baseTold t_baseLow t_baseHigh t_reach), ZA E 100 t_sourceTold] h) n (inZ r) 0 0) 0 0 n (ov [a_t, (a_t + 7)] [.inr (3, fsX3 a_t t_speckMany t_sourceMany t_baseTold t_baseLow t_baseHigh t_reach), ZA E 100 t_sourceTold] h) 0 [some (.ref a_t), some (vI v1)] [] := by
  rw [m_X3_isSourceTold_0] at hs
  refine g_iload_n e_X3_isSourceTold_0 rfl ?_
  obtain ⟨y1, hy1, hs⟩ := bind_elim hs
  refine g_callSr [vI v1] cs_X3_73 ⟨rfl, rfl, Nat.le_of_ble_eq_true rfl, Nat.le_of_ble_eq_true rfl⟩ (ct_X10_isPlace ⟨List.nodup_nil, fun i a h => by simp at h⟩ (fun i a e h => by simp at h) ok_v1 hy1) e_X3_isSourceTold_1 rfl rfl (Nat.le_of_ble_eq_true rfl) ⟨Nat.le_refl _, Nat.le_refl _⟩ (fun Py1 => ?_)
  refine g_if_eq e_X3_isSourceTold_4 (inZ_I Py1) hs (fun c4 hs => ?_) (fun c4 hs => ?_)
  · refine g_iconst e_X3_isSourceTold_20 ?_
    obtain rfl := Option.some.inj hs
    exact g_zret rfl (by decide : inZ 0) (by decide : inZ 0) e_X3_isSourceTold_21
  · refine g_aload_n e_X3_isSourceTold_7 rfl ?_
    refine g_get 0 6 ao rfl rfl fsX3_g6 fl_X3_31 e_X3_isSourceTold_8 ?_
    refine g_iload_n e_X3_isSourceTold_11 rfl ?_
    refine g_zald 1 ao rfl rfl (Nat.le_of_ble_eq_true rfl) e_X3_isSourceTold_12 hs (fun hi2 hs => ?_)
    refine g_if_eq e_X3_isSourceTold_13 (inZ_I (ok_t_sourceTold _)) hs (fun c13 hs => ?_) (fun c13 hs => ?_)
    · refine g_iconst e_X3_isSourceTold_20 ?_
      obtain rfl := Option.some.inj hs
      exact g_zret rfl (by decide : inZ 0) (by decide : inZ 0) e_X3_isSourceTold_21
    · refine g_iconst e_X3_isSourceTold_16 ?_
      refine g_goto e_X3_isSourceTold_17 ?_
      obtain rfl := Option.some.inj hs
      exact g_zret rfl (by decide : inZ 1) (by decide : inZ 1) e_X3_isSourceTold_21

noncomputable def m_X3_isSourceTold (t_sourceTold : Nat → Int) (v1 : Int) : Option (Int) := m_X3_isSourceTold_0 t_sourceTold v1

set_option maxRecDepth 10000 in
theorem ct_X3_isSourceTold {l : Launch} {E : EE} {b0 n : Nat} {h : AH} {a_t : Nat} {t_speckMany t_sourceMany t_baseTold t_baseLow t_baseHigh t_reach : Int} {t_sourceTold : Nat → Int} {v1 : Int} (ao : AO b0 n [a_t, (a_t + 7)]) (hf : FA h [a_t, (a_t + 7)] [.inr (3, fsX3 a_t t_speckMany t_sourceMany t_baseTold t_baseLow t_baseHigh t_reach), ZA E 100 t_sourceTold]) (ok_t_sourceTold : okZ t_sourceTold) (ok_v1 : inI v1) {r : Int} (hm : m_X3_isSourceTold t_sourceTold v1 = some r) : Ct l E b0 M_X3_isSourceTold 0 0 [.ref a_t, vI v1] h n (some (vI r)) h n (inZ r) := by
  rw [m_X3_isSourceTold] at hm
  have hg : G l E b0 M_X3_isSourceTold (fun _ => True) (ZM E b0 (some (vI r)) (ov [a_t, (a_t + 7)] [.inr (3, fsX3 a_t t_speckMany t_sourceMany t_baseTold t_baseLow t_baseHigh t_reach), ZA E 100 t_sourceTold] h) n (inZ r) 0 0) 0 0 n (ov [a_t, (a_t + 7)] [.inr (3, fsX3 a_t t_speckMany t_sourceMany t_baseTold t_baseLow t_baseHigh t_reach), ZA E 100 t_sourceTold] h) 0 [some (.ref a_t), some (vI v1)] [] := by
    have hs := hm
    exact g_X3_isSourceTold_0 ao ok_t_sourceTold ok_v1 hs
  rw [FA_id hf] at hg
  exact Ct_of [some (.ref a_t), some (vI v1)] ⟨by decide +kernel, rfl⟩ rfl (Nat.le_of_ble_eq_true rfl) hg

